/-! new: all, the readers, the object -/
section
variable {h : zz_H} {a : Nat}
def ev0 (rk : Nat → Int32) : Ev := ((fun _ => 0, 0), (pl0, rk, fun _ => 0, fun _ => 0), (fun _ => 0, fun _ => 0), (nI 0, -1), (false, nI 0, fun _ => 0), (nI 0, -1))
theorem c_newEv (h0 : hp_g h a = some (.inr (1, [.null, .null, .null, .int 0, .int 0, .int 0, .int 0, .null, .int 0, .int 0]))) (ha : h.1 = a + 1) : ∃ k rk, zz_run 2 [.ref a] h = some (none, k) ∧ isEv k a (ev0 rk) ∧ eqN 256 rk (fun _ => -1) ∧ alc h k a 21 1430 := by
  obtain ⟨k1, r1, p1, n1, c1, z1, g1⟩ := c_newTape (h := hp_s (hp_m h (a + 2) (h.2.1 + 2)) (a + 1) (.inr (8, [.null, .int 0]))) (a := a + 1) (hp_gs _ _ _) rfl
  have n1' : k1.1 = a + 3 := n1
  have c1' : k1.2.1 = h.2.1 + 602 := c1
  have b1 : hp_g k1 a = some (.inr (1, [.null, .null, .null, .int 0, .int 0, .int 0, .int 0, .null, .int 0, .int 0])) := by
    rw [g1 a (by omega), hp_gn (by omega)]
    exact h0
  obtain ⟨k2, rk, r2, p2, e2, n2, c2, z2, g2⟩ := c_newStock (h := hp_s (hp_s (hp_m k1 (a + 4) (h.2.1 + 606)) a (.inr (1, [.ref (a + 1), .null, .null, .int 0, .int 0, .int 0, .int 0, .null, .int 0, .int 0]))) (a + 3) (.inr (7, [.null, .null, .null, .null]))) (a := a + 3) (hp_gs _ _ _) rfl
  have n2' : k2.1 = a + 17 := n2
  have c2' : k2.2.1 = h.2.1 + 1394 := c2
  have b2 : hp_g k2 a = some (.inr (1, [.ref (a + 1), .null, .null, .int 0, .int 0, .int 0, .int 0, .null, .int 0, .int 0])) := by
    rw [g2 a (by omega)]
    simp (disch := first | assumption | exact zz_nl_i _ | exact zz_nl_r _ | exact zz_nl_n | exact okv_i _ | exact okv_j _ | exact okv_0 | exact okv_1 | exact okv_o _ _ | exact okv_a _ _ | omega | exact llt_0 | ((repeat apply llt_s) <;> exact llt_0) | fail) only [mo_k_v, mo_k_n, mo_v_e, mo_gf_e, mo_pf_e, mo_ia_e, mo_ba_e, mo_za_e, mo_la_e, mo_aa_e, mo_le_e, mo_is_e, mo_bs_e, mo_zs_0, mo_zs_1, mo_ls_e, mo_as_e, mo_na_e, mo_aci_e, mo_acb_e, mo_acj_e, hp_gs, hp_gn, hp_ss, List.getElem?_cons_zero, List.getElem?_cons_succ, List.set_cons_zero, List.set_cons_succ]
  obtain ⟨k3, r3, p3, n3, c3, z3, g3⟩ := c_newChoice (h := hp_s (hp_s (hp_m k2 (a + 18) (h.2.1 + 1396)) a (.inr (1, [.ref (a + 1), .ref (a + 3), .null, .int 0, .int 0, .int 0, .int 0, .null, .int 0, .int 0]))) (a + 17) (.inr (0, [.null, .null]))) (a := a + 17) (hp_gs _ _ _) rfl
  have n3' : k3.1 = a + 20 := n3
  have c3' : k3.2.1 = h.2.1 + 1420 := c3
  have b3 : hp_g k3 a = some (.inr (1, [.ref (a + 1), .ref (a + 3), .null, .int 0, .int 0, .int 0, .int 0, .null, .int 0, .int 0])) := by
    rw [g3 a (by omega)]
    simp (disch := first | assumption | exact zz_nl_i _ | exact zz_nl_r _ | exact zz_nl_n | exact okv_i _ | exact okv_j _ | exact okv_0 | exact okv_1 | exact okv_o _ _ | exact okv_a _ _ | omega | exact llt_0 | ((repeat apply llt_s) <;> exact llt_0) | fail) only [mo_k_v, mo_k_n, mo_v_e, mo_gf_e, mo_pf_e, mo_ia_e, mo_ba_e, mo_za_e, mo_la_e, mo_aa_e, mo_le_e, mo_is_e, mo_bs_e, mo_zs_0, mo_zs_1, mo_ls_e, mo_as_e, mo_na_e, mo_aci_e, mo_acb_e, mo_acj_e, hp_gs, hp_gn, hp_ss, List.getElem?_cons_zero, List.getElem?_cons_succ, List.set_cons_zero, List.set_cons_succ]
  obtain ⟨k4, r4, p4, n4, c4, z4, g4⟩ := c_newSets (h := hp_s (hp_s (hp_m k3 (a + 21) (h.2.1 + 1422)) a (.inr (1, [.ref (a + 1), .ref (a + 3), .ref (a + 17), .int 0, .int (-1), .int 0, .int 0, .null, .int 0, .int 0]))) (a + 20) (.inr (6, [.int 0, .null]))) (a := a + 20) (hp_gs _ _ _) rfl (r := 1) (by omega)
  have n4' : k4.1 = a + 22 := n4
  have c4' : k4.2.1 = h.2.1 + 1430 := c4
  have b4 : hp_g k4 a = some (.inr (1, [.ref (a + 1), .ref (a + 3), .ref (a + 17), .int 0, .int (-1), .int 0, .int 0, .null, .int 0, .int 0])) := by
    rw [g4 a (by omega)]
    simp (disch := first | assumption | exact zz_nl_i _ | exact zz_nl_r _ | exact zz_nl_n | exact okv_i _ | exact okv_j _ | exact okv_0 | exact okv_1 | exact okv_o _ _ | exact okv_a _ _ | omega | exact llt_0 | ((repeat apply llt_s) <;> exact llt_0) | fail) only [mo_k_v, mo_k_n, mo_v_e, mo_gf_e, mo_pf_e, mo_ia_e, mo_ba_e, mo_za_e, mo_la_e, mo_aa_e, mo_le_e, mo_is_e, mo_bs_e, mo_zs_0, mo_zs_1, mo_ls_e, mo_as_e, mo_na_e, mo_aci_e, mo_acb_e, mo_acj_e, hp_gs, hp_gn, hp_ss, List.getElem?_cons_zero, List.getElem?_cons_succ, List.set_cons_zero, List.set_cons_succ]
  rw [en2]
  simp (disch := first | assumption | exact zz_nl_i _ | exact zz_nl_r _ | exact zz_nl_n | exact okv_i _ | exact okv_j _ | exact okv_0 | exact okv_1 | exact okv_o _ _ | exact okv_a _ _ | omega | exact llt_0 | ((repeat apply llt_s) <;> exact llt_0) | fail) only [x2, h0, hp_n_e, hp_m_s, hp_m_m, hp_m1, hp_m2, hp_gm, hp_s1, hp_s2, Nat.add_assoc, Nat.reduceAdd, hp_sss, ha, r1, n1', c1', b1, r2, n2', c2', b2, r3, n3', c3', b3, r4, b4, mo_k_v, mo_k_n, mo_v_e, mo_gf_e, mo_pf_e, mo_ia_e, mo_ba_e, mo_za_e, mo_la_e, mo_aa_e, mo_le_e, mo_is_e, mo_bs_e, mo_zs_0, mo_zs_1, mo_ls_e, mo_as_e, mo_na_e, mo_aci_e, mo_acb_e, mo_acj_e, hp_gs, hp_gn, hp_ss, List.getElem?_cons_zero, List.getElem?_cons_succ, List.set_cons_zero, List.set_cons_succ]
  have s4 : ∀ b, b < a + 20 → b ≠ a → hp_g k4 b = hp_g k3 b := fun b h1 h2 => by
    rw [g4 b (by omega)]
    simp (disch := first | assumption | exact zz_nl_i _ | exact zz_nl_r _ | exact zz_nl_n | exact okv_i _ | exact okv_j _ | exact okv_0 | exact okv_1 | exact okv_o _ _ | exact okv_a _ _ | omega | exact llt_0 | ((repeat apply llt_s) <;> exact llt_0) | fail) only [hp_gm, mo_k_v, mo_k_n, mo_v_e, mo_gf_e, mo_pf_e, mo_ia_e, mo_ba_e, mo_za_e, mo_la_e, mo_aa_e, mo_le_e, mo_is_e, mo_bs_e, mo_zs_0, mo_zs_1, mo_ls_e, mo_as_e, mo_na_e, mo_aci_e, mo_acb_e, mo_acj_e, hp_gs, hp_gn, hp_ss, List.getElem?_cons_zero, List.getElem?_cons_succ, List.set_cons_zero, List.set_cons_succ]
  have s3 : ∀ b, b < a + 17 → b ≠ a → hp_g k3 b = hp_g k2 b := fun b h1 h2 => by
    rw [g3 b (by omega)]
    simp (disch := first | assumption | exact zz_nl_i _ | exact zz_nl_r _ | exact zz_nl_n | exact okv_i _ | exact okv_j _ | exact okv_0 | exact okv_1 | exact okv_o _ _ | exact okv_a _ _ | omega | exact llt_0 | ((repeat apply llt_s) <;> exact llt_0) | fail) only [hp_gm, mo_k_v, mo_k_n, mo_v_e, mo_gf_e, mo_pf_e, mo_ia_e, mo_ba_e, mo_za_e, mo_la_e, mo_aa_e, mo_le_e, mo_is_e, mo_bs_e, mo_zs_0, mo_zs_1, mo_ls_e, mo_as_e, mo_na_e, mo_aci_e, mo_acb_e, mo_acj_e, hp_gs, hp_gn, hp_ss, List.getElem?_cons_zero, List.getElem?_cons_succ, List.set_cons_zero, List.set_cons_succ]
  have s2 : ∀ b, b < a + 3 → b ≠ a → hp_g k2 b = hp_g k1 b := fun b h1 h2 => by
    rw [g2 b (by omega)]
    simp (disch := first | assumption | exact zz_nl_i _ | exact zz_nl_r _ | exact zz_nl_n | exact okv_i _ | exact okv_j _ | exact okv_0 | exact okv_1 | exact okv_o _ _ | exact okv_a _ _ | omega | exact llt_0 | ((repeat apply llt_s) <;> exact llt_0) | fail) only [hp_gm, mo_k_v, mo_k_n, mo_v_e, mo_gf_e, mo_pf_e, mo_ia_e, mo_ba_e, mo_za_e, mo_la_e, mo_aa_e, mo_le_e, mo_is_e, mo_bs_e, mo_zs_0, mo_zs_1, mo_ls_e, mo_as_e, mo_na_e, mo_aci_e, mo_acb_e, mo_acj_e, hp_gs, hp_gn, hp_ss, List.getElem?_cons_zero, List.getElem?_cons_succ, List.set_cons_zero, List.set_cons_succ]
  have s1 : ∀ b, b < a + 1 → hp_g k1 b = hp_g h b := fun b h1 => by
    rw [g1 b (by omega)]
    simp (disch := first | assumption | exact zz_nl_i _ | exact zz_nl_r _ | exact zz_nl_n | exact okv_i _ | exact okv_j _ | exact okv_0 | exact okv_1 | exact okv_o _ _ | exact okv_a _ _ | omega | exact llt_0 | ((repeat apply llt_s) <;> exact llt_0) | fail) only [hp_gm, mo_k_v, mo_k_n, mo_v_e, mo_gf_e, mo_pf_e, mo_ia_e, mo_ba_e, mo_za_e, mo_la_e, mo_aa_e, mo_le_e, mo_is_e, mo_bs_e, mo_zs_0, mo_zs_1, mo_ls_e, mo_as_e, mo_na_e, mo_aci_e, mo_acb_e, mo_acj_e, hp_gs, hp_gn, hp_ss, List.getElem?_cons_zero, List.getElem?_cons_succ, List.set_cons_zero, List.set_cons_succ]
  refine ⟨_, rk, rfl, ⟨?_, ?_, ?_, ?_, ?_⟩, e2, ?_, ?_, ?_, ?_⟩
  · unfold evO
    simp (disch := first | assumption | exact zz_nl_i _ | exact zz_nl_r _ | exact zz_nl_n | exact okv_i _ | exact okv_j _ | exact okv_0 | exact okv_1 | exact okv_o _ _ | exact okv_a _ _ | omega | exact llt_0 | ((repeat apply llt_s) <;> exact llt_0) | fail) only [nI_0, bI_f, mo_k_v, mo_k_n, mo_v_e, mo_gf_e, mo_pf_e, mo_ia_e, mo_ba_e, mo_za_e, mo_la_e, mo_aa_e, mo_le_e, mo_is_e, mo_bs_e, mo_zs_0, mo_zs_1, mo_ls_e, mo_as_e, mo_na_e, mo_aci_e, mo_acb_e, mo_acj_e, hp_gs, hp_gn, hp_ss, List.getElem?_cons_zero, List.getElem?_cons_succ, List.set_cons_zero, List.set_cons_succ]
  · exact isTape_s (isTape_sam p1 (fun b h1 h2 => by rw [s4 b (by omega) (by omega), s3 b (by omega) (by omega), s2 b (by omega) (by omega)])) (by omega)
  · exact isStock_s (isStock_sam p2 (fun b h1 h2 => by rw [s4 b (by omega) (by omega), s3 b (by omega) (by omega)])) (by omega)
  · exact isChoice_s (isChoice_sam p3 (fun b h1 h2 => by rw [s4 b (by omega) (by omega)])) (by omega)
  · exact isSets_s p4 (by omega)
  · simp (disch := first | assumption | exact zz_nl_i _ | exact zz_nl_r _ | exact zz_nl_n | exact okv_i _ | exact okv_j _ | exact okv_0 | exact okv_1 | exact okv_o _ _ | exact okv_a _ _ | omega | exact llt_0 | ((repeat apply llt_s) <;> exact llt_0) | fail) only [hp_n_e, hp_m_s, hp_m_m, hp_m1, hp_m2, hp_gm, hp_s1, hp_s2, Nat.add_assoc, Nat.reduceAdd, n4', ha, mo_k_v, mo_k_n, mo_v_e, mo_gf_e, mo_pf_e, mo_ia_e, mo_ba_e, mo_za_e, mo_la_e, mo_aa_e, mo_le_e, mo_is_e, mo_bs_e, mo_zs_0, mo_zs_1, mo_ls_e, mo_as_e, mo_na_e, mo_aci_e, mo_acb_e, mo_acj_e, hp_gs, hp_gn, hp_ss, List.getElem?_cons_zero, List.getElem?_cons_succ, List.set_cons_zero, List.set_cons_succ]
  · simp (disch := first | assumption | exact zz_nl_i _ | exact zz_nl_r _ | exact zz_nl_n | exact okv_i _ | exact okv_j _ | exact okv_0 | exact okv_1 | exact okv_o _ _ | exact okv_a _ _ | omega | exact llt_0 | ((repeat apply llt_s) <;> exact llt_0) | fail) only [hp_n_e, hp_m_s, hp_m_m, hp_m1, hp_m2, hp_gm, hp_s1, hp_s2, Nat.add_assoc, Nat.reduceAdd, c4', ha, mo_k_v, mo_k_n, mo_v_e, mo_gf_e, mo_pf_e, mo_ia_e, mo_ba_e, mo_za_e, mo_la_e, mo_aa_e, mo_le_e, mo_is_e, mo_bs_e, mo_zs_0, mo_zs_1, mo_ls_e, mo_as_e, mo_na_e, mo_aci_e, mo_acb_e, mo_acj_e, hp_gs, hp_gn, hp_ss, List.getElem?_cons_zero, List.getElem?_cons_succ, List.set_cons_zero, List.set_cons_succ]
  · exact z4.trans (z3.trans (z2.trans z1))
  · intro b hb
    simp (disch := first | assumption | exact zz_nl_i _ | exact zz_nl_r _ | exact zz_nl_n | exact okv_i _ | exact okv_j _ | exact okv_0 | exact okv_1 | exact okv_o _ _ | exact okv_a _ _ | omega | exact llt_0 | ((repeat apply llt_s) <;> exact llt_0) | fail) only [mo_k_v, mo_k_n, mo_v_e, mo_gf_e, mo_pf_e, mo_ia_e, mo_ba_e, mo_za_e, mo_la_e, mo_aa_e, mo_le_e, mo_is_e, mo_bs_e, mo_zs_0, mo_zs_1, mo_ls_e, mo_as_e, mo_na_e, mo_aci_e, mo_acb_e, mo_acj_e, hp_gs, hp_gn, hp_ss, List.getElem?_cons_zero, List.getElem?_cons_succ, List.set_cons_zero, List.set_cons_succ]
    rw [s4 b (by omega) (by omega), s3 b (by omega) (by omega), s2 b (by omega) (by omega), s1 b (by omega)]
end
