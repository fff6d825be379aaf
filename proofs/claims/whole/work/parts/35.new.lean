/-! new objects -/
def hp_m (h : zz_H) (n m : Nat) : zz_H := (n, m, h.2.2)
theorem hp_n_e (h : zz_H) (k : Nat) (e : zz_E) : hp_n h k e = hp_s (hp_m h (h.1 + 1) (h.2.1 + k)) h.1 e := rfl
theorem hp_m_s (h : zz_H) (a n m : Nat) (e : zz_E) : hp_m (hp_s h a e) n m = hp_s (hp_m h n m) a e := rfl
theorem hp_m_m (h : zz_H) (n m n' m' : Nat) : hp_m (hp_m h n m) n' m' = hp_m h n' m' := rfl
theorem hp_m1 (h : zz_H) (n m : Nat) : (hp_m h n m).1 = n := rfl
theorem hp_m2 (h : zz_H) (n m : Nat) : (hp_m h n m).2.1 = m := rfl
theorem hp_gm (h : zz_H) (n m b : Nat) : hp_g (hp_m h n m) b = hp_g h b := rfl
/-- n new ones with c cells; all below a stays -/
def alc (h k : zz_H) (a n c : Nat) : Prop := k.1 = h.1 + n ∧ k.2.1 = h.2.1 + c ∧ k.2.2.2 = h.2.2.2 ∧ ∀ b, b < a → hp_g k b = hp_g h b
section
variable {h : zz_H} {a : Nat}
theorem c_newSets {v0 v1 : Value} (h0 : hp_g h a = some (.inr (6, [v0, v1]))) (ha : h.1 = a + 1) {r : Nat} (hr : r ≤ 30) : ∃ k, zz_run 6 [.ref a, .int (nI r)] h = some (none, k) ∧ isSets k a r (fun _ => 0) ∧ alc h k a 1 (8 * r) := by
  have em : nI r * nI 8 = nI (8 * r) := by rw [pk_mul, Nat.mul_comm]
  rw [en6]
  simp (disch := first | assumption | exact zz_nl_i _ | exact zz_nl_r _ | exact zz_nl_n | exact okv_i _ | exact okv_j _ | exact okv_0 | exact okv_1 | exact okv_o _ _ | exact okv_a _ _ | omega | exact llt_0 | ((repeat apply llt_s) <;> exact llt_0) | fail) only [x6, h0, nI_ltI, Nat.not_lt_zero, if_false, em, hp_n_e, hp_m_s, hp_m_m, hp_m1, hp_m2, hp_gm, hp_s1, hp_s2, Nat.add_assoc, Nat.reduceAdd, ha, mo_k_v, mo_k_n, mo_v_e, mo_gf_e, mo_pf_e, mo_ia_e, mo_ba_e, mo_za_e, mo_la_e, mo_aa_e, mo_le_e, mo_is_e, mo_bs_e, mo_zs_0, mo_zs_1, mo_ls_e, mo_as_e, mo_na_e, mo_aci_e, mo_acb_e, mo_acj_e, hp_gs, hp_gn, hp_ss, List.getElem?_cons_zero, List.getElem?_cons_succ, List.set_cons_zero, List.set_cons_succ]
  refine ⟨_, rfl, ⟨?_, ?_, hr⟩, ?_, ?_, ?_, ?_⟩
  · simp (disch := first | assumption | exact zz_nl_i _ | exact zz_nl_r _ | exact zz_nl_n | exact okv_i _ | exact okv_j _ | exact okv_0 | exact okv_1 | exact okv_o _ _ | exact okv_a _ _ | omega | exact llt_0 | ((repeat apply llt_s) <;> exact llt_0) | fail) only [mo_k_v, mo_k_n, mo_v_e, mo_gf_e, mo_pf_e, mo_ia_e, mo_ba_e, mo_za_e, mo_la_e, mo_aa_e, mo_le_e, mo_is_e, mo_bs_e, mo_zs_0, mo_zs_1, mo_ls_e, mo_as_e, mo_na_e, mo_aci_e, mo_acb_e, mo_acj_e, hp_gs, hp_gn, hp_ss, List.getElem?_cons_zero, List.getElem?_cons_succ, List.set_cons_zero, List.set_cons_succ]
  · simp (disch := first | assumption | exact zz_nl_i _ | exact zz_nl_r _ | exact zz_nl_n | exact okv_i _ | exact okv_j _ | exact okv_0 | exact okv_1 | exact okv_o _ _ | exact okv_a _ _ | omega | exact llt_0 | ((repeat apply llt_s) <;> exact llt_0) | fail) only [mo_k_v, mo_k_n, mo_v_e, mo_gf_e, mo_pf_e, mo_ia_e, mo_ba_e, mo_za_e, mo_la_e, mo_aa_e, mo_le_e, mo_is_e, mo_bs_e, mo_zs_0, mo_zs_1, mo_ls_e, mo_as_e, mo_na_e, mo_aci_e, mo_acb_e, mo_acj_e, hp_gs, hp_gn, hp_ss, List.getElem?_cons_zero, List.getElem?_cons_succ, List.set_cons_zero, List.set_cons_succ]
  · simp (disch := first | assumption | exact zz_nl_i _ | exact zz_nl_r _ | exact zz_nl_n | exact okv_i _ | exact okv_j _ | exact okv_0 | exact okv_1 | exact okv_o _ _ | exact okv_a _ _ | omega | exact llt_0 | ((repeat apply llt_s) <;> exact llt_0) | fail) only [hp_n_e, hp_m_s, hp_m_m, hp_m1, hp_m2, hp_gm, hp_s1, hp_s2, Nat.add_assoc, Nat.reduceAdd, ha, mo_k_v, mo_k_n, mo_v_e, mo_gf_e, mo_pf_e, mo_ia_e, mo_ba_e, mo_za_e, mo_la_e, mo_aa_e, mo_le_e, mo_is_e, mo_bs_e, mo_zs_0, mo_zs_1, mo_ls_e, mo_as_e, mo_na_e, mo_aci_e, mo_acb_e, mo_acj_e, hp_gs, hp_gn, hp_ss, List.getElem?_cons_zero, List.getElem?_cons_succ, List.set_cons_zero, List.set_cons_succ]
  · simp (disch := first | assumption | exact zz_nl_i _ | exact zz_nl_r _ | exact zz_nl_n | exact okv_i _ | exact okv_j _ | exact okv_0 | exact okv_1 | exact okv_o _ _ | exact okv_a _ _ | omega | exact llt_0 | ((repeat apply llt_s) <;> exact llt_0) | fail) only [hp_n_e, hp_m_s, hp_m_m, hp_m1, hp_m2, hp_gm, hp_s1, hp_s2, Nat.add_assoc, Nat.reduceAdd, ha, mo_k_v, mo_k_n, mo_v_e, mo_gf_e, mo_pf_e, mo_ia_e, mo_ba_e, mo_za_e, mo_la_e, mo_aa_e, mo_le_e, mo_is_e, mo_bs_e, mo_zs_0, mo_zs_1, mo_ls_e, mo_as_e, mo_na_e, mo_aci_e, mo_acb_e, mo_acj_e, hp_gs, hp_gn, hp_ss, List.getElem?_cons_zero, List.getElem?_cons_succ, List.set_cons_zero, List.set_cons_succ]
  · rfl
  · intro b hb
    simp (disch := first | assumption | exact zz_nl_i _ | exact zz_nl_r _ | exact zz_nl_n | exact okv_i _ | exact okv_j _ | exact okv_0 | exact okv_1 | exact okv_o _ _ | exact okv_a _ _ | omega | exact llt_0 | ((repeat apply llt_s) <;> exact llt_0) | fail) only [hp_n_e, hp_m_s, hp_m_m, hp_m1, hp_m2, hp_gm, hp_s1, hp_s2, Nat.add_assoc, Nat.reduceAdd, ha, mo_k_v, mo_k_n, mo_v_e, mo_gf_e, mo_pf_e, mo_ia_e, mo_ba_e, mo_za_e, mo_la_e, mo_aa_e, mo_le_e, mo_is_e, mo_bs_e, mo_zs_0, mo_zs_1, mo_ls_e, mo_as_e, mo_na_e, mo_aci_e, mo_acb_e, mo_acj_e, hp_gs, hp_gn, hp_ss, List.getElem?_cons_zero, List.getElem?_cons_succ, List.set_cons_zero, List.set_cons_succ]
    done
end
