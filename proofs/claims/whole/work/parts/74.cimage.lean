/-! the class: image, again -/
def eqE (E F : Ev) : Prop := eqN 600 E.1.1 F.1.1 ∧ E.1.2 = F.1.2 ∧ plE E.2.1.1 F.2.1.1 ∧ eqN 256 E.2.1.2.1 F.2.1.2.1 ∧ eqN 256 E.2.1.2.2.1 F.2.1.2.2.1 ∧ eqN 168 E.2.1.2.2.2 F.2.1.2.2.2 ∧ eqN 20 E.2.2.1.1 F.2.2.1.1 ∧ eqN 4 E.2.2.1.2 F.2.2.1.2 ∧ E.2.2.2.1 = F.2.2.2.1 ∧ E.2.2.2.2.1.1 = F.2.2.2.2.1.1 ∧ E.2.2.2.2.1.2.1 = F.2.2.2.2.1.2.1 ∧ eqN 8 E.2.2.2.2.1.2.2 F.2.2.2.2.1.2.2 ∧ E.2.2.2.2.2 = F.2.2.2.2.2
theorem cp_Ev {h : zz_H} {a c : Nat} {E F : Ev} (he : isEv h a E) (hf : isEv h c F) (hac : a + 22 ≤ c ∨ c + 22 ≤ a) : ∃ k E', zz_run 148 [.ref a, .ref c] h = some (none, k) ∧ isEv k a E' ∧ eqE E' F ∧ frm h k a (a + 22) := by
  obtain ⟨⟨tb, tl⟩, ⟨p, rk, tg, f⟩, ⟨ch, ba⟩, ⟨fk, fp⟩, ⟨an, aw, af⟩, ⟨rs, hd⟩⟩ := E
  obtain ⟨⟨tb2, tl2⟩, ⟨p2, rk2, tg2, f2⟩, ⟨ch2, ba2⟩, ⟨fk2, fp2⟩, ⟨an2, aw2, af2⟩, ⟨rs2, hd2⟩⟩ := F
  obtain ⟨e0, e1, e2, e3, e4⟩ := he
  obtain ⟨g0, g1, g2, g3, g4⟩ := hf
  obtain ⟨k, tb', p', rk', tg', f', ch', ba', af', r, q0, q1, q2, q3, q4, s1, s2, s3, s4, s5, s6, s7, s8, fr⟩ := c_copyEv e0 e1 e2 e3 e4 g0 g1 g2 g3 g4 hac
  exact ⟨k, ((tb', tl2), (p', rk', tg', f'), (ch', ba'), (fk2, fp2), (an2, aw2, af'), (rs2, hd2)), r, ⟨q0, q1, q2, q3, q4⟩, ⟨s1, rfl, s2, s3, s4, s5, s6, s7, rfl, rfl, rfl, s8, rfl⟩, fr⟩
section
variable {h : zz_H} {X : Nat} {E : Ev} {J : Jn} {im : Nat → Option Nat}
theorem c_image_no (hw : cW h X E J im) {x : Int32} (hx : isV 3 x = false) : zz_run 147 [.ref X, .int x] h = some (some (.int (nI 0)), h) := by
  obtain ⟨w0, w1, w2, w3, w4⟩ := hw
  unfold fsO at w0
  rw [en147 w0]
  unfold isV at hx
  by_cases h1 : x < nI 0
  · simp (disch := first | assumption | exact zz_nl_i _ | exact zz_nl_r _ | exact zz_nl_n | exact okv_i _ | exact okv_j _ | exact okv_0 | exact okv_1 | exact okv_o _ _ | exact okv_a _ _ | exact bI_okr _ | omega | exact llt_0 | ((repeat apply llt_s) <;> exact llt_0) | fail) only [x147, xb147, h1, if_true, mo_k_v, mo_k_n, mo_v_e, mo_gf_e, mo_pf_e, mo_ia_e, mo_ba_e, mo_za_e, mo_la_e, mo_aa_e, mo_le_e, mo_is_e, mo_bs_e, mo_zs_0, mo_zs_1, mo_ls_e, mo_as_e, mo_na_e, mo_aci_e, mo_acb_e, mo_acj_e, hp_gs, hp_gn, hp_ss, List.getElem?_cons_zero, List.getElem?_cons_succ, List.set_cons_zero, List.set_cons_succ]
  · have h2 : ¬ x < nI 3 := fun c => (of_decide_eq_false hx) ⟨h1, c⟩
    simp (disch := first | assumption | exact zz_nl_i _ | exact zz_nl_r _ | exact zz_nl_n | exact okv_i _ | exact okv_j _ | exact okv_0 | exact okv_1 | exact okv_o _ _ | exact okv_a _ _ | exact bI_okr _ | omega | exact llt_0 | ((repeat apply llt_s) <;> exact llt_0) | fail) only [x147, xb147, h1, h2, if_false, mo_k_v, mo_k_n, mo_v_e, mo_gf_e, mo_pf_e, mo_ia_e, mo_ba_e, mo_za_e, mo_la_e, mo_aa_e, mo_le_e, mo_is_e, mo_bs_e, mo_zs_0, mo_zs_1, mo_ls_e, mo_as_e, mo_na_e, mo_aci_e, mo_acb_e, mo_acj_e, hp_gs, hp_gn, hp_ss, List.getElem?_cons_zero, List.getElem?_cons_succ, List.set_cons_zero, List.set_cons_succ]
theorem c_image_old (hw : cW h X E J im) {j a : Nat} (hj : j < 3) (hi : im j = some a) (ha : X + 57 ≤ a) {F : Ev} (hF : isEv h a F) : ∃ k E', zz_run 147 [.ref X, .int (nI j)] h = some (some (.int (nI 1)), k) ∧ cW k X E J im ∧ isEv k a E' ∧ eqE E' E ∧ frm h k a (a + 22) := by
  obtain ⟨k, E', r, e1, e2, fr⟩ := cp_Ev hF hw.2.1 (by omega)
  refine ⟨k, E', ?_, cW_sam hw (frm_sam fr (by omega)), e1, e2, fr⟩
  obtain ⟨w0, w1, w2, w3, w4⟩ := hw
  unfold fsO at w0
  unfold imO at w2
  have h1 : ¬ nI j < nI 0 := nI_nlt0 (by omega)
  have h2 : nI j < nI 3 := (nI_ltI (by omega) (by omega)).mpr hj
  have hv : va_rf (im j) = .ref a := by rw [hi]; rfl
  rw [en147 w0]
  simp (disch := first | assumption | exact zz_nl_i _ | exact zz_nl_r _ | exact zz_nl_n | exact okv_i _ | exact okv_j _ | exact okv_0 | exact okv_1 | exact okv_o _ _ | exact okv_a _ _ | exact bI_okr _ | omega | exact llt_0 | ((repeat apply llt_s) <;> exact llt_0) | fail) only [x147, xb147, h1, h2, if_false, if_true, w0, w2, hv, r, mo_k_v, mo_k_n, mo_v_e, mo_gf_e, mo_pf_e, mo_ia_e, mo_ba_e, mo_za_e, mo_la_e, mo_aa_e, mo_le_e, mo_is_e, mo_bs_e, mo_zs_0, mo_zs_1, mo_ls_e, mo_as_e, mo_na_e, mo_aci_e, mo_acb_e, mo_acj_e, hp_gs, hp_gn, hp_ss, List.getElem?_cons_zero, List.getElem?_cons_succ, List.set_cons_zero, List.set_cons_succ]
theorem c_image_new (hw : cW h X E J im) {j a : Nat} (hj : j < 3) (hi : im j = none) (hh : h.1 = a) (ha : X + 57 ≤ a) : ∃ k E', zz_run 147 [.ref X, .int (nI j)] h = some (some (.int (nI 1)), k) ∧ cW k X E J (va_up im j (some a)) ∧ isEv k a E' ∧ eqE E' E ∧ k.1 = h.1 + 22 ∧ k.2.1 = h.2.1 + 1440 ∧ k.2.2.2 = h.2.2.2 ∧ ∀ b, b < a → b ≠ X + 23 → hp_g k b = hp_g h b := by
  obtain ⟨k1, rk, r1, p1, q1, n1, c1, z1, g1⟩ := c_newEv (h := hp_s (hp_m h (a + 1) (h.2.1 + 10)) a (.inr (1, [.null, .null, .null, .int 0, .int 0, .int 0, .int 0, .null, .int 0, .int 0]))) (a := a) (hp_gs _ _ _) rfl
  have n1' : k1.1 = a + 22 := n1
  have c1' : k1.2.1 = h.2.1 + 1440 := c1
  have g1' : ∀ b, b < a → hp_g k1 b = hp_g h b := fun b hb => by
    rw [g1 b hb]
    simp (disch := first | assumption | exact zz_nl_i _ | exact zz_nl_r _ | exact zz_nl_n | exact okv_i _ | exact okv_j _ | exact okv_0 | exact okv_1 | exact okv_o _ _ | exact okv_a _ _ | exact bI_okr _ | omega | exact llt_0 | ((repeat apply llt_s) <;> exact llt_0) | fail) only [hp_gm, mo_k_v, mo_k_n, mo_v_e, mo_gf_e, mo_pf_e, mo_ia_e, mo_ba_e, mo_za_e, mo_la_e, mo_aa_e, mo_le_e, mo_is_e, mo_bs_e, mo_zs_0, mo_zs_1, mo_ls_e, mo_as_e, mo_na_e, mo_aci_e, mo_acb_e, mo_acj_e, hp_gs, hp_gn, hp_ss, List.getElem?_cons_zero, List.getElem?_cons_succ, List.set_cons_zero, List.set_cons_succ]
  have hw1 : cW k1 X E J im := cW_sam hw (fun b h1 h2 => g1' b (by omega))
  have hw2 : cW (hp_s k1 (X + 23) (imO (va_up im j (some a)))) X E J (va_up im j (some a)) := by
    obtain ⟨w0, w1, w2, w3, w4⟩ := hw1
    exact ⟨(hp_gn (by omega)).trans w0, isEv_sam w1 (fun b h1 h2 => hp_gn (by omega)), hp_gs _ _ _, isJn_sam w3 (fun b h1 h2 => hp_gn (by omega)), rst_sam w4 (fun b h1 h2 => hp_gn (by omega))⟩
  have p2 : isEv (hp_s k1 (X + 23) (imO (va_up im j (some a)))) a (ev0 rk) := isEv_sam p1 (fun b h1 h2 => hp_gn (by omega))
  obtain ⟨k, E', r, e1, e2, fr⟩ := cp_Ev p2 hw2.2.1 (by omega)
  refine ⟨k, E', ?_, cW_sam hw2 (frm_sam fr (by omega)), e1, e2, fr.1.trans (by rw [hp_s1, n1', hh]), fr.2.1.trans (by rw [hp_s2, c1']), fr.2.2.1.trans z1, fun b h1 h2 => (fr.2.2.2 b (by omega)).trans ((hp_gn h2).trans (g1' b h1))⟩
  obtain ⟨v0, v1, v2, v3, v4⟩ := hw1
  obtain ⟨u0, u1, u2, u3, u4⟩ := hw2
  obtain ⟨w0, w1, w2, w3, w4⟩ := hw
  have po := p1.1
  unfold evO at po
  unfold fsO at w0 v0 u0
  unfold imO at w2 v2 u2 r
  have h1 : ¬ nI j < nI 0 := nI_nlt0 (by omega)
  have h2 : nI j < nI 3 := (nI_ltI (by omega) (by omega)).mpr hj
  have hv : va_rf (im j) = .null := by rw [hi]; rfl
  have hv2 : va_rf (va_up im j (some a) j) = .ref a := by unfold va_up; rw [if_pos rfl]; rfl
  rw [en147 w0]
  simp (disch := first | assumption | exact zz_nl_i _ | exact zz_nl_r _ | exact zz_nl_n | exact okv_i _ | exact okv_j _ | exact okv_0 | exact okv_1 | exact okv_o _ _ | exact okv_a _ _ | exact bI_okr _ | omega | exact llt_0 | ((repeat apply llt_s) <;> exact llt_0) | fail) only [x147, xb147, h1, h2, if_false, if_true, w0, w2, hv, hp_n_e, hh, r1, v0, v2, po, u0, hv2, r, mo_k_v, mo_k_n, mo_v_e, mo_gf_e, mo_pf_e, mo_ia_e, mo_ba_e, mo_za_e, mo_la_e, mo_aa_e, mo_le_e, mo_is_e, mo_bs_e, mo_zs_0, mo_zs_1, mo_ls_e, mo_as_e, mo_na_e, mo_aci_e, mo_acb_e, mo_acj_e, hp_gs, hp_gn, hp_ss, List.getElem?_cons_zero, List.getElem?_cons_succ, List.set_cons_zero, List.set_cons_succ]
theorem c_again_no (hw : cW h X E J im) {x : Int32} (hx : isV 3 x = false ∨ ∃ j, j < 3 ∧ x = nI j ∧ im j = none) : zz_run 151 [.ref X, .int x] h = some (some (.int (nI 0)), h) := by
  obtain ⟨w0, w1, w2, w3, w4⟩ := hw
  unfold fsO at w0
  unfold imO at w2
  rw [en151 w0]
  rcases hx with hx | ⟨j, hj, rfl, hi⟩
  · unfold isV at hx
    by_cases h1 : x < nI 0
    · simp (disch := first | assumption | exact zz_nl_i _ | exact zz_nl_r _ | exact zz_nl_n | exact okv_i _ | exact okv_j _ | exact okv_0 | exact okv_1 | exact okv_o _ _ | exact okv_a _ _ | exact bI_okr _ | omega | exact llt_0 | ((repeat apply llt_s) <;> exact llt_0) | fail) only [x151, xb151, h1, if_true, mo_k_v, mo_k_n, mo_v_e, mo_gf_e, mo_pf_e, mo_ia_e, mo_ba_e, mo_za_e, mo_la_e, mo_aa_e, mo_le_e, mo_is_e, mo_bs_e, mo_zs_0, mo_zs_1, mo_ls_e, mo_as_e, mo_na_e, mo_aci_e, mo_acb_e, mo_acj_e, hp_gs, hp_gn, hp_ss, List.getElem?_cons_zero, List.getElem?_cons_succ, List.set_cons_zero, List.set_cons_succ]
    · have h2 : ¬ x < nI 3 := fun c => (of_decide_eq_false hx) ⟨h1, c⟩
      simp (disch := first | assumption | exact zz_nl_i _ | exact zz_nl_r _ | exact zz_nl_n | exact okv_i _ | exact okv_j _ | exact okv_0 | exact okv_1 | exact okv_o _ _ | exact okv_a _ _ | exact bI_okr _ | omega | exact llt_0 | ((repeat apply llt_s) <;> exact llt_0) | fail) only [x151, xb151, h1, h2, if_false, mo_k_v, mo_k_n, mo_v_e, mo_gf_e, mo_pf_e, mo_ia_e, mo_ba_e, mo_za_e, mo_la_e, mo_aa_e, mo_le_e, mo_is_e, mo_bs_e, mo_zs_0, mo_zs_1, mo_ls_e, mo_as_e, mo_na_e, mo_aci_e, mo_acb_e, mo_acj_e, hp_gs, hp_gn, hp_ss, List.getElem?_cons_zero, List.getElem?_cons_succ, List.set_cons_zero, List.set_cons_succ]
  · have h1 : ¬ nI j < nI 0 := nI_nlt0 (by omega)
    have h2 : nI j < nI 3 := (nI_ltI (by omega) (by omega)).mpr hj
    have hv : va_rf (im j) = .null := by rw [hi]; rfl
    simp (disch := first | assumption | exact zz_nl_i _ | exact zz_nl_r _ | exact zz_nl_n | exact okv_i _ | exact okv_j _ | exact okv_0 | exact okv_1 | exact okv_o _ _ | exact okv_a _ _ | exact bI_okr _ | omega | exact llt_0 | ((repeat apply llt_s) <;> exact llt_0) | fail) only [x151, xb151, h1, h2, if_false, if_true, w0, w2, hv, mo_k_v, mo_k_n, mo_v_e, mo_gf_e, mo_pf_e, mo_ia_e, mo_ba_e, mo_za_e, mo_la_e, mo_aa_e, mo_le_e, mo_is_e, mo_bs_e, mo_zs_0, mo_zs_1, mo_ls_e, mo_as_e, mo_na_e, mo_aci_e, mo_acb_e, mo_acj_e, hp_gs, hp_gn, hp_ss, List.getElem?_cons_zero, List.getElem?_cons_succ, List.set_cons_zero, List.set_cons_succ]
theorem c_again_ok (hw : cW h X E J im) {j a : Nat} (hj : j < 3) (hi : im j = some a) (ha : X + 57 ≤ a) {F : Ev} (hF : isEv h a F) : ∃ k E', zz_run 151 [.ref X, .int (nI j)] h = some (some (.int (nI 1)), k) ∧ cW k X E' (J.1, J.2.1, J.2.2.1, J.2.2.2.1, 0, 0) im ∧ eqE E' F ∧ frm h k X (X + 57) := by
  obtain ⟨k, E', r, e1, e2, fr⟩ := cp_Ev hw.2.1 hF (by omega)
  obtain ⟨w0, w1, w2, w3, w4⟩ := hw
  have w0' := (fr.2.2.2 X (by omega)).trans w0
  obtain ⟨kn, pl, bf, jt, nx, am⟩ := J
  obtain ⟨k2, r2, j2, f2⟩ := c_clearJr (isJr_sam w3 (frm_sam fr (by omega)))
  refine ⟨k2, E', ?_, ⟨(f2.2.2.2 X (by omega)).trans w0', isEv_sam e1 (frm_sam f2 (by omega)), (f2.2.2.2 _ (by omega)).trans ((fr.2.2.2 _ (by omega)).trans w2), j2, rst_sam (rst_sam w4 (frm_sam fr (by omega))) (frm_sam f2 (by omega))⟩, e2, frm_trans (frm_mono fr (by omega) (by omega)) (frm_mono f2 (by omega) (by omega))⟩
  unfold fsO at w0 w0'
  unfold imO at w2
  have h1 : ¬ nI j < nI 0 := nI_nlt0 (by omega)
  have h2 : nI j < nI 3 := (nI_ltI (by omega) (by omega)).mpr hj
  have hv : va_rf (im j) = .ref a := by rw [hi]; rfl
  rw [en151 w0]
  simp (disch := first | assumption | exact zz_nl_i _ | exact zz_nl_r _ | exact zz_nl_n | exact okv_i _ | exact okv_j _ | exact okv_0 | exact okv_1 | exact okv_o _ _ | exact okv_a _ _ | exact bI_okr _ | omega | exact llt_0 | ((repeat apply llt_s) <;> exact llt_0) | fail) only [x151, xb151, h1, h2, if_false, if_true, w0, w2, hv, r, w0', r2, mo_k_v, mo_k_n, mo_v_e, mo_gf_e, mo_pf_e, mo_ia_e, mo_ba_e, mo_za_e, mo_la_e, mo_aa_e, mo_le_e, mo_is_e, mo_bs_e, mo_zs_0, mo_zs_1, mo_ls_e, mo_as_e, mo_na_e, mo_aci_e, mo_acb_e, mo_acj_e, hp_gs, hp_gn, hp_ss, List.getElem?_cons_zero, List.getElem?_cons_succ, List.set_cons_zero, List.set_cons_succ]
end
