/-! choices, ways, taking back, the tape -/
section
variable {h : zz_H} {X : Nat} {J : Jn} {im : Nat → Option Nat} {tb : Nat → Int32} {tl : Nat} {p : Pl} {rk tg f ch ba : Nat → Int32} {fk fp : Int32} {an : Bool} {aw : Int32} {af : Nat → Int32} {rs hd : Int32} {kn pl bf jt : Nat → Int32} {nx am : Nat}
theorem c_choose_bad (hw : cW h X ((tb, tl), (p, rk, tg, f), (ch, ba), (fk, fp), (an, aw, af), (rs, hd)) J im) {x y : Int32} (hb : (isV (pnv p) x && isV 3 y) = false) : ∃ k, zz_run 95 [.ref X, .int x, .int y] h = some (some (.int (nI 1)), k) ∧ cW k X (refE ((tb, tl), (p, rk, tg, f), (ch, ba), (fk, fp), (an, aw, af), (rs, hd)) (nI 1) (-1)) J im ∧ frm h k X (X + 57) := by
  obtain ⟨k, r, A, g⟩ := c_refuse hw (nI 1)
  obtain ⟨w0, ⟨e0, e1, e2, e3, e4⟩, w2, w3, w4⟩ := hw
  have v := c_isValue e2.2.1 x
  have t0 := e2.1
  unfold fsO at w0
  unfold evO at e0
  rw [en95 w0]
  cases h1 : isV (pnv p) x
  · simp (disch := first | assumption | exact zz_nl_i _ | exact zz_nl_r _ | exact zz_nl_n | exact okv_i _ | exact okv_j _ | exact okv_0 | exact okv_1 | exact okv_o _ _ | exact okv_a _ _ | omega | exact llt_0 | ((repeat apply llt_s) <;> exact llt_0) | fail) only [x95, w0, e0, t0, v, h1, bI_f, if_true, r, mo_k_v, mo_k_n, mo_v_e, mo_gf_e, mo_pf_e, mo_ia_e, mo_ba_e, mo_za_e, mo_la_e, mo_aa_e, mo_le_e, mo_is_e, mo_bs_e, mo_zs_0, mo_zs_1, mo_ls_e, mo_as_e, mo_na_e, mo_aci_e, mo_acb_e, mo_acj_e, hp_gs, hp_gn, hp_ss, List.getElem?_cons_zero, List.getElem?_cons_succ, List.set_cons_zero, List.set_cons_succ]
    exact ⟨_, rfl, A, g⟩
  · rw [h1, Bool.true_and] at hb
    unfold isV at hb
    rw [decide_eq_false_iff_not] at hb
    by_cases h2 : y < nI 0
    · simp (disch := first | assumption | exact zz_nl_i _ | exact zz_nl_r _ | exact zz_nl_n | exact okv_i _ | exact okv_j _ | exact okv_0 | exact okv_1 | exact okv_o _ _ | exact okv_a _ _ | omega | exact llt_0 | ((repeat apply llt_s) <;> exact llt_0) | fail) only [x95, w0, e0, t0, v, h1, h2, bI_t, nI_01, if_false, if_true, r, mo_k_v, mo_k_n, mo_v_e, mo_gf_e, mo_pf_e, mo_ia_e, mo_ba_e, mo_za_e, mo_la_e, mo_aa_e, mo_le_e, mo_is_e, mo_bs_e, mo_zs_0, mo_zs_1, mo_ls_e, mo_as_e, mo_na_e, mo_aci_e, mo_acb_e, mo_acj_e, hp_gs, hp_gn, hp_ss, List.getElem?_cons_zero, List.getElem?_cons_succ, List.set_cons_zero, List.set_cons_succ]
      exact ⟨_, rfl, A, g⟩
    · have h3 : nI 2 < y := by
        have h4 : ¬ y < nI 3 := fun c => hb ⟨h2, c⟩
        rw [Int32.lt_iff_toInt_lt, nI_toInt (by omega)] at h4 ⊢
        omega
      simp (disch := first | assumption | exact zz_nl_i _ | exact zz_nl_r _ | exact zz_nl_n | exact okv_i _ | exact okv_j _ | exact okv_0 | exact okv_1 | exact okv_o _ _ | exact okv_a _ _ | omega | exact llt_0 | ((repeat apply llt_s) <;> exact llt_0) | fail) only [x95, w0, e0, t0, v, h1, h2, h3, bI_t, nI_01, if_false, if_true, r, mo_k_v, mo_k_n, mo_v_e, mo_gf_e, mo_pf_e, mo_ia_e, mo_ba_e, mo_za_e, mo_la_e, mo_aa_e, mo_le_e, mo_is_e, mo_bs_e, mo_zs_0, mo_zs_1, mo_ls_e, mo_as_e, mo_na_e, mo_aci_e, mo_acb_e, mo_acj_e, hp_gs, hp_gn, hp_ss, List.getElem?_cons_zero, List.getElem?_cons_succ, List.set_cons_zero, List.set_cons_succ]
      exact ⟨_, rfl, A, g⟩
theorem isV3 {y : Int32} (hy : isV 3 y = true) : ¬ y < nI 0 ∧ ¬ nI 2 < y := by
  obtain ⟨j, hj, rfl⟩ := (isV_iff (by omega)).mp hy
  exact ⟨nI_nlt0 (by omega), fun c => by rw [nI_ltI (by omega) (by omega)] at c; omega⟩
theorem c_choose_same (hw : cW h X ((tb, tl), (p, rk, tg, f), (ch, ba), (fk, fp), (an, aw, af), (rs, hd)) J im) {v : Nat} {y : Int32} (hv : v < pnv p) (hy : isV 3 y = true) (he : ch v = y) : ∃ k, zz_run 95 [.ref X, .int (nI v), .int y] h = some (some (.int (nI 2)), k) ∧ cW k X (refE ((tb, tl), (p, rk, tg, f), (ch, ba), (fk, fp), (an, aw, af), (rs, hd)) (nI 2) (-1)) J im ∧ frm h k X (X + 57) := by
  obtain ⟨k, r, A, g⟩ := c_refuse hw (nI 2)
  obtain ⟨w0, ⟨e0, e1, e2, e3, e4⟩, w2, w3, w4⟩ := hw
  have q2 := e2.2.1.2.2.2.2.2.2.2.2.2.2
  have h1 := isV_nI (n := pnv p) (by omega) hv
  have vv := c_isValue e2.2.1 (nI v)
  obtain ⟨h2, h3⟩ := isV3 hy
  have t0 := e2.1
  obtain ⟨c0, c1, c2⟩ := e3
  unfold fsO at w0
  unfold evO at e0
  rw [en95 w0]
  simp (disch := first | assumption | exact zz_nl_i _ | exact zz_nl_r _ | exact zz_nl_n | exact okv_i _ | exact okv_j _ | exact okv_0 | exact okv_1 | exact okv_o _ _ | exact okv_a _ _ | omega | exact llt_0 | ((repeat apply llt_s) <;> exact llt_0) | fail) only [x95, w0, e0, t0, vv, h1, h2, h3, bI_t, nI_01, if_false, c0, c1, he, if_true, r, mo_k_v, mo_k_n, mo_v_e, mo_gf_e, mo_pf_e, mo_ia_e, mo_ba_e, mo_za_e, mo_la_e, mo_aa_e, mo_le_e, mo_is_e, mo_bs_e, mo_zs_0, mo_zs_1, mo_ls_e, mo_as_e, mo_na_e, mo_aci_e, mo_acb_e, mo_acj_e, hp_gs, hp_gn, hp_ss, List.getElem?_cons_zero, List.getElem?_cons_succ, List.set_cons_zero, List.set_cons_succ]
  exact ⟨_, rfl, A, g⟩
/-- after a note: the world with another journal -/
theorem cW_jr (hw : cW h X ((tb, tl), (p, rk, tg, f), (ch, ba), (fk, fp), (an, aw, af), (rs, hd)) (kn, pl, bf, jt, nx, am) im) (x1 x2 x3 x4 : Int32) : ∃ k, zz_run 89 [.ref (X + 24), .int x1, .int x2, .int x3, .int x4] h = some (none, k) ∧ cW k X ((tb, tl), (p, rk, tg, f), (ch, ba), (fk, fp), (an, aw, af), (rs, hd)) (jnN (kn, pl, bf, jt, nx, am) x1 x2 x3 x4) im ∧ frm h k X (X + 57) := by
  obtain ⟨w0, w1, w2, w3, w4⟩ := hw
  obtain ⟨k1, r1, j1, g1⟩ := c_noteJr w3 x1 x2 x3 x4
  exact ⟨k1, r1, ⟨(g1.2.2.2 _ (by omega)).trans w0, isEv_sam w1 (frm_sam g1 (by omega)), (g1.2.2.2 _ (by omega)).trans w2, j1, rst_sam w4 (frm_sam g1 (by omega))⟩, frm_mono g1 (by omega) (by omega)⟩
theorem cW_ch (hw : cW h X ((tb, tl), (p, rk, tg, f), (ch, ba), (fk, fp), (an, aw, af), (rs, hd)) J im) (v : Nat) (y : Int32) : cW (hp_s h (X + 18 + 1) (.inl (.int, 20, .inl (upd ch v y)))) X ((tb, tl), (p, rk, tg, f), (upd ch v y, ba), (fk, fp), (an, aw, af), (rs, hd)) J im ∧ frm h (hp_s h (X + 18 + 1) (.inl (.int, 20, .inl (upd ch v y)))) X (X + 57) := by
  obtain ⟨w0, ⟨e0, e1, e2, e3, e4⟩, w2, w3, w4⟩ := hw
  refine ⟨⟨?_, ⟨?_, isTape_s e1 (by omega), isStock_s e2 (by omega), ⟨?_, ?_, ?_⟩, isSets_s e4 (by omega)⟩, ?_, isJn_sam w3 (fun b h1 h2 => hp_gn (by omega)), rst_sam w4 (fun b h1 h2 => hp_gn (by omega))⟩, ?_⟩
  · simp (disch := first | assumption | exact zz_nl_i _ | exact zz_nl_r _ | exact zz_nl_n | exact okv_i _ | exact okv_j _ | exact okv_0 | exact okv_1 | exact okv_o _ _ | exact okv_a _ _ | omega | exact llt_0 | ((repeat apply llt_s) <;> exact llt_0) | fail) only [w0, mo_k_v, mo_k_n, mo_v_e, mo_gf_e, mo_pf_e, mo_ia_e, mo_ba_e, mo_za_e, mo_la_e, mo_aa_e, mo_le_e, mo_is_e, mo_bs_e, mo_zs_0, mo_zs_1, mo_ls_e, mo_as_e, mo_na_e, mo_aci_e, mo_acb_e, mo_acj_e, hp_gs, hp_gn, hp_ss, List.getElem?_cons_zero, List.getElem?_cons_succ, List.set_cons_zero, List.set_cons_succ]
  · simp (disch := first | assumption | exact zz_nl_i _ | exact zz_nl_r _ | exact zz_nl_n | exact okv_i _ | exact okv_j _ | exact okv_0 | exact okv_1 | exact okv_o _ _ | exact okv_a _ _ | omega | exact llt_0 | ((repeat apply llt_s) <;> exact llt_0) | fail) only [e0, mo_k_v, mo_k_n, mo_v_e, mo_gf_e, mo_pf_e, mo_ia_e, mo_ba_e, mo_za_e, mo_la_e, mo_aa_e, mo_le_e, mo_is_e, mo_bs_e, mo_zs_0, mo_zs_1, mo_ls_e, mo_as_e, mo_na_e, mo_aci_e, mo_acb_e, mo_acj_e, hp_gs, hp_gn, hp_ss, List.getElem?_cons_zero, List.getElem?_cons_succ, List.set_cons_zero, List.set_cons_succ]
  · simp (disch := first | assumption | exact zz_nl_i _ | exact zz_nl_r _ | exact zz_nl_n | exact okv_i _ | exact okv_j _ | exact okv_0 | exact okv_1 | exact okv_o _ _ | exact okv_a _ _ | omega | exact llt_0 | ((repeat apply llt_s) <;> exact llt_0) | fail) only [e3.1, mo_k_v, mo_k_n, mo_v_e, mo_gf_e, mo_pf_e, mo_ia_e, mo_ba_e, mo_za_e, mo_la_e, mo_aa_e, mo_le_e, mo_is_e, mo_bs_e, mo_zs_0, mo_zs_1, mo_ls_e, mo_as_e, mo_na_e, mo_aci_e, mo_acb_e, mo_acj_e, hp_gs, hp_gn, hp_ss, List.getElem?_cons_zero, List.getElem?_cons_succ, List.set_cons_zero, List.set_cons_succ]
  · exact hp_gs _ _ _
  · simp (disch := first | assumption | exact zz_nl_i _ | exact zz_nl_r _ | exact zz_nl_n | exact okv_i _ | exact okv_j _ | exact okv_0 | exact okv_1 | exact okv_o _ _ | exact okv_a _ _ | omega | exact llt_0 | ((repeat apply llt_s) <;> exact llt_0) | fail) only [e3.2.2, mo_k_v, mo_k_n, mo_v_e, mo_gf_e, mo_pf_e, mo_ia_e, mo_ba_e, mo_za_e, mo_la_e, mo_aa_e, mo_le_e, mo_is_e, mo_bs_e, mo_zs_0, mo_zs_1, mo_ls_e, mo_as_e, mo_na_e, mo_aci_e, mo_acb_e, mo_acj_e, hp_gs, hp_gn, hp_ss, List.getElem?_cons_zero, List.getElem?_cons_succ, List.set_cons_zero, List.set_cons_succ]
  · simp (disch := first | assumption | exact zz_nl_i _ | exact zz_nl_r _ | exact zz_nl_n | exact okv_i _ | exact okv_j _ | exact okv_0 | exact okv_1 | exact okv_o _ _ | exact okv_a _ _ | omega | exact llt_0 | ((repeat apply llt_s) <;> exact llt_0) | fail) only [w2, mo_k_v, mo_k_n, mo_v_e, mo_gf_e, mo_pf_e, mo_ia_e, mo_ba_e, mo_za_e, mo_la_e, mo_aa_e, mo_le_e, mo_is_e, mo_bs_e, mo_zs_0, mo_zs_1, mo_ls_e, mo_as_e, mo_na_e, mo_aci_e, mo_acb_e, mo_acj_e, hp_gs, hp_gn, hp_ss, List.getElem?_cons_zero, List.getElem?_cons_succ, List.set_cons_zero, List.set_cons_succ]
  · repeat (first | exact frm_refl _ _ _ | refine frm_s (by omega) ?_)
theorem cW_ba (hw : cW h X ((tb, tl), (p, rk, tg, f), (ch, ba), (fk, fp), (an, aw, af), (rs, hd)) J im) (v : Nat) (y : Int32) : cW (hp_s h (X + 18 + 2) (.inl (.int, 4, .inl (upd ba v y)))) X ((tb, tl), (p, rk, tg, f), (ch, upd ba v y), (fk, fp), (an, aw, af), (rs, hd)) J im ∧ frm h (hp_s h (X + 18 + 2) (.inl (.int, 4, .inl (upd ba v y)))) X (X + 57) := by
  obtain ⟨w0, ⟨e0, e1, e2, e3, e4⟩, w2, w3, w4⟩ := hw
  refine ⟨⟨?_, ⟨?_, isTape_s e1 (by omega), isStock_s e2 (by omega), ⟨?_, ?_, ?_⟩, isSets_s e4 (by omega)⟩, ?_, isJn_sam w3 (fun b h1 h2 => hp_gn (by omega)), rst_sam w4 (fun b h1 h2 => hp_gn (by omega))⟩, ?_⟩
  · simp (disch := first | assumption | exact zz_nl_i _ | exact zz_nl_r _ | exact zz_nl_n | exact okv_i _ | exact okv_j _ | exact okv_0 | exact okv_1 | exact okv_o _ _ | exact okv_a _ _ | omega | exact llt_0 | ((repeat apply llt_s) <;> exact llt_0) | fail) only [w0, mo_k_v, mo_k_n, mo_v_e, mo_gf_e, mo_pf_e, mo_ia_e, mo_ba_e, mo_za_e, mo_la_e, mo_aa_e, mo_le_e, mo_is_e, mo_bs_e, mo_zs_0, mo_zs_1, mo_ls_e, mo_as_e, mo_na_e, mo_aci_e, mo_acb_e, mo_acj_e, hp_gs, hp_gn, hp_ss, List.getElem?_cons_zero, List.getElem?_cons_succ, List.set_cons_zero, List.set_cons_succ]
  · simp (disch := first | assumption | exact zz_nl_i _ | exact zz_nl_r _ | exact zz_nl_n | exact okv_i _ | exact okv_j _ | exact okv_0 | exact okv_1 | exact okv_o _ _ | exact okv_a _ _ | omega | exact llt_0 | ((repeat apply llt_s) <;> exact llt_0) | fail) only [e0, mo_k_v, mo_k_n, mo_v_e, mo_gf_e, mo_pf_e, mo_ia_e, mo_ba_e, mo_za_e, mo_la_e, mo_aa_e, mo_le_e, mo_is_e, mo_bs_e, mo_zs_0, mo_zs_1, mo_ls_e, mo_as_e, mo_na_e, mo_aci_e, mo_acb_e, mo_acj_e, hp_gs, hp_gn, hp_ss, List.getElem?_cons_zero, List.getElem?_cons_succ, List.set_cons_zero, List.set_cons_succ]
  · simp (disch := first | assumption | exact zz_nl_i _ | exact zz_nl_r _ | exact zz_nl_n | exact okv_i _ | exact okv_j _ | exact okv_0 | exact okv_1 | exact okv_o _ _ | exact okv_a _ _ | omega | exact llt_0 | ((repeat apply llt_s) <;> exact llt_0) | fail) only [e3.1, mo_k_v, mo_k_n, mo_v_e, mo_gf_e, mo_pf_e, mo_ia_e, mo_ba_e, mo_za_e, mo_la_e, mo_aa_e, mo_le_e, mo_is_e, mo_bs_e, mo_zs_0, mo_zs_1, mo_ls_e, mo_as_e, mo_na_e, mo_aci_e, mo_acb_e, mo_acj_e, hp_gs, hp_gn, hp_ss, List.getElem?_cons_zero, List.getElem?_cons_succ, List.set_cons_zero, List.set_cons_succ]
  · simp (disch := first | assumption | exact zz_nl_i _ | exact zz_nl_r _ | exact zz_nl_n | exact okv_i _ | exact okv_j _ | exact okv_0 | exact okv_1 | exact okv_o _ _ | exact okv_a _ _ | omega | exact llt_0 | ((repeat apply llt_s) <;> exact llt_0) | fail) only [e3.2.1, mo_k_v, mo_k_n, mo_v_e, mo_gf_e, mo_pf_e, mo_ia_e, mo_ba_e, mo_za_e, mo_la_e, mo_aa_e, mo_le_e, mo_is_e, mo_bs_e, mo_zs_0, mo_zs_1, mo_ls_e, mo_as_e, mo_na_e, mo_aci_e, mo_acb_e, mo_acj_e, hp_gs, hp_gn, hp_ss, List.getElem?_cons_zero, List.getElem?_cons_succ, List.set_cons_zero, List.set_cons_succ]
  · exact hp_gs _ _ _
  · simp (disch := first | assumption | exact zz_nl_i _ | exact zz_nl_r _ | exact zz_nl_n | exact okv_i _ | exact okv_j _ | exact okv_0 | exact okv_1 | exact okv_o _ _ | exact okv_a _ _ | omega | exact llt_0 | ((repeat apply llt_s) <;> exact llt_0) | fail) only [w2, mo_k_v, mo_k_n, mo_v_e, mo_gf_e, mo_pf_e, mo_ia_e, mo_ba_e, mo_za_e, mo_la_e, mo_aa_e, mo_le_e, mo_is_e, mo_bs_e, mo_zs_0, mo_zs_1, mo_ls_e, mo_as_e, mo_na_e, mo_aci_e, mo_acb_e, mo_acj_e, hp_gs, hp_gn, hp_ss, List.getElem?_cons_zero, List.getElem?_cons_succ, List.set_cons_zero, List.set_cons_succ]
  · repeat (first | exact frm_refl _ _ _ | refine frm_s (by omega) ?_)
theorem c_choose_ok (hw : cW h X ((tb, tl), (p, rk, tg, f), (ch, ba), (fk, fp), (an, aw, af), (rs, hd)) (kn, pl, bf, jt, nx, am) im) {v : Nat} {y : Int32} (hv : v < pnv p) (hy : isV 3 y = true) (he : ¬ ch v = y) : ∃ k, zz_run 95 [.ref X, .int (nI v), .int y] h = some (some (.int (nI 0)), k) ∧ cW k X ((tb, tl), (p, rk, tg, f), (upd ch v y, ba), (fk, fp), (an, aw, af), (nI 0, -1)) (jnN (kn, pl, bf, jt, nx, am) (nI 1) (nI v) (ch v) (nI 0)) im ∧ frm h k X (X + 57) := by
  obtain ⟨k1, r1, A1, g1⟩ := cW_jr hw (nI 1) (nI v) (ch v) (nI 0)
  obtain ⟨A2, g2⟩ := cW_ch A1 v y
  obtain ⟨k3, r3, A3, g3⟩ := c_accept A2
  obtain ⟨y0, ⟨z0, z1, z2, z3, z4⟩, _⟩ := A1
  obtain ⟨w0, ⟨e0, e1, e2, e3, e4⟩, w2, w3, w4⟩ := hw
  have q2 := e2.2.1.2.2.2.2.2.2.2.2.2.2
  have h1 := isV_nI (n := pnv p) (by omega) hv
  have vv := c_isValue e2.2.1 (nI v)
  obtain ⟨h2, h3⟩ := isV3 hy
  have t0 := e2.1
  obtain ⟨c0, c1, c2⟩ := e3
  obtain ⟨d0, d1, d2⟩ := z3
  unfold fsO at w0 y0
  unfold evO at e0 z0
  rw [en95 w0]
  simp (disch := first | assumption | exact zz_nl_i _ | exact zz_nl_r _ | exact zz_nl_n | exact okv_i _ | exact okv_j _ | exact okv_0 | exact okv_1 | exact okv_o _ _ | exact okv_a _ _ | omega | exact llt_0 | ((repeat apply llt_s) <;> exact llt_0) | fail) only [x95, w0, e0, t0, vv, h1, h2, h3, bI_t, nI_01, if_false, c0, c1, he, if_true, r1, y0, z0, d0, d1, r3, mo_k_v, mo_k_n, mo_v_e, mo_gf_e, mo_pf_e, mo_ia_e, mo_ba_e, mo_za_e, mo_la_e, mo_aa_e, mo_le_e, mo_is_e, mo_bs_e, mo_zs_0, mo_zs_1, mo_ls_e, mo_as_e, mo_na_e, mo_aci_e, mo_acb_e, mo_acj_e, hp_gs, hp_gn, hp_ss, List.getElem?_cons_zero, List.getElem?_cons_succ, List.set_cons_zero, List.set_cons_succ]
  exact ⟨_, rfl, A3, frm_trans (frm_trans g1 g2) g3⟩
theorem c_go_bad (hw : cW h X ((tb, tl), (p, rk, tg, f), (ch, ba), (fk, fp), (an, aw, af), (rs, hd)) J im) {x : Int32} {b : Bool} (hb : isV (pnh p) x = false) : ∃ k, zz_run 96 [.ref X, .int x, .int (bI b)] h = some (some (.int (nI 1)), k) ∧ cW k X (refE ((tb, tl), (p, rk, tg, f), (ch, ba), (fk, fp), (an, aw, af), (rs, hd)) (nI 1) (-1)) J im ∧ frm h k X (X + 57) := by
  obtain ⟨k, r, A, g⟩ := c_refuse hw (nI 1)
  obtain ⟨w0, ⟨e0, e1, e2, e3, e4⟩, w2, w3, w4⟩ := hw
  have v := c_isHead e2.2.1 x
  have t0 := e2.1
  unfold fsO at w0
  unfold evO at e0
  rw [en96 w0]
  simp (disch := first | assumption | exact zz_nl_i _ | exact zz_nl_r _ | exact zz_nl_n | exact okv_i _ | exact okv_j _ | exact okv_0 | exact okv_1 | exact okv_o _ _ | exact okv_a _ _ | omega | exact llt_0 | ((repeat apply llt_s) <;> exact llt_0) | fail) only [x96, w0, e0, t0, v, hb, bI_f, if_true, r, mo_k_v, mo_k_n, mo_v_e, mo_gf_e, mo_pf_e, mo_ia_e, mo_ba_e, mo_za_e, mo_la_e, mo_aa_e, mo_le_e, mo_is_e, mo_bs_e, mo_zs_0, mo_zs_1, mo_ls_e, mo_as_e, mo_na_e, mo_aci_e, mo_acb_e, mo_acj_e, hp_gs, hp_gn, hp_ss, List.getElem?_cons_zero, List.getElem?_cons_succ, List.set_cons_zero, List.set_cons_succ]
  exact ⟨_, rfl, A, g⟩
theorem c_go_same (hw : cW h X ((tb, tl), (p, rk, tg, f), (ch, ba), (fk, fp), (an, aw, af), (rs, hd)) J im) {v : Nat} {b : Bool} (hv : v < pnh p) (he : ba v = bI b) : ∃ k, zz_run 96 [.ref X, .int (nI v), .int (bI b)] h = some (some (.int (nI 2)), k) ∧ cW k X (refE ((tb, tl), (p, rk, tg, f), (ch, ba), (fk, fp), (an, aw, af), (rs, hd)) (nI 2) (-1)) J im ∧ frm h k X (X + 57) := by
  obtain ⟨k, r, A, g⟩ := c_refuse hw (nI 2)
  obtain ⟨w0, ⟨e0, e1, e2, e3, e4⟩, w2, w3, w4⟩ := hw
  have q1 := e2.2.1.2.2.2.2.2.2.2.2.2.1
  have h1 := isV_nI (n := pnh p) (by omega) hv
  have vv := c_isHead e2.2.1 (nI v)
  have t0 := e2.1
  obtain ⟨c0, c1, c2⟩ := e3
  unfold fsO at w0
  unfold evO at e0
  rw [en96 w0]
  cases b
  · rw [bI_f] at he
    simp (disch := first | assumption | exact zz_nl_i _ | exact zz_nl_r _ | exact zz_nl_n | exact okv_i _ | exact okv_j _ | exact okv_0 | exact okv_1 | exact okv_o _ _ | exact okv_a _ _ | omega | exact llt_0 | ((repeat apply llt_s) <;> exact llt_0) | fail) only [x96, w0, e0, t0, vv, h1, bI_t, bI_f, nI_01, if_false, c0, c2, he, if_true, r, mo_k_v, mo_k_n, mo_v_e, mo_gf_e, mo_pf_e, mo_ia_e, mo_ba_e, mo_za_e, mo_la_e, mo_aa_e, mo_le_e, mo_is_e, mo_bs_e, mo_zs_0, mo_zs_1, mo_ls_e, mo_as_e, mo_na_e, mo_aci_e, mo_acb_e, mo_acj_e, hp_gs, hp_gn, hp_ss, List.getElem?_cons_zero, List.getElem?_cons_succ, List.set_cons_zero, List.set_cons_succ]
    exact ⟨_, rfl, A, g⟩
  · rw [bI_t] at he
    simp (disch := first | assumption | exact zz_nl_i _ | exact zz_nl_r _ | exact zz_nl_n | exact okv_i _ | exact okv_j _ | exact okv_0 | exact okv_1 | exact okv_o _ _ | exact okv_a _ _ | omega | exact llt_0 | ((repeat apply llt_s) <;> exact llt_0) | fail) only [x96, w0, e0, t0, vv, h1, bI_t, bI_f, nI_01, if_false, c0, c2, he, if_true, r, mo_k_v, mo_k_n, mo_v_e, mo_gf_e, mo_pf_e, mo_ia_e, mo_ba_e, mo_za_e, mo_la_e, mo_aa_e, mo_le_e, mo_is_e, mo_bs_e, mo_zs_0, mo_zs_1, mo_ls_e, mo_as_e, mo_na_e, mo_aci_e, mo_acb_e, mo_acj_e, hp_gs, hp_gn, hp_ss, List.getElem?_cons_zero, List.getElem?_cons_succ, List.set_cons_zero, List.set_cons_succ]
    exact ⟨_, rfl, A, g⟩
theorem c_go_ok (hw : cW h X ((tb, tl), (p, rk, tg, f), (ch, ba), (fk, fp), (an, aw, af), (rs, hd)) (kn, pl, bf, jt, nx, am) im) {v : Nat} {b : Bool} (hv : v < pnh p) (he : ¬ ba v = bI b) : ∃ k, zz_run 96 [.ref X, .int (nI v), .int (bI b)] h = some (some (.int (nI 0)), k) ∧ cW k X ((tb, tl), (p, rk, tg, f), (ch, upd ba v (bI b)), (fk, fp), (an, aw, af), (nI 0, -1)) (jnN (kn, pl, bf, jt, nx, am) (nI 2) (nI v) (ba v) (nI 0)) im ∧ frm h k X (X + 57) := by
  obtain ⟨k1, r1, A1, g1⟩ := cW_jr hw (nI 2) (nI v) (ba v) (nI 0)
  obtain ⟨A2, g2⟩ := cW_ba A1 v (bI b)
  obtain ⟨k3, r3, A3, g3⟩ := c_accept A2
  obtain ⟨y0, ⟨z0, z1, z2, z3, z4⟩, _⟩ := A1
  obtain ⟨w0, ⟨e0, e1, e2, e3, e4⟩, w2, w3, w4⟩ := hw
  have q1 := e2.2.1.2.2.2.2.2.2.2.2.2.1
  have h1 := isV_nI (n := pnh p) (by omega) hv
  have vv := c_isHead e2.2.1 (nI v)
  have t0 := e2.1
  obtain ⟨c0, c1, c2⟩ := e3
  obtain ⟨d0, d1, d2⟩ := z3
  unfold fsO at w0 y0
  unfold evO at e0 z0
  rw [en96 w0]
  cases b
  · rw [bI_f] at he r3
    simp (disch := first | assumption | exact zz_nl_i _ | exact zz_nl_r _ | exact zz_nl_n | exact okv_i _ | exact okv_j _ | exact okv_0 | exact okv_1 | exact okv_o _ _ | exact okv_a _ _ | omega | exact llt_0 | ((repeat apply llt_s) <;> exact llt_0) | fail) only [x96, w0, e0, t0, vv, h1, bI_t, bI_f, nI_01, if_false, c0, c2, he, if_true, r1, y0, z0, d0, d2, r3, mo_k_v, mo_k_n, mo_v_e, mo_gf_e, mo_pf_e, mo_ia_e, mo_ba_e, mo_za_e, mo_la_e, mo_aa_e, mo_le_e, mo_is_e, mo_bs_e, mo_zs_0, mo_zs_1, mo_ls_e, mo_as_e, mo_na_e, mo_aci_e, mo_acb_e, mo_acj_e, hp_gs, hp_gn, hp_ss, List.getElem?_cons_zero, List.getElem?_cons_succ, List.set_cons_zero, List.set_cons_succ]
    exact ⟨_, rfl, A3, frm_trans (frm_trans g1 g2) g3⟩
  · rw [bI_t] at he r3
    simp (disch := first | assumption | exact zz_nl_i _ | exact zz_nl_r _ | exact zz_nl_n | exact okv_i _ | exact okv_j _ | exact okv_0 | exact okv_1 | exact okv_o _ _ | exact okv_a _ _ | omega | exact llt_0 | ((repeat apply llt_s) <;> exact llt_0) | fail) only [x96, w0, e0, t0, vv, h1, bI_t, bI_f, nI_01, if_false, c0, c2, he, if_true, r1, y0, z0, d0, d2, r3, mo_k_v, mo_k_n, mo_v_e, mo_gf_e, mo_pf_e, mo_ia_e, mo_ba_e, mo_za_e, mo_la_e, mo_aa_e, mo_le_e, mo_is_e, mo_bs_e, mo_zs_0, mo_zs_1, mo_ls_e, mo_as_e, mo_na_e, mo_aci_e, mo_acb_e, mo_acj_e, hp_gs, hp_gn, hp_ss, List.getElem?_cons_zero, List.getElem?_cons_succ, List.set_cons_zero, List.set_cons_succ]
    exact ⟨_, rfl, A3, frm_trans (frm_trans g1 g2) g3⟩
/-! taking back -/
theorem c_undo_no (hw : cW h X ((tb, tl), (p, rk, tg, f), (ch, ba), (fk, fp), (an, aw, af), (rs, hd)) (kn, pl, bf, jt, nx, 0) im) : zz_run 99 [.ref X] h = some (some (.int (-1)), h) := by
  obtain ⟨w0, w1, w2, w3, w4⟩ := hw
  have j0 := w3.1
  unfold fsO at w0
  unfold jrO at j0
  rw [en99 w0]
  simp (disch := first | assumption | exact zz_nl_i _ | exact zz_nl_r _ | exact zz_nl_n | exact okv_i _ | exact okv_j _ | exact okv_0 | exact okv_1 | exact okv_o _ _ | exact okv_a _ _ | omega | exact llt_0 | ((repeat apply llt_s) <;> exact llt_0) | fail) only [x99, w0, j0, if_true, mo_k_v, mo_k_n, mo_v_e, mo_gf_e, mo_pf_e, mo_ia_e, mo_ba_e, mo_za_e, mo_la_e, mo_aa_e, mo_le_e, mo_is_e, mo_bs_e, mo_zs_0, mo_zs_1, mo_ls_e, mo_as_e, mo_na_e, mo_aci_e, mo_acb_e, mo_acj_e, hp_gs, hp_gn, hp_ss, List.getElem?_cons_zero, List.getElem?_cons_succ, List.set_cons_zero, List.set_cons_succ]
theorem cW_jo (hw : cW h X ((tb, tl), (p, rk, tg, f), (ch, ba), (fk, fp), (an, aw, af), (rs, hd)) (kn, pl, bf, jt, nx, am) im) {n a : Nat} (hn : n < 10) (ha : a ≤ 10) : cW (hp_s h (X + 24) (jrO (X + 24) n a)) X ((tb, tl), (p, rk, tg, f), (ch, ba), (fk, fp), (an, aw, af), (rs, hd)) (kn, pl, bf, jt, n, a) im ∧ frm h (hp_s h (X + 24) (jrO (X + 24) n a)) X (X + 57) := by
  obtain ⟨w0, w1, w2, ⟨j0, j1, j2, j3, j4, b1, b2⟩, w4⟩ := hw
  refine ⟨⟨?_, isEv_sam w1 (fun b h1 h2 => hp_gn (by omega)), ?_, ⟨hp_gs _ _ _, ?_, ?_, ?_, ?_, hn, ha⟩, rst_sam w4 (fun b h1 h2 => hp_gn (by omega))⟩, ?_⟩
  · simp (disch := first | assumption | exact zz_nl_i _ | exact zz_nl_r _ | exact zz_nl_n | exact okv_i _ | exact okv_j _ | exact okv_0 | exact okv_1 | exact okv_o _ _ | exact okv_a _ _ | omega | exact llt_0 | ((repeat apply llt_s) <;> exact llt_0) | fail) only [w0, mo_k_v, mo_k_n, mo_v_e, mo_gf_e, mo_pf_e, mo_ia_e, mo_ba_e, mo_za_e, mo_la_e, mo_aa_e, mo_le_e, mo_is_e, mo_bs_e, mo_zs_0, mo_zs_1, mo_ls_e, mo_as_e, mo_na_e, mo_aci_e, mo_acb_e, mo_acj_e, hp_gs, hp_gn, hp_ss, List.getElem?_cons_zero, List.getElem?_cons_succ, List.set_cons_zero, List.set_cons_succ]
  · simp (disch := first | assumption | exact zz_nl_i _ | exact zz_nl_r _ | exact zz_nl_n | exact okv_i _ | exact okv_j _ | exact okv_0 | exact okv_1 | exact okv_o _ _ | exact okv_a _ _ | omega | exact llt_0 | ((repeat apply llt_s) <;> exact llt_0) | fail) only [w2, mo_k_v, mo_k_n, mo_v_e, mo_gf_e, mo_pf_e, mo_ia_e, mo_ba_e, mo_za_e, mo_la_e, mo_aa_e, mo_le_e, mo_is_e, mo_bs_e, mo_zs_0, mo_zs_1, mo_ls_e, mo_as_e, mo_na_e, mo_aci_e, mo_acb_e, mo_acj_e, hp_gs, hp_gn, hp_ss, List.getElem?_cons_zero, List.getElem?_cons_succ, List.set_cons_zero, List.set_cons_succ]
  · simp (disch := first | assumption | exact zz_nl_i _ | exact zz_nl_r _ | exact zz_nl_n | exact okv_i _ | exact okv_j _ | exact okv_0 | exact okv_1 | exact okv_o _ _ | exact okv_a _ _ | omega | exact llt_0 | ((repeat apply llt_s) <;> exact llt_0) | fail) only [j1, mo_k_v, mo_k_n, mo_v_e, mo_gf_e, mo_pf_e, mo_ia_e, mo_ba_e, mo_za_e, mo_la_e, mo_aa_e, mo_le_e, mo_is_e, mo_bs_e, mo_zs_0, mo_zs_1, mo_ls_e, mo_as_e, mo_na_e, mo_aci_e, mo_acb_e, mo_acj_e, hp_gs, hp_gn, hp_ss, List.getElem?_cons_zero, List.getElem?_cons_succ, List.set_cons_zero, List.set_cons_succ]
  · simp (disch := first | assumption | exact zz_nl_i _ | exact zz_nl_r _ | exact zz_nl_n | exact okv_i _ | exact okv_j _ | exact okv_0 | exact okv_1 | exact okv_o _ _ | exact okv_a _ _ | omega | exact llt_0 | ((repeat apply llt_s) <;> exact llt_0) | fail) only [j2, mo_k_v, mo_k_n, mo_v_e, mo_gf_e, mo_pf_e, mo_ia_e, mo_ba_e, mo_za_e, mo_la_e, mo_aa_e, mo_le_e, mo_is_e, mo_bs_e, mo_zs_0, mo_zs_1, mo_ls_e, mo_as_e, mo_na_e, mo_aci_e, mo_acb_e, mo_acj_e, hp_gs, hp_gn, hp_ss, List.getElem?_cons_zero, List.getElem?_cons_succ, List.set_cons_zero, List.set_cons_succ]
  · simp (disch := first | assumption | exact zz_nl_i _ | exact zz_nl_r _ | exact zz_nl_n | exact okv_i _ | exact okv_j _ | exact okv_0 | exact okv_1 | exact okv_o _ _ | exact okv_a _ _ | omega | exact llt_0 | ((repeat apply llt_s) <;> exact llt_0) | fail) only [j3, mo_k_v, mo_k_n, mo_v_e, mo_gf_e, mo_pf_e, mo_ia_e, mo_ba_e, mo_za_e, mo_la_e, mo_aa_e, mo_le_e, mo_is_e, mo_bs_e, mo_zs_0, mo_zs_1, mo_ls_e, mo_as_e, mo_na_e, mo_aci_e, mo_acb_e, mo_acj_e, hp_gs, hp_gn, hp_ss, List.getElem?_cons_zero, List.getElem?_cons_succ, List.set_cons_zero, List.set_cons_succ]
  · simp (disch := first | assumption | exact zz_nl_i _ | exact zz_nl_r _ | exact zz_nl_n | exact okv_i _ | exact okv_j _ | exact okv_0 | exact okv_1 | exact okv_o _ _ | exact okv_a _ _ | omega | exact llt_0 | ((repeat apply llt_s) <;> exact llt_0) | fail) only [j4, mo_k_v, mo_k_n, mo_v_e, mo_gf_e, mo_pf_e, mo_ia_e, mo_ba_e, mo_za_e, mo_la_e, mo_aa_e, mo_le_e, mo_is_e, mo_bs_e, mo_zs_0, mo_zs_1, mo_ls_e, mo_as_e, mo_na_e, mo_aci_e, mo_acb_e, mo_acj_e, hp_gs, hp_gn, hp_ss, List.getElem?_cons_zero, List.getElem?_cons_succ, List.set_cons_zero, List.set_cons_succ]
  · repeat (first | exact frm_refl _ _ _ | refine frm_s (by omega) ?_)
/-- the place in the ring of the latest -/
def jLast (nx : Nat) : Nat := (nx + 9) % 10
theorem c_undo_rec (hw : cW h X ((tb, tl), (p, rk, tg, f), (ch, ba), (fk, fp), (an, aw, af), (rs, hd)) (kn, pl, bf, jt, nx, am) im) (ha : 0 < am) {q : Nat} (hq : q < 256) (h1 : kn (jLast nx) = nI 0) (h2 : pl (jLast nx) = nI q) : ∃ k, zz_run 99 [.ref X] h = some (some (.int (nI (am - 1))), k) ∧ cW k X ((tb, tl), (p, upd rk q (bf (jLast nx)), upd tg q (jt (jLast nx)), putF f (pnv p) q (!decide (bf (jLast nx) = -1)) (linOf p (jt (jLast nx)) (pnv p))), (ch, ba), (fk, fp), (an, aw, af), (rs, hd)) (kn, pl, bf, jt, jLast nx, am - 1) im ∧ frm h k X (X + 57) := by
  have b1 := hw.2.2.2.1.2.2.2.2.2.1
  have b2 := hw.2.2.2.1.2.2.2.2.2.2
  have hl : jLast nx < 10 := Nat.mod_lt _ (by omega)
  obtain ⟨A1, g1⟩ := cW_jo hw hl (show am - 1 ≤ 10 by omega)
  obtain ⟨y0, ⟨z0, z1, z2, z3, z4⟩, y2, y3, y4⟩ := A1
  obtain ⟨k2, r2, s2, g2⟩ := c_put' z2 hq (bf (jLast nx)) (jt (jLast nx))
  have A2 : cW k2 X ((tb, tl), (p, upd rk q (bf (jLast nx)), upd tg q (jt (jLast nx)), putF f (pnv p) q (!decide (bf (jLast nx) = -1)) (linOf p (jt (jLast nx)) (pnv p))), (ch, ba), (fk, fp), (an, aw, af), (rs, hd)) (kn, pl, bf, jt, jLast nx, am - 1) im := ⟨(g2.2.2.2 _ (by omega)).trans y0, ⟨(g2.2.2.2 _ (by omega)).trans z0, isTape_sam z1 (frm_sam g2 (by omega)), s2, isChoice_sam z3 (frm_sam g2 (by omega)), isSets_sam z4 (frm_sam g2 (by omega))⟩, (g2.2.2.2 _ (by omega)).trans y2, isJr_sam y3 (frm_sam g2 (by omega)), rst_sam y4 (frm_sam g2 (by omega))⟩
  have u0 := A2.2.2.2.1.1
  obtain ⟨w0, ⟨e0, e1, e2, e3, e4⟩, w2, ⟨j0, j1, j2, j3, j4, _⟩, w4⟩ := hw
  have n10 : ¬ nI 10 = 0 := by decide +kernel
  have s1 : nI (nx + 10) - nI 1 = nI (nx + 9) := pk_sub (by omega)
  have er : nI (nx + 9) - nI (nx + 9) / nI 10 * nI 10 = nI (jLast nx) := pk_rem (by omega) (by omega) (by omega)
  have s3 : nI am - nI 1 = nI (am - 1) := pk_sub (by omega)
  have tb1 : zz_run 100 [.ref (X + 24), .ref (X + 1)] h = some (none, k2) := by
    unfold jrO at j0 r2
    unfold evO at e0
    rw [en100 j0]
    simp (disch := first | assumption | exact zz_nl_i _ | exact zz_nl_r _ | exact zz_nl_n | exact okv_i _ | exact okv_j _ | exact okv_0 | exact okv_1 | exact okv_o _ _ | exact okv_a _ _ | omega | exact llt_0 | ((repeat apply llt_s) <;> exact llt_0) | fail) only [x100_p0, x100_p1, j0, nI_add, s1, n10, er, s3, nI_ltI, Nat.not_lt_zero, if_false, j1, j2, j3, j4, h1, h2, if_true, e0, r2, mo_k_v, mo_k_n, mo_v_e, mo_gf_e, mo_pf_e, mo_ia_e, mo_ba_e, mo_za_e, mo_la_e, mo_aa_e, mo_le_e, mo_is_e, mo_bs_e, mo_zs_0, mo_zs_1, mo_ls_e, mo_as_e, mo_na_e, mo_aci_e, mo_acb_e, mo_acj_e, hp_gs, hp_gn, hp_ss, List.getElem?_cons_zero, List.getElem?_cons_succ, List.set_cons_zero, List.set_cons_succ]
  have n0 : ¬ nI am = nI 0 := by rw [nI_eq (by omega) (by omega)]; omega
  have u1 := A2.1
  unfold fsO at w0 u1
  unfold jrO at j0 u0
  rw [en99 w0]
  simp (disch := first | assumption | exact zz_nl_i _ | exact zz_nl_r _ | exact zz_nl_n | exact okv_i _ | exact okv_j _ | exact okv_0 | exact okv_1 | exact okv_o _ _ | exact okv_a _ _ | omega | exact llt_0 | ((repeat apply llt_s) <;> exact llt_0) | fail) only [x99, w0, j0, n0, if_false, tb1, u1, u0, mo_k_v, mo_k_n, mo_v_e, mo_gf_e, mo_pf_e, mo_ia_e, mo_ba_e, mo_za_e, mo_la_e, mo_aa_e, mo_le_e, mo_is_e, mo_bs_e, mo_zs_0, mo_zs_1, mo_ls_e, mo_as_e, mo_na_e, mo_aci_e, mo_acb_e, mo_acj_e, hp_gs, hp_gn, hp_ss, List.getElem?_cons_zero, List.getElem?_cons_succ, List.set_cons_zero, List.set_cons_succ]
  exact ⟨_, rfl, A2, frm_trans g1 (frm_mono g2 (by omega) (by omega))⟩
theorem c_undo_ch (hw : cW h X ((tb, tl), (p, rk, tg, f), (ch, ba), (fk, fp), (an, aw, af), (rs, hd)) (kn, pl, bf, jt, nx, am) im) (ha : 0 < am) {v : Nat} (hv : v < 20) (h1 : kn (jLast nx) = nI 1) (h2 : pl (jLast nx) = nI v) : ∃ k, zz_run 99 [.ref X] h = some (some (.int (nI (am - 1))), k) ∧ cW k X ((tb, tl), (p, rk, tg, f), (upd ch v (bf (jLast nx)), ba), (fk, fp), (an, aw, af), (rs, hd)) (kn, pl, bf, jt, jLast nx, am - 1) im ∧ frm h k X (X + 57) := by
  have b1 := hw.2.2.2.1.2.2.2.2.2.1
  have b2 := hw.2.2.2.1.2.2.2.2.2.2
  have hl : jLast nx < 10 := Nat.mod_lt _ (by omega)
  obtain ⟨A1, g1⟩ := cW_jo hw hl (show am - 1 ≤ 10 by omega)
  obtain ⟨A2, g2⟩ := cW_ch A1 v (bf (jLast nx))
  have u0 := A2.2.2.2.1.1
  obtain ⟨w0, ⟨e0, e1, e2, ⟨c0, c1, c2⟩, e4⟩, w2, ⟨j0, j1, j2, j3, j4, _⟩, w4⟩ := hw
  have n10 : ¬ nI 10 = 0 := by decide +kernel
  have s1 : nI (nx + 10) - nI 1 = nI (nx + 9) := pk_sub (by omega)
  have er : nI (nx + 9) - nI (nx + 9) / nI 10 * nI 10 = nI (jLast nx) := pk_rem (by omega) (by omega) (by omega)
  have s3 : nI am - nI 1 = nI (am - 1) := pk_sub (by omega)
  have tb1 : zz_run 100 [.ref (X + 24), .ref (X + 1)] h = some (none, hp_s (hp_s h (X + 24) (jrO (X + 24) (jLast nx) (am - 1))) (X + 18 + 1) (.inl (.int, 20, .inl (upd ch v (bf (jLast nx)))))) := by
    unfold jrO at j0
    unfold evO at e0
    rw [en100 j0]
    simp (disch := first | assumption | exact zz_nl_i _ | exact zz_nl_r _ | exact zz_nl_n | exact okv_i _ | exact okv_j _ | exact okv_0 | exact okv_1 | exact okv_o _ _ | exact okv_a _ _ | omega | exact llt_0 | ((repeat apply llt_s) <;> exact llt_0) | fail) only [x100_p0, x100_p1, j0, nI_add, s1, n10, er, s3, nI_ltI, Nat.not_lt_zero, if_false, j1, j2, j3, j4, h1, h2, nI_01, if_true, e0, c0, c1, mo_k_v, mo_k_n, mo_v_e, mo_gf_e, mo_pf_e, mo_ia_e, mo_ba_e, mo_za_e, mo_la_e, mo_aa_e, mo_le_e, mo_is_e, mo_bs_e, mo_zs_0, mo_zs_1, mo_ls_e, mo_as_e, mo_na_e, mo_aci_e, mo_acb_e, mo_acj_e, hp_gs, hp_gn, hp_ss, List.getElem?_cons_zero, List.getElem?_cons_succ, List.set_cons_zero, List.set_cons_succ]
    rfl
  have n0 : ¬ nI am = nI 0 := by rw [nI_eq (by omega) (by omega)]; omega
  have u1 := A2.1
  unfold fsO at w0 u1
  unfold jrO at j0 u0
  rw [en99 w0]
  simp (disch := first | assumption | exact zz_nl_i _ | exact zz_nl_r _ | exact zz_nl_n | exact okv_i _ | exact okv_j _ | exact okv_0 | exact okv_1 | exact okv_o _ _ | exact okv_a _ _ | omega | exact llt_0 | ((repeat apply llt_s) <;> exact llt_0) | fail) only [x99, w0, j0, n0, if_false, tb1, u1, jrO, mo_k_v, mo_k_n, mo_v_e, mo_gf_e, mo_pf_e, mo_ia_e, mo_ba_e, mo_za_e, mo_la_e, mo_aa_e, mo_le_e, mo_is_e, mo_bs_e, mo_zs_0, mo_zs_1, mo_ls_e, mo_as_e, mo_na_e, mo_aci_e, mo_acb_e, mo_acj_e, hp_gs, hp_gn, hp_ss, List.getElem?_cons_zero, List.getElem?_cons_succ, List.set_cons_zero, List.set_cons_succ]
  exact ⟨_, rfl, A2, frm_trans g1 g2⟩
theorem c_undo_ba (hw : cW h X ((tb, tl), (p, rk, tg, f), (ch, ba), (fk, fp), (an, aw, af), (rs, hd)) (kn, pl, bf, jt, nx, am) im) (ha : 0 < am) {v : Nat} (hv : v < 4) (h1 : kn (jLast nx) = nI 2) (h2 : pl (jLast nx) = nI v) : ∃ k, zz_run 99 [.ref X] h = some (some (.int (nI (am - 1))), k) ∧ cW k X ((tb, tl), (p, rk, tg, f), (ch, upd ba v (bf (jLast nx))), (fk, fp), (an, aw, af), (rs, hd)) (kn, pl, bf, jt, jLast nx, am - 1) im ∧ frm h k X (X + 57) := by
  have b1 := hw.2.2.2.1.2.2.2.2.2.1
  have b2 := hw.2.2.2.1.2.2.2.2.2.2
  have hl : jLast nx < 10 := Nat.mod_lt _ (by omega)
  obtain ⟨A1, g1⟩ := cW_jo hw hl (show am - 1 ≤ 10 by omega)
  obtain ⟨A2, g2⟩ := cW_ba A1 v (bf (jLast nx))
  have u0 := A2.2.2.2.1.1
  obtain ⟨w0, ⟨e0, e1, e2, ⟨c0, c1, c2⟩, e4⟩, w2, ⟨j0, j1, j2, j3, j4, _⟩, w4⟩ := hw
  have n10 : ¬ nI 10 = 0 := by decide +kernel
  have n20 : ¬ nI 2 = nI 0 := by decide +kernel
  have n21 : ¬ nI 2 = nI 1 := by decide +kernel
  have s1 : nI (nx + 10) - nI 1 = nI (nx + 9) := pk_sub (by omega)
  have er : nI (nx + 9) - nI (nx + 9) / nI 10 * nI 10 = nI (jLast nx) := pk_rem (by omega) (by omega) (by omega)
  have s3 : nI am - nI 1 = nI (am - 1) := pk_sub (by omega)
  have tb1 : zz_run 100 [.ref (X + 24), .ref (X + 1)] h = some (none, hp_s (hp_s h (X + 24) (jrO (X + 24) (jLast nx) (am - 1))) (X + 18 + 2) (.inl (.int, 4, .inl (upd ba v (bf (jLast nx)))))) := by
    unfold jrO at j0
    unfold evO at e0
    rw [en100 j0]
    simp (disch := first | assumption | exact zz_nl_i _ | exact zz_nl_r _ | exact zz_nl_n | exact okv_i _ | exact okv_j _ | exact okv_0 | exact okv_1 | exact okv_o _ _ | exact okv_a _ _ | omega | exact llt_0 | ((repeat apply llt_s) <;> exact llt_0) | fail) only [x100_p0, x100_p1, j0, nI_add, s1, n10, er, s3, nI_ltI, Nat.not_lt_zero, if_false, j1, j2, j3, j4, h1, h2, n20, n21, if_true, e0, c0, c2, mo_k_v, mo_k_n, mo_v_e, mo_gf_e, mo_pf_e, mo_ia_e, mo_ba_e, mo_za_e, mo_la_e, mo_aa_e, mo_le_e, mo_is_e, mo_bs_e, mo_zs_0, mo_zs_1, mo_ls_e, mo_as_e, mo_na_e, mo_aci_e, mo_acb_e, mo_acj_e, hp_gs, hp_gn, hp_ss, List.getElem?_cons_zero, List.getElem?_cons_succ, List.set_cons_zero, List.set_cons_succ]
    rfl
  have n0 : ¬ nI am = nI 0 := by rw [nI_eq (by omega) (by omega)]; omega
  have u1 := A2.1
  unfold fsO at w0 u1
  unfold jrO at j0 u0
  rw [en99 w0]
  simp (disch := first | assumption | exact zz_nl_i _ | exact zz_nl_r _ | exact zz_nl_n | exact okv_i _ | exact okv_j _ | exact okv_0 | exact okv_1 | exact okv_o _ _ | exact okv_a _ _ | omega | exact llt_0 | ((repeat apply llt_s) <;> exact llt_0) | fail) only [x99, w0, j0, n0, if_false, tb1, u1, jrO, mo_k_v, mo_k_n, mo_v_e, mo_gf_e, mo_pf_e, mo_ia_e, mo_ba_e, mo_za_e, mo_la_e, mo_aa_e, mo_le_e, mo_is_e, mo_bs_e, mo_zs_0, mo_zs_1, mo_ls_e, mo_as_e, mo_na_e, mo_aci_e, mo_acb_e, mo_acj_e, hp_gs, hp_gn, hp_ss, List.getElem?_cons_zero, List.getElem?_cons_succ, List.set_cons_zero, List.set_cons_succ]
  exact ⟨_, rfl, A2, frm_trans g1 g2⟩
/-! reading simple things, the tape -/
theorem c_fault0 (hw : cW h X ((tb, tl), (p, rk, tg, f), (ch, ba), (fk, fp), (an, aw, af), (rs, hd)) J im) : zz_run 83 [.ref X, .int (nI 0)] h = some (some (.int fk), h) := by
  obtain ⟨w0, ⟨e0, e1, e2, e3, e4⟩, w2, w3, w4⟩ := hw
  unfold fsO at w0
  unfold evO at e0
  rw [en83 w0]
  simp (disch := first | assumption | exact zz_nl_i _ | exact zz_nl_r _ | exact zz_nl_n | exact okv_i _ | exact okv_j _ | exact okv_0 | exact okv_1 | exact okv_o _ _ | exact okv_a _ _ | omega | exact llt_0 | ((repeat apply llt_s) <;> exact llt_0) | fail) only [x83, zz_sw, w0, e0, if_true, mo_k_v, mo_k_n, mo_v_e, mo_gf_e, mo_pf_e, mo_ia_e, mo_ba_e, mo_za_e, mo_la_e, mo_aa_e, mo_le_e, mo_is_e, mo_bs_e, mo_zs_0, mo_zs_1, mo_ls_e, mo_as_e, mo_na_e, mo_aci_e, mo_acb_e, mo_acj_e, hp_gs, hp_gn, hp_ss, List.getElem?_cons_zero, List.getElem?_cons_succ, List.set_cons_zero, List.set_cons_succ]
theorem c_fault1 (hw : cW h X ((tb, tl), (p, rk, tg, f), (ch, ba), (fk, fp), (an, aw, af), (rs, hd)) J im) : zz_run 83 [.ref X, .int (nI 1)] h = some (some (.int fp), h) := by
  obtain ⟨w0, ⟨e0, e1, e2, e3, e4⟩, w2, w3, w4⟩ := hw
  unfold fsO at w0
  unfold evO at e0
  rw [en83 w0]
  simp (disch := first | assumption | exact zz_nl_i _ | exact zz_nl_r _ | exact zz_nl_n | exact okv_i _ | exact okv_j _ | exact okv_0 | exact okv_1 | exact okv_o _ _ | exact okv_a _ _ | omega | exact llt_0 | ((repeat apply llt_s) <;> exact llt_0) | fail) only [x83, zz_sw, w0, e0, nI_01, if_false, if_true, mo_k_v, mo_k_n, mo_v_e, mo_gf_e, mo_pf_e, mo_ia_e, mo_ba_e, mo_za_e, mo_la_e, mo_aa_e, mo_le_e, mo_is_e, mo_bs_e, mo_zs_0, mo_zs_1, mo_ls_e, mo_as_e, mo_na_e, mo_aci_e, mo_acb_e, mo_acj_e, hp_gs, hp_gn, hp_ss, List.getElem?_cons_zero, List.getElem?_cons_succ, List.set_cons_zero, List.set_cons_succ]
theorem c_fault2 (hw : cW h X ((tb, tl), (p, rk, tg, f), (ch, ba), (fk, fp), (an, aw, af), (rs, hd)) J im) {x : Int32} (h0 : ¬ x = nI 0) (h1 : ¬ x = nI 1) : zz_run 83 [.ref X, .int x] h = some (some (.int (-1)), h) := by
  obtain ⟨w0, ⟨e0, e1, e2, e3, e4⟩, w2, w3, w4⟩ := hw
  rw [en83 w0]
  simp (disch := first | assumption | exact zz_nl_i _ | exact zz_nl_r _ | exact zz_nl_n | exact okv_i _ | exact okv_j _ | exact okv_0 | exact okv_1 | exact okv_o _ _ | exact okv_a _ _ | omega | exact llt_0 | ((repeat apply llt_s) <;> exact llt_0) | fail) only [x83, zz_sw, h0, h1, if_false, mo_k_v, mo_k_n, mo_v_e, mo_gf_e, mo_pf_e, mo_ia_e, mo_ba_e, mo_za_e, mo_la_e, mo_aa_e, mo_le_e, mo_is_e, mo_bs_e, mo_zs_0, mo_zs_1, mo_ls_e, mo_as_e, mo_na_e, mo_aci_e, mo_acb_e, mo_acj_e, hp_gs, hp_gn, hp_ss, List.getElem?_cons_zero, List.getElem?_cons_succ, List.set_cons_zero, List.set_cons_succ]
theorem cW_tl (hw : cW h X ((tb, tl), (p, rk, tg, f), (ch, ba), (fk, fp), (an, aw, af), (rs, hd)) J im) {n : Nat} (hn : n ≤ 600) : cW (hp_s h (X + 1 + 1) (.inr (8, [.ref (X + 1 + 1 + 1), .int (nI n)]))) X ((tb, n), (p, rk, tg, f), (ch, ba), (fk, fp), (an, aw, af), (rs, hd)) J im ∧ frm h (hp_s h (X + 1 + 1) (.inr (8, [.ref (X + 1 + 1 + 1), .int (nI n)]))) X (X + 57) := by
  obtain ⟨w0, ⟨e0, e1, e2, e3, e4⟩, w2, w3, w4⟩ := hw
  refine ⟨⟨?_, ⟨?_, ⟨hp_gs _ _ _, ?_, hn⟩, isStock_s e2 (by omega), isChoice_s e3 (by omega), isSets_s e4 (by omega)⟩, ?_, isJn_sam w3 (fun b h1 h2 => hp_gn (by omega)), rst_sam w4 (fun b h1 h2 => hp_gn (by omega))⟩, ?_⟩
  · simp (disch := first | assumption | exact zz_nl_i _ | exact zz_nl_r _ | exact zz_nl_n | exact okv_i _ | exact okv_j _ | exact okv_0 | exact okv_1 | exact okv_o _ _ | exact okv_a _ _ | omega | exact llt_0 | ((repeat apply llt_s) <;> exact llt_0) | fail) only [w0, mo_k_v, mo_k_n, mo_v_e, mo_gf_e, mo_pf_e, mo_ia_e, mo_ba_e, mo_za_e, mo_la_e, mo_aa_e, mo_le_e, mo_is_e, mo_bs_e, mo_zs_0, mo_zs_1, mo_ls_e, mo_as_e, mo_na_e, mo_aci_e, mo_acb_e, mo_acj_e, hp_gs, hp_gn, hp_ss, List.getElem?_cons_zero, List.getElem?_cons_succ, List.set_cons_zero, List.set_cons_succ]
  · simp (disch := first | assumption | exact zz_nl_i _ | exact zz_nl_r _ | exact zz_nl_n | exact okv_i _ | exact okv_j _ | exact okv_0 | exact okv_1 | exact okv_o _ _ | exact okv_a _ _ | omega | exact llt_0 | ((repeat apply llt_s) <;> exact llt_0) | fail) only [e0, mo_k_v, mo_k_n, mo_v_e, mo_gf_e, mo_pf_e, mo_ia_e, mo_ba_e, mo_za_e, mo_la_e, mo_aa_e, mo_le_e, mo_is_e, mo_bs_e, mo_zs_0, mo_zs_1, mo_ls_e, mo_as_e, mo_na_e, mo_aci_e, mo_acb_e, mo_acj_e, hp_gs, hp_gn, hp_ss, List.getElem?_cons_zero, List.getElem?_cons_succ, List.set_cons_zero, List.set_cons_succ]
  · simp (disch := first | assumption | exact zz_nl_i _ | exact zz_nl_r _ | exact zz_nl_n | exact okv_i _ | exact okv_j _ | exact okv_0 | exact okv_1 | exact okv_o _ _ | exact okv_a _ _ | omega | exact llt_0 | ((repeat apply llt_s) <;> exact llt_0) | fail) only [e1.2.1, mo_k_v, mo_k_n, mo_v_e, mo_gf_e, mo_pf_e, mo_ia_e, mo_ba_e, mo_za_e, mo_la_e, mo_aa_e, mo_le_e, mo_is_e, mo_bs_e, mo_zs_0, mo_zs_1, mo_ls_e, mo_as_e, mo_na_e, mo_aci_e, mo_acb_e, mo_acj_e, hp_gs, hp_gn, hp_ss, List.getElem?_cons_zero, List.getElem?_cons_succ, List.set_cons_zero, List.set_cons_succ]
  · simp (disch := first | assumption | exact zz_nl_i _ | exact zz_nl_r _ | exact zz_nl_n | exact okv_i _ | exact okv_j _ | exact okv_0 | exact okv_1 | exact okv_o _ _ | exact okv_a _ _ | omega | exact llt_0 | ((repeat apply llt_s) <;> exact llt_0) | fail) only [w2, mo_k_v, mo_k_n, mo_v_e, mo_gf_e, mo_pf_e, mo_ia_e, mo_ba_e, mo_za_e, mo_la_e, mo_aa_e, mo_le_e, mo_is_e, mo_bs_e, mo_zs_0, mo_zs_1, mo_ls_e, mo_as_e, mo_na_e, mo_aci_e, mo_acb_e, mo_acj_e, hp_gs, hp_gn, hp_ss, List.getElem?_cons_zero, List.getElem?_cons_succ, List.set_cons_zero, List.set_cons_succ]
  · repeat (first | exact frm_refl _ _ _ | refine frm_s (by omega) ?_)
theorem c_end_no (hw : cW h X ((tb, tl), (p, rk, tg, f), (ch, ba), (fk, fp), (an, aw, af), (rs, hd)) J im) {x : Int32} (hx : isV (tl + 1) x = false) : zz_run 16 [.ref X, .int x] h = some (some (.int (-1)), h) := by
  obtain ⟨w0, ⟨e0, ⟨t0, t1, t2⟩, e2, e3, e4⟩, w2, w3, w4⟩ := hw
  unfold isV at hx
  rw [decide_eq_false_iff_not] at hx
  unfold fsO at w0
  unfold evO at e0
  rw [en16 w0]
  by_cases h2 : x < nI 0
  · simp (disch := first | assumption | exact zz_nl_i _ | exact zz_nl_r _ | exact zz_nl_n | exact okv_i _ | exact okv_j _ | exact okv_0 | exact okv_1 | exact okv_o _ _ | exact okv_a _ _ | omega | exact llt_0 | ((repeat apply llt_s) <;> exact llt_0) | fail) only [x16, h2, if_true, mo_k_v, mo_k_n, mo_v_e, mo_gf_e, mo_pf_e, mo_ia_e, mo_ba_e, mo_za_e, mo_la_e, mo_aa_e, mo_le_e, mo_is_e, mo_bs_e, mo_zs_0, mo_zs_1, mo_ls_e, mo_as_e, mo_na_e, mo_aci_e, mo_acb_e, mo_acj_e, hp_gs, hp_gn, hp_ss, List.getElem?_cons_zero, List.getElem?_cons_succ, List.set_cons_zero, List.set_cons_succ]
  · have h3 : nI tl < x := by
      have h4 : ¬ x < nI (tl + 1) := fun c => hx ⟨h2, c⟩
      rw [Int32.lt_iff_toInt_lt, nI_toInt (by omega)] at h4 ⊢
      omega
    simp (disch := first | assumption | exact zz_nl_i _ | exact zz_nl_r _ | exact zz_nl_n | exact okv_i _ | exact okv_j _ | exact okv_0 | exact okv_1 | exact okv_o _ _ | exact okv_a _ _ | omega | exact llt_0 | ((repeat apply llt_s) <;> exact llt_0) | fail) only [x16, h2, w0, e0, t0, h3, if_false, if_true, mo_k_v, mo_k_n, mo_v_e, mo_gf_e, mo_pf_e, mo_ia_e, mo_ba_e, mo_za_e, mo_la_e, mo_aa_e, mo_le_e, mo_is_e, mo_bs_e, mo_zs_0, mo_zs_1, mo_ls_e, mo_as_e, mo_na_e, mo_aci_e, mo_acb_e, mo_acj_e, hp_gs, hp_gn, hp_ss, List.getElem?_cons_zero, List.getElem?_cons_succ, List.set_cons_zero, List.set_cons_succ]
theorem c_end_ok (hw : cW h X ((tb, tl), (p, rk, tg, f), (ch, ba), (fk, fp), (an, aw, af), (rs, hd)) J im) {n : Nat} (hn : n ≤ tl) : ∃ k, zz_run 16 [.ref X, .int (nI n)] h = some (some (.int (nI n)), k) ∧ cW k X ((tb, n), (p, rk, tg, f), (ch, ba), (fk, fp), (an, aw, af), (rs, hd)) J im ∧ frm h k X (X + 57) := by
  have t2 := hw.2.1.2.1.2.2
  obtain ⟨A, g⟩ := cW_tl hw (show n ≤ 600 by omega)
  obtain ⟨w0, ⟨e0, ⟨t0, t1, _⟩, e2, e3, e4⟩, w2, w3, w4⟩ := hw
  have hn2 : ¬ tl < n := by omega
  unfold fsO at w0
  unfold evO at e0
  rw [en16 w0]
  simp (disch := first | assumption | exact zz_nl_i _ | exact zz_nl_r _ | exact zz_nl_n | exact okv_i _ | exact okv_j _ | exact okv_0 | exact okv_1 | exact okv_o _ _ | exact okv_a _ _ | omega | exact llt_0 | ((repeat apply llt_s) <;> exact llt_0) | fail) only [x16, w0, e0, t0, nI_ltI, Nat.not_lt_zero, if_false, hn2, mo_k_v, mo_k_n, mo_v_e, mo_gf_e, mo_pf_e, mo_ia_e, mo_ba_e, mo_za_e, mo_la_e, mo_aa_e, mo_le_e, mo_is_e, mo_bs_e, mo_zs_0, mo_zs_1, mo_ls_e, mo_as_e, mo_na_e, mo_aci_e, mo_acb_e, mo_acj_e, hp_gs, hp_gn, hp_ss, List.getElem?_cons_zero, List.getElem?_cons_succ, List.set_cons_zero, List.set_cons_succ]
  exact ⟨_, rfl, A, g⟩
theorem c_feed_no (hw : cW h X ((tb, tl), (p, rk, tg, f), (ch, ba), (fk, fp), (an, aw, af), (rs, hd)) J im) (hn : ¬ tl + 20 ≤ 600) (a b c d e : Int32) : zz_run 13 [.ref X, .int a, .int b, .int c, .int d, .int e] h = some (some (.int (-1)), h) := by
  obtain ⟨w0, ⟨e0, e1, e2, e3, e4⟩, w2, w3, w4⟩ := hw
  have r := c_hasRoom e1 (k := 5) (by omega)
  simp only [show (tl + 4 * 5 ≤ 600) = False from eq_false (by omega), decide_false, bI_f] at r
  unfold fsO at w0
  unfold evO at e0
  rw [en13 w0]
  simp (disch := first | assumption | exact zz_nl_i _ | exact zz_nl_r _ | exact zz_nl_n | exact okv_i _ | exact okv_j _ | exact okv_0 | exact okv_1 | exact okv_o _ _ | exact okv_a _ _ | omega | exact llt_0 | ((repeat apply llt_s) <;> exact llt_0) | fail) only [x13, w0, e0, r, if_true, mo_k_v, mo_k_n, mo_v_e, mo_gf_e, mo_pf_e, mo_ia_e, mo_ba_e, mo_za_e, mo_la_e, mo_aa_e, mo_le_e, mo_is_e, mo_bs_e, mo_zs_0, mo_zs_1, mo_ls_e, mo_as_e, mo_na_e, mo_aci_e, mo_acb_e, mo_acj_e, hp_gs, hp_gn, hp_ss, List.getElem?_cons_zero, List.getElem?_cons_succ, List.set_cons_zero, List.set_cons_succ]
def fdW (a b c d e : Int32) (i : Nat) : Int32 := (if i < 4 then a else if i < 8 then b else if i < 12 then c else if i < 16 then d else e) >>> (nI (24 - 8 * (i % 4)) &&& 31) &&& nI 255
theorem c_feed_ok (hw : cW h X ((tb, tl), (p, rk, tg, f), (ch, ba), (fk, fp), (an, aw, af), (rs, hd)) J im) (hn : tl + 20 ≤ 600) (a b c d e : Int32) : ∃ k tb', zz_run 13 [.ref X, .int a, .int b, .int c, .int d, .int e] h = some (some (.int (nI (tl + 20))), k) ∧ cW k X ((tb', tl + 20), (p, rk, tg, f), (ch, ba), (fk, fp), (an, aw, af), (rs, hd)) J im ∧ frm h k X (X + 57) ∧ (∀ i, i < 20 → tb' (tl + i) &&& nI 255 = fdW a b c d e i) ∧ (∀ j, j < tl ∨ tl + 20 ≤ j → tb' j = tb j) := by
  obtain ⟨w0, ⟨e0, e1, e2, e3, e4⟩, w2, w3, w4⟩ := hw
  have r := c_hasRoom e1 (k := 5) (by omega)
  simp only [show (tl + 4 * 5 ≤ 600) = True from eq_true (by omega), decide_true, bI_t] at r
  obtain ⟨k1, b1, r1, T1, v1, z1, g1⟩ := c_takeNumber e1 (by omega) a
  obtain ⟨k2, b2, r2, T2, v2, z2, g2⟩ := c_takeNumber T1 (by omega) b
  obtain ⟨k3, b3, r3, T3, v3, z3, g3⟩ := c_takeNumber T2 (by omega) c
  obtain ⟨k4, b4, r4, T4, v4, z4, g4⟩ := c_takeNumber T3 (by omega) d
  obtain ⟨k5, b5, r5, T5, v5, z5, g5⟩ := c_takeNumber T4 (by omega) e
  have G := frm_trans (frm_trans (frm_trans (frm_trans g1 g2) g3) g4) g5
  have t0 := T5.1
  unfold fsO at w0
  unfold evO at e0
  rw [en13 w0]
  simp (disch := first | assumption | exact zz_nl_i _ | exact zz_nl_r _ | exact zz_nl_n | exact okv_i _ | exact okv_j _ | exact okv_0 | exact okv_1 | exact okv_o _ _ | exact okv_a _ _ | omega | exact llt_0 | ((repeat apply llt_s) <;> exact llt_0) | fail) only [x13, w0, e0, r, nI_01, if_false, r1, r2, r3, r4, r5, t0, mo_k_v, mo_k_n, mo_v_e, mo_gf_e, mo_pf_e, mo_ia_e, mo_ba_e, mo_za_e, mo_la_e, mo_aa_e, mo_le_e, mo_is_e, mo_bs_e, mo_zs_0, mo_zs_1, mo_ls_e, mo_as_e, mo_na_e, mo_aci_e, mo_acb_e, mo_acj_e, hp_gs, hp_gn, hp_ss, List.getElem?_cons_zero, List.getElem?_cons_succ, List.set_cons_zero, List.set_cons_succ]
  refine ⟨_, b5, rfl, ⟨(G.2.2.2 _ (by omega)).trans w0, ⟨(G.2.2.2 _ (by omega)).trans e0, T5, isStock_sam e2 (frm_sam G (by omega)), isChoice_sam e3 (frm_sam G (by omega)), isSets_sam e4 (frm_sam G (by omega))⟩, (G.2.2.2 _ (by omega)).trans w2, isJn_sam w3 (frm_sam G (by omega)), rst_sam w4 (frm_sam G (by omega))⟩, frm_mono G (by omega) (by omega), ?_, ?_⟩
  · intro i hi
    unfold fdW
    by_cases c1 : i < 4
    · rw [if_pos c1, z5 _ (by omega), z4 _ (by omega), z3 _ (by omega), z2 _ (by omega), v1 i c1, show i % 4 = i by omega]
      rfl
    · rw [if_neg c1]
      by_cases c2 : i < 8
      · rw [if_pos c2, z5 _ (by omega), z4 _ (by omega), z3 _ (by omega), show tl + i = tl + 4 + (i - 4) by omega, v2 (i - 4) (by omega), show i % 4 = i - 4 by omega]
        rfl
      · rw [if_neg c2]
        by_cases c3 : i < 12
        · rw [if_pos c3, z5 _ (by omega), z4 _ (by omega), show tl + i = tl + 4 + 4 + (i - 8) by omega, v3 (i - 8) (by omega), show i % 4 = i - 8 by omega]
          rfl
        · rw [if_neg c3]
          by_cases c4 : i < 16
          · rw [if_pos c4, z5 _ (by omega), show tl + i = tl + 4 + 4 + 4 + (i - 12) by omega, v4 (i - 12) (by omega), show i % 4 = i - 12 by omega]
            rfl
          · rw [if_neg c4, show tl + i = tl + 4 + 4 + 4 + 4 + (i - 16) by omega, v5 (i - 16) (by omega), show i % 4 = i - 16 by omega]
            rfl
  · intro j hj
    rw [z5 _ (by omega), z4 _ (by omega), z3 _ (by omega), z2 _ (by omega), z1 _ (by omega)]
end
