/-! what the class answers -/
theorem isV_ne {n c : Nat} {x : Int32} (hx : isV n x = false) (hn : n < 2147483648) (hc : c < n) : ¬ x = nI c := by
  rintro rfl
  rw [isV_nI hn hc] at hx
  cases hx
section
variable {h : zz_H} {X : Nat} {J : Jn} {im : Nat → Option Nat} {tb : Nat → Int32} {tl : Nat} {p : Pl} {rk tg f ch ba : Nat → Int32} {fk fp : Int32} {an : Bool} {aw : Int32} {af : Nat → Int32} {rs hd : Int32} {kn pl bf jt : Nat → Int32} {nx am : Nat} {lf : Nat → Int32}

theorem c_count_0 (hw : cW h X ((tb, tl), (p, rk, tg, f), (ch, ba), (fk, fp), (an, aw, af), (rs, hd)) J im) : zz_run 101 [.ref X, .int (nI 0)] h = some (some (.int (nI (pnh p))), h) := by
  obtain ⟨w0, ⟨e0, e1, e2, e3, e4⟩, w2, w3, w4⟩ := hw
  obtain ⟨t0, t1, t2, t3, t4⟩ := e2
  have w0' := w0
  have e0' := e0
  unfold fsO at w0'
  unfold evO at e0'
  have sw : zz_sw [(nI 0, 84), (nI 1, 92), (nI 2, 100), (nI 3, 110), (nI 4, 122), (nI 5, 127), (nI 6, 133), (nI 7, 133), (nI 8, 133), (nI 9, 142), (nI 10, 147), (nI 11, 155), (nI 12, 166), (nI 13, 174), (nI 14, 182)] 187 (nI 0) = 84 := by decide +kernel
  rw [en101 w0]
  simp (disch := first | assumption | exact zz_nl_i _ | exact zz_nl_r _ | exact zz_nl_n | exact okv_i _ | exact okv_j _ | exact okv_0 | exact okv_1 | exact okv_o _ _ | exact okv_a _ _ | omega | exact llt_0 | ((repeat apply llt_s) <;> exact llt_0) | fail) only [x101_p0, x101_p1, w0', e0', sw, if_true, if_false, t0, t1.1, mo_k_v, mo_k_n, mo_v_e, mo_gf_e, mo_pf_e, mo_ia_e, mo_ba_e, mo_za_e, mo_la_e, mo_aa_e, mo_le_e, mo_is_e, mo_bs_e, mo_zs_0, mo_zs_1, mo_ls_e, mo_as_e, mo_na_e, mo_aci_e, mo_acb_e, mo_acj_e, hp_gs, hp_gn, hp_ss, List.getElem?_cons_zero, List.getElem?_cons_succ, List.set_cons_zero, List.set_cons_succ]

theorem c_count_1 (hw : cW h X ((tb, tl), (p, rk, tg, f), (ch, ba), (fk, fp), (an, aw, af), (rs, hd)) J im) : zz_run 101 [.ref X, .int (nI 1)] h = some (some (.int (nI (pnv p))), h) := by
  obtain ⟨w0, ⟨e0, e1, e2, e3, e4⟩, w2, w3, w4⟩ := hw
  obtain ⟨t0, t1, t2, t3, t4⟩ := e2
  have w0' := w0
  have e0' := e0
  unfold fsO at w0'
  unfold evO at e0'
  have sw : zz_sw [(nI 0, 84), (nI 1, 92), (nI 2, 100), (nI 3, 110), (nI 4, 122), (nI 5, 127), (nI 6, 133), (nI 7, 133), (nI 8, 133), (nI 9, 142), (nI 10, 147), (nI 11, 155), (nI 12, 166), (nI 13, 174), (nI 14, 182)] 187 (nI 1) = 92 := by decide +kernel
  rw [en101 w0]
  simp (disch := first | assumption | exact zz_nl_i _ | exact zz_nl_r _ | exact zz_nl_n | exact okv_i _ | exact okv_j _ | exact okv_0 | exact okv_1 | exact okv_o _ _ | exact okv_a _ _ | omega | exact llt_0 | ((repeat apply llt_s) <;> exact llt_0) | fail) only [x101_p0, x101_p1, w0', e0', sw, if_true, if_false, t0, t1.1, mo_k_v, mo_k_n, mo_v_e, mo_gf_e, mo_pf_e, mo_ia_e, mo_ba_e, mo_za_e, mo_la_e, mo_aa_e, mo_le_e, mo_is_e, mo_bs_e, mo_zs_0, mo_zs_1, mo_ls_e, mo_as_e, mo_na_e, mo_aci_e, mo_acb_e, mo_acj_e, hp_gs, hp_gn, hp_ss, List.getElem?_cons_zero, List.getElem?_cons_succ, List.set_cons_zero, List.set_cons_succ]

theorem c_count_2 (hw : cW h X ((tb, tl), (p, rk, tg, f), (ch, ba), (fk, fp), (an, aw, af), (rs, hd)) J im) : zz_run 101 [.ref X, .int (nI 2)] h = some (some (.int (nI (amt (rw8 f 20)))), h) := by
  obtain ⟨w0, ⟨e0, e1, e2, e3, e4⟩, w2, w3, w4⟩ := hw
  obtain ⟨t0, t1, t2, t3, t4⟩ := e2
  have r := c_amount t4 (row := 20) (by omega)
  have w0' := w0
  have e0' := e0
  unfold fsO at w0'
  unfold evO at e0'
  have sw : zz_sw [(nI 0, 84), (nI 1, 92), (nI 2, 100), (nI 3, 110), (nI 4, 122), (nI 5, 127), (nI 6, 133), (nI 7, 133), (nI 8, 133), (nI 9, 142), (nI 10, 147), (nI 11, 155), (nI 12, 166), (nI 13, 174), (nI 14, 182)] 187 (nI 2) = 100 := by decide +kernel
  rw [en101 w0]
  simp (disch := first | assumption | exact zz_nl_i _ | exact zz_nl_r _ | exact zz_nl_n | exact okv_i _ | exact okv_j _ | exact okv_0 | exact okv_1 | exact okv_o _ _ | exact okv_a _ _ | omega | exact llt_0 | ((repeat apply llt_s) <;> exact llt_0) | fail) only [x101_p0, x101_p1, w0', e0', sw, if_true, if_false, t0, r, mo_k_v, mo_k_n, mo_v_e, mo_gf_e, mo_pf_e, mo_ia_e, mo_ba_e, mo_za_e, mo_la_e, mo_aa_e, mo_le_e, mo_is_e, mo_bs_e, mo_zs_0, mo_zs_1, mo_ls_e, mo_as_e, mo_na_e, mo_aci_e, mo_acb_e, mo_acj_e, hp_gs, hp_gn, hp_ss, List.getElem?_cons_zero, List.getElem?_cons_succ, List.set_cons_zero, List.set_cons_succ]

theorem c_count_3 (hw : cW h X ((tb, tl), (p, rk, tg, f), (ch, ba), (fk, fp), (an, aw, af), (rs, hd)) J im) (hwf : wfP p) : zz_run 101 [.ref X, .int (nI 3)] h = some (some (.int (nI (amt (fun blk => lfW p f ch ba blk (-1) (-1) &&& f (8 * 20 + blk))))), h) := by
  obtain ⟨w0, ⟨e0, e1, e2, e3, e4⟩, w2, w3, w4⟩ := hw
  have r := c_amountLeft e0 e2 e3 (wfP_F hwf) (row := 20) (by omega) (-1) (-1)
  have w0' := w0
  have e0' := e0
  unfold fsO at w0'
  unfold evO at e0'
  have sw : zz_sw [(nI 0, 84), (nI 1, 92), (nI 2, 100), (nI 3, 110), (nI 4, 122), (nI 5, 127), (nI 6, 133), (nI 7, 133), (nI 8, 133), (nI 9, 142), (nI 10, 147), (nI 11, 155), (nI 12, 166), (nI 13, 174), (nI 14, 182)] 187 (nI 3) = 110 := by decide +kernel
  rw [en101 w0]
  simp (disch := first | assumption | exact zz_nl_i _ | exact zz_nl_r _ | exact zz_nl_n | exact okv_i _ | exact okv_j _ | exact okv_0 | exact okv_1 | exact okv_o _ _ | exact okv_a _ _ | omega | exact llt_0 | ((repeat apply llt_s) <;> exact llt_0) | fail) only [x101_p0, x101_p1, w0', e0', sw, if_true, if_false, r, mo_k_v, mo_k_n, mo_v_e, mo_gf_e, mo_pf_e, mo_ia_e, mo_ba_e, mo_za_e, mo_la_e, mo_aa_e, mo_le_e, mo_is_e, mo_bs_e, mo_zs_0, mo_zs_1, mo_ls_e, mo_as_e, mo_na_e, mo_aci_e, mo_acb_e, mo_acj_e, hp_gs, hp_gn, hp_ss, List.getElem?_cons_zero, List.getElem?_cons_succ, List.set_cons_zero, List.set_cons_succ]

theorem c_count_4 (hw : cW h X ((tb, tl), (p, rk, tg, f), (ch, ba), (fk, fp), (an, aw, af), (rs, hd)) J im) : zz_run 101 [.ref X, .int (nI 4)] h = some (some (.int (nI (fb_sm (fun v => cs8 (rw8 f v)) (pnv p)))), h) := by
  obtain ⟨w0, ⟨e0, e1, e2, e3, e4⟩, w2, w3, w4⟩ := hw
  have r := c_costOfAll e2
  have w0' := w0
  have e0' := e0
  unfold fsO at w0'
  unfold evO at e0'
  have sw : zz_sw [(nI 0, 84), (nI 1, 92), (nI 2, 100), (nI 3, 110), (nI 4, 122), (nI 5, 127), (nI 6, 133), (nI 7, 133), (nI 8, 133), (nI 9, 142), (nI 10, 147), (nI 11, 155), (nI 12, 166), (nI 13, 174), (nI 14, 182)] 187 (nI 4) = 122 := by decide +kernel
  rw [en101 w0]
  simp (disch := first | assumption | exact zz_nl_i _ | exact zz_nl_r _ | exact zz_nl_n | exact okv_i _ | exact okv_j _ | exact okv_0 | exact okv_1 | exact okv_o _ _ | exact okv_a _ _ | omega | exact llt_0 | ((repeat apply llt_s) <;> exact llt_0) | fail) only [x101_p0, x101_p1, w0', e0', sw, if_true, if_false, r, mo_k_v, mo_k_n, mo_v_e, mo_gf_e, mo_pf_e, mo_ia_e, mo_ba_e, mo_za_e, mo_la_e, mo_aa_e, mo_le_e, mo_is_e, mo_bs_e, mo_zs_0, mo_zs_1, mo_ls_e, mo_as_e, mo_na_e, mo_aci_e, mo_acb_e, mo_acj_e, hp_gs, hp_gn, hp_ss, List.getElem?_cons_zero, List.getElem?_cons_succ, List.set_cons_zero, List.set_cons_succ]

theorem c_count_5 (hw : cW h X ((tb, tl), (p, rk, tg, f), (ch, ba), (fk, fp), (an, aw, af), (rs, hd)) J im) : zz_run 101 [.ref X, .int (nI 5)] h = some (some (.int (nI (fb_sm (fun v => bx8 (-1) (rw8 f v)) (pnv p)))), h) := by
  obtain ⟨w0, ⟨e0, e1, e2, e3, e4⟩, w2, w3, w4⟩ := hw
  have r := c_boxesOfAll e2 (-1)
  have w0' := w0
  have e0' := e0
  unfold fsO at w0'
  unfold evO at e0'
  have sw : zz_sw [(nI 0, 84), (nI 1, 92), (nI 2, 100), (nI 3, 110), (nI 4, 122), (nI 5, 127), (nI 6, 133), (nI 7, 133), (nI 8, 133), (nI 9, 142), (nI 10, 147), (nI 11, 155), (nI 12, 166), (nI 13, 174), (nI 14, 182)] 187 (nI 5) = 127 := by decide +kernel
  rw [en101 w0]
  simp (disch := first | assumption | exact zz_nl_i _ | exact zz_nl_r _ | exact zz_nl_n | exact okv_i _ | exact okv_j _ | exact okv_0 | exact okv_1 | exact okv_o _ _ | exact okv_a _ _ | omega | exact llt_0 | ((repeat apply llt_s) <;> exact llt_0) | fail) only [x101_p0, x101_p1, w0', e0', sw, if_true, if_false, r, mo_k_v, mo_k_n, mo_v_e, mo_gf_e, mo_pf_e, mo_ia_e, mo_ba_e, mo_za_e, mo_la_e, mo_aa_e, mo_le_e, mo_is_e, mo_bs_e, mo_zs_0, mo_zs_1, mo_ls_e, mo_as_e, mo_na_e, mo_aci_e, mo_acb_e, mo_acj_e, hp_gs, hp_gn, hp_ss, List.getElem?_cons_zero, List.getElem?_cons_succ, List.set_cons_zero, List.set_cons_succ]

theorem c_count_6 (hw : cW h X ((tb, tl), (p, rk, tg, f), (ch, ba), (fk, fp), (an, aw, af), (rs, hd)) J im) : zz_run 101 [.ref X, .int (nI 6)] h = some (some (.int (nI (fb_sm (fun v => bx8 (nI 0) (rw8 f v)) (pnv p)))), h) := by
  obtain ⟨w0, ⟨e0, e1, e2, e3, e4⟩, w2, w3, w4⟩ := hw
  have r := c_boxesOfAll e2 (nI 0)
  have es : nI 6 - nI 6 = nI 0 := pk_sub (by omega)
  have w0' := w0
  have e0' := e0
  unfold fsO at w0'
  unfold evO at e0'
  have sw : zz_sw [(nI 0, 84), (nI 1, 92), (nI 2, 100), (nI 3, 110), (nI 4, 122), (nI 5, 127), (nI 6, 133), (nI 7, 133), (nI 8, 133), (nI 9, 142), (nI 10, 147), (nI 11, 155), (nI 12, 166), (nI 13, 174), (nI 14, 182)] 187 (nI 6) = 133 := by decide +kernel
  rw [en101 w0]
  simp (disch := first | assumption | exact zz_nl_i _ | exact zz_nl_r _ | exact zz_nl_n | exact okv_i _ | exact okv_j _ | exact okv_0 | exact okv_1 | exact okv_o _ _ | exact okv_a _ _ | omega | exact llt_0 | ((repeat apply llt_s) <;> exact llt_0) | fail) only [x101_p0, x101_p1, w0', e0', sw, if_true, if_false, es, r, mo_k_v, mo_k_n, mo_v_e, mo_gf_e, mo_pf_e, mo_ia_e, mo_ba_e, mo_za_e, mo_la_e, mo_aa_e, mo_le_e, mo_is_e, mo_bs_e, mo_zs_0, mo_zs_1, mo_ls_e, mo_as_e, mo_na_e, mo_aci_e, mo_acb_e, mo_acj_e, hp_gs, hp_gn, hp_ss, List.getElem?_cons_zero, List.getElem?_cons_succ, List.set_cons_zero, List.set_cons_succ]

theorem c_count_7 (hw : cW h X ((tb, tl), (p, rk, tg, f), (ch, ba), (fk, fp), (an, aw, af), (rs, hd)) J im) : zz_run 101 [.ref X, .int (nI 7)] h = some (some (.int (nI (fb_sm (fun v => bx8 (nI 1) (rw8 f v)) (pnv p)))), h) := by
  obtain ⟨w0, ⟨e0, e1, e2, e3, e4⟩, w2, w3, w4⟩ := hw
  have r := c_boxesOfAll e2 (nI 1)
  have es : nI 7 - nI 6 = nI 1 := pk_sub (by omega)
  have w0' := w0
  have e0' := e0
  unfold fsO at w0'
  unfold evO at e0'
  have sw : zz_sw [(nI 0, 84), (nI 1, 92), (nI 2, 100), (nI 3, 110), (nI 4, 122), (nI 5, 127), (nI 6, 133), (nI 7, 133), (nI 8, 133), (nI 9, 142), (nI 10, 147), (nI 11, 155), (nI 12, 166), (nI 13, 174), (nI 14, 182)] 187 (nI 7) = 133 := by decide +kernel
  rw [en101 w0]
  simp (disch := first | assumption | exact zz_nl_i _ | exact zz_nl_r _ | exact zz_nl_n | exact okv_i _ | exact okv_j _ | exact okv_0 | exact okv_1 | exact okv_o _ _ | exact okv_a _ _ | omega | exact llt_0 | ((repeat apply llt_s) <;> exact llt_0) | fail) only [x101_p0, x101_p1, w0', e0', sw, if_true, if_false, es, r, mo_k_v, mo_k_n, mo_v_e, mo_gf_e, mo_pf_e, mo_ia_e, mo_ba_e, mo_za_e, mo_la_e, mo_aa_e, mo_le_e, mo_is_e, mo_bs_e, mo_zs_0, mo_zs_1, mo_ls_e, mo_as_e, mo_na_e, mo_aci_e, mo_acb_e, mo_acj_e, hp_gs, hp_gn, hp_ss, List.getElem?_cons_zero, List.getElem?_cons_succ, List.set_cons_zero, List.set_cons_succ]

theorem c_count_8 (hw : cW h X ((tb, tl), (p, rk, tg, f), (ch, ba), (fk, fp), (an, aw, af), (rs, hd)) J im) : zz_run 101 [.ref X, .int (nI 8)] h = some (some (.int (nI (fb_sm (fun v => bx8 (nI 2) (rw8 f v)) (pnv p)))), h) := by
  obtain ⟨w0, ⟨e0, e1, e2, e3, e4⟩, w2, w3, w4⟩ := hw
  have r := c_boxesOfAll e2 (nI 2)
  have es : nI 8 - nI 6 = nI 2 := pk_sub (by omega)
  have w0' := w0
  have e0' := e0
  unfold fsO at w0'
  unfold evO at e0'
  have sw : zz_sw [(nI 0, 84), (nI 1, 92), (nI 2, 100), (nI 3, 110), (nI 4, 122), (nI 5, 127), (nI 6, 133), (nI 7, 133), (nI 8, 133), (nI 9, 142), (nI 10, 147), (nI 11, 155), (nI 12, 166), (nI 13, 174), (nI 14, 182)] 187 (nI 8) = 133 := by decide +kernel
  rw [en101 w0]
  simp (disch := first | assumption | exact zz_nl_i _ | exact zz_nl_r _ | exact zz_nl_n | exact okv_i _ | exact okv_j _ | exact okv_0 | exact okv_1 | exact okv_o _ _ | exact okv_a _ _ | omega | exact llt_0 | ((repeat apply llt_s) <;> exact llt_0) | fail) only [x101_p0, x101_p1, w0', e0', sw, if_true, if_false, es, r, mo_k_v, mo_k_n, mo_v_e, mo_gf_e, mo_pf_e, mo_ia_e, mo_ba_e, mo_za_e, mo_la_e, mo_aa_e, mo_le_e, mo_is_e, mo_bs_e, mo_zs_0, mo_zs_1, mo_ls_e, mo_as_e, mo_na_e, mo_aci_e, mo_acb_e, mo_acj_e, hp_gs, hp_gn, hp_ss, List.getElem?_cons_zero, List.getElem?_cons_succ, List.set_cons_zero, List.set_cons_succ]

theorem c_count_9 (hw : cW h X ((tb, tl), (p, rk, tg, f), (ch, ba), (fk, fp), (an, aw, af), (rs, hd)) J im) : zz_run 101 [.ref X, .int (nI 9)] h = some (some (.int (nI (fb_sm (fun q => pc (tg q)) 256))), h) := by
  obtain ⟨w0, ⟨e0, e1, e2, e3, e4⟩, w2, w3, w4⟩ := hw
  have r := c_allTags e2
  have w0' := w0
  have e0' := e0
  unfold fsO at w0'
  unfold evO at e0'
  have sw : zz_sw [(nI 0, 84), (nI 1, 92), (nI 2, 100), (nI 3, 110), (nI 4, 122), (nI 5, 127), (nI 6, 133), (nI 7, 133), (nI 8, 133), (nI 9, 142), (nI 10, 147), (nI 11, 155), (nI 12, 166), (nI 13, 174), (nI 14, 182)] 187 (nI 9) = 142 := by decide +kernel
  rw [en101 w0]
  simp (disch := first | assumption | exact zz_nl_i _ | exact zz_nl_r _ | exact zz_nl_n | exact okv_i _ | exact okv_j _ | exact okv_0 | exact okv_1 | exact okv_o _ _ | exact okv_a _ _ | omega | exact llt_0 | ((repeat apply llt_s) <;> exact llt_0) | fail) only [x101_p0, x101_p1, w0', e0', sw, if_true, if_false, r, mo_k_v, mo_k_n, mo_v_e, mo_gf_e, mo_pf_e, mo_ia_e, mo_ba_e, mo_za_e, mo_la_e, mo_aa_e, mo_le_e, mo_is_e, mo_bs_e, mo_zs_0, mo_zs_1, mo_ls_e, mo_as_e, mo_na_e, mo_aci_e, mo_acb_e, mo_acj_e, hp_gs, hp_gn, hp_ss, List.getElem?_cons_zero, List.getElem?_cons_succ, List.set_cons_zero, List.set_cons_succ]

theorem c_count_10 (hw : cW h X ((tb, tl), (p, rk, tg, f), (ch, ba), (fk, fp), (an, aw, af), (rs, hd)) (kn, pl, bf, jt, nx, am) im) : zz_run 101 [.ref X, .int (nI 10)] h = some (some (.int (nI am)), h) := by
  obtain ⟨w0, ⟨e0, e1, e2, e3, e4⟩, w2, w3, w4⟩ := hw
  have j0 := w3.1
  unfold jrO at j0
  have w0' := w0
  have e0' := e0
  unfold fsO at w0'
  unfold evO at e0'
  have sw : zz_sw [(nI 0, 84), (nI 1, 92), (nI 2, 100), (nI 3, 110), (nI 4, 122), (nI 5, 127), (nI 6, 133), (nI 7, 133), (nI 8, 133), (nI 9, 142), (nI 10, 147), (nI 11, 155), (nI 12, 166), (nI 13, 174), (nI 14, 182)] 187 (nI 10) = 147 := by decide +kernel
  rw [en101 w0]
  simp (disch := first | assumption | exact zz_nl_i _ | exact zz_nl_r _ | exact zz_nl_n | exact okv_i _ | exact okv_j _ | exact okv_0 | exact okv_1 | exact okv_o _ _ | exact okv_a _ _ | omega | exact llt_0 | ((repeat apply llt_s) <;> exact llt_0) | fail) only [x101_p0, x101_p1, w0', e0', sw, if_true, if_false, j0, mo_k_v, mo_k_n, mo_v_e, mo_gf_e, mo_pf_e, mo_ia_e, mo_ba_e, mo_za_e, mo_la_e, mo_aa_e, mo_le_e, mo_is_e, mo_bs_e, mo_zs_0, mo_zs_1, mo_ls_e, mo_as_e, mo_na_e, mo_aci_e, mo_acb_e, mo_acj_e, hp_gs, hp_gn, hp_ss, List.getElem?_cons_zero, List.getElem?_cons_succ, List.set_cons_zero, List.set_cons_succ]

theorem c_count_11 (hw : cW h X ((tb, tl), (p, rk, tg, f), (ch, ba), (fk, fp), (an, aw, af), (rs, hd)) J im) : zz_run 101 [.ref X, .int (nI 11)] h = some (some (.int (nI tl)), h) := by
  obtain ⟨w0, ⟨e0, e1, e2, e3, e4⟩, w2, w3, w4⟩ := hw
  have t0 := e1.1
  have w0' := w0
  have e0' := e0
  unfold fsO at w0'
  unfold evO at e0'
  have sw : zz_sw [(nI 0, 84), (nI 1, 92), (nI 2, 100), (nI 3, 110), (nI 4, 122), (nI 5, 127), (nI 6, 133), (nI 7, 133), (nI 8, 133), (nI 9, 142), (nI 10, 147), (nI 11, 155), (nI 12, 166), (nI 13, 174), (nI 14, 182)] 187 (nI 11) = 155 := by decide +kernel
  rw [en101 w0]
  simp (disch := first | assumption | exact zz_nl_i _ | exact zz_nl_r _ | exact zz_nl_n | exact okv_i _ | exact okv_j _ | exact okv_0 | exact okv_1 | exact okv_o _ _ | exact okv_a _ _ | omega | exact llt_0 | ((repeat apply llt_s) <;> exact llt_0) | fail) only [x101_p0, x101_p1, w0', e0', sw, if_true, if_false, t0, mo_k_v, mo_k_n, mo_v_e, mo_gf_e, mo_pf_e, mo_ia_e, mo_ba_e, mo_za_e, mo_la_e, mo_aa_e, mo_le_e, mo_is_e, mo_bs_e, mo_zs_0, mo_zs_1, mo_ls_e, mo_as_e, mo_na_e, mo_aci_e, mo_acb_e, mo_acj_e, hp_gs, hp_gn, hp_ss, List.getElem?_cons_zero, List.getElem?_cons_succ, List.set_cons_zero, List.set_cons_succ]

theorem c_count_12 (hw : cW h X ((tb, tl), (p, rk, tg, f), (ch, ba), (fk, fp), (an, aw, af), (rs, hd)) J im) (hwf : wfP p) : ∃ k lf, zz_run 101 [.ref X, .int (nI 12)] h = some (some (.int (nI (pc (setOf (suB lf f ch) (pnv p))))), k) ∧ cW k X ((tb, tl), (p, rk, tg, f), (ch, ba), (fk, fp), (an, aw, af), (rs, hd)) J im ∧ frm h k X (X + 57) ∧ ∀ b, b < 8 → lf b = lfW p f ch ba b (-1) (-1) := by
  obtain ⟨k, lf, rr, A, gg, hlf⟩ := c_sure hw hwf
  obtain ⟨w0, ⟨e0, e1, e2, e3, e4⟩, w2, w3, w4⟩ := hw
  have w0' := w0
  have e0' := e0
  unfold fsO at w0'
  unfold evO at e0'
  have sw : zz_sw [(nI 0, 84), (nI 1, 92), (nI 2, 100), (nI 3, 110), (nI 4, 122), (nI 5, 127), (nI 6, 133), (nI 7, 133), (nI 8, 133), (nI 9, 142), (nI 10, 147), (nI 11, 155), (nI 12, 166), (nI 13, 174), (nI 14, 182)] 187 (nI 12) = 166 := by decide +kernel
  rw [en101 w0]
  simp (disch := first | assumption | exact zz_nl_i _ | exact zz_nl_r _ | exact zz_nl_n | exact okv_i _ | exact okv_j _ | exact okv_0 | exact okv_1 | exact okv_o _ _ | exact okv_a _ _ | omega | exact llt_0 | ((repeat apply llt_s) <;> exact llt_0) | fail) only [x101_p0, x101_p1, w0', e0', sw, if_true, if_false, rr, c_bitCount, mo_k_v, mo_k_n, mo_v_e, mo_gf_e, mo_pf_e, mo_ia_e, mo_ba_e, mo_za_e, mo_la_e, mo_aa_e, mo_le_e, mo_is_e, mo_bs_e, mo_zs_0, mo_zs_1, mo_ls_e, mo_as_e, mo_na_e, mo_aci_e, mo_acb_e, mo_acj_e, hp_gs, hp_gn, hp_ss, List.getElem?_cons_zero, List.getElem?_cons_succ, List.set_cons_zero, List.set_cons_succ]
  exact ⟨_, _, rfl, A, gg, hlf⟩

theorem c_count_13 (hw : cW h X ((tb, tl), (p, rk, tg, f), (ch, ba), (fk, fp), (an, aw, af), (rs, hd)) J im) (hwf : wfP p) : zz_run 101 [.ref X, .int (nI 13)] h = some (some (.int (nI (pc (setOf (idB p f ch ba) (pnv p))))), h) := by
  have rr := c_idle hw hwf
  obtain ⟨w0, ⟨e0, e1, e2, e3, e4⟩, w2, w3, w4⟩ := hw
  have w0' := w0
  have e0' := e0
  unfold fsO at w0'
  unfold evO at e0'
  have sw : zz_sw [(nI 0, 84), (nI 1, 92), (nI 2, 100), (nI 3, 110), (nI 4, 122), (nI 5, 127), (nI 6, 133), (nI 7, 133), (nI 8, 133), (nI 9, 142), (nI 10, 147), (nI 11, 155), (nI 12, 166), (nI 13, 174), (nI 14, 182)] 187 (nI 13) = 174 := by decide +kernel
  rw [en101 w0]
  simp (disch := first | assumption | exact zz_nl_i _ | exact zz_nl_r _ | exact zz_nl_n | exact okv_i _ | exact okv_j _ | exact okv_0 | exact okv_1 | exact okv_o _ _ | exact okv_a _ _ | omega | exact llt_0 | ((repeat apply llt_s) <;> exact llt_0) | fail) only [x101_p0, x101_p1, w0', e0', sw, if_true, if_false, rr, c_bitCount, mo_k_v, mo_k_n, mo_v_e, mo_gf_e, mo_pf_e, mo_ia_e, mo_ba_e, mo_za_e, mo_la_e, mo_aa_e, mo_le_e, mo_is_e, mo_bs_e, mo_zs_0, mo_zs_1, mo_ls_e, mo_as_e, mo_na_e, mo_aci_e, mo_acb_e, mo_acj_e, hp_gs, hp_gn, hp_ss, List.getElem?_cons_zero, List.getElem?_cons_succ, List.set_cons_zero, List.set_cons_succ]

theorem c_count_14 (hw : cW h X ((tb, tl), (p, rk, tg, f), (ch, ba), (fk, fp), (an, aw, af), (rs, hd)) J im) (hwf : wfP p) : ∃ k lf, zz_run 101 [.ref X, .int (nI 14)] h = some (some (.int (ptV lf f ch (pnv p))), k) ∧ cW k X ((tb, tl), (p, rk, tg, f), (ch, ba), (fk, fp), (an, aw, af), (rs, hd)) J im ∧ frm h k X (X + 57) ∧ ∀ b, b < 8 → lf b = lfW p f ch ba b (-1) (-1) := by
  obtain ⟨k, lf, rr, A, gg, hlf⟩ := c_parting hw hwf
  obtain ⟨w0, ⟨e0, e1, e2, e3, e4⟩, w2, w3, w4⟩ := hw
  have w0' := w0
  have e0' := e0
  unfold fsO at w0'
  unfold evO at e0'
  have sw : zz_sw [(nI 0, 84), (nI 1, 92), (nI 2, 100), (nI 3, 110), (nI 4, 122), (nI 5, 127), (nI 6, 133), (nI 7, 133), (nI 8, 133), (nI 9, 142), (nI 10, 147), (nI 11, 155), (nI 12, 166), (nI 13, 174), (nI 14, 182)] 187 (nI 14) = 182 := by decide +kernel
  rw [en101 w0]
  simp (disch := first | assumption | exact zz_nl_i _ | exact zz_nl_r _ | exact zz_nl_n | exact okv_i _ | exact okv_j _ | exact okv_0 | exact okv_1 | exact okv_o _ _ | exact okv_a _ _ | omega | exact llt_0 | ((repeat apply llt_s) <;> exact llt_0) | fail) only [x101_p0, x101_p1, w0', e0', sw, if_true, if_false, rr, mo_k_v, mo_k_n, mo_v_e, mo_gf_e, mo_pf_e, mo_ia_e, mo_ba_e, mo_za_e, mo_la_e, mo_aa_e, mo_le_e, mo_is_e, mo_bs_e, mo_zs_0, mo_zs_1, mo_ls_e, mo_as_e, mo_na_e, mo_aci_e, mo_acb_e, mo_acj_e, hp_gs, hp_gn, hp_ss, List.getElem?_cons_zero, List.getElem?_cons_succ, List.set_cons_zero, List.set_cons_succ]
  exact ⟨_, _, rfl, A, gg, hlf⟩

theorem c_count_no (hw : cW h X ((tb, tl), (p, rk, tg, f), (ch, ba), (fk, fp), (an, aw, af), (rs, hd)) J im) {x : Int32} (hx : isV 15 x = false) : zz_run 101 [.ref X, .int x] h = some (some (.int (-1)), h) := by
  obtain ⟨w0, ⟨e0, e1, e2, e3, e4⟩, w2, w3, w4⟩ := hw
  have n0 := isV_ne hx (by omega) (show 0 < 15 by omega)
  have n1 := isV_ne hx (by omega) (show 1 < 15 by omega)
  have n2 := isV_ne hx (by omega) (show 2 < 15 by omega)
  have n3 := isV_ne hx (by omega) (show 3 < 15 by omega)
  have n4 := isV_ne hx (by omega) (show 4 < 15 by omega)
  have n5 := isV_ne hx (by omega) (show 5 < 15 by omega)
  have n6 := isV_ne hx (by omega) (show 6 < 15 by omega)
  have n7 := isV_ne hx (by omega) (show 7 < 15 by omega)
  have n8 := isV_ne hx (by omega) (show 8 < 15 by omega)
  have n9 := isV_ne hx (by omega) (show 9 < 15 by omega)
  have n10 := isV_ne hx (by omega) (show 10 < 15 by omega)
  have n11 := isV_ne hx (by omega) (show 11 < 15 by omega)
  have n12 := isV_ne hx (by omega) (show 12 < 15 by omega)
  have n13 := isV_ne hx (by omega) (show 13 < 15 by omega)
  have n14 := isV_ne hx (by omega) (show 14 < 15 by omega)
  have w0' := w0
  have e0' := e0
  unfold fsO at w0'
  unfold evO at e0'
  have sw : zz_sw [(nI 0, 84), (nI 1, 92), (nI 2, 100), (nI 3, 110), (nI 4, 122), (nI 5, 127), (nI 6, 133), (nI 7, 133), (nI 8, 133), (nI 9, 142), (nI 10, 147), (nI 11, 155), (nI 12, 166), (nI 13, 174), (nI 14, 182)] 187 x = 187 := by rw [zz_sw, if_neg n0, zz_sw, if_neg n1, zz_sw, if_neg n2, zz_sw, if_neg n3, zz_sw, if_neg n4, zz_sw, if_neg n5, zz_sw, if_neg n6, zz_sw, if_neg n7, zz_sw, if_neg n8, zz_sw, if_neg n9, zz_sw, if_neg n10, zz_sw, if_neg n11, zz_sw, if_neg n12, zz_sw, if_neg n13, zz_sw, if_neg n14, zz_sw]
  rw [en101 w0]
  simp (disch := first | assumption | exact zz_nl_i _ | exact zz_nl_r _ | exact zz_nl_n | exact okv_i _ | exact okv_j _ | exact okv_0 | exact okv_1 | exact okv_o _ _ | exact okv_a _ _ | omega | exact llt_0 | ((repeat apply llt_s) <;> exact llt_0) | fail) only [x101_p0, x101_p1, w0', e0', sw, if_false, n0, n1, n2, n3, n4, n5, n6, n7, n8, n9, n10, n11, n12, n13, n14, mo_k_v, mo_k_n, mo_v_e, mo_gf_e, mo_pf_e, mo_ia_e, mo_ba_e, mo_za_e, mo_la_e, mo_aa_e, mo_le_e, mo_is_e, mo_bs_e, mo_zs_0, mo_zs_1, mo_ls_e, mo_as_e, mo_na_e, mo_aci_e, mo_acb_e, mo_acj_e, hp_gs, hp_gn, hp_ss, List.getElem?_cons_zero, List.getElem?_cons_succ, List.set_cons_zero, List.set_cons_succ]

theorem c_asked_no (hw : cW h X ((tb, tl), (p, rk, tg, f), (ch, ba), (fk, fp), (an, aw, af), (rs, hd)) J im) (ha : an = false) (x : Int32) : zz_run 79 [.ref X, .int x] h = some (some (.int (-1)), h) := by
  obtain ⟨w0, ⟨e0, e1, e2, e3, e4⟩, w2, w3, w4⟩ := hw
  subst ha
  have w0' := w0
  have e0' := e0
  unfold fsO at w0'
  unfold evO at e0'
  rw [en79 w0]
  simp (disch := first | assumption | exact zz_nl_i _ | exact zz_nl_r _ | exact zz_nl_n | exact okv_i _ | exact okv_j _ | exact okv_0 | exact okv_1 | exact okv_o _ _ | exact okv_a _ _ | omega | exact llt_0 | ((repeat apply llt_s) <;> exact llt_0) | fail) only [x79, w0', e0', bI_f, if_true, mo_k_v, mo_k_n, mo_v_e, mo_gf_e, mo_pf_e, mo_ia_e, mo_ba_e, mo_za_e, mo_la_e, mo_aa_e, mo_le_e, mo_is_e, mo_bs_e, mo_zs_0, mo_zs_1, mo_ls_e, mo_as_e, mo_na_e, mo_aci_e, mo_acb_e, mo_acj_e, hp_gs, hp_gn, hp_ss, List.getElem?_cons_zero, List.getElem?_cons_succ, List.set_cons_zero, List.set_cons_succ]

theorem c_asked_0 (hw : cW h X ((tb, tl), (p, rk, tg, f), (ch, ba), (fk, fp), (an, aw, af), (rs, hd)) J im) (ha : an = true) : zz_run 79 [.ref X, .int (nI 0)] h = some (some (.int (nI (amt af))), h) := by
  obtain ⟨w0, ⟨e0, e1, e2, e3, e4⟩, w2, w3, w4⟩ := hw
  subst ha
  have ea : rw8 af 0 = af := funext fun b => by unfold rw8; rw [show 8 * 0 + b = b by omega]
  have r := c_amount e4 (row := 0) (by omega)
  rw [ea] at r
  have w0' := w0
  have e0' := e0
  unfold fsO at w0'
  unfold evO at e0'
  have sw : zz_sw [(nI 0, 40), (nI 1, 52), (nI 2, 60)] 72 (nI 0) = 40 := by decide +kernel
  rw [en79 w0]
  simp (disch := first | assumption | exact zz_nl_i _ | exact zz_nl_r _ | exact zz_nl_n | exact okv_i _ | exact okv_j _ | exact okv_0 | exact okv_1 | exact okv_o _ _ | exact okv_a _ _ | omega | exact llt_0 | ((repeat apply llt_s) <;> exact llt_0) | fail) only [x79, w0', e0', bI_t, nI_01, sw, if_true, if_false, r, mo_k_v, mo_k_n, mo_v_e, mo_gf_e, mo_pf_e, mo_ia_e, mo_ba_e, mo_za_e, mo_la_e, mo_aa_e, mo_le_e, mo_is_e, mo_bs_e, mo_zs_0, mo_zs_1, mo_ls_e, mo_as_e, mo_na_e, mo_aci_e, mo_acb_e, mo_acj_e, hp_gs, hp_gn, hp_ss, List.getElem?_cons_zero, List.getElem?_cons_succ, List.set_cons_zero, List.set_cons_succ]

theorem c_asked_1 (hw : cW h X ((tb, tl), (p, rk, tg, f), (ch, ba), (fk, fp), (an, aw, af), (rs, hd)) J im) (ha : an = true) : zz_run 79 [.ref X, .int (nI 1)] h = some (some (.int (aw)), h) := by
  obtain ⟨w0, ⟨e0, e1, e2, e3, e4⟩, w2, w3, w4⟩ := hw
  subst ha
  have ea : rw8 af 0 = af := funext fun b => by unfold rw8; rw [show 8 * 0 + b = b by omega]
  have w0' := w0
  have e0' := e0
  unfold fsO at w0'
  unfold evO at e0'
  have sw : zz_sw [(nI 0, 40), (nI 1, 52), (nI 2, 60)] 72 (nI 1) = 52 := by decide +kernel
  rw [en79 w0]
  simp (disch := first | assumption | exact zz_nl_i _ | exact zz_nl_r _ | exact zz_nl_n | exact okv_i _ | exact okv_j _ | exact okv_0 | exact okv_1 | exact okv_o _ _ | exact okv_a _ _ | omega | exact llt_0 | ((repeat apply llt_s) <;> exact llt_0) | fail) only [x79, w0', e0', bI_t, nI_01, sw, if_true, if_false, mo_k_v, mo_k_n, mo_v_e, mo_gf_e, mo_pf_e, mo_ia_e, mo_ba_e, mo_za_e, mo_la_e, mo_aa_e, mo_le_e, mo_is_e, mo_bs_e, mo_zs_0, mo_zs_1, mo_ls_e, mo_as_e, mo_na_e, mo_aci_e, mo_acb_e, mo_acj_e, hp_gs, hp_gn, hp_ss, List.getElem?_cons_zero, List.getElem?_cons_succ, List.set_cons_zero, List.set_cons_succ]

theorem c_asked_2 (hw : cW h X ((tb, tl), (p, rk, tg, f), (ch, ba), (fk, fp), (an, aw, af), (rs, hd)) J im) (ha : an = true) : zz_run 79 [.ref X, .int (nI 2)] h = some (some (.int (nI (cs8 af))), h) := by
  obtain ⟨w0, ⟨e0, e1, e2, e3, e4⟩, w2, w3, w4⟩ := hw
  subst ha
  have ea : rw8 af 0 = af := funext fun b => by unfold rw8; rw [show 8 * 0 + b = b by omega]
  have r := c_costRow e4 (row := 0) (by omega)
  rw [ea] at r
  have w0' := w0
  have e0' := e0
  unfold fsO at w0'
  unfold evO at e0'
  have sw : zz_sw [(nI 0, 40), (nI 1, 52), (nI 2, 60)] 72 (nI 2) = 60 := by decide +kernel
  rw [en79 w0]
  simp (disch := first | assumption | exact zz_nl_i _ | exact zz_nl_r _ | exact zz_nl_n | exact okv_i _ | exact okv_j _ | exact okv_0 | exact okv_1 | exact okv_o _ _ | exact okv_a _ _ | omega | exact llt_0 | ((repeat apply llt_s) <;> exact llt_0) | fail) only [x79, w0', e0', bI_t, nI_01, sw, if_true, if_false, r, mo_k_v, mo_k_n, mo_v_e, mo_gf_e, mo_pf_e, mo_ia_e, mo_ba_e, mo_za_e, mo_la_e, mo_aa_e, mo_le_e, mo_is_e, mo_bs_e, mo_zs_0, mo_zs_1, mo_ls_e, mo_as_e, mo_na_e, mo_aci_e, mo_acb_e, mo_acj_e, hp_gs, hp_gn, hp_ss, List.getElem?_cons_zero, List.getElem?_cons_succ, List.set_cons_zero, List.set_cons_succ]

theorem c_asked_lo (hw : cW h X ((tb, tl), (p, rk, tg, f), (ch, ba), (fk, fp), (an, aw, af), (rs, hd)) J im) (ha : an = true) {x : Int32} (hx : isV 3 x = false) (hl : x < nI 10) : zz_run 79 [.ref X, .int x] h = some (some (.int (-1)), h) := by
  obtain ⟨w0, ⟨e0, e1, e2, e3, e4⟩, w2, w3, w4⟩ := hw
  subst ha
  have ea : rw8 af 0 = af := funext fun b => by unfold rw8; rw [show 8 * 0 + b = b by omega]
  have n0 := isV_ne hx (by omega) (show 0 < 3 by omega)
  have n1 := isV_ne hx (by omega) (show 1 < 3 by omega)
  have n2 := isV_ne hx (by omega) (show 2 < 3 by omega)
  have w0' := w0
  have e0' := e0
  unfold fsO at w0'
  unfold evO at e0'
  have sw : zz_sw [(nI 0, 40), (nI 1, 52), (nI 2, 60)] 72 x = 72 := by rw [zz_sw, if_neg n0, zz_sw, if_neg n1, zz_sw, if_neg n2, zz_sw]
  rw [en79 w0]
  simp (disch := first | assumption | exact zz_nl_i _ | exact zz_nl_r _ | exact zz_nl_n | exact okv_i _ | exact okv_j _ | exact okv_0 | exact okv_1 | exact okv_o _ _ | exact okv_a _ _ | omega | exact llt_0 | ((repeat apply llt_s) <;> exact llt_0) | fail) only [x79, w0', e0', bI_t, nI_01, sw, if_false, if_true, hl, n0, n1, n2, mo_k_v, mo_k_n, mo_v_e, mo_gf_e, mo_pf_e, mo_ia_e, mo_ba_e, mo_za_e, mo_la_e, mo_aa_e, mo_le_e, mo_is_e, mo_bs_e, mo_zs_0, mo_zs_1, mo_ls_e, mo_as_e, mo_na_e, mo_aci_e, mo_acb_e, mo_acj_e, hp_gs, hp_gn, hp_ss, List.getElem?_cons_zero, List.getElem?_cons_succ, List.set_cons_zero, List.set_cons_succ]

theorem c_asked_hi (hw : cW h X ((tb, tl), (p, rk, tg, f), (ch, ba), (fk, fp), (an, aw, af), (rs, hd)) J im) (ha : an = true) {x : Int32} (hl : ¬ x < nI 10) : zz_run 79 [.ref X, .int x] h = some (some (.int (KT (pb af) 256 (x - nI 10))), h) := by
  obtain ⟨w0, ⟨e0, e1, e2, e3, e4⟩, w2, w3, w4⟩ := hw
  subst ha
  have ea : rw8 af 0 = af := funext fun b => by unfold rw8; rw [show 8 * 0 + b = b by omega]
  have r := c_recordAt e4 (row := 0) (by omega) (x - nI 10)
  rw [ea] at r
  have n0 : ¬ x = nI 0 := by rintro rfl; exact hl (by decide +kernel)
  have n1 : ¬ x = nI 1 := by rintro rfl; exact hl (by decide +kernel)
  have n2 : ¬ x = nI 2 := by rintro rfl; exact hl (by decide +kernel)
  have w0' := w0
  have e0' := e0
  unfold fsO at w0'
  unfold evO at e0'
  have sw : zz_sw [(nI 0, 40), (nI 1, 52), (nI 2, 60)] 72 x = 72 := by rw [zz_sw, if_neg n0, zz_sw, if_neg n1, zz_sw, if_neg n2, zz_sw]
  rw [en79 w0]
  simp (disch := first | assumption | exact zz_nl_i _ | exact zz_nl_r _ | exact zz_nl_n | exact okv_i _ | exact okv_j _ | exact okv_0 | exact okv_1 | exact okv_o _ _ | exact okv_a _ _ | omega | exact llt_0 | ((repeat apply llt_s) <;> exact llt_0) | fail) only [x79, w0', e0', bI_t, nI_01, sw, if_false, if_true, hl, n0, n1, n2, r, mo_k_v, mo_k_n, mo_v_e, mo_gf_e, mo_pf_e, mo_ia_e, mo_ba_e, mo_za_e, mo_la_e, mo_aa_e, mo_le_e, mo_is_e, mo_bs_e, mo_zs_0, mo_zs_1, mo_ls_e, mo_as_e, mo_na_e, mo_aci_e, mo_acb_e, mo_acj_e, hp_gs, hp_gn, hp_ss, List.getElem?_cons_zero, List.getElem?_cons_succ, List.set_cons_zero, List.set_cons_succ]

theorem c_head_no (hw : cW h X ((tb, tl), (p, rk, tg, f), (ch, ba), (fk, fp), (an, aw, af), (rs, hd)) J im) {x y : Int32} (hx : isV (pnh p) x = false) : zz_run 116 [.ref X, .int x, .int y] h = some (some (.int (-1)), h) := by
  obtain ⟨w0, ⟨e0, e1, e2, e3, e4⟩, w2, w3, w4⟩ := hw
  obtain ⟨t0, t1, t2, t3, t4⟩ := e2
  have q1 := t1.2.2.2.2.2.2.2.2.2.1
  have q2 := t1.2.2.2.2.2.2.2.2.2.2
  have v := c_isHead t1 x
  have w0' := w0
  have e0' := e0
  unfold fsO at w0'
  unfold evO at e0'
  rw [en116 w0]
  simp (disch := first | assumption | exact zz_nl_i _ | exact zz_nl_r _ | exact zz_nl_n | exact okv_i _ | exact okv_j _ | exact okv_0 | exact okv_1 | exact okv_o _ _ | exact okv_a _ _ | omega | exact llt_0 | ((repeat apply llt_s) <;> exact llt_0) | fail) only [x116, w0', e0', t0, v, hx, bI_f, if_true, mo_k_v, mo_k_n, mo_v_e, mo_gf_e, mo_pf_e, mo_ia_e, mo_ba_e, mo_za_e, mo_la_e, mo_aa_e, mo_le_e, mo_is_e, mo_bs_e, mo_zs_0, mo_zs_1, mo_ls_e, mo_as_e, mo_na_e, mo_aci_e, mo_acb_e, mo_acj_e, hp_gs, hp_gn, hp_ss, List.getElem?_cons_zero, List.getElem?_cons_succ, List.set_cons_zero, List.set_cons_succ]

theorem c_head_0 (hw : cW h X ((tb, tl), (p, rk, tg, f), (ch, ba), (fk, fp), (an, aw, af), (rs, hd)) J im) {d : Nat} (hd1 : d < pnh p) : zz_run 116 [.ref X, .int (nI d), .int (nI 0)] h = some (some (.int (pmn p d)), h) := by
  obtain ⟨w0, ⟨e0, e1, e2, e3, e4⟩, w2, w3, w4⟩ := hw
  obtain ⟨t0, t1, t2, t3, t4⟩ := e2
  have q1 := t1.2.2.2.2.2.2.2.2.2.1
  have q2 := t1.2.2.2.2.2.2.2.2.2.2
  have v := c_isHead t1 (nI d)
  have hx := isV_nI (n := pnh p) (by omega) hd1
  obtain ⟨p0, p1, p2, p3, p4, p5, p6, p7, p8, _, _⟩ := t1
  have w0' := w0
  have e0' := e0
  unfold fsO at w0'
  unfold evO at e0'
  have sw : zz_sw [(nI 0, 52), (nI 1, 59), (nI 2, 66), (nI 3, 79)] 92 (nI 0) = 52 := by decide +kernel
  rw [en116 w0]
  simp (disch := first | assumption | exact zz_nl_i _ | exact zz_nl_r _ | exact zz_nl_n | exact okv_i _ | exact okv_j _ | exact okv_0 | exact okv_1 | exact okv_o _ _ | exact okv_a _ _ | omega | exact llt_0 | ((repeat apply llt_s) <;> exact llt_0) | fail) only [x116, w0', e0', t0, v, hx, bI_t, nI_01, p0, p2, sw, if_true, if_false, mo_k_v, mo_k_n, mo_v_e, mo_gf_e, mo_pf_e, mo_ia_e, mo_ba_e, mo_za_e, mo_la_e, mo_aa_e, mo_le_e, mo_is_e, mo_bs_e, mo_zs_0, mo_zs_1, mo_ls_e, mo_as_e, mo_na_e, mo_aci_e, mo_acb_e, mo_acj_e, hp_gs, hp_gn, hp_ss, List.getElem?_cons_zero, List.getElem?_cons_succ, List.set_cons_zero, List.set_cons_succ]

theorem c_head_1 (hw : cW h X ((tb, tl), (p, rk, tg, f), (ch, ba), (fk, fp), (an, aw, af), (rs, hd)) J im) {d : Nat} (hd1 : d < pnh p) : zz_run 116 [.ref X, .int (nI d), .int (nI 1)] h = some (some (.int (psi p d)), h) := by
  obtain ⟨w0, ⟨e0, e1, e2, e3, e4⟩, w2, w3, w4⟩ := hw
  obtain ⟨t0, t1, t2, t3, t4⟩ := e2
  have q1 := t1.2.2.2.2.2.2.2.2.2.1
  have q2 := t1.2.2.2.2.2.2.2.2.2.2
  have v := c_isHead t1 (nI d)
  have hx := isV_nI (n := pnh p) (by omega) hd1
  obtain ⟨p0, p1, p2, p3, p4, p5, p6, p7, p8, _, _⟩ := t1
  have w0' := w0
  have e0' := e0
  unfold fsO at w0'
  unfold evO at e0'
  have sw : zz_sw [(nI 0, 52), (nI 1, 59), (nI 2, 66), (nI 3, 79)] 92 (nI 1) = 59 := by decide +kernel
  rw [en116 w0]
  simp (disch := first | assumption | exact zz_nl_i _ | exact zz_nl_r _ | exact zz_nl_n | exact okv_i _ | exact okv_j _ | exact okv_0 | exact okv_1 | exact okv_o _ _ | exact okv_a _ _ | omega | exact llt_0 | ((repeat apply llt_s) <;> exact llt_0) | fail) only [x116, w0', e0', t0, v, hx, bI_t, nI_01, p0, p4, sw, if_true, if_false, mo_k_v, mo_k_n, mo_v_e, mo_gf_e, mo_pf_e, mo_ia_e, mo_ba_e, mo_za_e, mo_la_e, mo_aa_e, mo_le_e, mo_is_e, mo_bs_e, mo_zs_0, mo_zs_1, mo_ls_e, mo_as_e, mo_na_e, mo_aci_e, mo_acb_e, mo_acj_e, hp_gs, hp_gn, hp_ss, List.getElem?_cons_zero, List.getElem?_cons_succ, List.set_cons_zero, List.set_cons_succ]

theorem c_head_2 (hw : cW h X ((tb, tl), (p, rk, tg, f), (ch, ba), (fk, fp), (an, aw, af), (rs, hd)) J im) {d : Nat} (hd1 : d < pnh p) : zz_run 116 [.ref X, .int (nI d), .int (nI 2)] h = some (some (.int (ba d)), h) := by
  obtain ⟨w0, ⟨e0, e1, e2, e3, e4⟩, w2, w3, w4⟩ := hw
  obtain ⟨t0, t1, t2, t3, t4⟩ := e2
  have q1 := t1.2.2.2.2.2.2.2.2.2.1
  have q2 := t1.2.2.2.2.2.2.2.2.2.2
  have v := c_isHead t1 (nI d)
  have hx := isV_nI (n := pnh p) (by omega) hd1
  obtain ⟨p0, p1, p2, p3, p4, p5, p6, p7, p8, _, _⟩ := t1
  obtain ⟨c0, c1, c2⟩ := e3
  have w0' := w0
  have e0' := e0
  unfold fsO at w0'
  unfold evO at e0'
  have sw : zz_sw [(nI 0, 52), (nI 1, 59), (nI 2, 66), (nI 3, 79)] 92 (nI 2) = 66 := by decide +kernel
  rw [en116 w0]
  simp (disch := first | assumption | exact zz_nl_i _ | exact zz_nl_r _ | exact zz_nl_n | exact okv_i _ | exact okv_j _ | exact okv_0 | exact okv_1 | exact okv_o _ _ | exact okv_a _ _ | omega | exact llt_0 | ((repeat apply llt_s) <;> exact llt_0) | fail) only [x116, w0', e0', t0, v, hx, bI_t, nI_01, c0, c2, sw, if_true, if_false, mo_k_v, mo_k_n, mo_v_e, mo_gf_e, mo_pf_e, mo_ia_e, mo_ba_e, mo_za_e, mo_la_e, mo_aa_e, mo_le_e, mo_is_e, mo_bs_e, mo_zs_0, mo_zs_1, mo_ls_e, mo_as_e, mo_na_e, mo_aci_e, mo_acb_e, mo_acj_e, hp_gs, hp_gn, hp_ss, List.getElem?_cons_zero, List.getElem?_cons_succ, List.set_cons_zero, List.set_cons_succ]

theorem c_head_3 (hw : cW h X ((tb, tl), (p, rk, tg, f), (ch, ba), (fk, fp), (an, aw, af), (rs, hd)) J im) {d fi si : Nat} (hd1 : d < pnh p) (f1 : pfi p d = nI fi) (f2 : psi p d = nI si) (f3 : fi + si ≤ pnv p) : zz_run 116 [.ref X, .int (nI d), .int (nI 3)] h = some (some (.int (nI (fb_ct (fun i => decide (ch (fi + i) = nI 1)) si))), h) := by
  obtain ⟨w0, ⟨e0, e1, e2, e3, e4⟩, w2, w3, w4⟩ := hw
  obtain ⟨t0, t1, t2, t3, t4⟩ := e2
  have q1 := t1.2.2.2.2.2.2.2.2.2.1
  have q2 := t1.2.2.2.2.2.2.2.2.2.2
  have v := c_isHead t1 (nI d)
  have hx := isV_nI (n := pnh p) (by omega) hd1
  have r := c_wantedOf e3 t1 (show d < 4 by omega) f1 f2 (by omega)
  have w0' := w0
  have e0' := e0
  unfold fsO at w0'
  unfold evO at e0'
  have sw : zz_sw [(nI 0, 52), (nI 1, 59), (nI 2, 66), (nI 3, 79)] 92 (nI 3) = 79 := by decide +kernel
  rw [en116 w0]
  simp (disch := first | assumption | exact zz_nl_i _ | exact zz_nl_r _ | exact zz_nl_n | exact okv_i _ | exact okv_j _ | exact okv_0 | exact okv_1 | exact okv_o _ _ | exact okv_a _ _ | omega | exact llt_0 | ((repeat apply llt_s) <;> exact llt_0) | fail) only [x116, w0', e0', t0, v, hx, bI_t, nI_01, r, sw, if_true, if_false, mo_k_v, mo_k_n, mo_v_e, mo_gf_e, mo_pf_e, mo_ia_e, mo_ba_e, mo_za_e, mo_la_e, mo_aa_e, mo_le_e, mo_is_e, mo_bs_e, mo_zs_0, mo_zs_1, mo_ls_e, mo_as_e, mo_na_e, mo_aci_e, mo_acb_e, mo_acj_e, hp_gs, hp_gn, hp_ss, List.getElem?_cons_zero, List.getElem?_cons_succ, List.set_cons_zero, List.set_cons_succ]

theorem c_head_x (hw : cW h X ((tb, tl), (p, rk, tg, f), (ch, ba), (fk, fp), (an, aw, af), (rs, hd)) J im) {d : Nat} (hd1 : d < pnh p) {y : Int32} (hy : isV 4 y = false) : zz_run 116 [.ref X, .int (nI d), .int y] h = some (some (.int (if y < nI 10 then -1 else letC (phn p d) (y - nI 10))), h) := by
  obtain ⟨w0, ⟨e0, e1, e2, e3, e4⟩, w2, w3, w4⟩ := hw
  obtain ⟨t0, t1, t2, t3, t4⟩ := e2
  have q1 := t1.2.2.2.2.2.2.2.2.2.1
  have q2 := t1.2.2.2.2.2.2.2.2.2.2
  have v := c_isHead t1 (nI d)
  have hx := isV_nI (n := pnh p) (by omega) hd1
  obtain ⟨p0, p1, p2, p3, p4, p5, p6, p7, p8, _, _⟩ := t1
  have n0 := isV_ne hy (by omega) (show 0 < 4 by omega)
  have n1 := isV_ne hy (by omega) (show 1 < 4 by omega)
  have n2 := isV_ne hy (by omega) (show 2 < 4 by omega)
  have n3 := isV_ne hy (by omega) (show 3 < 4 by omega)
  have w0' := w0
  have e0' := e0
  unfold fsO at w0'
  unfold evO at e0'
  have sw : zz_sw [(nI 0, 52), (nI 1, 59), (nI 2, 66), (nI 3, 79)] 92 y = 92 := by rw [zz_sw, if_neg n0, zz_sw, if_neg n1, zz_sw, if_neg n2, zz_sw, if_neg n3, zz_sw]
  rw [en116 w0]
  simp (disch := first | assumption | exact zz_nl_i _ | exact zz_nl_r _ | exact zz_nl_n | exact okv_i _ | exact okv_j _ | exact okv_0 | exact okv_1 | exact okv_o _ _ | exact okv_a _ _ | omega | exact llt_0 | ((repeat apply llt_s) <;> exact llt_0) | fail) only [x116, w0', e0', t0, v, hx, bI_t, nI_01, p0, p1, sw, if_false, c_letterAsked, n0, n1, n2, n3, mo_k_v, mo_k_n, mo_v_e, mo_gf_e, mo_pf_e, mo_ia_e, mo_ba_e, mo_za_e, mo_la_e, mo_aa_e, mo_le_e, mo_is_e, mo_bs_e, mo_zs_0, mo_zs_1, mo_ls_e, mo_as_e, mo_na_e, mo_aci_e, mo_acb_e, mo_acj_e, hp_gs, hp_gn, hp_ss, List.getElem?_cons_zero, List.getElem?_cons_succ, List.set_cons_zero, List.set_cons_succ]

theorem c_value_no (hw : cW h X ((tb, tl), (p, rk, tg, f), (ch, ba), (fk, fp), (an, aw, af), (rs, hd)) J im) {x y : Int32} (hx : isV (pnv p) x = false) : zz_run 120 [.ref X, .int x, .int y] h = some (some (.int (-1)), h) := by
  obtain ⟨w0, ⟨e0, e1, e2, e3, e4⟩, w2, w3, w4⟩ := hw
  obtain ⟨t0, t1, t2, t3, t4⟩ := e2
  have q1 := t1.2.2.2.2.2.2.2.2.2.1
  have q2 := t1.2.2.2.2.2.2.2.2.2.2
  have v := c_isValue t1 x
  have w0' := w0
  have e0' := e0
  unfold fsO at w0'
  unfold evO at e0'
  rw [en120 w0]
  simp (disch := first | assumption | exact zz_nl_i _ | exact zz_nl_r _ | exact zz_nl_n | exact okv_i _ | exact okv_j _ | exact okv_0 | exact okv_1 | exact okv_o _ _ | exact okv_a _ _ | omega | exact llt_0 | ((repeat apply llt_s) <;> exact llt_0) | fail) only [x120_p0, x120_p1, w0', e0', t0, v, hx, bI_f, if_true, mo_k_v, mo_k_n, mo_v_e, mo_gf_e, mo_pf_e, mo_ia_e, mo_ba_e, mo_za_e, mo_la_e, mo_aa_e, mo_le_e, mo_is_e, mo_bs_e, mo_zs_0, mo_zs_1, mo_ls_e, mo_as_e, mo_na_e, mo_aci_e, mo_acb_e, mo_acj_e, hp_gs, hp_gn, hp_ss, List.getElem?_cons_zero, List.getElem?_cons_succ, List.set_cons_zero, List.set_cons_succ]

theorem c_value_0 (hw : cW h X ((tb, tl), (p, rk, tg, f), (ch, ba), (fk, fp), (an, aw, af), (rs, hd)) J im) {v : Nat} (hv : v < pnv p) : zz_run 120 [.ref X, .int (nI v), .int (nI 0)] h = some (some (.int (pho p v)), h) := by
  obtain ⟨w0, ⟨e0, e1, e2, e3, e4⟩, w2, w3, w4⟩ := hw
  obtain ⟨t0, t1, t2, t3, t4⟩ := e2
  have q1 := t1.2.2.2.2.2.2.2.2.2.1
  have q2 := t1.2.2.2.2.2.2.2.2.2.2
  have vv := c_isValue t1 (nI v)
  have hx := isV_nI (n := pnv p) (by omega) hv
  have hv21 : v < 21 := by omega
  obtain ⟨p0, p1, p2, p3, p4, p5, p6, p7, p8, _, _⟩ := t1
  have w0' := w0
  have e0' := e0
  unfold fsO at w0'
  unfold evO at e0'
  have sw : zz_sw [(nI 0, 80), (nI 1, 88), (nI 2, 96), (nI 3, 109), (nI 4, 118), (nI 5, 124), (nI 6, 133), (nI 7, 143), (nI 8, 149), (nI 9, 161)] 174 (nI 0) = 80 := by decide +kernel
  rw [en120 w0]
  simp (disch := first | assumption | exact zz_nl_i _ | exact zz_nl_r _ | exact zz_nl_n | exact okv_i _ | exact okv_j _ | exact okv_0 | exact okv_1 | exact okv_o _ _ | exact okv_a _ _ | omega | exact llt_0 | ((repeat apply llt_s) <;> exact llt_0) | fail) only [x120_p0, x120_p1, w0', e0', t0, vv, hx, bI_t, nI_01, sw, if_true, if_false, p0, p6, mo_k_v, mo_k_n, mo_v_e, mo_gf_e, mo_pf_e, mo_ia_e, mo_ba_e, mo_za_e, mo_la_e, mo_aa_e, mo_le_e, mo_is_e, mo_bs_e, mo_zs_0, mo_zs_1, mo_ls_e, mo_as_e, mo_na_e, mo_aci_e, mo_acb_e, mo_acj_e, hp_gs, hp_gn, hp_ss, List.getElem?_cons_zero, List.getElem?_cons_succ, List.set_cons_zero, List.set_cons_succ]

theorem c_value_1 (hw : cW h X ((tb, tl), (p, rk, tg, f), (ch, ba), (fk, fp), (an, aw, af), (rs, hd)) J im) {v : Nat} (hv : v < pnv p) : zz_run 120 [.ref X, .int (nI v), .int (nI 1)] h = some (some (.int (ppa p v)), h) := by
  obtain ⟨w0, ⟨e0, e1, e2, e3, e4⟩, w2, w3, w4⟩ := hw
  obtain ⟨t0, t1, t2, t3, t4⟩ := e2
  have q1 := t1.2.2.2.2.2.2.2.2.2.1
  have q2 := t1.2.2.2.2.2.2.2.2.2.2
  have vv := c_isValue t1 (nI v)
  have hx := isV_nI (n := pnv p) (by omega) hv
  have hv21 : v < 21 := by omega
  obtain ⟨p0, p1, p2, p3, p4, p5, p6, p7, p8, _, _⟩ := t1
  have w0' := w0
  have e0' := e0
  unfold fsO at w0'
  unfold evO at e0'
  have sw : zz_sw [(nI 0, 80), (nI 1, 88), (nI 2, 96), (nI 3, 109), (nI 4, 118), (nI 5, 124), (nI 6, 133), (nI 7, 143), (nI 8, 149), (nI 9, 161)] 174 (nI 1) = 88 := by decide +kernel
  rw [en120 w0]
  simp (disch := first | assumption | exact zz_nl_i _ | exact zz_nl_r _ | exact zz_nl_n | exact okv_i _ | exact okv_j _ | exact okv_0 | exact okv_1 | exact okv_o _ _ | exact okv_a _ _ | omega | exact llt_0 | ((repeat apply llt_s) <;> exact llt_0) | fail) only [x120_p0, x120_p1, w0', e0', t0, vv, hx, bI_t, nI_01, sw, if_true, if_false, p0, p7, mo_k_v, mo_k_n, mo_v_e, mo_gf_e, mo_pf_e, mo_ia_e, mo_ba_e, mo_za_e, mo_la_e, mo_aa_e, mo_le_e, mo_is_e, mo_bs_e, mo_zs_0, mo_zs_1, mo_ls_e, mo_as_e, mo_na_e, mo_aci_e, mo_acb_e, mo_acj_e, hp_gs, hp_gn, hp_ss, List.getElem?_cons_zero, List.getElem?_cons_succ, List.set_cons_zero, List.set_cons_succ]

theorem c_value_2 (hw : cW h X ((tb, tl), (p, rk, tg, f), (ch, ba), (fk, fp), (an, aw, af), (rs, hd)) J im) {v : Nat} (hv : v < pnv p) : zz_run 120 [.ref X, .int (nI v), .int (nI 2)] h = some (some (.int (nI (pc (pli p v)) - nI 1)), h) := by
  obtain ⟨w0, ⟨e0, e1, e2, e3, e4⟩, w2, w3, w4⟩ := hw
  obtain ⟨t0, t1, t2, t3, t4⟩ := e2
  have q1 := t1.2.2.2.2.2.2.2.2.2.1
  have q2 := t1.2.2.2.2.2.2.2.2.2.2
  have vv := c_isValue t1 (nI v)
  have hx := isV_nI (n := pnv p) (by omega) hv
  have hv21 : v < 21 := by omega
  obtain ⟨p0, p1, p2, p3, p4, p5, p6, p7, p8, _, _⟩ := t1
  have w0' := w0
  have e0' := e0
  unfold fsO at w0'
  unfold evO at e0'
  have sw : zz_sw [(nI 0, 80), (nI 1, 88), (nI 2, 96), (nI 3, 109), (nI 4, 118), (nI 5, 124), (nI 6, 133), (nI 7, 143), (nI 8, 149), (nI 9, 161)] 174 (nI 2) = 96 := by decide +kernel
  rw [en120 w0]
  simp (disch := first | assumption | exact zz_nl_i _ | exact zz_nl_r _ | exact zz_nl_n | exact okv_i _ | exact okv_j _ | exact okv_0 | exact okv_1 | exact okv_o _ _ | exact okv_a _ _ | omega | exact llt_0 | ((repeat apply llt_s) <;> exact llt_0) | fail) only [x120_p0, x120_p1, w0', e0', t0, vv, hx, bI_t, nI_01, sw, if_true, if_false, p0, p8, c_bitCount, mo_k_v, mo_k_n, mo_v_e, mo_gf_e, mo_pf_e, mo_ia_e, mo_ba_e, mo_za_e, mo_la_e, mo_aa_e, mo_le_e, mo_is_e, mo_bs_e, mo_zs_0, mo_zs_1, mo_ls_e, mo_as_e, mo_na_e, mo_aci_e, mo_acb_e, mo_acj_e, hp_gs, hp_gn, hp_ss, List.getElem?_cons_zero, List.getElem?_cons_succ, List.set_cons_zero, List.set_cons_succ]

theorem c_value_3 (hw : cW h X ((tb, tl), (p, rk, tg, f), (ch, ba), (fk, fp), (an, aw, af), (rs, hd)) J im) {v : Nat} (hv : v < pnv p) : zz_run 120 [.ref X, .int (nI v), .int (nI 3)] h = some (some (.int (nI (amt (rw8 f v)))), h) := by
  obtain ⟨w0, ⟨e0, e1, e2, e3, e4⟩, w2, w3, w4⟩ := hw
  obtain ⟨t0, t1, t2, t3, t4⟩ := e2
  have q1 := t1.2.2.2.2.2.2.2.2.2.1
  have q2 := t1.2.2.2.2.2.2.2.2.2.2
  have vv := c_isValue t1 (nI v)
  have hx := isV_nI (n := pnv p) (by omega) hv
  have hv21 : v < 21 := by omega
  have w0' := w0
  have e0' := e0
  unfold fsO at w0'
  unfold evO at e0'
  have sw : zz_sw [(nI 0, 80), (nI 1, 88), (nI 2, 96), (nI 3, 109), (nI 4, 118), (nI 5, 124), (nI 6, 133), (nI 7, 143), (nI 8, 149), (nI 9, 161)] 174 (nI 3) = 109 := by decide +kernel
  rw [en120 w0]
  simp (disch := first | assumption | exact zz_nl_i _ | exact zz_nl_r _ | exact zz_nl_n | exact okv_i _ | exact okv_j _ | exact okv_0 | exact okv_1 | exact okv_o _ _ | exact okv_a _ _ | omega | exact llt_0 | ((repeat apply llt_s) <;> exact llt_0) | fail) only [x120_p0, x120_p1, w0', e0', t0, vv, hx, bI_t, nI_01, sw, if_true, if_false, c_amount t4 hv21, mo_k_v, mo_k_n, mo_v_e, mo_gf_e, mo_pf_e, mo_ia_e, mo_ba_e, mo_za_e, mo_la_e, mo_aa_e, mo_le_e, mo_is_e, mo_bs_e, mo_zs_0, mo_zs_1, mo_ls_e, mo_as_e, mo_na_e, mo_aci_e, mo_acb_e, mo_acj_e, hp_gs, hp_gn, hp_ss, List.getElem?_cons_zero, List.getElem?_cons_succ, List.set_cons_zero, List.set_cons_succ]

theorem c_value_4 (hw : cW h X ((tb, tl), (p, rk, tg, f), (ch, ba), (fk, fp), (an, aw, af), (rs, hd)) J im) {v : Nat} (hv : v < pnv p) : zz_run 120 [.ref X, .int (nI v), .int (nI 4)] h = some (some (.int (nI (fb_ct (fun q => bt (tg q) v) 256))), h) := by
  obtain ⟨w0, ⟨e0, e1, e2, e3, e4⟩, w2, w3, w4⟩ := hw
  have r4 := c_tagsOf e2 (show v < 32 by have := e2.2.1.2.2.2.2.2.2.2.2.2.2; omega)
  obtain ⟨t0, t1, t2, t3, t4⟩ := e2
  have q1 := t1.2.2.2.2.2.2.2.2.2.1
  have q2 := t1.2.2.2.2.2.2.2.2.2.2
  have vv := c_isValue t1 (nI v)
  have hx := isV_nI (n := pnv p) (by omega) hv
  have hv21 : v < 21 := by omega
  have w0' := w0
  have e0' := e0
  unfold fsO at w0'
  unfold evO at e0'
  have sw : zz_sw [(nI 0, 80), (nI 1, 88), (nI 2, 96), (nI 3, 109), (nI 4, 118), (nI 5, 124), (nI 6, 133), (nI 7, 143), (nI 8, 149), (nI 9, 161)] 174 (nI 4) = 118 := by decide +kernel
  rw [en120 w0]
  simp (disch := first | assumption | exact zz_nl_i _ | exact zz_nl_r _ | exact zz_nl_n | exact okv_i _ | exact okv_j _ | exact okv_0 | exact okv_1 | exact okv_o _ _ | exact okv_a _ _ | omega | exact llt_0 | ((repeat apply llt_s) <;> exact llt_0) | fail) only [x120_p0, x120_p1, w0', e0', t0, vv, hx, bI_t, nI_01, sw, if_true, if_false, r4, mo_k_v, mo_k_n, mo_v_e, mo_gf_e, mo_pf_e, mo_ia_e, mo_ba_e, mo_za_e, mo_la_e, mo_aa_e, mo_le_e, mo_is_e, mo_bs_e, mo_zs_0, mo_zs_1, mo_ls_e, mo_as_e, mo_na_e, mo_aci_e, mo_acb_e, mo_acj_e, hp_gs, hp_gn, hp_ss, List.getElem?_cons_zero, List.getElem?_cons_succ, List.set_cons_zero, List.set_cons_succ]

theorem c_value_5 (hw : cW h X ((tb, tl), (p, rk, tg, f), (ch, ba), (fk, fp), (an, aw, af), (rs, hd)) J im) {v : Nat} (hv : v < pnv p) : zz_run 120 [.ref X, .int (nI v), .int (nI 5)] h = some (some (.int (nI (cs8 (rw8 f v)))), h) := by
  obtain ⟨w0, ⟨e0, e1, e2, e3, e4⟩, w2, w3, w4⟩ := hw
  obtain ⟨t0, t1, t2, t3, t4⟩ := e2
  have q1 := t1.2.2.2.2.2.2.2.2.2.1
  have q2 := t1.2.2.2.2.2.2.2.2.2.2
  have vv := c_isValue t1 (nI v)
  have hx := isV_nI (n := pnv p) (by omega) hv
  have hv21 : v < 21 := by omega
  have w0' := w0
  have e0' := e0
  unfold fsO at w0'
  unfold evO at e0'
  have sw : zz_sw [(nI 0, 80), (nI 1, 88), (nI 2, 96), (nI 3, 109), (nI 4, 118), (nI 5, 124), (nI 6, 133), (nI 7, 143), (nI 8, 149), (nI 9, 161)] 174 (nI 5) = 124 := by decide +kernel
  rw [en120 w0]
  simp (disch := first | assumption | exact zz_nl_i _ | exact zz_nl_r _ | exact zz_nl_n | exact okv_i _ | exact okv_j _ | exact okv_0 | exact okv_1 | exact okv_o _ _ | exact okv_a _ _ | omega | exact llt_0 | ((repeat apply llt_s) <;> exact llt_0) | fail) only [x120_p0, x120_p1, w0', e0', t0, vv, hx, bI_t, nI_01, sw, if_true, if_false, c_costRow t4 hv21, mo_k_v, mo_k_n, mo_v_e, mo_gf_e, mo_pf_e, mo_ia_e, mo_ba_e, mo_za_e, mo_la_e, mo_aa_e, mo_le_e, mo_is_e, mo_bs_e, mo_zs_0, mo_zs_1, mo_ls_e, mo_as_e, mo_na_e, mo_aci_e, mo_acb_e, mo_acj_e, hp_gs, hp_gn, hp_ss, List.getElem?_cons_zero, List.getElem?_cons_succ, List.set_cons_zero, List.set_cons_succ]

theorem c_value_6 (hw : cW h X ((tb, tl), (p, rk, tg, f), (ch, ba), (fk, fp), (an, aw, af), (rs, hd)) J im) {v : Nat} (hv : v < pnv p) : zz_run 120 [.ref X, .int (nI v), .int (nI 6)] h = some (some (.int (nI (bx8 (-1) (rw8 f v)))), h) := by
  obtain ⟨w0, ⟨e0, e1, e2, e3, e4⟩, w2, w3, w4⟩ := hw
  obtain ⟨t0, t1, t2, t3, t4⟩ := e2
  have q1 := t1.2.2.2.2.2.2.2.2.2.1
  have q2 := t1.2.2.2.2.2.2.2.2.2.2
  have vv := c_isValue t1 (nI v)
  have hx := isV_nI (n := pnv p) (by omega) hv
  have hv21 : v < 21 := by omega
  have w0' := w0
  have e0' := e0
  unfold fsO at w0'
  unfold evO at e0'
  have sw : zz_sw [(nI 0, 80), (nI 1, 88), (nI 2, 96), (nI 3, 109), (nI 4, 118), (nI 5, 124), (nI 6, 133), (nI 7, 143), (nI 8, 149), (nI 9, 161)] 174 (nI 6) = 133 := by decide +kernel
  rw [en120 w0]
  simp (disch := first | assumption | exact zz_nl_i _ | exact zz_nl_r _ | exact zz_nl_n | exact okv_i _ | exact okv_j _ | exact okv_0 | exact okv_1 | exact okv_o _ _ | exact okv_a _ _ | omega | exact llt_0 | ((repeat apply llt_s) <;> exact llt_0) | fail) only [x120_p0, x120_p1, w0', e0', t0, vv, hx, bI_t, nI_01, sw, if_true, if_false, c_boxes t4 hv21, mo_k_v, mo_k_n, mo_v_e, mo_gf_e, mo_pf_e, mo_ia_e, mo_ba_e, mo_za_e, mo_la_e, mo_aa_e, mo_le_e, mo_is_e, mo_bs_e, mo_zs_0, mo_zs_1, mo_ls_e, mo_as_e, mo_na_e, mo_aci_e, mo_acb_e, mo_acj_e, hp_gs, hp_gn, hp_ss, List.getElem?_cons_zero, List.getElem?_cons_succ, List.set_cons_zero, List.set_cons_succ]

theorem c_value_7 (hw : cW h X ((tb, tl), (p, rk, tg, f), (ch, ba), (fk, fp), (an, aw, af), (rs, hd)) J im) (hwf : wfP p) {v d : Nat} (hv : v < pnv p) (hd1 : d < pnh p) (ho : pho p v = nI d) : zz_run 120 [.ref X, .int (nI v), .int (nI 7)] h = some (some (.int (nI (amt (fun blk => lfW p f ch ba blk (if ba d = nI 1 then -1 else nI d) (-1) &&& f (8 * v + blk))))), h) := by
  have rr := c_behind hw hwf hv hd1 ho
  obtain ⟨w0, ⟨e0, e1, e2, e3, e4⟩, w2, w3, w4⟩ := hw
  obtain ⟨t0, t1, t2, t3, t4⟩ := e2
  have q1 := t1.2.2.2.2.2.2.2.2.2.1
  have q2 := t1.2.2.2.2.2.2.2.2.2.2
  have vv := c_isValue t1 (nI v)
  have hx := isV_nI (n := pnv p) (by omega) hv
  have hv21 : v < 21 := by omega
  have w0' := w0
  have e0' := e0
  unfold fsO at w0'
  unfold evO at e0'
  have sw : zz_sw [(nI 0, 80), (nI 1, 88), (nI 2, 96), (nI 3, 109), (nI 4, 118), (nI 5, 124), (nI 6, 133), (nI 7, 143), (nI 8, 149), (nI 9, 161)] 174 (nI 7) = 143 := by decide +kernel
  rw [en120 w0]
  simp (disch := first | assumption | exact zz_nl_i _ | exact zz_nl_r _ | exact zz_nl_n | exact okv_i _ | exact okv_j _ | exact okv_0 | exact okv_1 | exact okv_o _ _ | exact okv_a _ _ | omega | exact llt_0 | ((repeat apply llt_s) <;> exact llt_0) | fail) only [x120_p0, x120_p1, w0', e0', t0, vv, hx, bI_t, nI_01, sw, if_true, if_false, rr, mo_k_v, mo_k_n, mo_v_e, mo_gf_e, mo_pf_e, mo_ia_e, mo_ba_e, mo_za_e, mo_la_e, mo_aa_e, mo_le_e, mo_is_e, mo_bs_e, mo_zs_0, mo_zs_1, mo_ls_e, mo_as_e, mo_na_e, mo_aci_e, mo_acb_e, mo_acj_e, hp_gs, hp_gn, hp_ss, List.getElem?_cons_zero, List.getElem?_cons_succ, List.set_cons_zero, List.set_cons_succ]

theorem c_value_8 (hw : cW h X ((tb, tl), (p, rk, tg, f), (ch, ba), (fk, fp), (an, aw, af), (rs, hd)) J im) (hwf : wfP p) {v : Nat} (hv : v < pnv p) : zz_run 120 [.ref X, .int (nI v), .int (nI 8)] h = some (some (.int (nI (amt (fun blk => lfW p f ch ba blk (-1) (nI v) &&& f (8 * 20 + blk))))), h) := by
  obtain ⟨w0, ⟨e0, e1, e2, e3, e4⟩, w2, w3, w4⟩ := hw
  have r8 := c_amountLeft e0 e2 e3 (wfP_F hwf) (row := 20) (by omega) (-1) (nI v)
  obtain ⟨t0, t1, t2, t3, t4⟩ := e2
  have q1 := t1.2.2.2.2.2.2.2.2.2.1
  have q2 := t1.2.2.2.2.2.2.2.2.2.2
  have vv := c_isValue t1 (nI v)
  have hx := isV_nI (n := pnv p) (by omega) hv
  have hv21 : v < 21 := by omega
  have w0' := w0
  have e0' := e0
  unfold fsO at w0'
  unfold evO at e0'
  have sw : zz_sw [(nI 0, 80), (nI 1, 88), (nI 2, 96), (nI 3, 109), (nI 4, 118), (nI 5, 124), (nI 6, 133), (nI 7, 143), (nI 8, 149), (nI 9, 161)] 174 (nI 8) = 149 := by decide +kernel
  rw [en120 w0]
  simp (disch := first | assumption | exact zz_nl_i _ | exact zz_nl_r _ | exact zz_nl_n | exact okv_i _ | exact okv_j _ | exact okv_0 | exact okv_1 | exact okv_o _ _ | exact okv_a _ _ | omega | exact llt_0 | ((repeat apply llt_s) <;> exact llt_0) | fail) only [x120_p0, x120_p1, w0', e0', t0, vv, hx, bI_t, nI_01, sw, if_true, if_false, r8, mo_k_v, mo_k_n, mo_v_e, mo_gf_e, mo_pf_e, mo_ia_e, mo_ba_e, mo_za_e, mo_la_e, mo_aa_e, mo_le_e, mo_is_e, mo_bs_e, mo_zs_0, mo_zs_1, mo_ls_e, mo_as_e, mo_na_e, mo_aci_e, mo_acb_e, mo_acj_e, hp_gs, hp_gn, hp_ss, List.getElem?_cons_zero, List.getElem?_cons_succ, List.set_cons_zero, List.set_cons_succ]

theorem c_value_9 (hw : cW h X ((tb, tl), (p, rk, tg, f), (ch, ba), (fk, fp), (an, aw, af), (rs, hd)) J im) {v : Nat} (hv : v < pnv p) : zz_run 120 [.ref X, .int (nI v), .int (nI 9)] h = some (some (.int (ch v)), h) := by
  obtain ⟨w0, ⟨e0, e1, e2, e3, e4⟩, w2, w3, w4⟩ := hw
  obtain ⟨t0, t1, t2, t3, t4⟩ := e2
  have q1 := t1.2.2.2.2.2.2.2.2.2.1
  have q2 := t1.2.2.2.2.2.2.2.2.2.2
  have vv := c_isValue t1 (nI v)
  have hx := isV_nI (n := pnv p) (by omega) hv
  have hv21 : v < 21 := by omega
  obtain ⟨c0, c1, c2⟩ := e3
  have w0' := w0
  have e0' := e0
  unfold fsO at w0'
  unfold evO at e0'
  have sw : zz_sw [(nI 0, 80), (nI 1, 88), (nI 2, 96), (nI 3, 109), (nI 4, 118), (nI 5, 124), (nI 6, 133), (nI 7, 143), (nI 8, 149), (nI 9, 161)] 174 (nI 9) = 161 := by decide +kernel
  rw [en120 w0]
  simp (disch := first | assumption | exact zz_nl_i _ | exact zz_nl_r _ | exact zz_nl_n | exact okv_i _ | exact okv_j _ | exact okv_0 | exact okv_1 | exact okv_o _ _ | exact okv_a _ _ | omega | exact llt_0 | ((repeat apply llt_s) <;> exact llt_0) | fail) only [x120_p0, x120_p1, w0', e0', t0, vv, hx, bI_t, nI_01, sw, if_true, if_false, c0, c1, mo_k_v, mo_k_n, mo_v_e, mo_gf_e, mo_pf_e, mo_ia_e, mo_ba_e, mo_za_e, mo_la_e, mo_aa_e, mo_le_e, mo_is_e, mo_bs_e, mo_zs_0, mo_zs_1, mo_ls_e, mo_as_e, mo_na_e, mo_aci_e, mo_acb_e, mo_acj_e, hp_gs, hp_gn, hp_ss, List.getElem?_cons_zero, List.getElem?_cons_succ, List.set_cons_zero, List.set_cons_succ]

theorem c_value_x (hw : cW h X ((tb, tl), (p, rk, tg, f), (ch, ba), (fk, fp), (an, aw, af), (rs, hd)) J im) {v : Nat} (hv : v < pnv p) {y : Int32} (hy : isV 10 y = false) : zz_run 120 [.ref X, .int (nI v), .int y] h = some (some (.int (if y < nI 10 then -1 else letC (pvn p v) (y - nI 10))), h) := by
  obtain ⟨w0, ⟨e0, e1, e2, e3, e4⟩, w2, w3, w4⟩ := hw
  obtain ⟨t0, t1, t2, t3, t4⟩ := e2
  have q1 := t1.2.2.2.2.2.2.2.2.2.1
  have q2 := t1.2.2.2.2.2.2.2.2.2.2
  have vv := c_isValue t1 (nI v)
  have hx := isV_nI (n := pnv p) (by omega) hv
  have hv21 : v < 21 := by omega
  obtain ⟨p0, p1, p2, p3, p4, p5, p6, p7, p8, _, _⟩ := t1
  have n0 := isV_ne hy (by omega) (show 0 < 10 by omega)
  have n1 := isV_ne hy (by omega) (show 1 < 10 by omega)
  have n2 := isV_ne hy (by omega) (show 2 < 10 by omega)
  have n3 := isV_ne hy (by omega) (show 3 < 10 by omega)
  have n4 := isV_ne hy (by omega) (show 4 < 10 by omega)
  have n5 := isV_ne hy (by omega) (show 5 < 10 by omega)
  have n6 := isV_ne hy (by omega) (show 6 < 10 by omega)
  have n7 := isV_ne hy (by omega) (show 7 < 10 by omega)
  have n8 := isV_ne hy (by omega) (show 8 < 10 by omega)
  have n9 := isV_ne hy (by omega) (show 9 < 10 by omega)
  have w0' := w0
  have e0' := e0
  unfold fsO at w0'
  unfold evO at e0'
  have sw : zz_sw [(nI 0, 80), (nI 1, 88), (nI 2, 96), (nI 3, 109), (nI 4, 118), (nI 5, 124), (nI 6, 133), (nI 7, 143), (nI 8, 149), (nI 9, 161)] 174 y = 174 := by rw [zz_sw, if_neg n0, zz_sw, if_neg n1, zz_sw, if_neg n2, zz_sw, if_neg n3, zz_sw, if_neg n4, zz_sw, if_neg n5, zz_sw, if_neg n6, zz_sw, if_neg n7, zz_sw, if_neg n8, zz_sw, if_neg n9, zz_sw]
  rw [en120 w0]
  simp (disch := first | assumption | exact zz_nl_i _ | exact zz_nl_r _ | exact zz_nl_n | exact okv_i _ | exact okv_j _ | exact okv_0 | exact okv_1 | exact okv_o _ _ | exact okv_a _ _ | omega | exact llt_0 | ((repeat apply llt_s) <;> exact llt_0) | fail) only [x120_p0, x120_p1, w0', e0', t0, vv, hx, bI_t, nI_01, p0, p5, sw, if_false, c_letterAsked, n0, n1, n2, n3, n4, n5, n6, n7, n8, n9, mo_k_v, mo_k_n, mo_v_e, mo_gf_e, mo_pf_e, mo_ia_e, mo_ba_e, mo_za_e, mo_la_e, mo_aa_e, mo_le_e, mo_is_e, mo_bs_e, mo_zs_0, mo_zs_1, mo_ls_e, mo_as_e, mo_na_e, mo_aci_e, mo_acb_e, mo_acj_e, hp_gs, hp_gn, hp_ss, List.getElem?_cons_zero, List.getElem?_cons_succ, List.set_cons_zero, List.set_cons_succ]

theorem c_box_no (hw : cW h X ((tb, tl), (p, rk, tg, f), (ch, ba), (fk, fp), (an, aw, af), (rs, hd)) J im) {x y z : Int32} (hx : (isV (pnv p) x && isV 8 y) = false) : zz_run 123 [.ref X, .int x, .int y, .int z] h = some (some (.int (-1)), h) := by
  obtain ⟨w0, ⟨e0, e1, e2, e3, e4⟩, w2, w3, w4⟩ := hw
  have v := c_isValue e2.2.1 x
  have t0 := e2.1
  unfold fsO at w0
  unfold evO at e0
  rw [en123 w0]
  cases h1 : isV (pnv p) x
  · simp (disch := first | assumption | exact zz_nl_i _ | exact zz_nl_r _ | exact zz_nl_n | exact okv_i _ | exact okv_j _ | exact okv_0 | exact okv_1 | exact okv_o _ _ | exact okv_a _ _ | omega | exact llt_0 | ((repeat apply llt_s) <;> exact llt_0) | fail) only [x123, w0, e0, t0, v, h1, bI_f, if_true, mo_k_v, mo_k_n, mo_v_e, mo_gf_e, mo_pf_e, mo_ia_e, mo_ba_e, mo_za_e, mo_la_e, mo_aa_e, mo_le_e, mo_is_e, mo_bs_e, mo_zs_0, mo_zs_1, mo_ls_e, mo_as_e, mo_na_e, mo_aci_e, mo_acb_e, mo_acj_e, hp_gs, hp_gn, hp_ss, List.getElem?_cons_zero, List.getElem?_cons_succ, List.set_cons_zero, List.set_cons_succ]
  · rw [h1, Bool.true_and] at hx
    unfold isV at hx
    rw [decide_eq_false_iff_not] at hx
    by_cases h2 : y < nI 0
    · simp (disch := first | assumption | exact zz_nl_i _ | exact zz_nl_r _ | exact zz_nl_n | exact okv_i _ | exact okv_j _ | exact okv_0 | exact okv_1 | exact okv_o _ _ | exact okv_a _ _ | omega | exact llt_0 | ((repeat apply llt_s) <;> exact llt_0) | fail) only [x123, w0, e0, t0, v, h1, h2, bI_t, nI_01, if_false, if_true, mo_k_v, mo_k_n, mo_v_e, mo_gf_e, mo_pf_e, mo_ia_e, mo_ba_e, mo_za_e, mo_la_e, mo_aa_e, mo_le_e, mo_is_e, mo_bs_e, mo_zs_0, mo_zs_1, mo_ls_e, mo_as_e, mo_na_e, mo_aci_e, mo_acb_e, mo_acj_e, hp_gs, hp_gn, hp_ss, List.getElem?_cons_zero, List.getElem?_cons_succ, List.set_cons_zero, List.set_cons_succ]
    · have h3 : ¬ y < nI 8 := fun c => hx ⟨h2, c⟩
      simp (disch := first | assumption | exact zz_nl_i _ | exact zz_nl_r _ | exact zz_nl_n | exact okv_i _ | exact okv_j _ | exact okv_0 | exact okv_1 | exact okv_o _ _ | exact okv_a _ _ | omega | exact llt_0 | ((repeat apply llt_s) <;> exact llt_0) | fail) only [x123, w0, e0, t0, v, h1, h2, h3, bI_t, nI_01, if_false, mo_k_v, mo_k_n, mo_v_e, mo_gf_e, mo_pf_e, mo_ia_e, mo_ba_e, mo_za_e, mo_la_e, mo_aa_e, mo_le_e, mo_is_e, mo_bs_e, mo_zs_0, mo_zs_1, mo_ls_e, mo_as_e, mo_na_e, mo_aci_e, mo_acb_e, mo_acj_e, hp_gs, hp_gn, hp_ss, List.getElem?_cons_zero, List.getElem?_cons_succ, List.set_cons_zero, List.set_cons_succ]

theorem c_box_0 (hw : cW h X ((tb, tl), (p, rk, tg, f), (ch, ba), (fk, fp), (an, aw, af), (rs, hd)) J im) {v b : Nat} (hv : v < pnv p) (hb : b < 8) (hz : f (8 * v + b) = nI 0) {z : Int32} : zz_run 123 [.ref X, .int (nI v), .int (nI b), .int z] h = some (some (.int (-1)), h) := by
  obtain ⟨w0, ⟨e0, e1, e2, e3, e4⟩, w2, w3, w4⟩ := hw
  obtain ⟨t0, t1, t2, t3, t4⟩ := e2
  have q1 := t1.2.2.2.2.2.2.2.2.2.1
  have q2 := t1.2.2.2.2.2.2.2.2.2.2
  have vv := c_isValue t1 (nI v)
  have hx := isV_nI (n := pnv p) (by omega) hv
  have r := c_bitsOf t4 (show v < 21 by omega) hb
  have w0' := w0
  have e0' := e0
  unfold fsO at w0'
  unfold evO at e0'
  rw [en123 w0]
  simp (disch := first | assumption | exact zz_nl_i _ | exact zz_nl_r _ | exact zz_nl_n | exact okv_i _ | exact okv_j _ | exact okv_0 | exact okv_1 | exact okv_o _ _ | exact okv_a _ _ | omega | exact llt_0 | ((repeat apply llt_s) <;> exact llt_0) | fail) only [x123, w0', e0', t0, vv, hx, bI_t, nI_01, nI_ltI, Nat.not_lt_zero, hb, r, if_true, if_false, hz, mo_k_v, mo_k_n, mo_v_e, mo_gf_e, mo_pf_e, mo_ia_e, mo_ba_e, mo_za_e, mo_la_e, mo_aa_e, mo_le_e, mo_is_e, mo_bs_e, mo_zs_0, mo_zs_1, mo_ls_e, mo_as_e, mo_na_e, mo_aci_e, mo_acb_e, mo_acj_e, hp_gs, hp_gn, hp_ss, List.getElem?_cons_zero, List.getElem?_cons_succ, List.set_cons_zero, List.set_cons_succ]

theorem c_box_k0 (hw : cW h X ((tb, tl), (p, rk, tg, f), (ch, ba), (fk, fp), (an, aw, af), (rs, hd)) J im) {v b : Nat} (hv : v < pnv p) (hb : b < 8) (hz : ¬ f (8 * v + b) = nI 0) : zz_run 123 [.ref X, .int (nI v), .int (nI b), .int (nI 0)] h = some (some (.int (nI (knd (f (8 * v + b))))), h) := by
  obtain ⟨w0, ⟨e0, e1, e2, e3, e4⟩, w2, w3, w4⟩ := hw
  obtain ⟨t0, t1, t2, t3, t4⟩ := e2
  have q1 := t1.2.2.2.2.2.2.2.2.2.1
  have q2 := t1.2.2.2.2.2.2.2.2.2.2
  have vv := c_isValue t1 (nI v)
  have hx := isV_nI (n := pnv p) (by omega) hv
  have r := c_bitsOf t4 (show v < 21 by omega) hb
  have w0' := w0
  have e0' := e0
  unfold fsO at w0'
  unfold evO at e0'
  have sw : zz_sw [(nI 0, 84), (nI 1, 90), (nI 2, 96), (nI 3, 102)] 108 (nI 0) = 84 := by decide +kernel
  rw [en123 w0]
  simp (disch := first | assumption | exact zz_nl_i _ | exact zz_nl_r _ | exact zz_nl_n | exact okv_i _ | exact okv_j _ | exact okv_0 | exact okv_1 | exact okv_o _ _ | exact okv_a _ _ | omega | exact llt_0 | ((repeat apply llt_s) <;> exact llt_0) | fail) only [x123, w0', e0', t0, vv, hx, bI_t, nI_01, nI_ltI, Nat.not_lt_zero, hb, r, hz, sw, if_true, if_false, c_kind, mo_k_v, mo_k_n, mo_v_e, mo_gf_e, mo_pf_e, mo_ia_e, mo_ba_e, mo_za_e, mo_la_e, mo_aa_e, mo_le_e, mo_is_e, mo_bs_e, mo_zs_0, mo_zs_1, mo_ls_e, mo_as_e, mo_na_e, mo_aci_e, mo_acb_e, mo_acj_e, hp_gs, hp_gn, hp_ss, List.getElem?_cons_zero, List.getElem?_cons_succ, List.set_cons_zero, List.set_cons_succ]

theorem c_box_k1 (hw : cW h X ((tb, tl), (p, rk, tg, f), (ch, ba), (fk, fp), (an, aw, af), (rs, hd)) J im) {v b : Nat} (hv : v < pnv p) (hb : b < 8) (hz : ¬ f (8 * v + b) = nI 0) : zz_run 123 [.ref X, .int (nI v), .int (nI b), .int (nI 1)] h = some (some (.int (nI (pc (f (8 * v + b))))), h) := by
  obtain ⟨w0, ⟨e0, e1, e2, e3, e4⟩, w2, w3, w4⟩ := hw
  obtain ⟨t0, t1, t2, t3, t4⟩ := e2
  have q1 := t1.2.2.2.2.2.2.2.2.2.1
  have q2 := t1.2.2.2.2.2.2.2.2.2.2
  have vv := c_isValue t1 (nI v)
  have hx := isV_nI (n := pnv p) (by omega) hv
  have r := c_bitsOf t4 (show v < 21 by omega) hb
  have w0' := w0
  have e0' := e0
  unfold fsO at w0'
  unfold evO at e0'
  have sw : zz_sw [(nI 0, 84), (nI 1, 90), (nI 2, 96), (nI 3, 102)] 108 (nI 1) = 90 := by decide +kernel
  rw [en123 w0]
  simp (disch := first | assumption | exact zz_nl_i _ | exact zz_nl_r _ | exact zz_nl_n | exact okv_i _ | exact okv_j _ | exact okv_0 | exact okv_1 | exact okv_o _ _ | exact okv_a _ _ | omega | exact llt_0 | ((repeat apply llt_s) <;> exact llt_0) | fail) only [x123, w0', e0', t0, vv, hx, bI_t, nI_01, nI_ltI, Nat.not_lt_zero, hb, r, hz, sw, if_true, if_false, c_bitCount, mo_k_v, mo_k_n, mo_v_e, mo_gf_e, mo_pf_e, mo_ia_e, mo_ba_e, mo_za_e, mo_la_e, mo_aa_e, mo_le_e, mo_is_e, mo_bs_e, mo_zs_0, mo_zs_1, mo_ls_e, mo_as_e, mo_na_e, mo_aci_e, mo_acb_e, mo_acj_e, hp_gs, hp_gn, hp_ss, List.getElem?_cons_zero, List.getElem?_cons_succ, List.set_cons_zero, List.set_cons_succ]

theorem c_box_k2 (hw : cW h X ((tb, tl), (p, rk, tg, f), (ch, ba), (fk, fp), (an, aw, af), (rs, hd)) J im) {v b : Nat} (hv : v < pnv p) (hb : b < 8) (hz : ¬ f (8 * v + b) = nI 0) : zz_run 123 [.ref X, .int (nI v), .int (nI b), .int (nI 2)] h = some (some (.int (nI (cst (f (8 * v + b))))), h) := by
  obtain ⟨w0, ⟨e0, e1, e2, e3, e4⟩, w2, w3, w4⟩ := hw
  obtain ⟨t0, t1, t2, t3, t4⟩ := e2
  have q1 := t1.2.2.2.2.2.2.2.2.2.1
  have q2 := t1.2.2.2.2.2.2.2.2.2.2
  have vv := c_isValue t1 (nI v)
  have hx := isV_nI (n := pnv p) (by omega) hv
  have r := c_bitsOf t4 (show v < 21 by omega) hb
  have w0' := w0
  have e0' := e0
  unfold fsO at w0'
  unfold evO at e0'
  have sw : zz_sw [(nI 0, 84), (nI 1, 90), (nI 2, 96), (nI 3, 102)] 108 (nI 2) = 96 := by decide +kernel
  rw [en123 w0]
  simp (disch := first | assumption | exact zz_nl_i _ | exact zz_nl_r _ | exact zz_nl_n | exact okv_i _ | exact okv_j _ | exact okv_0 | exact okv_1 | exact okv_o _ _ | exact okv_a _ _ | omega | exact llt_0 | ((repeat apply llt_s) <;> exact llt_0) | fail) only [x123, w0', e0', t0, vv, hx, bI_t, nI_01, nI_ltI, Nat.not_lt_zero, hb, r, hz, sw, if_true, if_false, c_cost, mo_k_v, mo_k_n, mo_v_e, mo_gf_e, mo_pf_e, mo_ia_e, mo_ba_e, mo_za_e, mo_la_e, mo_aa_e, mo_le_e, mo_is_e, mo_bs_e, mo_zs_0, mo_zs_1, mo_ls_e, mo_as_e, mo_na_e, mo_aci_e, mo_acb_e, mo_acj_e, hp_gs, hp_gn, hp_ss, List.getElem?_cons_zero, List.getElem?_cons_succ, List.set_cons_zero, List.set_cons_succ]

theorem c_box_k3 (hw : cW h X ((tb, tl), (p, rk, tg, f), (ch, ba), (fk, fp), (an, aw, af), (rs, hd)) J im) {v b : Nat} (hv : v < pnv p) (hb : b < 8) (hz : ¬ f (8 * v + b) = nI 0) : zz_run 123 [.ref X, .int (nI v), .int (nI b), .int (nI 3)] h = some (some (.int (nI (rns (f (8 * v + b))))), h) := by
  obtain ⟨w0, ⟨e0, e1, e2, e3, e4⟩, w2, w3, w4⟩ := hw
  obtain ⟨t0, t1, t2, t3, t4⟩ := e2
  have q1 := t1.2.2.2.2.2.2.2.2.2.1
  have q2 := t1.2.2.2.2.2.2.2.2.2.2
  have vv := c_isValue t1 (nI v)
  have hx := isV_nI (n := pnv p) (by omega) hv
  have r := c_bitsOf t4 (show v < 21 by omega) hb
  have w0' := w0
  have e0' := e0
  unfold fsO at w0'
  unfold evO at e0'
  have sw : zz_sw [(nI 0, 84), (nI 1, 90), (nI 2, 96), (nI 3, 102)] 108 (nI 3) = 102 := by decide +kernel
  rw [en123 w0]
  simp (disch := first | assumption | exact zz_nl_i _ | exact zz_nl_r _ | exact zz_nl_n | exact okv_i _ | exact okv_j _ | exact okv_0 | exact okv_1 | exact okv_o _ _ | exact okv_a _ _ | omega | exact llt_0 | ((repeat apply llt_s) <;> exact llt_0) | fail) only [x123, w0', e0', t0, vv, hx, bI_t, nI_01, nI_ltI, Nat.not_lt_zero, hb, r, hz, sw, if_true, if_false, c_runs, mo_k_v, mo_k_n, mo_v_e, mo_gf_e, mo_pf_e, mo_ia_e, mo_ba_e, mo_za_e, mo_la_e, mo_aa_e, mo_le_e, mo_is_e, mo_bs_e, mo_zs_0, mo_zs_1, mo_ls_e, mo_as_e, mo_na_e, mo_aci_e, mo_acb_e, mo_acj_e, hp_gs, hp_gn, hp_ss, List.getElem?_cons_zero, List.getElem?_cons_succ, List.set_cons_zero, List.set_cons_succ]

theorem c_box_x (hw : cW h X ((tb, tl), (p, rk, tg, f), (ch, ba), (fk, fp), (an, aw, af), (rs, hd)) J im) {v b : Nat} (hv : v < pnv p) (hb : b < 8) (hz : ¬ f (8 * v + b) = nI 0) {y : Int32} (hy : isV 4 y = false) : zz_run 123 [.ref X, .int (nI v), .int (nI b), .int y] h = some (some (.int (-1)), h) := by
  obtain ⟨w0, ⟨e0, e1, e2, e3, e4⟩, w2, w3, w4⟩ := hw
  obtain ⟨t0, t1, t2, t3, t4⟩ := e2
  have q1 := t1.2.2.2.2.2.2.2.2.2.1
  have q2 := t1.2.2.2.2.2.2.2.2.2.2
  have vv := c_isValue t1 (nI v)
  have hx := isV_nI (n := pnv p) (by omega) hv
  have r := c_bitsOf t4 (show v < 21 by omega) hb
  have n0 := isV_ne hy (by omega) (show 0 < 4 by omega)
  have n1 := isV_ne hy (by omega) (show 1 < 4 by omega)
  have n2 := isV_ne hy (by omega) (show 2 < 4 by omega)
  have n3 := isV_ne hy (by omega) (show 3 < 4 by omega)
  have w0' := w0
  have e0' := e0
  unfold fsO at w0'
  unfold evO at e0'
  have sw : zz_sw [(nI 0, 84), (nI 1, 90), (nI 2, 96), (nI 3, 102)] 108 y = 108 := by rw [zz_sw, if_neg n0, zz_sw, if_neg n1, zz_sw, if_neg n2, zz_sw, if_neg n3, zz_sw]
  rw [en123 w0]
  simp (disch := first | assumption | exact zz_nl_i _ | exact zz_nl_r _ | exact zz_nl_n | exact okv_i _ | exact okv_j _ | exact okv_0 | exact okv_1 | exact okv_o _ _ | exact okv_a _ _ | omega | exact llt_0 | ((repeat apply llt_s) <;> exact llt_0) | fail) only [x123, w0', e0', t0, vv, hx, bI_t, nI_01, nI_ltI, Nat.not_lt_zero, hb, r, hz, sw, if_true, if_false, n0, n1, n2, n3, mo_k_v, mo_k_n, mo_v_e, mo_gf_e, mo_pf_e, mo_ia_e, mo_ba_e, mo_za_e, mo_la_e, mo_aa_e, mo_le_e, mo_is_e, mo_bs_e, mo_zs_0, mo_zs_1, mo_ls_e, mo_as_e, mo_na_e, mo_aci_e, mo_acb_e, mo_acj_e, hp_gs, hp_gn, hp_ss, List.getElem?_cons_zero, List.getElem?_cons_succ, List.set_cons_zero, List.set_cons_succ]

theorem c_rec_no (hw : cW h X ((tb, tl), (p, rk, tg, f), (ch, ba), (fk, fp), (an, aw, af), (rs, hd)) J im) {x y : Int32} (ht : thrC rk x = false) : zz_run 124 [.ref X, .int x, .int y] h = some (some (.int (-1)), h) := by
  obtain ⟨w0, ⟨e0, e1, e2, e3, e4⟩, w2, w3, w4⟩ := hw
  have t := c_isThere e2 x
  have w0' := w0
  have e0' := e0
  unfold fsO at w0'
  unfold evO at e0'
  rw [en124 w0]
  simp (disch := first | assumption | exact zz_nl_i _ | exact zz_nl_r _ | exact zz_nl_n | exact okv_i _ | exact okv_j _ | exact okv_0 | exact okv_1 | exact okv_o _ _ | exact okv_a _ _ | omega | exact llt_0 | ((repeat apply llt_s) <;> exact llt_0) | fail) only [x124, w0', e0', t, ht, bI_f, if_true, mo_k_v, mo_k_n, mo_v_e, mo_gf_e, mo_pf_e, mo_ia_e, mo_ba_e, mo_za_e, mo_la_e, mo_aa_e, mo_le_e, mo_is_e, mo_bs_e, mo_zs_0, mo_zs_1, mo_ls_e, mo_as_e, mo_na_e, mo_aci_e, mo_acb_e, mo_acj_e, hp_gs, hp_gn, hp_ss, List.getElem?_cons_zero, List.getElem?_cons_succ, List.set_cons_zero, List.set_cons_succ]

theorem c_rec_0 (hw : cW h X ((tb, tl), (p, rk, tg, f), (ch, ba), (fk, fp), (an, aw, af), (rs, hd)) J im) {q : Nat} (hq : q < 256) (ht : thrC rk (nI q) = true) : zz_run 124 [.ref X, .int (nI q), .int (nI 0)] h = some (some (.int (rk q)), h) := by
  obtain ⟨w0, ⟨e0, e1, e2, e3, e4⟩, w2, w3, w4⟩ := hw
  have t := c_isThere e2 (nI q)
  obtain ⟨t0, t1, t2, t3, t4⟩ := e2
  have w0' := w0
  have e0' := e0
  unfold fsO at w0'
  unfold evO at e0'
  have sw : zz_sw [(nI 0, 44), (nI 1, 51), (nI 2, 61)] 90 (nI 0) = 44 := by decide +kernel
  rw [en124 w0]
  simp (disch := first | assumption | exact zz_nl_i _ | exact zz_nl_r _ | exact zz_nl_n | exact okv_i _ | exact okv_j _ | exact okv_0 | exact okv_1 | exact okv_o _ _ | exact okv_a _ _ | omega | exact llt_0 | ((repeat apply llt_s) <;> exact llt_0) | fail) only [x124, w0', e0', t0, t2, t, ht, bI_t, nI_01, sw, if_true, if_false, mo_k_v, mo_k_n, mo_v_e, mo_gf_e, mo_pf_e, mo_ia_e, mo_ba_e, mo_za_e, mo_la_e, mo_aa_e, mo_le_e, mo_is_e, mo_bs_e, mo_zs_0, mo_zs_1, mo_ls_e, mo_as_e, mo_na_e, mo_aci_e, mo_acb_e, mo_acj_e, hp_gs, hp_gn, hp_ss, List.getElem?_cons_zero, List.getElem?_cons_succ, List.set_cons_zero, List.set_cons_succ]

theorem c_rec_1 (hw : cW h X ((tb, tl), (p, rk, tg, f), (ch, ba), (fk, fp), (an, aw, af), (rs, hd)) J im) {q : Nat} (hq : q < 256) (ht : thrC rk (nI q) = true) : zz_run 124 [.ref X, .int (nI q), .int (nI 1)] h = some (some (.int (nI (pc (tg q)))), h) := by
  obtain ⟨w0, ⟨e0, e1, e2, e3, e4⟩, w2, w3, w4⟩ := hw
  have t := c_isThere e2 (nI q)
  obtain ⟨t0, t1, t2, t3, t4⟩ := e2
  have w0' := w0
  have e0' := e0
  unfold fsO at w0'
  unfold evO at e0'
  have sw : zz_sw [(nI 0, 44), (nI 1, 51), (nI 2, 61)] 90 (nI 1) = 51 := by decide +kernel
  rw [en124 w0]
  simp (disch := first | assumption | exact zz_nl_i _ | exact zz_nl_r _ | exact zz_nl_n | exact okv_i _ | exact okv_j _ | exact okv_0 | exact okv_1 | exact okv_o _ _ | exact okv_a _ _ | omega | exact llt_0 | ((repeat apply llt_s) <;> exact llt_0) | fail) only [x124, w0', e0', t0, t3, t, ht, bI_t, nI_01, c_bitCount, sw, if_true, if_false, mo_k_v, mo_k_n, mo_v_e, mo_gf_e, mo_pf_e, mo_ia_e, mo_ba_e, mo_za_e, mo_la_e, mo_aa_e, mo_le_e, mo_is_e, mo_bs_e, mo_zs_0, mo_zs_1, mo_ls_e, mo_as_e, mo_na_e, mo_aci_e, mo_acb_e, mo_acj_e, hp_gs, hp_gn, hp_ss, List.getElem?_cons_zero, List.getElem?_cons_succ, List.set_cons_zero, List.set_cons_succ]

theorem c_rec_2 (hw : cW h X ((tb, tl), (p, rk, tg, f), (ch, ba), (fk, fp), (an, aw, af), (rs, hd)) J im) (hwf : wfP p) {q : Nat} (hq : q < 256) (ht : thrC rk (nI q) = true) : zz_run 124 [.ref X, .int (nI q), .int (nI 2)] h = some (some (.int (bI (pb (fun blk => lfW p f ch ba blk (-1) (-1)) q))), h) := by
  obtain ⟨w0, ⟨e0, e1, e2, e3, e4⟩, w2, w3, w4⟩ := hw
  have t := c_isThere e2 (nI q)
  have hb : q / 32 < 8 := by omega
  have hm : q % 32 < 32 := Nat.mod_lt _ (by omega)
  have r := c_leftIn e0 e2 e3 (wfP_F hwf) hb (-1) (-1)
  obtain ⟨d1, d2⟩ := dm32 hq
  rw [d1] at d2
  have n := n32
  unfold fsO at w0
  unfold evO at e0
  have sw : zz_sw [(nI 0, 44), (nI 1, 51), (nI 2, 61)] 90 (nI 2) = 61 := by decide +kernel
  rw [en124 w0]
  unfold pb
  cases hh : bt (lfW p f ch ba (q / 32) (-1) (-1)) (q % 32)
  · simp (disch := first | assumption | exact zz_nl_i _ | exact zz_nl_r _ | exact zz_nl_n | exact okv_i _ | exact okv_j _ | exact okv_0 | exact okv_1 | exact okv_o _ _ | exact okv_a _ _ | omega | exact llt_0 | ((repeat apply llt_s) <;> exact llt_0) | fail) only [x124, w0, e0, t, ht, bI_t, bI_f, nI_01, sw, if_true, if_false, n, d1, d2, r, c_hasBit hm, hh, Bool.false_eq_true, mo_k_v, mo_k_n, mo_v_e, mo_gf_e, mo_pf_e, mo_ia_e, mo_ba_e, mo_za_e, mo_la_e, mo_aa_e, mo_le_e, mo_is_e, mo_bs_e, mo_zs_0, mo_zs_1, mo_ls_e, mo_as_e, mo_na_e, mo_aci_e, mo_acb_e, mo_acj_e, hp_gs, hp_gn, hp_ss, List.getElem?_cons_zero, List.getElem?_cons_succ, List.set_cons_zero, List.set_cons_succ]
  · simp (disch := first | assumption | exact zz_nl_i _ | exact zz_nl_r _ | exact zz_nl_n | exact okv_i _ | exact okv_j _ | exact okv_0 | exact okv_1 | exact okv_o _ _ | exact okv_a _ _ | omega | exact llt_0 | ((repeat apply llt_s) <;> exact llt_0) | fail) only [x124, w0, e0, t, ht, bI_t, bI_f, nI_01, sw, if_true, if_false, n, d1, d2, r, c_hasBit hm, hh, mo_k_v, mo_k_n, mo_v_e, mo_gf_e, mo_pf_e, mo_ia_e, mo_ba_e, mo_za_e, mo_la_e, mo_aa_e, mo_le_e, mo_is_e, mo_bs_e, mo_zs_0, mo_zs_1, mo_ls_e, mo_as_e, mo_na_e, mo_aci_e, mo_acb_e, mo_acj_e, hp_gs, hp_gn, hp_ss, List.getElem?_cons_zero, List.getElem?_cons_succ, List.set_cons_zero, List.set_cons_succ]

theorem c_rec_lo (hw : cW h X ((tb, tl), (p, rk, tg, f), (ch, ba), (fk, fp), (an, aw, af), (rs, hd)) J im) {q : Nat} (hq : q < 256) (ht : thrC rk (nI q) = true) {y : Int32} (hy : isV 3 y = false) (hl : y < nI 10) : zz_run 124 [.ref X, .int (nI q), .int y] h = some (some (.int (-1)), h) := by
  obtain ⟨w0, ⟨e0, e1, e2, e3, e4⟩, w2, w3, w4⟩ := hw
  have t := c_isThere e2 (nI q)
  have n0 := isV_ne hy (by omega) (show 0 < 3 by omega)
  have n1 := isV_ne hy (by omega) (show 1 < 3 by omega)
  have n2 := isV_ne hy (by omega) (show 2 < 3 by omega)
  have w0' := w0
  have e0' := e0
  unfold fsO at w0'
  unfold evO at e0'
  have sw : zz_sw [(nI 0, 44), (nI 1, 51), (nI 2, 61)] 90 y = 90 := by rw [zz_sw, if_neg n0, zz_sw, if_neg n1, zz_sw, if_neg n2, zz_sw]
  rw [en124 w0]
  simp (disch := first | assumption | exact zz_nl_i _ | exact zz_nl_r _ | exact zz_nl_n | exact okv_i _ | exact okv_j _ | exact okv_0 | exact okv_1 | exact okv_o _ _ | exact okv_a _ _ | omega | exact llt_0 | ((repeat apply llt_s) <;> exact llt_0) | fail) only [x124, w0', e0', t, ht, bI_t, nI_01, sw, if_false, if_true, hl, n0, n1, n2, mo_k_v, mo_k_n, mo_v_e, mo_gf_e, mo_pf_e, mo_ia_e, mo_ba_e, mo_za_e, mo_la_e, mo_aa_e, mo_le_e, mo_is_e, mo_bs_e, mo_zs_0, mo_zs_1, mo_ls_e, mo_as_e, mo_na_e, mo_aci_e, mo_acb_e, mo_acj_e, hp_gs, hp_gn, hp_ss, List.getElem?_cons_zero, List.getElem?_cons_succ, List.set_cons_zero, List.set_cons_succ]

theorem c_rec_hi (hw : cW h X ((tb, tl), (p, rk, tg, f), (ch, ba), (fk, fp), (an, aw, af), (rs, hd)) J im) {q : Nat} (hq : q < 256) (ht : thrC rk (nI q) = true) {y : Int32} (hl : ¬ y < nI 10) : zz_run 124 [.ref X, .int (nI q), .int y] h = some (some (.int (KT (bt (tg q)) 32 (y - nI 10))), h) := by
  obtain ⟨w0, ⟨e0, e1, e2, e3, e4⟩, w2, w3, w4⟩ := hw
  have t := c_isThere e2 (nI q)
  obtain ⟨t0, t1, t2, t3, t4⟩ := e2
  have n0 : ¬ y = nI 0 := by rintro rfl; exact hl (by decide +kernel)
  have n1 : ¬ y = nI 1 := by rintro rfl; exact hl (by decide +kernel)
  have n2 : ¬ y = nI 2 := by rintro rfl; exact hl (by decide +kernel)
  have w0' := w0
  have e0' := e0
  unfold fsO at w0'
  unfold evO at e0'
  have sw : zz_sw [(nI 0, 44), (nI 1, 51), (nI 2, 61)] 90 y = 90 := by rw [zz_sw, if_neg n0, zz_sw, if_neg n1, zz_sw, if_neg n2, zz_sw]
  rw [en124 w0]
  simp (disch := first | assumption | exact zz_nl_i _ | exact zz_nl_r _ | exact zz_nl_n | exact okv_i _ | exact okv_j _ | exact okv_0 | exact okv_1 | exact okv_o _ _ | exact okv_a _ _ | omega | exact llt_0 | ((repeat apply llt_s) <;> exact llt_0) | fail) only [x124, w0', e0', t0, t3, t, ht, bI_t, nI_01, sw, if_false, hl, n0, n1, n2, c_bitAt, mo_k_v, mo_k_n, mo_v_e, mo_gf_e, mo_pf_e, mo_ia_e, mo_ba_e, mo_za_e, mo_la_e, mo_aa_e, mo_le_e, mo_is_e, mo_bs_e, mo_zs_0, mo_zs_1, mo_ls_e, mo_as_e, mo_na_e, mo_aci_e, mo_acb_e, mo_acj_e, hp_gs, hp_gn, hp_ss, List.getElem?_cons_zero, List.getElem?_cons_succ, List.set_cons_zero, List.set_cons_succ]

theorem c_has_no (hw : cW h X ((tb, tl), (p, rk, tg, f), (ch, ba), (fk, fp), (an, aw, af), (rs, hd)) J im) {x y : Int32} (hx : (isV 256 x && isV (pnv p) y) = false) : zz_run 125 [.ref X, .int x, .int y] h = some (some (.int (nI 0)), h) := by
  obtain ⟨w0, ⟨e0, e1, e2, e3, e4⟩, w2, w3, w4⟩ := hw
  have v := c_isValue e2.2.1 y
  have t0 := e2.1
  unfold fsO at w0
  unfold evO at e0
  rw [en125 w0]
  cases h1 : isV 256 x
  · simp (disch := first | assumption | exact zz_nl_i _ | exact zz_nl_r _ | exact zz_nl_n | exact okv_i _ | exact okv_j _ | exact okv_0 | exact okv_1 | exact okv_o _ _ | exact okv_a _ _ | omega | exact llt_0 | ((repeat apply llt_s) <;> exact llt_0) | fail) only [x125, xb125, c_isRecord, h1, bI_f, if_true, mo_k_v, mo_k_n, mo_v_e, mo_gf_e, mo_pf_e, mo_ia_e, mo_ba_e, mo_za_e, mo_la_e, mo_aa_e, mo_le_e, mo_is_e, mo_bs_e, mo_zs_0, mo_zs_1, mo_ls_e, mo_as_e, mo_na_e, mo_aci_e, mo_acb_e, mo_acj_e, hp_gs, hp_gn, hp_ss, List.getElem?_cons_zero, List.getElem?_cons_succ, List.set_cons_zero, List.set_cons_succ]
  · rw [h1, Bool.true_and] at hx
    simp (disch := first | assumption | exact zz_nl_i _ | exact zz_nl_r _ | exact zz_nl_n | exact okv_i _ | exact okv_j _ | exact okv_0 | exact okv_1 | exact okv_o _ _ | exact okv_a _ _ | omega | exact llt_0 | ((repeat apply llt_s) <;> exact llt_0) | fail) only [x125, xb125, c_isRecord, w0, e0, t0, v, h1, hx, bI_t, bI_f, nI_01, if_false, if_true, mo_k_v, mo_k_n, mo_v_e, mo_gf_e, mo_pf_e, mo_ia_e, mo_ba_e, mo_za_e, mo_la_e, mo_aa_e, mo_le_e, mo_is_e, mo_bs_e, mo_zs_0, mo_zs_1, mo_ls_e, mo_as_e, mo_na_e, mo_aci_e, mo_acb_e, mo_acj_e, hp_gs, hp_gn, hp_ss, List.getElem?_cons_zero, List.getElem?_cons_succ, List.set_cons_zero, List.set_cons_succ]
theorem c_has_ok (hw : cW h X ((tb, tl), (p, rk, tg, f), (ch, ba), (fk, fp), (an, aw, af), (rs, hd)) J im) {q v : Nat} (hq : q < 256) (hv : v < pnv p) : zz_run 125 [.ref X, .int (nI q), .int (nI v)] h = some (some (.int (bI (pb (rw8 f v) q))), h) := by
  obtain ⟨w0, ⟨e0, e1, ⟨t0, t1, t2, t3, t4⟩, e3, e4⟩, w2, w3, w4⟩ := hw
  have q2 := t1.2.2.2.2.2.2.2.2.2.2
  have vv := c_isValue t1 (nI v)
  have h1 := isV_nI (n := 256) (by omega) hq
  have h2 := isV_nI (n := pnv p) (by omega) hv
  have r := c_holds t4 (show v < 21 by omega) hq
  unfold fsO at w0
  unfold evO at e0
  rw [en125 w0]
  cases hh : pb (rw8 f v) q
  · rw [hh] at r
    simp (disch := first | assumption | exact zz_nl_i _ | exact zz_nl_r _ | exact zz_nl_n | exact okv_i _ | exact okv_j _ | exact okv_0 | exact okv_1 | exact okv_o _ _ | exact okv_a _ _ | omega | exact llt_0 | ((repeat apply llt_s) <;> exact llt_0) | fail) only [x125, xb125, c_isRecord, w0, e0, t0, vv, h1, h2, bI_t, bI_f, nI_01, if_false, if_true, r, Bool.false_eq_true, mo_k_v, mo_k_n, mo_v_e, mo_gf_e, mo_pf_e, mo_ia_e, mo_ba_e, mo_za_e, mo_la_e, mo_aa_e, mo_le_e, mo_is_e, mo_bs_e, mo_zs_0, mo_zs_1, mo_ls_e, mo_as_e, mo_na_e, mo_aci_e, mo_acb_e, mo_acj_e, hp_gs, hp_gn, hp_ss, List.getElem?_cons_zero, List.getElem?_cons_succ, List.set_cons_zero, List.set_cons_succ]
  · rw [hh] at r
    simp (disch := first | assumption | exact zz_nl_i _ | exact zz_nl_r _ | exact zz_nl_n | exact okv_i _ | exact okv_j _ | exact okv_0 | exact okv_1 | exact okv_o _ _ | exact okv_a _ _ | omega | exact llt_0 | ((repeat apply llt_s) <;> exact llt_0) | fail) only [x125, xb125, c_isRecord, w0, e0, t0, vv, h1, h2, bI_t, bI_f, nI_01, if_false, if_true, r, mo_k_v, mo_k_n, mo_v_e, mo_gf_e, mo_pf_e, mo_ia_e, mo_ba_e, mo_za_e, mo_la_e, mo_aa_e, mo_le_e, mo_is_e, mo_bs_e, mo_zs_0, mo_zs_1, mo_ls_e, mo_as_e, mo_na_e, mo_aci_e, mo_acb_e, mo_acj_e, hp_gs, hp_gn, hp_ss, List.getElem?_cons_zero, List.getElem?_cons_succ, List.set_cons_zero, List.set_cons_succ]

end
