/-! the reference: head, box, record, has -/
theorem ct_range {Q : Nat → Prop} [DecidablePred Q] {R : Nat → Bool} {fi si nv : Nat} (hn : fi + si ≤ nv) (hQ : ∀ v, v < nv → (Q v ↔ fi ≤ v ∧ v < fi + si)) : fb_ct (fun v => decide (Q v) && R v) nv = fb_ct (fun i => R (fi + i)) si := by
  obtain ⟨d, rfl⟩ : ∃ d, nv = fi + (si + d) := ⟨nv - fi - si, by omega⟩
  rw [fb_ct_split, fb_ct_split]
  have h1 : fb_ct (fun v => decide (Q v) && R v) fi = 0 := fb_ct_zero.mpr (fun k hk => by rw [decide_eq_false (fun c => by have := (hQ k (by omega)).mp c; omega), Bool.false_and])
  have h2 : fb_ct (fun k => decide (Q (fi + (si + k))) && R (fi + (si + k))) d = 0 := fb_ct_zero.mpr (fun k hk => by rw [decide_eq_false (fun c => by have := (hQ (fi + (si + k)) (by omega)).mp c; omega), Bool.false_and])
  have h3 : fb_ct (fun k => decide (Q (fi + k)) && R (fi + k)) si = fb_ct (fun i => R (fi + i)) si := fb_ct_cong (fun k hk => by rw [decide_eq_true ((hQ (fi + k) (by omega)).mpr ⟨by omega, by omega⟩), Bool.true_and])
  omega
section
variable {h : zz_H} {M : Nat} {A : Nat → Int32} {mt mk mp mu ms mn mo ml : Int32} {mv : Int64} {me mf mw : Int32} {p : Pl} {rk tg f ch ba : Nat → Int32}
theorem m_letter (w0 : hp_g h M = some (mdO M mt mk mp mu ms mn mo ml mv me mf mw)) (wA : hp_g h (M + 1) = some (iA 12639 A)) {a : Nat} {w : Int64} (hn : nmR A a w) (ha : a < 12600) (x : Int32) : zz_run 181 [.ref M, .int (nI a), .int x] h = some (some (.int (letC w x)), h) := by
  obtain ⟨n, h1, h2, h3⟩ := let_nm hn x
  rw [en181 w0, h3]
  cases hx : isV n x with
  | false =>
    simp (disch := first | assumption | exact zz_nl_i _ | exact zz_nl_r _ | exact zz_nl_n | exact okv_i _ | exact okv_j _ | exact okv_0 | exact okv_1 | exact okv_o _ _ | exact okv_a _ _ | exact bI_okr _ | omega | exact llt_0 | ((repeat apply llt_s) <;> exact llt_0) | fail) only [x181, w0, wA, h2, m_isIn, in_V', hx, bI_f, if_true, Bool.false_eq_true, if_false, mo_k_v, mo_k_n, mo_v_e, mo_gf_e, mo_pf_e, mo_ia_e, mo_ba_e, mo_za_e, mo_la_e, mo_aa_e, mo_le_e, mo_is_e, mo_bs_e, mo_zs_0, mo_zs_1, mo_ls_e, mo_as_e, mo_na_e, mo_aci_e, mo_acb_e, mo_acj_e, hp_gs, hp_gn, hp_ss, List.getElem?_cons_zero, List.getElem?_cons_succ, List.set_cons_zero, List.set_cons_succ]
  | true =>
    obtain ⟨k, hk, rfl⟩ := (isV_iff (by omega)).mp hx
    simp (disch := first | assumption | exact zz_nl_i _ | exact zz_nl_r _ | exact zz_nl_n | exact okv_i _ | exact okv_j _ | exact okv_0 | exact okv_1 | exact okv_o _ _ | exact okv_a _ _ | exact bI_okr _ | omega | exact llt_0 | ((repeat apply llt_s) <;> exact llt_0) | fail) only [x181, w0, wA, h2, m_isIn, in_V', hx, bI_t, nI_01, if_true, if_false, nI_add, nI_clamp, mo_k_v, mo_k_n, mo_v_e, mo_gf_e, mo_pf_e, mo_ia_e, mo_ba_e, mo_za_e, mo_la_e, mo_aa_e, mo_le_e, mo_is_e, mo_bs_e, mo_zs_0, mo_zs_1, mo_ls_e, mo_as_e, mo_na_e, mo_aci_e, mo_acb_e, mo_acj_e, hp_gs, hp_gn, hp_ss, List.getElem?_cons_zero, List.getElem?_cons_succ, List.set_cons_zero, List.set_cons_succ]
theorem m_head_no (w0 : hp_g h M = some (mdO M mt mk mp mu ms mn mo ml mv me mf mw)) (wA : hp_g h (M + 1) = some (iA 12639 A)) (hr : RS A 0 p rk tg ch ba) (hc : CI p rk tg f ch ba) {x y : Int32} (hx : isV (pnh p) x = false) : zz_run 179 [.ref M, .int x, .int y] h = some (some (.int (-1)), h) := by
  rw [en179 w0]
  simp (disch := first | assumption | exact zz_nl_i _ | exact zz_nl_r _ | exact zz_nl_n | exact okv_i _ | exact okv_j _ | exact okv_0 | exact okv_1 | exact okv_o _ _ | exact okv_a _ _ | exact bI_okr _ | omega | exact llt_0 | ((repeat apply llt_s) <;> exact llt_0) | fail) only [x179_p0, x179_p1, m_isHead w0 wA hr, hx, bI_f, if_true, mo_k_v, mo_k_n, mo_v_e, mo_gf_e, mo_pf_e, mo_ia_e, mo_ba_e, mo_za_e, mo_la_e, mo_aa_e, mo_le_e, mo_is_e, mo_bs_e, mo_zs_0, mo_zs_1, mo_ls_e, mo_as_e, mo_na_e, mo_aci_e, mo_acb_e, mo_acj_e, hp_gs, hp_gn, hp_ss, List.getElem?_cons_zero, List.getElem?_cons_succ, List.set_cons_zero, List.set_cons_succ]
theorem m_head_hi (w0 : hp_g h M = some (mdO M mt mk mp mu ms mn mo ml mv me mf mw)) (wA : hp_g h (M + 1) = some (iA 12639 A)) (hr : RS A 0 p rk tg ch ba) (hc : CI p rk tg f ch ba) {d : Nat} (hd : d < pnh p) {y : Int32} (hy : ¬ y < nI 10) : zz_run 179 [.ref M, .int (nI d), .int y] h = some (some (.int (letC (phn p d) (y - nI 10))), h) := by
  have r1 := hr.1.1
  have hv : isV (pnh p) (nI d) = true := isV_nI (by omega) hd
  have hnm := (hr.2.1 d hd).2.2
  rw [Nat.zero_add] at hnm
  rw [en179 w0]
  simp (disch := first | assumption | exact zz_nl_i _ | exact zz_nl_r _ | exact zz_nl_n | exact okv_i _ | exact okv_j _ | exact okv_0 | exact okv_1 | exact okv_o _ _ | exact okv_a _ _ | exact bI_okr _ | omega | exact llt_0 | ((repeat apply llt_s) <;> exact llt_0) | fail) only [x179_p0, x179_p1, m_isHead w0 wA hr, hv, bI_t, nI_01, if_false, m_headAt, hy, nI_add, m_letter w0 wA hnm, mo_k_v, mo_k_n, mo_v_e, mo_gf_e, mo_pf_e, mo_ia_e, mo_ba_e, mo_za_e, mo_la_e, mo_aa_e, mo_le_e, mo_is_e, mo_bs_e, mo_zs_0, mo_zs_1, mo_ls_e, mo_as_e, mo_na_e, mo_aci_e, mo_acb_e, mo_acj_e, hp_gs, hp_gn, hp_ss, List.getElem?_cons_zero, List.getElem?_cons_succ, List.set_cons_zero, List.set_cons_succ]
theorem m_head_lo (w0 : hp_g h M = some (mdO M mt mk mp mu ms mn mo ml mv me mf mw)) (wA : hp_g h (M + 1) = some (iA 12639 A)) (hr : RS A 0 p rk tg ch ba) (hc : CI p rk tg f ch ba) {d : Nat} (hd : d < pnh p) {y : Int32} (hy : y < nI 10) : zz_run 179 [.ref M, .int (nI d), .int y] h = some (some (.int (if y = nI 0 then pmn p d else if y = nI 2 then ba d else if y = nI 1 ∨ y = nI 3 then nI (fb_ct (fun v => decide (pho p v = nI d) && (decide (y = nI 1) || decide (ch v = nI 1))) (pnv p)) else -1)), h) := by
  obtain ⟨r1, r2, r3, r4⟩ := hr.1
  rw [Nat.zero_add] at r4
  have hv : isV (pnh p) (nI d) = true := isV_nI (by omega) hd
  obtain ⟨g1, g2, _⟩ := hr.2.1 d hd
  rw [Nat.zero_add] at g1 g2
  have step : ∀ v n, v < pnv p → zz_Y 179 (39, [some (.ref (M)), some (.int (nI (d))), some (.int (y)), some (.int (nI (10 + 11 * d))), some (.int (nI (n))), some (.int (nI (v)))], [], h) = zz_Y 179 (39, [some (.ref (M)), some (.int (nI (d))), some (.int (y)), some (.int (nI (10 + 11 * d))), some (.int (nI (n + (if (decide (pho p v = nI d) && (decide (y = nI 1) || decide (ch v = nI 1))) = true then 1 else 0)))), some (.int (nI (v + 1)))], [], h) := by
    intro v n hv
    obtain ⟨q1, _, q3, _⟩ := hr.2.2.1 v hv
    rw [Nat.zero_add] at q1 q3
    rw [x179_c39]
    by_cases c1 : pho p v = nI d
    · have c1t := eq_true c1
      by_cases c2 : y = nI 1
      · have c2t := eq_true c2
        simp (disch := first | assumption | exact zz_nl_i _ | exact zz_nl_r _ | exact zz_nl_n | exact okv_i _ | exact okv_j _ | exact okv_0 | exact okv_1 | exact okv_o _ _ | exact okv_a _ _ | exact bI_okr _ | omega | exact llt_0 | ((repeat apply llt_s) <;> exact llt_0) | fail) only [x179_p0, x179_p1, w0, wA, r4, nI_ltI, hv, if_true, m_ofHead w0 wA (show v < 20 by omega), q1, c1t, c2t, nI_add, decide_true, Bool.true_or, Bool.and_self, mo_k_v, mo_k_n, mo_v_e, mo_gf_e, mo_pf_e, mo_ia_e, mo_ba_e, mo_za_e, mo_la_e, mo_aa_e, mo_le_e, mo_is_e, mo_bs_e, mo_zs_0, mo_zs_1, mo_ls_e, mo_as_e, mo_na_e, mo_aci_e, mo_acb_e, mo_acj_e, hp_gs, hp_gn, hp_ss, List.getElem?_cons_zero, List.getElem?_cons_succ, List.set_cons_zero, List.set_cons_succ]
      · by_cases c3 : ch v = nI 1
        · have c3t := eq_true c3
          simp (disch := first | assumption | exact zz_nl_i _ | exact zz_nl_r _ | exact zz_nl_n | exact okv_i _ | exact okv_j _ | exact okv_0 | exact okv_1 | exact okv_o _ _ | exact okv_a _ _ | exact bI_okr _ | omega | exact llt_0 | ((repeat apply llt_s) <;> exact llt_0) | fail) only [x179_p0, x179_p1, w0, wA, r4, nI_ltI, hv, if_true, m_ofHead w0 wA (show v < 20 by omega), q1, c1t, c2, if_false, m_chosen w0 wA (show v < 20 by omega), q3, c3t, nI_add, decide_true, Bool.or_true, Bool.and_self, mo_k_v, mo_k_n, mo_v_e, mo_gf_e, mo_pf_e, mo_ia_e, mo_ba_e, mo_za_e, mo_la_e, mo_aa_e, mo_le_e, mo_is_e, mo_bs_e, mo_zs_0, mo_zs_1, mo_ls_e, mo_as_e, mo_na_e, mo_aci_e, mo_acb_e, mo_acj_e, hp_gs, hp_gn, hp_ss, List.getElem?_cons_zero, List.getElem?_cons_succ, List.set_cons_zero, List.set_cons_succ]
        · simp (disch := first | assumption | exact zz_nl_i _ | exact zz_nl_r _ | exact zz_nl_n | exact okv_i _ | exact okv_j _ | exact okv_0 | exact okv_1 | exact okv_o _ _ | exact okv_a _ _ | exact bI_okr _ | omega | exact llt_0 | ((repeat apply llt_s) <;> exact llt_0) | fail) only [x179_p0, x179_p1, w0, wA, r4, nI_ltI, hv, if_true, m_ofHead w0 wA (show v < 20 by omega), q1, c1t, c2, if_false, m_chosen w0 wA (show v < 20 by omega), q3, c3, nI_add, decide_true, decide_false, Bool.or_self, Bool.and_false, Bool.false_eq_true, mo_k_v, mo_k_n, mo_v_e, mo_gf_e, mo_pf_e, mo_ia_e, mo_ba_e, mo_za_e, mo_la_e, mo_aa_e, mo_le_e, mo_is_e, mo_bs_e, mo_zs_0, mo_zs_1, mo_ls_e, mo_as_e, mo_na_e, mo_aci_e, mo_acb_e, mo_acj_e, hp_gs, hp_gn, hp_ss, List.getElem?_cons_zero, List.getElem?_cons_succ, List.set_cons_zero, List.set_cons_succ]
    · simp (disch := first | assumption | exact zz_nl_i _ | exact zz_nl_r _ | exact zz_nl_n | exact okv_i _ | exact okv_j _ | exact okv_0 | exact okv_1 | exact okv_o _ _ | exact okv_a _ _ | exact bI_okr _ | omega | exact llt_0 | ((repeat apply llt_s) <;> exact llt_0) | fail) only [x179_p0, x179_p1, w0, wA, r4, nI_ltI, hv, if_true, m_ofHead w0 wA (show v < 20 by omega), q1, c1, if_false, nI_add, decide_false, Bool.false_and, Bool.false_eq_true, mo_k_v, mo_k_n, mo_v_e, mo_gf_e, mo_pf_e, mo_ia_e, mo_ba_e, mo_za_e, mo_la_e, mo_aa_e, mo_le_e, mo_is_e, mo_bs_e, mo_zs_0, mo_zs_1, mo_ls_e, mo_as_e, mo_na_e, mo_aci_e, mo_acb_e, mo_acj_e, hp_gs, hp_gn, hp_ss, List.getElem?_cons_zero, List.getElem?_cons_succ, List.set_cons_zero, List.set_cons_succ]
  rw [en179 w0]
  simp (disch := first | assumption | exact zz_nl_i _ | exact zz_nl_r _ | exact zz_nl_n | exact okv_i _ | exact okv_j _ | exact okv_0 | exact okv_1 | exact okv_o _ _ | exact okv_a _ _ | exact bI_okr _ | omega | exact llt_0 | ((repeat apply llt_s) <;> exact llt_0) | fail) only [x179_p0, x179_p1, m_isHead w0 wA hr, hv, bI_t, nI_01, if_false, m_headAt, hy, if_true, mo_k_v, mo_k_n, mo_v_e, mo_gf_e, mo_pf_e, mo_ia_e, mo_ba_e, mo_za_e, mo_la_e, mo_aa_e, mo_le_e, mo_is_e, mo_bs_e, mo_zs_0, mo_zs_1, mo_ls_e, mo_as_e, mo_na_e, mo_aci_e, mo_acb_e, mo_acj_e, hp_gs, hp_gn, hp_ss, List.getElem?_cons_zero, List.getElem?_cons_succ, List.set_cons_zero, List.set_cons_succ]
  refine (lp_fold (N := pnv p) (St := fun v n => zz_Y 179 (39, [some (.ref (M)), some (.int (nI (d))), some (.int (y)), some (.int (nI (10 + 11 * d))), some (.int (nI (n))), some (.int (nI (v)))], [], h)) step).trans ?_
  rw [lp_ct, Nat.zero_add]
  try dsimp only
  rw [x179_c39]
  by_cases c0 : y = nI 0
  · simp (disch := first | assumption | exact zz_nl_i _ | exact zz_nl_r _ | exact zz_nl_n | exact okv_i _ | exact okv_j _ | exact okv_0 | exact okv_1 | exact okv_o _ _ | exact okv_a _ _ | exact bI_okr _ | omega | exact llt_0 | ((repeat apply llt_s) <;> exact llt_0) | fail) only [x179_p0, x179_p1, w0, wA, r4, nI_ltI, Nat.lt_irrefl, if_false, eq_true c0, if_true, nI_add, Nat.add_zero, g1, mo_k_v, mo_k_n, mo_v_e, mo_gf_e, mo_pf_e, mo_ia_e, mo_ba_e, mo_za_e, mo_la_e, mo_aa_e, mo_le_e, mo_is_e, mo_bs_e, mo_zs_0, mo_zs_1, mo_ls_e, mo_as_e, mo_na_e, mo_aci_e, mo_acb_e, mo_acj_e, hp_gs, hp_gn, hp_ss, List.getElem?_cons_zero, List.getElem?_cons_succ, List.set_cons_zero, List.set_cons_succ]
  · by_cases c2 : y = nI 2
    · simp (disch := first | assumption | exact zz_nl_i _ | exact zz_nl_r _ | exact zz_nl_n | exact okv_i _ | exact okv_j _ | exact okv_0 | exact okv_1 | exact okv_o _ _ | exact okv_a _ _ | exact bI_okr _ | omega | exact llt_0 | ((repeat apply llt_s) <;> exact llt_0) | fail) only [x179_p0, x179_p1, w0, wA, r4, nI_ltI, Nat.lt_irrefl, if_false, c0, eq_true c2, if_true, nI_add, g2, mo_k_v, mo_k_n, mo_v_e, mo_gf_e, mo_pf_e, mo_ia_e, mo_ba_e, mo_za_e, mo_la_e, mo_aa_e, mo_le_e, mo_is_e, mo_bs_e, mo_zs_0, mo_zs_1, mo_ls_e, mo_as_e, mo_na_e, mo_aci_e, mo_acb_e, mo_acj_e, hp_gs, hp_gn, hp_ss, List.getElem?_cons_zero, List.getElem?_cons_succ, List.set_cons_zero, List.set_cons_succ]
    · by_cases c1 : y = nI 1
      · simp (disch := first | assumption | exact zz_nl_i _ | exact zz_nl_r _ | exact zz_nl_n | exact okv_i _ | exact okv_j _ | exact okv_0 | exact okv_1 | exact okv_o _ _ | exact okv_a _ _ | exact bI_okr _ | omega | exact llt_0 | ((repeat apply llt_s) <;> exact llt_0) | fail) only [x179_p0, x179_p1, w0, wA, r4, nI_ltI, Nat.lt_irrefl, if_false, c0, c2, eq_true c1, if_true, true_or, mo_k_v, mo_k_n, mo_v_e, mo_gf_e, mo_pf_e, mo_ia_e, mo_ba_e, mo_za_e, mo_la_e, mo_aa_e, mo_le_e, mo_is_e, mo_bs_e, mo_zs_0, mo_zs_1, mo_ls_e, mo_as_e, mo_na_e, mo_aci_e, mo_acb_e, mo_acj_e, hp_gs, hp_gn, hp_ss, List.getElem?_cons_zero, List.getElem?_cons_succ, List.set_cons_zero, List.set_cons_succ]
      · by_cases c3 : y = nI 3
        · simp (disch := first | assumption | exact zz_nl_i _ | exact zz_nl_r _ | exact zz_nl_n | exact okv_i _ | exact okv_j _ | exact okv_0 | exact okv_1 | exact okv_o _ _ | exact okv_a _ _ | exact bI_okr _ | omega | exact llt_0 | ((repeat apply llt_s) <;> exact llt_0) | fail) only [x179_p0, x179_p1, w0, wA, r4, nI_ltI, Nat.lt_irrefl, if_false, c0, c2, c1, eq_true c3, if_true, or_true, mo_k_v, mo_k_n, mo_v_e, mo_gf_e, mo_pf_e, mo_ia_e, mo_ba_e, mo_za_e, mo_la_e, mo_aa_e, mo_le_e, mo_is_e, mo_bs_e, mo_zs_0, mo_zs_1, mo_ls_e, mo_as_e, mo_na_e, mo_aci_e, mo_acb_e, mo_acj_e, hp_gs, hp_gn, hp_ss, List.getElem?_cons_zero, List.getElem?_cons_succ, List.set_cons_zero, List.set_cons_succ]
        · simp (disch := first | assumption | exact zz_nl_i _ | exact zz_nl_r _ | exact zz_nl_n | exact okv_i _ | exact okv_j _ | exact okv_0 | exact okv_1 | exact okv_o _ _ | exact okv_a _ _ | exact bI_okr _ | omega | exact llt_0 | ((repeat apply llt_s) <;> exact llt_0) | fail) only [x179_p0, x179_p1, w0, wA, r4, nI_ltI, Nat.lt_irrefl, if_false, c0, c2, c1, c3, or_self, mo_k_v, mo_k_n, mo_v_e, mo_gf_e, mo_pf_e, mo_ia_e, mo_ba_e, mo_za_e, mo_la_e, mo_aa_e, mo_le_e, mo_is_e, mo_bs_e, mo_zs_0, mo_zs_1, mo_ls_e, mo_as_e, mo_na_e, mo_aci_e, mo_acb_e, mo_acj_e, hp_gs, hp_gn, hp_ss, List.getElem?_cons_zero, List.getElem?_cons_succ, List.set_cons_zero, List.set_cons_succ]
theorem m_box_no (w0 : hp_g h M = some (mdO M mt mk mp mu ms mn mo ml mv me mf mw)) (wA : hp_g h (M + 1) = some (iA 12639 A)) (hr : RS A 0 p rk tg ch ba) (hc : CI p rk tg f ch ba) {x y z : Int32} (hx : (isV (pnv p) x && isV 8 y && isV 4 z) = false) : zz_run 185 [.ref M, .int x, .int y, .int z] h = some (some (.int (-1)), h) := by
  rw [en185 w0]
  cases e1 : isV (pnv p) x with
  | false => simp (disch := first | assumption | exact zz_nl_i _ | exact zz_nl_r _ | exact zz_nl_n | exact okv_i _ | exact okv_j _ | exact okv_0 | exact okv_1 | exact okv_o _ _ | exact okv_a _ _ | exact bI_okr _ | omega | exact llt_0 | ((repeat apply llt_s) <;> exact llt_0) | fail) only [x185, m_isValue w0 wA hr, e1, bI_f, if_true, mo_k_v, mo_k_n, mo_v_e, mo_gf_e, mo_pf_e, mo_ia_e, mo_ba_e, mo_za_e, mo_la_e, mo_aa_e, mo_le_e, mo_is_e, mo_bs_e, mo_zs_0, mo_zs_1, mo_ls_e, mo_as_e, mo_na_e, mo_aci_e, mo_acb_e, mo_acj_e, hp_gs, hp_gn, hp_ss, List.getElem?_cons_zero, List.getElem?_cons_succ, List.set_cons_zero, List.set_cons_succ]
  | true =>
    cases e2 : isV 8 y with
    | false => simp (disch := first | assumption | exact zz_nl_i _ | exact zz_nl_r _ | exact zz_nl_n | exact okv_i _ | exact okv_j _ | exact okv_0 | exact okv_1 | exact okv_o _ _ | exact okv_a _ _ | exact bI_okr _ | omega | exact llt_0 | ((repeat apply llt_s) <;> exact llt_0) | fail) only [x185, m_isValue w0 wA hr, e1, bI_t, nI_01, if_false, m_isIn, in_V, Nat.reduceAdd, e2, bI_f, if_true, mo_k_v, mo_k_n, mo_v_e, mo_gf_e, mo_pf_e, mo_ia_e, mo_ba_e, mo_za_e, mo_la_e, mo_aa_e, mo_le_e, mo_is_e, mo_bs_e, mo_zs_0, mo_zs_1, mo_ls_e, mo_as_e, mo_na_e, mo_aci_e, mo_acb_e, mo_acj_e, hp_gs, hp_gn, hp_ss, List.getElem?_cons_zero, List.getElem?_cons_succ, List.set_cons_zero, List.set_cons_succ]
    | true =>
      cases e3 : isV 4 z with
      | false => simp (disch := first | assumption | exact zz_nl_i _ | exact zz_nl_r _ | exact zz_nl_n | exact okv_i _ | exact okv_j _ | exact okv_0 | exact okv_1 | exact okv_o _ _ | exact okv_a _ _ | exact bI_okr _ | omega | exact llt_0 | ((repeat apply llt_s) <;> exact llt_0) | fail) only [x185, m_isValue w0 wA hr, e1, bI_t, nI_01, if_false, m_isIn, in_V, Nat.reduceAdd, e2, e3, bI_f, if_true, mo_k_v, mo_k_n, mo_v_e, mo_gf_e, mo_pf_e, mo_ia_e, mo_ba_e, mo_za_e, mo_la_e, mo_aa_e, mo_le_e, mo_is_e, mo_bs_e, mo_zs_0, mo_zs_1, mo_ls_e, mo_as_e, mo_na_e, mo_aci_e, mo_acb_e, mo_acj_e, hp_gs, hp_gn, hp_ss, List.getElem?_cons_zero, List.getElem?_cons_succ, List.set_cons_zero, List.set_cons_succ]
      | true =>
        rw [e1, e2, e3] at hx
        cases hx
theorem m_box_ok (w0 : hp_g h M = some (mdO M mt mk mp mu ms mn mo ml mv me mf mw)) (wA : hp_g h (M + 1) = some (iA 12639 A)) (hr : RS A 0 p rk tg ch ba) (hc : CI p rk tg f ch ba) (hs : scr3 h M) {v b j : Nat} (hv : v < pnv p) (hb : b < 8) (hj : j < 4) : ∃ k, zz_run 185 [.ref M, .int (nI v), .int (nI b), .int (nI j)] h = some (some (.int (if f (8 * v + b) = nI 0 then -1 else if j = 0 then nI (knd (f (8 * v + b))) else if j = 1 then nI (pc (f (8 * v + b))) else if j = 2 then nI (cst (f (8 * v + b))) else nI (rns (f (8 * v + b))))), k) ∧ scr3 k M ∧ frm h k (M + 4) (M + 7) := by
  have r2 := hr.1.2.1
  have e1 : isV (pnv p) (nI v) = true := isV_nI (by omega) hv
  have e2 : isV 8 (nI b) = true := isV_nI (by omega) hb
  have e3 : isV 4 (nI j) = true := isV_nI (by omega) hj
  obtain ⟨V4, a4⟩ := hs.1
  obtain ⟨k, e, s4, hf⟩ := m_laysSet w0 wA hr hc a4 (by omega) (by omega) hv
  have w0' := (hf.2.2.2 M (by omega)).trans w0
  have s4' := s4
  obtain ⟨g, hg, eg⟩ := s4
  have eb : g b = f (8 * v + b) := eg b hb
  refine ⟨k, ?_, ⟨⟨_, s4'⟩, ?_, ?_⟩, frm_mono hf (by omega) (by omega)⟩
  · rw [en185 w0]
    simp (disch := first | assumption | exact zz_nl_i _ | exact zz_nl_r _ | exact zz_nl_n | exact okv_i _ | exact okv_j _ | exact okv_0 | exact okv_1 | exact okv_o _ _ | exact okv_a _ _ | exact bI_okr _ | omega | exact llt_0 | ((repeat apply llt_s) <;> exact llt_0) | fail) only [x185, w0, m_isValue w0 wA hr, e1, bI_t, nI_01, if_false, m_isIn, in_V, Nat.reduceAdd, e2, e3, e, w0', hg, eb, mo_k_v, mo_k_n, mo_v_e, mo_gf_e, mo_pf_e, mo_ia_e, mo_ba_e, mo_za_e, mo_la_e, mo_aa_e, mo_le_e, mo_is_e, mo_bs_e, mo_zs_0, mo_zs_1, mo_ls_e, mo_as_e, mo_na_e, mo_aci_e, mo_acb_e, mo_acj_e, hp_gs, hp_gn, hp_ss, List.getElem?_cons_zero, List.getElem?_cons_succ, List.set_cons_zero, List.set_cons_succ]
    by_cases c0 : f (8 * v + b) = nI 0
    · simp (disch := first | assumption | exact zz_nl_i _ | exact zz_nl_r _ | exact zz_nl_n | exact okv_i _ | exact okv_j _ | exact okv_0 | exact okv_1 | exact okv_o _ _ | exact okv_a _ _ | exact bI_okr _ | omega | exact llt_0 | ((repeat apply llt_s) <;> exact llt_0) | fail) only [x185, eq_true c0, if_true, mo_k_v, mo_k_n, mo_v_e, mo_gf_e, mo_pf_e, mo_ia_e, mo_ba_e, mo_za_e, mo_la_e, mo_aa_e, mo_le_e, mo_is_e, mo_bs_e, mo_zs_0, mo_zs_1, mo_ls_e, mo_as_e, mo_na_e, mo_aci_e, mo_acb_e, mo_acj_e, hp_gs, hp_gn, hp_ss, List.getElem?_cons_zero, List.getElem?_cons_succ, List.set_cons_zero, List.set_cons_succ]
    · by_cases j0 : j = 0
      · simp (disch := first | assumption | exact zz_nl_i _ | exact zz_nl_r _ | exact zz_nl_n | exact okv_i _ | exact okv_j _ | exact okv_0 | exact okv_1 | exact okv_o _ _ | exact okv_a _ _ | exact bI_okr _ | omega | exact llt_0 | ((repeat apply llt_s) <;> exact llt_0) | fail) only [x185, c0, if_false, nI_eq, eq_true j0, if_true, m_kindOf, mo_k_v, mo_k_n, mo_v_e, mo_gf_e, mo_pf_e, mo_ia_e, mo_ba_e, mo_za_e, mo_la_e, mo_aa_e, mo_le_e, mo_is_e, mo_bs_e, mo_zs_0, mo_zs_1, mo_ls_e, mo_as_e, mo_na_e, mo_aci_e, mo_acb_e, mo_acj_e, hp_gs, hp_gn, hp_ss, List.getElem?_cons_zero, List.getElem?_cons_succ, List.set_cons_zero, List.set_cons_succ]
      · by_cases j1 : j = 1
        · simp (disch := first | assumption | exact zz_nl_i _ | exact zz_nl_r _ | exact zz_nl_n | exact okv_i _ | exact okv_j _ | exact okv_0 | exact okv_1 | exact okv_o _ _ | exact okv_a _ _ | exact bI_okr _ | omega | exact llt_0 | ((repeat apply llt_s) <;> exact llt_0) | fail) only [x185, c0, if_false, nI_eq, j0, eq_true j1, if_true, m_bitsOf, mo_k_v, mo_k_n, mo_v_e, mo_gf_e, mo_pf_e, mo_ia_e, mo_ba_e, mo_za_e, mo_la_e, mo_aa_e, mo_le_e, mo_is_e, mo_bs_e, mo_zs_0, mo_zs_1, mo_ls_e, mo_as_e, mo_na_e, mo_aci_e, mo_acb_e, mo_acj_e, hp_gs, hp_gn, hp_ss, List.getElem?_cons_zero, List.getElem?_cons_succ, List.set_cons_zero, List.set_cons_succ]
        · by_cases j2 : j = 2
          · simp (disch := first | assumption | exact zz_nl_i _ | exact zz_nl_r _ | exact zz_nl_n | exact okv_i _ | exact okv_j _ | exact okv_0 | exact okv_1 | exact okv_o _ _ | exact okv_a _ _ | exact bI_okr _ | omega | exact llt_0 | ((repeat apply llt_s) <;> exact llt_0) | fail) only [x185, c0, if_false, nI_eq, j0, j1, eq_true j2, if_true, m_sizeOf, mo_k_v, mo_k_n, mo_v_e, mo_gf_e, mo_pf_e, mo_ia_e, mo_ba_e, mo_za_e, mo_la_e, mo_aa_e, mo_le_e, mo_is_e, mo_bs_e, mo_zs_0, mo_zs_1, mo_ls_e, mo_as_e, mo_na_e, mo_aci_e, mo_acb_e, mo_acj_e, hp_gs, hp_gn, hp_ss, List.getElem?_cons_zero, List.getElem?_cons_succ, List.set_cons_zero, List.set_cons_succ]
          · simp (disch := first | assumption | exact zz_nl_i _ | exact zz_nl_r _ | exact zz_nl_n | exact okv_i _ | exact okv_j _ | exact okv_0 | exact okv_1 | exact okv_o _ _ | exact okv_a _ _ | exact bI_okr _ | omega | exact llt_0 | ((repeat apply llt_s) <;> exact llt_0) | fail) only [x185, c0, if_false, nI_eq, j0, j1, j2, m_rowsOf, mo_k_v, mo_k_n, mo_v_e, mo_gf_e, mo_pf_e, mo_ia_e, mo_ba_e, mo_za_e, mo_la_e, mo_aa_e, mo_le_e, mo_is_e, mo_bs_e, mo_zs_0, mo_zs_1, mo_ls_e, mo_as_e, mo_na_e, mo_aci_e, mo_acb_e, mo_acj_e, hp_gs, hp_gn, hp_ss, List.getElem?_cons_zero, List.getElem?_cons_succ, List.set_cons_zero, List.set_cons_succ]
  · obtain ⟨V5, a5⟩ := hs.2.1
    exact ⟨V5, ar8_sam a5 (hf.2.2.2 _ (by omega))⟩
  · obtain ⟨V6, a6⟩ := hs.2.2
    exact ⟨V6, ar8_sam a6 (hf.2.2.2 _ (by omega))⟩
theorem m_has_no (w0 : hp_g h M = some (mdO M mt mk mp mu ms mn mo ml mv me mf mw)) (wA : hp_g h (M + 1) = some (iA 12639 A)) (hr : RS A 0 p rk tg ch ba) (hc : CI p rk tg f ch ba) {x y : Int32} (hx : (isV 256 x && isV (pnv p) y) = false) : zz_run 191 [.ref M, .int x, .int y] h = some (some (.int (nI 0)), h) := by
  rw [en191 w0]
  cases e1 : isV 256 x with
  | false => simp (disch := first | assumption | exact zz_nl_i _ | exact zz_nl_r _ | exact zz_nl_n | exact okv_i _ | exact okv_j _ | exact okv_0 | exact okv_1 | exact okv_o _ _ | exact okv_a _ _ | exact bI_okr _ | omega | exact llt_0 | ((repeat apply llt_s) <;> exact llt_0) | fail) only [x191, xb191, m_isRecord, e1, bI_f, if_true, mo_k_v, mo_k_n, mo_v_e, mo_gf_e, mo_pf_e, mo_ia_e, mo_ba_e, mo_za_e, mo_la_e, mo_aa_e, mo_le_e, mo_is_e, mo_bs_e, mo_zs_0, mo_zs_1, mo_ls_e, mo_as_e, mo_na_e, mo_aci_e, mo_acb_e, mo_acj_e, hp_gs, hp_gn, hp_ss, List.getElem?_cons_zero, List.getElem?_cons_succ, List.set_cons_zero, List.set_cons_succ]
  | true =>
    cases e2 : isV (pnv p) y with
    | false => simp (disch := first | assumption | exact zz_nl_i _ | exact zz_nl_r _ | exact zz_nl_n | exact okv_i _ | exact okv_j _ | exact okv_0 | exact okv_1 | exact okv_o _ _ | exact okv_a _ _ | exact bI_okr _ | omega | exact llt_0 | ((repeat apply llt_s) <;> exact llt_0) | fail) only [x191, xb191, m_isRecord, e1, bI_t, nI_01, if_false, m_isValue w0 wA hr, e2, bI_f, if_true, mo_k_v, mo_k_n, mo_v_e, mo_gf_e, mo_pf_e, mo_ia_e, mo_ba_e, mo_za_e, mo_la_e, mo_aa_e, mo_le_e, mo_is_e, mo_bs_e, mo_zs_0, mo_zs_1, mo_ls_e, mo_as_e, mo_na_e, mo_aci_e, mo_acb_e, mo_acj_e, hp_gs, hp_gn, hp_ss, List.getElem?_cons_zero, List.getElem?_cons_succ, List.set_cons_zero, List.set_cons_succ]
    | true =>
      rw [e1, e2] at hx
      cases hx
theorem m_has_ok (w0 : hp_g h M = some (mdO M mt mk mp mu ms mn mo ml mv me mf mw)) (wA : hp_g h (M + 1) = some (iA 12639 A)) (hr : RS A 0 p rk tg ch ba) (hc : CI p rk tg f ch ba) (hs : scr3 h M) {q v : Nat} (hq : q < 256) (hv : v < pnv p) : ∃ k, zz_run 191 [.ref M, .int (nI q), .int (nI v)] h = some (some (.int (bI (pb (rw8 f v) q))), k) ∧ scr3 k M ∧ frm h k (M + 4) (M + 7) := by
  have r2 := hr.1.2.1
  have e1 : isV 256 (nI q) = true := isV_nI (by omega) hq
  have e2 : isV (pnv p) (nI v) = true := isV_nI (by omega) hv
  obtain ⟨V4, a4⟩ := hs.1
  obtain ⟨k, e, s4, hf⟩ := m_laysSet w0 wA hr hc a4 (by omega) (by omega) hv
  have w0' := (hf.2.2.2 M (by omega)).trans w0
  refine ⟨k, ?_, ⟨⟨_, s4⟩, ?_, ?_⟩, frm_mono hf (by omega) (by omega)⟩
  · rw [en191 w0]
    simp (disch := first | assumption | exact zz_nl_i _ | exact zz_nl_r _ | exact zz_nl_n | exact okv_i _ | exact okv_j _ | exact okv_0 | exact okv_1 | exact okv_o _ _ | exact okv_a _ _ | exact bI_okr _ | omega | exact llt_0 | ((repeat apply llt_s) <;> exact llt_0) | fail) only [x191, xb191, w0, m_isRecord, m_isValue w0 wA hr, e1, bI_t, nI_01, if_false, e2, e, w0', a_inSet s4 hq, mo_k_v, mo_k_n, mo_v_e, mo_gf_e, mo_pf_e, mo_ia_e, mo_ba_e, mo_za_e, mo_la_e, mo_aa_e, mo_le_e, mo_is_e, mo_bs_e, mo_zs_0, mo_zs_1, mo_ls_e, mo_as_e, mo_na_e, mo_aci_e, mo_acb_e, mo_acj_e, hp_gs, hp_gn, hp_ss, List.getElem?_cons_zero, List.getElem?_cons_succ, List.set_cons_zero, List.set_cons_succ]
  · obtain ⟨V5, a5⟩ := hs.2.1
    exact ⟨V5, ar8_sam a5 (hf.2.2.2 _ (by omega))⟩
  · obtain ⟨V6, a6⟩ := hs.2.2
    exact ⟨V6, ar8_sam a6 (hf.2.2.2 _ (by omega))⟩
theorem KT_off {P : Nat → Bool} {n : Nat} (hn : n ≤ 256) {y : Int32} (hy : y < nI 10) : KT P n (y - nI 10) = -1 := by
  rcases neg_or (y - nI 10) with hk | ⟨j, hj, e⟩
  · exact KT_neg hk
  · rw [e]
    refine KT_ge ?_ hj
    have hle := fb_ct_le P n
    have hj2 : 2147483638 ≤ j := by
      have e2 : y = nI (j + 10) := by
        rw [← nI_add, ← e, Int32.sub_add_cancel]
      by_cases c : j + 10 < 2147483648
      · rw [e2, nI_ltI c (by omega)] at hy
        omega
      · omega
    omega
theorem m_rec_no (w0 : hp_g h M = some (mdO M mt mk mp mu ms mn mo ml mv me mf mw)) (wA : hp_g h (M + 1) = some (iA 12639 A)) (hr : RS A 0 p rk tg ch ba) (hc : CI p rk tg f ch ba) {x y : Int32} (ht : thrC rk x = false) : zz_run 186 [.ref M, .int x, .int y] h = some (some (.int (-1)), h) := by
  rw [en186 w0]
  simp (disch := first | assumption | exact zz_nl_i _ | exact zz_nl_r _ | exact zz_nl_n | exact okv_i _ | exact okv_j _ | exact okv_0 | exact okv_1 | exact okv_o _ _ | exact okv_a _ _ | exact bI_okr _ | omega | exact llt_0 | ((repeat apply llt_s) <;> exact llt_0) | fail) only [x186_p0, x186_p1, m_isThere w0 wA hr, ht, bI_f, if_true, mo_k_v, mo_k_n, mo_v_e, mo_gf_e, mo_pf_e, mo_ia_e, mo_ba_e, mo_za_e, mo_la_e, mo_aa_e, mo_le_e, mo_is_e, mo_bs_e, mo_zs_0, mo_zs_1, mo_ls_e, mo_as_e, mo_na_e, mo_aci_e, mo_acb_e, mo_acj_e, hp_gs, hp_gn, hp_ss, List.getElem?_cons_zero, List.getElem?_cons_succ, List.set_cons_zero, List.set_cons_succ]
theorem thr_rk {q : Nat} (hq : q < 256) (ht : thrC rk (nI q) = true) : ¬ rk q = -1 := by
  unfold thrC at ht
  rw [nI_clamp (by omega), Bool.and_eq_true, Bool.not_eq_true'] at ht
  exact of_decide_eq_false ht.2
theorem m_rec_0 (w0 : hp_g h M = some (mdO M mt mk mp mu ms mn mo ml mv me mf mw)) (wA : hp_g h (M + 1) = some (iA 12639 A)) (hr : RS A 0 p rk tg ch ba) (hc : CI p rk tg f ch ba) {q : Nat} (hq : q < 256) (ht : thrC rk (nI q) = true) : zz_run 186 [.ref M, .int (nI q), .int (nI 0)] h = some (some (.int (rk q)), h) := by
  have e := (hr.2.2.2.1 q hq).2.resolve_left (thr_rk hq ht)
  rw [Nat.zero_add] at e
  rw [en186 w0]
  simp (disch := first | assumption | exact zz_nl_i _ | exact zz_nl_r _ | exact zz_nl_n | exact okv_i _ | exact okv_j _ | exact okv_0 | exact okv_1 | exact okv_o _ _ | exact okv_a _ _ | exact bI_okr _ | omega | exact llt_0 | ((repeat apply llt_s) <;> exact llt_0) | fail) only [x186_p0, x186_p1, m_isThere w0 wA hr, ht, bI_t, nI_01, if_true, if_false, w0, wA, nI_add, e, mo_k_v, mo_k_n, mo_v_e, mo_gf_e, mo_pf_e, mo_ia_e, mo_ba_e, mo_za_e, mo_la_e, mo_aa_e, mo_le_e, mo_is_e, mo_bs_e, mo_zs_0, mo_zs_1, mo_ls_e, mo_as_e, mo_na_e, mo_aci_e, mo_acb_e, mo_acj_e, hp_gs, hp_gn, hp_ss, List.getElem?_cons_zero, List.getElem?_cons_succ, List.set_cons_zero, List.set_cons_succ]
theorem m_rec_x (w0 : hp_g h M = some (mdO M mt mk mp mu ms mn mo ml mv me mf mw)) (wA : hp_g h (M + 1) = some (iA 12639 A)) (hr : RS A 0 p rk tg ch ba) (hc : CI p rk tg f ch ba) (hs : scr3 h M) {q : Nat} (hq : q < 256) (ht : thrC rk (nI q) = true) {y : Int32} (hy : ¬ y = nI 0) : ∃ k, zz_run 186 [.ref M, .int (nI q), .int y] h = some (some (.int (if y = nI 1 then nI (pc (tg q)) else if y = nI 2 then bI (pb (fun blk => lfW p f ch ba blk (-1) (-1)) q) else if y < nI 10 then -1 else KT (bt (tg q)) 32 (y - nI 10))), k) ∧ scr3 k M ∧ frm h k (M + 4) (M + 7) := by
  obtain ⟨r1, r2, r3, r4⟩ := hr.1
  rw [Nat.zero_add] at r4
  have hlow := (hc.2.2.2.1 q hq).1
  have hbit : ∀ v, v < pnv p → zz_run 189 [.ref M, .int (nI (302 + 8 * v)), .int (nI q)] h = some (some (.int (bI (bt (tg q) v))), h) := fun v hv => by
    have := hr.2.2.2.2 v hv q hq
    rw [Nat.zero_add] at this
    rw [m_isBit w0 wA hq (by omega), this]
  obtain ⟨k, e, a6, s, hf⟩ := m_laysLeft w0 wA hr hc hs (-1)
  have w0' := (hf.2.2.2 M (by omega)).trans w0
  by_cases c1 : y = nI 1
  · subst c1
    have ne : ∀ n, n ≤ 20 → ¬ nI 1 - nI 10 = nI n := by decide +kernel
    have step : ∀ v (s : Nat), v < pnv p → s ≤ v → zz_Y 186 (30, [some (.ref (M)), some (.int (nI (q))), some (.int (nI (1))), some (.int (nI (s))), some (.int (nI (v)))], [], h) = zz_Y 186 (30, [some (.ref (M)), some (.int (nI (q))), some (.int (nI (1))), some (.int (nI (s + (if bt (tg q) v = true then 1 else 0)))), some (.int (nI (v + 1)))], [], h) := by
      intro v s hv hsv
      have hn := ne s (by omega)
      rw [x186_c30]
      cases c : bt (tg q) v with
      | false => simp (disch := first | assumption | exact zz_nl_i _ | exact zz_nl_r _ | exact zz_nl_n | exact okv_i _ | exact okv_j _ | exact okv_0 | exact okv_1 | exact okv_o _ _ | exact okv_a _ _ | exact bI_okr _ | omega | exact llt_0 | ((repeat apply llt_s) <;> exact llt_0) | fail) only [x186_p0, x186_p1, w0, wA, r4, nI_ltI, hv, if_true, pk_mul, nI_add, hbit v hv, c, bI_f, Bool.false_eq_true, if_false, Nat.add_zero, mo_k_v, mo_k_n, mo_v_e, mo_gf_e, mo_pf_e, mo_ia_e, mo_ba_e, mo_za_e, mo_la_e, mo_aa_e, mo_le_e, mo_is_e, mo_bs_e, mo_zs_0, mo_zs_1, mo_ls_e, mo_as_e, mo_na_e, mo_aci_e, mo_acb_e, mo_acj_e, hp_gs, hp_gn, hp_ss, List.getElem?_cons_zero, List.getElem?_cons_succ, List.set_cons_zero, List.set_cons_succ]
      | true => simp (disch := first | assumption | exact zz_nl_i _ | exact zz_nl_r _ | exact zz_nl_n | exact okv_i _ | exact okv_j _ | exact okv_0 | exact okv_1 | exact okv_o _ _ | exact okv_a _ _ | exact bI_okr _ | omega | exact llt_0 | ((repeat apply llt_s) <;> exact llt_0) | fail) only [x186_p0, x186_p1, w0, wA, r4, nI_ltI, hv, if_true, pk_mul, nI_add, hbit v hv, c, bI_t, nI_01, if_false, hn, mo_k_v, mo_k_n, mo_v_e, mo_gf_e, mo_pf_e, mo_ia_e, mo_ba_e, mo_za_e, mo_la_e, mo_aa_e, mo_le_e, mo_is_e, mo_bs_e, mo_zs_0, mo_zs_1, mo_ls_e, mo_as_e, mo_na_e, mo_aci_e, mo_acb_e, mo_acj_e, hp_gs, hp_gn, hp_ss, List.getElem?_cons_zero, List.getElem?_cons_succ, List.set_cons_zero, List.set_cons_succ]
    refine ⟨h, ?_, hs, frm_refl _ _ _⟩
    rw [en186 w0]
    simp (disch := first | assumption | exact zz_nl_i _ | exact zz_nl_r _ | exact zz_nl_n | exact okv_i _ | exact okv_j _ | exact okv_0 | exact okv_1 | exact okv_o _ _ | exact okv_a _ _ | exact bI_okr _ | omega | exact llt_0 | ((repeat apply llt_s) <;> exact llt_0) | fail) only [x186_p0, x186_p1, m_isThere w0 wA hr, ht, bI_t, nI_01, if_true, if_false, mo_k_v, mo_k_n, mo_v_e, mo_gf_e, mo_pf_e, mo_ia_e, mo_ba_e, mo_za_e, mo_la_e, mo_aa_e, mo_le_e, mo_is_e, mo_bs_e, mo_zs_0, mo_zs_1, mo_ls_e, mo_as_e, mo_na_e, mo_aci_e, mo_acb_e, mo_acj_e, hp_gs, hp_gn, hp_ss, List.getElem?_cons_zero, List.getElem?_cons_succ, List.set_cons_zero, List.set_cons_succ]
    obtain ⟨l1, l2⟩ := lp_inv (N := pnv p) (P := fun v s => s ≤ v ∧ s = fb_ct (bt (tg q)) v) (St := fun v s => zz_Y 186 (30, [some (.ref (M)), some (.int (nI (q))), some (.int (nI (1))), some (.int (nI (s))), some (.int (nI (v)))], [], h)) (f := fun v s => s + (if bt (tg q) v = true then 1 else 0)) (s := 0) ⟨Nat.le_refl _, rfl⟩ (fun v s hv hP => ⟨step v s hv hP.1, by
      have := hP.1
      split <;> omega, by
      rw [fb_ct_succ, hP.2]⟩)
    refine l1.trans ?_
    rw [x186_c30]
    simp (disch := first | assumption | exact zz_nl_i _ | exact zz_nl_r _ | exact zz_nl_n | exact okv_i _ | exact okv_j _ | exact okv_0 | exact okv_1 | exact okv_o _ _ | exact okv_a _ _ | exact bI_okr _ | omega | exact llt_0 | ((repeat apply llt_s) <;> exact llt_0) | fail) only [x186_p0, x186_p1, w0, wA, r4, nI_ltI, Nat.lt_irrefl, if_true, if_false, mo_k_v, mo_k_n, mo_v_e, mo_gf_e, mo_pf_e, mo_ia_e, mo_ba_e, mo_za_e, mo_la_e, mo_aa_e, mo_le_e, mo_is_e, mo_bs_e, mo_zs_0, mo_zs_1, mo_ls_e, mo_as_e, mo_na_e, mo_aci_e, mo_acb_e, mo_acj_e, hp_gs, hp_gn, hp_ss, List.getElem?_cons_zero, List.getElem?_cons_succ, List.set_cons_zero, List.set_cons_succ]
    rw [l2.2, pc_low (by omega) hlow]
  · have step : ∀ v n, v < pnv p → n ≤ v → zz_Y 186 (30, [some (.ref (M)), some (.int (nI (q))), some (.int (y)), some (.int (nI (n))), some (.int (nI (v)))], [], h) = if bt (tg q) v = true then (if nI n = y - nI 10 then some (some (.int (nI v)), h) else zz_Y 186 (30, [some (.ref (M)), some (.int (nI (q))), some (.int (y)), some (.int (nI (n + 1))), some (.int (nI (v + 1)))], [], h)) else zz_Y 186 (30, [some (.ref (M)), some (.int (nI (q))), some (.int (y)), some (.int (nI (n))), some (.int (nI (v + 1)))], [], h) := by
      intro v n hv hn
      rw [x186_c30]
      cases c : bt (tg q) v with
      | false => simp (disch := first | assumption | exact zz_nl_i _ | exact zz_nl_r _ | exact zz_nl_n | exact okv_i _ | exact okv_j _ | exact okv_0 | exact okv_1 | exact okv_o _ _ | exact okv_a _ _ | exact bI_okr _ | omega | exact llt_0 | ((repeat apply llt_s) <;> exact llt_0) | fail) only [x186_p0, x186_p1, w0, wA, r4, nI_ltI, hv, if_true, pk_mul, nI_add, hbit v hv, c, bI_f, Bool.false_eq_true, if_false, mo_k_v, mo_k_n, mo_v_e, mo_gf_e, mo_pf_e, mo_ia_e, mo_ba_e, mo_za_e, mo_la_e, mo_aa_e, mo_le_e, mo_is_e, mo_bs_e, mo_zs_0, mo_zs_1, mo_ls_e, mo_as_e, mo_na_e, mo_aci_e, mo_acb_e, mo_acj_e, hp_gs, hp_gn, hp_ss, List.getElem?_cons_zero, List.getElem?_cons_succ, List.set_cons_zero, List.set_cons_succ]
      | true =>
        by_cases c2 : y - nI 10 = nI n
        · have c3 : nI n = y - nI 10 := c2.symm
          simp (disch := first | assumption | exact zz_nl_i _ | exact zz_nl_r _ | exact zz_nl_n | exact okv_i _ | exact okv_j _ | exact okv_0 | exact okv_1 | exact okv_o _ _ | exact okv_a _ _ | exact bI_okr _ | omega | exact llt_0 | ((repeat apply llt_s) <;> exact llt_0) | fail) only [x186_p0, x186_p1, w0, wA, r4, nI_ltI, hv, if_true, pk_mul, nI_add, hbit v hv, c, bI_t, nI_01, if_false, eq_true c2, eq_true c3, mo_k_v, mo_k_n, mo_v_e, mo_gf_e, mo_pf_e, mo_ia_e, mo_ba_e, mo_za_e, mo_la_e, mo_aa_e, mo_le_e, mo_is_e, mo_bs_e, mo_zs_0, mo_zs_1, mo_ls_e, mo_as_e, mo_na_e, mo_aci_e, mo_acb_e, mo_acj_e, hp_gs, hp_gn, hp_ss, List.getElem?_cons_zero, List.getElem?_cons_succ, List.set_cons_zero, List.set_cons_succ]
        · have c3 : ¬ nI n = y - nI 10 := Ne.symm c2
          simp (disch := first | assumption | exact zz_nl_i _ | exact zz_nl_r _ | exact zz_nl_n | exact okv_i _ | exact okv_j _ | exact okv_0 | exact okv_1 | exact okv_o _ _ | exact okv_a _ _ | exact bI_okr _ | omega | exact llt_0 | ((repeat apply llt_s) <;> exact llt_0) | fail) only [x186_p0, x186_p1, w0, wA, r4, nI_ltI, hv, if_true, pk_mul, nI_add, hbit v hv, c, bI_t, nI_01, if_false, c2, c3, mo_k_v, mo_k_n, mo_v_e, mo_gf_e, mo_pf_e, mo_ia_e, mo_ba_e, mo_za_e, mo_la_e, mo_aa_e, mo_le_e, mo_is_e, mo_bs_e, mo_zs_0, mo_zs_1, mo_ls_e, mo_as_e, mo_na_e, mo_aci_e, mo_acb_e, mo_acj_e, hp_gs, hp_gn, hp_ss, List.getElem?_cons_zero, List.getElem?_cons_succ, List.set_cons_zero, List.set_cons_succ]
    have hz : ∀ n, n ≤ pnv p → zz_Y 186 (30, [some (.ref (M)), some (.int (nI (q))), some (.int (y)), some (.int (nI (n))), some (.int (nI (pnv p)))], [], h) = some (some (.int (if y = nI 2 then bI (pb (fun blk => lfW p f ch ba blk (-1) (-1)) q) else -1)), k) := by
      intro n hn
      rw [x186_c30]
      by_cases c2 : y = nI 2
      · cases cb : pb (fun blk => lfW p f ch ba blk (-1) (-1)) q
        · simp (disch := first | assumption | exact zz_nl_i _ | exact zz_nl_r _ | exact zz_nl_n | exact okv_i _ | exact okv_j _ | exact okv_0 | exact okv_1 | exact okv_o _ _ | exact okv_a _ _ | exact bI_okr _ | omega | exact llt_0 | ((repeat apply llt_s) <;> exact llt_0) | fail) only [x186_p0, x186_p1, w0, wA, r4, nI_ltI, Nat.lt_irrefl, if_false, c1, e, eq_true c2, if_true, w0', a_inSet a6 hq, cb, bI_f, mo_k_v, mo_k_n, mo_v_e, mo_gf_e, mo_pf_e, mo_ia_e, mo_ba_e, mo_za_e, mo_la_e, mo_aa_e, mo_le_e, mo_is_e, mo_bs_e, mo_zs_0, mo_zs_1, mo_ls_e, mo_as_e, mo_na_e, mo_aci_e, mo_acb_e, mo_acj_e, hp_gs, hp_gn, hp_ss, List.getElem?_cons_zero, List.getElem?_cons_succ, List.set_cons_zero, List.set_cons_succ]
        · simp (disch := first | assumption | exact zz_nl_i _ | exact zz_nl_r _ | exact zz_nl_n | exact okv_i _ | exact okv_j _ | exact okv_0 | exact okv_1 | exact okv_o _ _ | exact okv_a _ _ | exact bI_okr _ | omega | exact llt_0 | ((repeat apply llt_s) <;> exact llt_0) | fail) only [x186_p0, x186_p1, w0, wA, r4, nI_ltI, Nat.lt_irrefl, if_false, c1, e, eq_true c2, if_true, w0', a_inSet a6 hq, cb, bI_t, nI_01, mo_k_v, mo_k_n, mo_v_e, mo_gf_e, mo_pf_e, mo_ia_e, mo_ba_e, mo_za_e, mo_la_e, mo_aa_e, mo_le_e, mo_is_e, mo_bs_e, mo_zs_0, mo_zs_1, mo_ls_e, mo_as_e, mo_na_e, mo_aci_e, mo_acb_e, mo_acj_e, hp_gs, hp_gn, hp_ss, List.getElem?_cons_zero, List.getElem?_cons_succ, List.set_cons_zero, List.set_cons_succ]
      · simp (disch := first | assumption | exact zz_nl_i _ | exact zz_nl_r _ | exact zz_nl_n | exact okv_i _ | exact okv_j _ | exact okv_0 | exact okv_1 | exact okv_o _ _ | exact okv_a _ _ | exact bI_okr _ | omega | exact llt_0 | ((repeat apply llt_s) <;> exact llt_0) | fail) only [x186_p0, x186_p1, w0, wA, r4, nI_ltI, Nat.lt_irrefl, if_false, c1, e, c2, mo_k_v, mo_k_n, mo_v_e, mo_gf_e, mo_pf_e, mo_ia_e, mo_ba_e, mo_za_e, mo_la_e, mo_aa_e, mo_le_e, mo_is_e, mo_bs_e, mo_zs_0, mo_zs_1, mo_ls_e, mo_as_e, mo_na_e, mo_aci_e, mo_acb_e, mo_acj_e, hp_gs, hp_gn, hp_ss, List.getElem?_cons_zero, List.getElem?_cons_succ, List.set_cons_zero, List.set_cons_succ]
    rw [en186 w0]
    simp (disch := first | assumption | exact zz_nl_i _ | exact zz_nl_r _ | exact zz_nl_n | exact okv_i _ | exact okv_j _ | exact okv_0 | exact okv_1 | exact okv_o _ _ | exact okv_a _ _ | exact bI_okr _ | omega | exact llt_0 | ((repeat apply llt_s) <;> exact llt_0) | fail) only [x186_p0, x186_p1, m_isThere w0 wA hr, ht, bI_t, nI_01, if_true, if_false, hy, c1, mo_k_v, mo_k_n, mo_v_e, mo_gf_e, mo_pf_e, mo_ia_e, mo_ba_e, mo_za_e, mo_la_e, mo_aa_e, mo_le_e, mo_is_e, mo_bs_e, mo_zs_0, mo_zs_1, mo_ls_e, mo_as_e, mo_na_e, mo_aci_e, mo_acb_e, mo_acj_e, hp_gs, hp_gn, hp_ss, List.getElem?_cons_zero, List.getElem?_cons_succ, List.set_cons_zero, List.set_cons_succ]
    have hkt : ∀ z, KT (bt (tg q)) 32 z = KT (bt (tg q)) (pnv p) z := fun z => KT_low (by omega) hlow (fun _ _ => rfl) z
    rcases lp_kth (N := pnv p) (p := bt (tg q)) (k := y - nI 10) (St := fun v n => zz_Y 186 (30, [some (.ref (M)), some (.int (nI (q))), some (.int (y)), some (.int (nI (n))), some (.int (nI (v)))], [], h)) (R := fun v => some (some (.int (nI v)), h)) (by omega) step hz with ⟨i, hi, e1, e2⟩ | ⟨e1, e2⟩
    · refine ⟨h, e2.trans ?_, hs, frm_refl _ _ _⟩
      have c10 : ¬ y < nI 10 := fun c => by
        rw [KT_off (by omega) c] at e1
        exact m1_nI (by omega) e1
      have c2 : ¬ y = nI 2 := fun c => c10 (by rw [c, nI_ltI (by omega) (by omega)]; omega)
      rw [if_neg c2, if_neg c10, hkt, e1]
    · refine ⟨k, e2.trans ?_, s, hf⟩
      by_cases c2 : y = nI 2
      · rw [if_pos c2, if_pos c2]
      · rw [if_neg c2, if_neg c2, hkt, e1]
        split <;> rfl
end
