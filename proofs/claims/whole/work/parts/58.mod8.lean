/-! the reference: count -/
section
variable {h : zz_H} {M : Nat} {A : Nat → Int32} {mt mk mp mu ms mn mo ml : Int32} {mv : Int64} {me mf mw : Int32} {p : Pl} {rk tg f ch ba : Nat → Int32}
theorem ct_setOf (q : Nat → Bool) {n : Nat} (hn : n ≤ 32) : pc (setOf q n) = fb_ct q n := by
  rw [pc_low hn (fun v h1 h2 => by rw [bt_setOf q h2 n hn, decide_eq_false (by omega), Bool.false_and])]
  exact fb_ct_cong (fun v hv => by rw [bt_setOf q (by omega) n hn, decide_eq_true hv, Bool.true_and])
theorem KT_low {x : Int32} {n : Nat} {q : Nat → Bool} (hn : n ≤ 32) (hx : ∀ v, n ≤ v → v < 32 → bt x v = false) (hq : ∀ v, v < n → bt x v = q v) (k : Int32) : KT (bt x) 32 k = KT q n k := by
  have hct : fb_ct (bt x) 32 = fb_ct q n := by
    rw [show fb_ct (bt x) 32 = pc x from rfl, pc_low hn hx]
    exact fb_ct_cong hq
  rcases neg_or k with hk | ⟨j, hj, rfl⟩
  · rw [KT_neg hk, KT_neg hk]
  · by_cases hl : j < fb_ct q n
    · rw [KT_lt (by omega) (by omega), KT_lt hl (by omega)]
      obtain ⟨s1, s2, s3⟩ := kth_spec hl
      rw [kth_of (i := kth q n j) (by omega) (by rw [hq _ s1]; exact s2) ((fb_ct_cong (fun i hi => hq i (by omega))).trans s3)]
    · rw [KT_ge (by omega) hj, KT_ge (by omega) hj]
theorem KT_setOf (q : Nat → Bool) {n : Nat} (hn : n ≤ 32) (k : Int32) : KT (bt (setOf q n)) 32 k = KT q n k := KT_low hn (fun v h1 h2 => by rw [bt_setOf q h2 n hn, decide_eq_false (by omega), Bool.false_and]) (fun v hv => by rw [bt_setOf q (by omega) n hn, decide_eq_true hv, Bool.true_and]) k
theorem m_count_0 (w0 : hp_g h M = some (mdO M mt mk mp mu ms mn mo ml mv me mf mw)) (wA : hp_g h (M + 1) = some (iA 12639 A)) (hr : RS A 0 p rk tg ch ba) (hc : CI p rk tg f ch ba) (hs : scr3 h M) : ∃ k, zz_run 153 [.ref M, .int (nI 0)] h = some (some (.int (nI (pnh p))), k) ∧ scr3 k M ∧ frm h k (M + 4) (M + 7) := by
  have r3 := hr.1.2.2.1
  have ii : decide (¬ nI 0 < nI 4 ∧ ¬ nI 9 < nI 0) = false := by decide +kernel
  have sw : zz_sw [(nI 0, 92), (nI 1, 99), (nI 2, 106), (nI 3, 111), (nI 4, 143), (nI 5, 143), (nI 6, 143), (nI 7, 143), (nI 8, 143), (nI 9, 143), (nI 10, 116), (nI 11, 121), (nI 12, 126), (nI 13, 132), (nI 14, 138)] 143 (nI 0) = 92 := by decide +kernel
  rw [en153 w0]
  simp (disch := first | assumption | exact zz_nl_i _ | exact zz_nl_r _ | exact zz_nl_n | exact okv_i _ | exact okv_j _ | exact okv_0 | exact okv_1 | exact okv_o _ _ | exact okv_a _ _ | exact bI_okr _ | omega | exact llt_0 | ((repeat apply llt_s) <;> exact llt_0) | fail) only [x153, m_isIn, ii, bI_f, if_true, sw, w0, wA, r3, mo_k_v, mo_k_n, mo_v_e, mo_gf_e, mo_pf_e, mo_ia_e, mo_ba_e, mo_za_e, mo_la_e, mo_aa_e, mo_le_e, mo_is_e, mo_bs_e, mo_zs_0, mo_zs_1, mo_ls_e, mo_as_e, mo_na_e, mo_aci_e, mo_acb_e, mo_acj_e, hp_gs, hp_gn, hp_ss, List.getElem?_cons_zero, List.getElem?_cons_succ, List.set_cons_zero, List.set_cons_succ]
  exact ⟨_, rfl, hs, frm_refl _ _ _⟩
theorem m_count_1 (w0 : hp_g h M = some (mdO M mt mk mp mu ms mn mo ml mv me mf mw)) (wA : hp_g h (M + 1) = some (iA 12639 A)) (hr : RS A 0 p rk tg ch ba) (hc : CI p rk tg f ch ba) (hs : scr3 h M) : ∃ k, zz_run 153 [.ref M, .int (nI 1)] h = some (some (.int (nI (pnv p))), k) ∧ scr3 k M ∧ frm h k (M + 4) (M + 7) := by
  have r4 := hr.1.2.2.2
  rw [Nat.zero_add] at r4
  have ii : decide (¬ nI 1 < nI 4 ∧ ¬ nI 9 < nI 1) = false := by decide +kernel
  have sw : zz_sw [(nI 0, 92), (nI 1, 99), (nI 2, 106), (nI 3, 111), (nI 4, 143), (nI 5, 143), (nI 6, 143), (nI 7, 143), (nI 8, 143), (nI 9, 143), (nI 10, 116), (nI 11, 121), (nI 12, 126), (nI 13, 132), (nI 14, 138)] 143 (nI 1) = 99 := by decide +kernel
  rw [en153 w0]
  simp (disch := first | assumption | exact zz_nl_i _ | exact zz_nl_r _ | exact zz_nl_n | exact okv_i _ | exact okv_j _ | exact okv_0 | exact okv_1 | exact okv_o _ _ | exact okv_a _ _ | exact bI_okr _ | omega | exact llt_0 | ((repeat apply llt_s) <;> exact llt_0) | fail) only [x153, m_isIn, ii, bI_f, if_true, sw, w0, wA, r4, mo_k_v, mo_k_n, mo_v_e, mo_gf_e, mo_pf_e, mo_ia_e, mo_ba_e, mo_za_e, mo_la_e, mo_aa_e, mo_le_e, mo_is_e, mo_bs_e, mo_zs_0, mo_zs_1, mo_ls_e, mo_as_e, mo_na_e, mo_aci_e, mo_acb_e, mo_acj_e, hp_gs, hp_gn, hp_ss, List.getElem?_cons_zero, List.getElem?_cons_succ, List.set_cons_zero, List.set_cons_succ]
  exact ⟨_, rfl, hs, frm_refl _ _ _⟩
theorem m_count_2 (w0 : hp_g h M = some (mdO M mt mk mp mu ms mn mo ml mv me mf mw)) (wA : hp_g h (M + 1) = some (iA 12639 A)) (hr : RS A 0 p rk tg ch ba) (hc : CI p rk tg f ch ba) (hs : scr3 h M) : ∃ k, zz_run 153 [.ref M, .int (nI 2)] h = some (some (.int (nI (amt (rw8 f 20)))), k) ∧ scr3 k M ∧ frm h k (M + 4) (M + 7) := by
  have ii : decide (¬ nI 2 < nI 4 ∧ ¬ nI 9 < nI 2) = false := by decide +kernel
  have sw : zz_sw [(nI 0, 92), (nI 1, 99), (nI 2, 106), (nI 3, 111), (nI 4, 143), (nI 5, 143), (nI 6, 143), (nI 7, 143), (nI 8, 143), (nI 9, 143), (nI 10, 116), (nI 11, 121), (nI 12, 126), (nI 13, 132), (nI 14, 138)] 143 (nI 2) = 106 := by decide +kernel
  rw [en153 w0]
  simp (disch := first | assumption | exact zz_nl_i _ | exact zz_nl_r _ | exact zz_nl_n | exact okv_i _ | exact okv_j _ | exact okv_0 | exact okv_1 | exact okv_o _ _ | exact okv_a _ _ | exact bI_okr _ | omega | exact llt_0 | ((repeat apply llt_s) <;> exact llt_0) | fail) only [x153, m_isIn, ii, bI_f, if_true, sw, m_thereMany w0 wA hr hc, mo_k_v, mo_k_n, mo_v_e, mo_gf_e, mo_pf_e, mo_ia_e, mo_ba_e, mo_za_e, mo_la_e, mo_aa_e, mo_le_e, mo_is_e, mo_bs_e, mo_zs_0, mo_zs_1, mo_ls_e, mo_as_e, mo_na_e, mo_aci_e, mo_acb_e, mo_acj_e, hp_gs, hp_gn, hp_ss, List.getElem?_cons_zero, List.getElem?_cons_succ, List.set_cons_zero, List.set_cons_succ]
  exact ⟨_, rfl, hs, frm_refl _ _ _⟩
theorem m_count_3 (w0 : hp_g h M = some (mdO M mt mk mp mu ms mn mo ml mv me mf mw)) (wA : hp_g h (M + 1) = some (iA 12639 A)) (hr : RS A 0 p rk tg ch ba) (hc : CI p rk tg f ch ba) (hs : scr3 h M) : ∃ k, zz_run 153 [.ref M, .int (nI 3)] h = some (some (.int (nI (amt (fun blk => lfW p f ch ba blk (-1) (-1) &&& f (8 * 20 + blk))))), k) ∧ scr3 k M ∧ frm h k (M + 4) (M + 7) := by
  obtain ⟨k, e, _, s, hf⟩ := m_leftMany w0 wA hr hc hs
  rw [amt_cong (V := fun blk => lfW p f ch ba blk (-1) (-1) &&& f (8 * 20 + blk)) (fun b hb => by rw [lf_there hc.1 f ch ba b _ _ hr.1.2.1])] at e
  have ii : decide (¬ nI 3 < nI 4 ∧ ¬ nI 9 < nI 3) = false := by decide +kernel
  have sw : zz_sw [(nI 0, 92), (nI 1, 99), (nI 2, 106), (nI 3, 111), (nI 4, 143), (nI 5, 143), (nI 6, 143), (nI 7, 143), (nI 8, 143), (nI 9, 143), (nI 10, 116), (nI 11, 121), (nI 12, 126), (nI 13, 132), (nI 14, 138)] 143 (nI 3) = 111 := by decide +kernel
  rw [en153 w0]
  simp (disch := first | assumption | exact zz_nl_i _ | exact zz_nl_r _ | exact zz_nl_n | exact okv_i _ | exact okv_j _ | exact okv_0 | exact okv_1 | exact okv_o _ _ | exact okv_a _ _ | exact bI_okr _ | omega | exact llt_0 | ((repeat apply llt_s) <;> exact llt_0) | fail) only [x153, m_isIn, ii, bI_f, if_true, sw, e, mo_k_v, mo_k_n, mo_v_e, mo_gf_e, mo_pf_e, mo_ia_e, mo_ba_e, mo_za_e, mo_la_e, mo_aa_e, mo_le_e, mo_is_e, mo_bs_e, mo_zs_0, mo_zs_1, mo_ls_e, mo_as_e, mo_na_e, mo_aci_e, mo_acb_e, mo_acj_e, hp_gs, hp_gn, hp_ss, List.getElem?_cons_zero, List.getElem?_cons_succ, List.set_cons_zero, List.set_cons_succ]
  exact ⟨_, rfl, s, hf⟩
theorem m_count_4 (w0 : hp_g h M = some (mdO M mt mk mp mu ms mn mo ml mv me mf mw)) (wA : hp_g h (M + 1) = some (iA 12639 A)) (hr : RS A 0 p rk tg ch ba) (hc : CI p rk tg f ch ba) (hs : scr3 h M) : ∃ k, zz_run 153 [.ref M, .int (nI 4)] h = some (some (.int (nI (fb_sm (fun v => cs8 (rw8 f v)) (pnv p)))), k) ∧ scr3 k M ∧ frm h k (M + 4) (M + 7) := by
  obtain ⟨k, e, s, hf⟩ := m_summed w0 wA hr hc hs (j := 4) (by omega) (by omega)
  rw [sv_4] at e
  have ii : decide (¬ nI 4 < nI 4 ∧ ¬ nI 9 < nI 4) = true := by decide +kernel
  rw [en153 w0]
  simp (disch := first | assumption | exact zz_nl_i _ | exact zz_nl_r _ | exact zz_nl_n | exact okv_i _ | exact okv_j _ | exact okv_0 | exact okv_1 | exact okv_o _ _ | exact okv_a _ _ | exact bI_okr _ | omega | exact llt_0 | ((repeat apply llt_s) <;> exact llt_0) | fail) only [x153, m_isIn, ii, bI_t, nI_01, if_false, e, mo_k_v, mo_k_n, mo_v_e, mo_gf_e, mo_pf_e, mo_ia_e, mo_ba_e, mo_za_e, mo_la_e, mo_aa_e, mo_le_e, mo_is_e, mo_bs_e, mo_zs_0, mo_zs_1, mo_ls_e, mo_as_e, mo_na_e, mo_aci_e, mo_acb_e, mo_acj_e, hp_gs, hp_gn, hp_ss, List.getElem?_cons_zero, List.getElem?_cons_succ, List.set_cons_zero, List.set_cons_succ]
  exact ⟨_, rfl, s, hf⟩
theorem m_count_5 (w0 : hp_g h M = some (mdO M mt mk mp mu ms mn mo ml mv me mf mw)) (wA : hp_g h (M + 1) = some (iA 12639 A)) (hr : RS A 0 p rk tg ch ba) (hc : CI p rk tg f ch ba) (hs : scr3 h M) : ∃ k, zz_run 153 [.ref M, .int (nI 5)] h = some (some (.int (nI (fb_sm (fun v => bx8 (-1) (rw8 f v)) (pnv p)))), k) ∧ scr3 k M ∧ frm h k (M + 4) (M + 7) := by
  obtain ⟨k, e, s, hf⟩ := m_summed w0 wA hr hc hs (j := 5) (by omega) (by omega)
  rw [sv_5] at e
  have ii : decide (¬ nI 5 < nI 4 ∧ ¬ nI 9 < nI 5) = true := by decide +kernel
  rw [en153 w0]
  simp (disch := first | assumption | exact zz_nl_i _ | exact zz_nl_r _ | exact zz_nl_n | exact okv_i _ | exact okv_j _ | exact okv_0 | exact okv_1 | exact okv_o _ _ | exact okv_a _ _ | exact bI_okr _ | omega | exact llt_0 | ((repeat apply llt_s) <;> exact llt_0) | fail) only [x153, m_isIn, ii, bI_t, nI_01, if_false, e, mo_k_v, mo_k_n, mo_v_e, mo_gf_e, mo_pf_e, mo_ia_e, mo_ba_e, mo_za_e, mo_la_e, mo_aa_e, mo_le_e, mo_is_e, mo_bs_e, mo_zs_0, mo_zs_1, mo_ls_e, mo_as_e, mo_na_e, mo_aci_e, mo_acb_e, mo_acj_e, hp_gs, hp_gn, hp_ss, List.getElem?_cons_zero, List.getElem?_cons_succ, List.set_cons_zero, List.set_cons_succ]
  exact ⟨_, rfl, s, hf⟩
theorem m_count_6 (w0 : hp_g h M = some (mdO M mt mk mp mu ms mn mo ml mv me mf mw)) (wA : hp_g h (M + 1) = some (iA 12639 A)) (hr : RS A 0 p rk tg ch ba) (hc : CI p rk tg f ch ba) (hs : scr3 h M) : ∃ k, zz_run 153 [.ref M, .int (nI 6)] h = some (some (.int (nI (fb_sm (fun v => bx8 (nI 0) (rw8 f v)) (pnv p)))), k) ∧ scr3 k M ∧ frm h k (M + 4) (M + 7) := by
  obtain ⟨k, e, s, hf⟩ := m_summed w0 wA hr hc hs (j := 6) (by omega) (by omega)
  have ee := sv_k f tg (pnv p) (show 0 < 3 by omega)
  rw [show 0 + 6 = 6 from rfl] at ee
  rw [ee] at e
  have ii : decide (¬ nI 6 < nI 4 ∧ ¬ nI 9 < nI 6) = true := by decide +kernel
  rw [en153 w0]
  simp (disch := first | assumption | exact zz_nl_i _ | exact zz_nl_r _ | exact zz_nl_n | exact okv_i _ | exact okv_j _ | exact okv_0 | exact okv_1 | exact okv_o _ _ | exact okv_a _ _ | exact bI_okr _ | omega | exact llt_0 | ((repeat apply llt_s) <;> exact llt_0) | fail) only [x153, m_isIn, ii, bI_t, nI_01, if_false, e, mo_k_v, mo_k_n, mo_v_e, mo_gf_e, mo_pf_e, mo_ia_e, mo_ba_e, mo_za_e, mo_la_e, mo_aa_e, mo_le_e, mo_is_e, mo_bs_e, mo_zs_0, mo_zs_1, mo_ls_e, mo_as_e, mo_na_e, mo_aci_e, mo_acb_e, mo_acj_e, hp_gs, hp_gn, hp_ss, List.getElem?_cons_zero, List.getElem?_cons_succ, List.set_cons_zero, List.set_cons_succ]
  exact ⟨_, rfl, s, hf⟩
theorem m_count_7 (w0 : hp_g h M = some (mdO M mt mk mp mu ms mn mo ml mv me mf mw)) (wA : hp_g h (M + 1) = some (iA 12639 A)) (hr : RS A 0 p rk tg ch ba) (hc : CI p rk tg f ch ba) (hs : scr3 h M) : ∃ k, zz_run 153 [.ref M, .int (nI 7)] h = some (some (.int (nI (fb_sm (fun v => bx8 (nI 1) (rw8 f v)) (pnv p)))), k) ∧ scr3 k M ∧ frm h k (M + 4) (M + 7) := by
  obtain ⟨k, e, s, hf⟩ := m_summed w0 wA hr hc hs (j := 7) (by omega) (by omega)
  have ee := sv_k f tg (pnv p) (show 1 < 3 by omega)
  rw [show 1 + 6 = 7 from rfl] at ee
  rw [ee] at e
  have ii : decide (¬ nI 7 < nI 4 ∧ ¬ nI 9 < nI 7) = true := by decide +kernel
  rw [en153 w0]
  simp (disch := first | assumption | exact zz_nl_i _ | exact zz_nl_r _ | exact zz_nl_n | exact okv_i _ | exact okv_j _ | exact okv_0 | exact okv_1 | exact okv_o _ _ | exact okv_a _ _ | exact bI_okr _ | omega | exact llt_0 | ((repeat apply llt_s) <;> exact llt_0) | fail) only [x153, m_isIn, ii, bI_t, nI_01, if_false, e, mo_k_v, mo_k_n, mo_v_e, mo_gf_e, mo_pf_e, mo_ia_e, mo_ba_e, mo_za_e, mo_la_e, mo_aa_e, mo_le_e, mo_is_e, mo_bs_e, mo_zs_0, mo_zs_1, mo_ls_e, mo_as_e, mo_na_e, mo_aci_e, mo_acb_e, mo_acj_e, hp_gs, hp_gn, hp_ss, List.getElem?_cons_zero, List.getElem?_cons_succ, List.set_cons_zero, List.set_cons_succ]
  exact ⟨_, rfl, s, hf⟩
theorem m_count_8 (w0 : hp_g h M = some (mdO M mt mk mp mu ms mn mo ml mv me mf mw)) (wA : hp_g h (M + 1) = some (iA 12639 A)) (hr : RS A 0 p rk tg ch ba) (hc : CI p rk tg f ch ba) (hs : scr3 h M) : ∃ k, zz_run 153 [.ref M, .int (nI 8)] h = some (some (.int (nI (fb_sm (fun v => bx8 (nI 2) (rw8 f v)) (pnv p)))), k) ∧ scr3 k M ∧ frm h k (M + 4) (M + 7) := by
  obtain ⟨k, e, s, hf⟩ := m_summed w0 wA hr hc hs (j := 8) (by omega) (by omega)
  have ee := sv_k f tg (pnv p) (show 2 < 3 by omega)
  rw [show 2 + 6 = 8 from rfl] at ee
  rw [ee] at e
  have ii : decide (¬ nI 8 < nI 4 ∧ ¬ nI 9 < nI 8) = true := by decide +kernel
  rw [en153 w0]
  simp (disch := first | assumption | exact zz_nl_i _ | exact zz_nl_r _ | exact zz_nl_n | exact okv_i _ | exact okv_j _ | exact okv_0 | exact okv_1 | exact okv_o _ _ | exact okv_a _ _ | exact bI_okr _ | omega | exact llt_0 | ((repeat apply llt_s) <;> exact llt_0) | fail) only [x153, m_isIn, ii, bI_t, nI_01, if_false, e, mo_k_v, mo_k_n, mo_v_e, mo_gf_e, mo_pf_e, mo_ia_e, mo_ba_e, mo_za_e, mo_la_e, mo_aa_e, mo_le_e, mo_is_e, mo_bs_e, mo_zs_0, mo_zs_1, mo_ls_e, mo_as_e, mo_na_e, mo_aci_e, mo_acb_e, mo_acj_e, hp_gs, hp_gn, hp_ss, List.getElem?_cons_zero, List.getElem?_cons_succ, List.set_cons_zero, List.set_cons_succ]
  exact ⟨_, rfl, s, hf⟩
theorem m_count_9 (w0 : hp_g h M = some (mdO M mt mk mp mu ms mn mo ml mv me mf mw)) (wA : hp_g h (M + 1) = some (iA 12639 A)) (hr : RS A 0 p rk tg ch ba) (hc : CI p rk tg f ch ba) (hs : scr3 h M) : ∃ k, zz_run 153 [.ref M, .int (nI 9)] h = some (some (.int (nI (fb_sm (fun q => pc (tg q)) 256))), k) ∧ scr3 k M ∧ frm h k (M + 4) (M + 7) := by
  obtain ⟨k, e, s, hf⟩ := m_summed w0 wA hr hc hs (j := 9) (by omega) (by omega)
  rw [sv_9 hc hr.1.2.1] at e
  have ii : decide (¬ nI 9 < nI 4 ∧ ¬ nI 9 < nI 9) = true := by decide +kernel
  rw [en153 w0]
  simp (disch := first | assumption | exact zz_nl_i _ | exact zz_nl_r _ | exact zz_nl_n | exact okv_i _ | exact okv_j _ | exact okv_0 | exact okv_1 | exact okv_o _ _ | exact okv_a _ _ | exact bI_okr _ | omega | exact llt_0 | ((repeat apply llt_s) <;> exact llt_0) | fail) only [x153, m_isIn, ii, bI_t, nI_01, if_false, e, mo_k_v, mo_k_n, mo_v_e, mo_gf_e, mo_pf_e, mo_ia_e, mo_ba_e, mo_za_e, mo_la_e, mo_aa_e, mo_le_e, mo_is_e, mo_bs_e, mo_zs_0, mo_zs_1, mo_ls_e, mo_as_e, mo_na_e, mo_aci_e, mo_acb_e, mo_acj_e, hp_gs, hp_gn, hp_ss, List.getElem?_cons_zero, List.getElem?_cons_succ, List.set_cons_zero, List.set_cons_succ]
  exact ⟨_, rfl, s, hf⟩
theorem m_count_10 (w0 : hp_g h M = some (mdO M mt mk mp mu ms mn mo ml mv me mf mw)) (wA : hp_g h (M + 1) = some (iA 12639 A)) (hr : RS A 0 p rk tg ch ba) (hc : CI p rk tg f ch ba) (hs : scr3 h M) : ∃ k, zz_run 153 [.ref M, .int (nI 10)] h = some (some (.int (mu)), k) ∧ scr3 k M ∧ frm h k (M + 4) (M + 7) := by
  have ii : decide (¬ nI 10 < nI 4 ∧ ¬ nI 9 < nI 10) = false := by decide +kernel
  have sw : zz_sw [(nI 0, 92), (nI 1, 99), (nI 2, 106), (nI 3, 111), (nI 4, 143), (nI 5, 143), (nI 6, 143), (nI 7, 143), (nI 8, 143), (nI 9, 143), (nI 10, 116), (nI 11, 121), (nI 12, 126), (nI 13, 132), (nI 14, 138)] 143 (nI 10) = 116 := by decide +kernel
  rw [en153 w0]
  simp (disch := first | assumption | exact zz_nl_i _ | exact zz_nl_r _ | exact zz_nl_n | exact okv_i _ | exact okv_j _ | exact okv_0 | exact okv_1 | exact okv_o _ _ | exact okv_a _ _ | exact bI_okr _ | omega | exact llt_0 | ((repeat apply llt_s) <;> exact llt_0) | fail) only [x153, m_isIn, ii, bI_f, if_true, sw, w0, mo_k_v, mo_k_n, mo_v_e, mo_gf_e, mo_pf_e, mo_ia_e, mo_ba_e, mo_za_e, mo_la_e, mo_aa_e, mo_le_e, mo_is_e, mo_bs_e, mo_zs_0, mo_zs_1, mo_ls_e, mo_as_e, mo_na_e, mo_aci_e, mo_acb_e, mo_acj_e, hp_gs, hp_gn, hp_ss, List.getElem?_cons_zero, List.getElem?_cons_succ, List.set_cons_zero, List.set_cons_succ]
  exact ⟨_, rfl, hs, frm_refl _ _ _⟩
theorem m_count_11 (w0 : hp_g h M = some (mdO M mt mk mp mu ms mn mo ml mv me mf mw)) (wA : hp_g h (M + 1) = some (iA 12639 A)) (hr : RS A 0 p rk tg ch ba) (hc : CI p rk tg f ch ba) (hs : scr3 h M) : ∃ k, zz_run 153 [.ref M, .int (nI 11)] h = some (some (.int (mt)), k) ∧ scr3 k M ∧ frm h k (M + 4) (M + 7) := by
  have ii : decide (¬ nI 11 < nI 4 ∧ ¬ nI 9 < nI 11) = false := by decide +kernel
  have sw : zz_sw [(nI 0, 92), (nI 1, 99), (nI 2, 106), (nI 3, 111), (nI 4, 143), (nI 5, 143), (nI 6, 143), (nI 7, 143), (nI 8, 143), (nI 9, 143), (nI 10, 116), (nI 11, 121), (nI 12, 126), (nI 13, 132), (nI 14, 138)] 143 (nI 11) = 121 := by decide +kernel
  rw [en153 w0]
  simp (disch := first | assumption | exact zz_nl_i _ | exact zz_nl_r _ | exact zz_nl_n | exact okv_i _ | exact okv_j _ | exact okv_0 | exact okv_1 | exact okv_o _ _ | exact okv_a _ _ | exact bI_okr _ | omega | exact llt_0 | ((repeat apply llt_s) <;> exact llt_0) | fail) only [x153, m_isIn, ii, bI_f, if_true, sw, w0, mo_k_v, mo_k_n, mo_v_e, mo_gf_e, mo_pf_e, mo_ia_e, mo_ba_e, mo_za_e, mo_la_e, mo_aa_e, mo_le_e, mo_is_e, mo_bs_e, mo_zs_0, mo_zs_1, mo_ls_e, mo_as_e, mo_na_e, mo_aci_e, mo_acb_e, mo_acj_e, hp_gs, hp_gn, hp_ss, List.getElem?_cons_zero, List.getElem?_cons_succ, List.set_cons_zero, List.set_cons_succ]
  exact ⟨_, rfl, hs, frm_refl _ _ _⟩
theorem m_count_12 (w0 : hp_g h M = some (mdO M mt mk mp mu ms mn mo ml mv me mf mw)) (wA : hp_g h (M + 1) = some (iA 12639 A)) (hr : RS A 0 p rk tg ch ba) (hc : CI p rk tg f ch ba) (hs : scr3 h M) : ∃ k, zz_run 153 [.ref M, .int (nI 12)] h = some (some (.int (nI (pc (setOf (suB (fun b => lfW p f ch ba b (-1) (-1)) f ch) (pnv p))))), k) ∧ scr3 k M ∧ frm h k (M + 4) (M + 7) := by
  obtain ⟨k, e, s, hf⟩ := m_toldMany w0 wA hr hc hs false
  rw [bI_f, show tdB p f ch ba false = suB (fun b => lfW p f ch ba b (-1) (-1)) f ch from rfl] at e
  rw [ct_setOf _ (by have := hr.1.2.1; omega)]
  have ii : decide (¬ nI 12 < nI 4 ∧ ¬ nI 9 < nI 12) = false := by decide +kernel
  have sw : zz_sw [(nI 0, 92), (nI 1, 99), (nI 2, 106), (nI 3, 111), (nI 4, 143), (nI 5, 143), (nI 6, 143), (nI 7, 143), (nI 8, 143), (nI 9, 143), (nI 10, 116), (nI 11, 121), (nI 12, 126), (nI 13, 132), (nI 14, 138)] 143 (nI 12) = 126 := by decide +kernel
  rw [en153 w0]
  simp (disch := first | assumption | exact zz_nl_i _ | exact zz_nl_r _ | exact zz_nl_n | exact okv_i _ | exact okv_j _ | exact okv_0 | exact okv_1 | exact okv_o _ _ | exact okv_a _ _ | exact bI_okr _ | omega | exact llt_0 | ((repeat apply llt_s) <;> exact llt_0) | fail) only [x153, m_isIn, ii, bI_f, if_true, sw, e, mo_k_v, mo_k_n, mo_v_e, mo_gf_e, mo_pf_e, mo_ia_e, mo_ba_e, mo_za_e, mo_la_e, mo_aa_e, mo_le_e, mo_is_e, mo_bs_e, mo_zs_0, mo_zs_1, mo_ls_e, mo_as_e, mo_na_e, mo_aci_e, mo_acb_e, mo_acj_e, hp_gs, hp_gn, hp_ss, List.getElem?_cons_zero, List.getElem?_cons_succ, List.set_cons_zero, List.set_cons_succ]
  exact ⟨_, rfl, s, hf⟩
theorem m_count_13 (w0 : hp_g h M = some (mdO M mt mk mp mu ms mn mo ml mv me mf mw)) (wA : hp_g h (M + 1) = some (iA 12639 A)) (hr : RS A 0 p rk tg ch ba) (hc : CI p rk tg f ch ba) (hs : scr3 h M) : ∃ k, zz_run 153 [.ref M, .int (nI 13)] h = some (some (.int (nI (pc (setOf (idB p f ch ba) (pnv p))))), k) ∧ scr3 k M ∧ frm h k (M + 4) (M + 7) := by
  obtain ⟨k, e, s, hf⟩ := m_toldMany w0 wA hr hc hs true
  rw [bI_t, show tdB p f ch ba true = idB p f ch ba from rfl] at e
  rw [ct_setOf _ (by have := hr.1.2.1; omega)]
  have ii : decide (¬ nI 13 < nI 4 ∧ ¬ nI 9 < nI 13) = false := by decide +kernel
  have sw : zz_sw [(nI 0, 92), (nI 1, 99), (nI 2, 106), (nI 3, 111), (nI 4, 143), (nI 5, 143), (nI 6, 143), (nI 7, 143), (nI 8, 143), (nI 9, 143), (nI 10, 116), (nI 11, 121), (nI 12, 126), (nI 13, 132), (nI 14, 138)] 143 (nI 13) = 132 := by decide +kernel
  rw [en153 w0]
  simp (disch := first | assumption | exact zz_nl_i _ | exact zz_nl_r _ | exact zz_nl_n | exact okv_i _ | exact okv_j _ | exact okv_0 | exact okv_1 | exact okv_o _ _ | exact okv_a _ _ | exact bI_okr _ | omega | exact llt_0 | ((repeat apply llt_s) <;> exact llt_0) | fail) only [x153, m_isIn, ii, bI_f, if_true, sw, e, mo_k_v, mo_k_n, mo_v_e, mo_gf_e, mo_pf_e, mo_ia_e, mo_ba_e, mo_za_e, mo_la_e, mo_aa_e, mo_le_e, mo_is_e, mo_bs_e, mo_zs_0, mo_zs_1, mo_ls_e, mo_as_e, mo_na_e, mo_aci_e, mo_acb_e, mo_acj_e, hp_gs, hp_gn, hp_ss, List.getElem?_cons_zero, List.getElem?_cons_succ, List.set_cons_zero, List.set_cons_succ]
  exact ⟨_, rfl, s, hf⟩
theorem m_count_14 (w0 : hp_g h M = some (mdO M mt mk mp mu ms mn mo ml mv me mf mw)) (wA : hp_g h (M + 1) = some (iA 12639 A)) (hr : RS A 0 p rk tg ch ba) (hc : CI p rk tg f ch ba) (hs : scr3 h M) : ∃ k, zz_run 153 [.ref M, .int (nI 14)] h = some (some (.int (ptV (fun b => lfW p f ch ba b (-1) (-1)) f ch (pnv p))), k) ∧ scr3 k M ∧ frm h k (M + 4) (M + 7) := by
  obtain ⟨k, e, s, hf⟩ := m_parting w0 wA hr hc hs
  have ii : decide (¬ nI 14 < nI 4 ∧ ¬ nI 9 < nI 14) = false := by decide +kernel
  have sw : zz_sw [(nI 0, 92), (nI 1, 99), (nI 2, 106), (nI 3, 111), (nI 4, 143), (nI 5, 143), (nI 6, 143), (nI 7, 143), (nI 8, 143), (nI 9, 143), (nI 10, 116), (nI 11, 121), (nI 12, 126), (nI 13, 132), (nI 14, 138)] 143 (nI 14) = 138 := by decide +kernel
  rw [en153 w0]
  simp (disch := first | assumption | exact zz_nl_i _ | exact zz_nl_r _ | exact zz_nl_n | exact okv_i _ | exact okv_j _ | exact okv_0 | exact okv_1 | exact okv_o _ _ | exact okv_a _ _ | exact bI_okr _ | omega | exact llt_0 | ((repeat apply llt_s) <;> exact llt_0) | fail) only [x153, m_isIn, ii, bI_f, if_true, sw, e, mo_k_v, mo_k_n, mo_v_e, mo_gf_e, mo_pf_e, mo_ia_e, mo_ba_e, mo_za_e, mo_la_e, mo_aa_e, mo_le_e, mo_is_e, mo_bs_e, mo_zs_0, mo_zs_1, mo_ls_e, mo_as_e, mo_na_e, mo_aci_e, mo_acb_e, mo_acj_e, hp_gs, hp_gn, hp_ss, List.getElem?_cons_zero, List.getElem?_cons_succ, List.set_cons_zero, List.set_cons_succ]
  exact ⟨_, rfl, s, hf⟩
theorem m_count_no (w0 : hp_g h M = some (mdO M mt mk mp mu ms mn mo ml mv me mf mw)) (wA : hp_g h (M + 1) = some (iA 12639 A)) {x : Int32} (hx : isV 15 x = false) : zz_run 153 [.ref M, .int x] h = some (some (.int (-1)), h) := by
  have n0 := isV_ne hx (by omega) (show 0 < 15 by omega)
  have n1 := isV_ne hx (by omega) (show 1 < 15 by omega)
  have n2 := isV_ne hx (by omega) (show 2 < 15 by omega)
  have n3 := isV_ne hx (by omega) (show 3 < 15 by omega)
  have n4 := isV_ne hx (by omega) (show 4 < 15 by omega)
  have n5 := isV_ne hx (by omega) (show 5 < 15 by omega)
  have n6 := isV_ne hx (by omega) (show 6 < 15 by omega)
  have n7 := isV_ne hx (by omega) (show 7 < 15 by omega)
  have n8 := isV_ne hx (by omega) (show 8 < 15 by omega)
  have n9 := isV_ne hx (by omega) (show 9 < 15 by omega)
  have n10 := isV_ne hx (by omega) (show 10 < 15 by omega)
  have n11 := isV_ne hx (by omega) (show 11 < 15 by omega)
  have n12 := isV_ne hx (by omega) (show 12 < 15 by omega)
  have n13 := isV_ne hx (by omega) (show 13 < 15 by omega)
  have n14 := isV_ne hx (by omega) (show 14 < 15 by omega)
  have ii : decide (¬ x < nI 4 ∧ ¬ nI 9 < x) = false := by
    refine decide_eq_false (fun q => ?_)
    obtain ⟨q1, q2⟩ := q
    have h1 : ¬ x < nI 0 := fun c => q1 (by rw [Int32.lt_iff_toInt_lt] at c ⊢; rw [nI_toInt (by omega)] at c ⊢; omega)
    have h2 : x < nI 15 := by
      rw [Int32.lt_iff_toInt_lt] at q2 ⊢
      rw [nI_toInt (by omega)] at q2 ⊢
      omega
    unfold isV at hx
    exact of_decide_eq_false hx ⟨h1, h2⟩
  have sw : zz_sw [(nI 0, 92), (nI 1, 99), (nI 2, 106), (nI 3, 111), (nI 4, 143), (nI 5, 143), (nI 6, 143), (nI 7, 143), (nI 8, 143), (nI 9, 143), (nI 10, 116), (nI 11, 121), (nI 12, 126), (nI 13, 132), (nI 14, 138)] 143 x = 143 := by rw [zz_sw, if_neg n0, zz_sw, if_neg n1, zz_sw, if_neg n2, zz_sw, if_neg n3, zz_sw, if_neg n4, zz_sw, if_neg n5, zz_sw, if_neg n6, zz_sw, if_neg n7, zz_sw, if_neg n8, zz_sw, if_neg n9, zz_sw, if_neg n10, zz_sw, if_neg n11, zz_sw, if_neg n12, zz_sw, if_neg n13, zz_sw, if_neg n14, zz_sw]
  rw [en153 w0]
  simp (disch := first | assumption | exact zz_nl_i _ | exact zz_nl_r _ | exact zz_nl_n | exact okv_i _ | exact okv_j _ | exact okv_0 | exact okv_1 | exact okv_o _ _ | exact okv_a _ _ | exact bI_okr _ | omega | exact llt_0 | ((repeat apply llt_s) <;> exact llt_0) | fail) only [x153, m_isIn, ii, bI_f, if_true, sw, mo_k_v, mo_k_n, mo_v_e, mo_gf_e, mo_pf_e, mo_ia_e, mo_ba_e, mo_za_e, mo_la_e, mo_aa_e, mo_le_e, mo_is_e, mo_bs_e, mo_zs_0, mo_zs_1, mo_ls_e, mo_as_e, mo_na_e, mo_aci_e, mo_acb_e, mo_acj_e, hp_gs, hp_gn, hp_ss, List.getElem?_cons_zero, List.getElem?_cons_succ, List.set_cons_zero, List.set_cons_succ]
end
