/-! the reference: value -/
theorem pli_lt {p : Pl} (hw : wfP p) (hn : pnv p ≤ 20) : ∀ m u, u < m → u < pnv p → ∀ x, x < 32 → u < x → bt (pli p u) x = false := by
  intro m
  induction m with
  | zero => intro u hu; omega
  | succ m ih =>
    intro u hum hu x hx hux
    rcases (hw.2 u hu).2 with ⟨_, e⟩ | ⟨w, h1, _, _, e⟩
    · rw [e, b_or, b_sh1 (by omega) hx, decide_eq_false (by omega), nI_0, b_0]; rfl
    · rw [e, b_or, b_sh1 (by omega) hx, decide_eq_false (by omega), ih w (by omega) (by omega) x hx (by omega)]; rfl
theorem pc_sh1 {u : Nat} (hu : u < 32) {y : Int32} (hy : bt y u = false) : pc (sh1 u ||| y) = pc y + 1 := by
  unfold pc
  rw [fb_ct_cong (q := fun k => if k = u then true else bt y k) (fun k hk => by
    rw [b_or, b_sh1 hu hk]
    by_cases c : k = u
    · rw [decide_eq_true c, if_pos c, Bool.true_or]
    · rw [decide_eq_false c, if_neg c, Bool.false_or])]
  have := fb_ct_upd (bt y) true hu
  rw [hy] at this
  simp only [Bool.false_eq_true, if_false, if_true, Nat.add_zero] at this
  exact this
section
variable {h : zz_H} {M : Nat} {A : Nat → Int32} {mt mk mp mu ms mn mo ml : Int32} {mv : Int64} {me mf mw : Int32} {p : Pl} {rk tg f ch ba : Nat → Int32}
theorem m_value_no (w0 : hp_g h M = some (mdO M mt mk mp mu ms mn mo ml mv me mf mw)) (wA : hp_g h (M + 1) = some (iA 12639 A)) (hr : RS A 0 p rk tg ch ba) (hc : CI p rk tg f ch ba) {x y : Int32} (hx : isV (pnv p) x = false) : zz_run 182 [.ref M, .int x, .int y] h = some (some (.int (-1)), h) := by
  rw [en182 w0]
  simp (disch := first | assumption | exact zz_nl_i _ | exact zz_nl_r _ | exact zz_nl_n | exact okv_i _ | exact okv_j _ | exact okv_0 | exact okv_1 | exact okv_o _ _ | exact okv_a _ _ | exact bI_okr _ | omega | exact llt_0 | ((repeat apply llt_s) <;> exact llt_0) | fail) only [x182_p0, x182_p1, m_isValue w0 wA hr, hx, bI_f, if_true, mo_k_v, mo_k_n, mo_v_e, mo_gf_e, mo_pf_e, mo_ia_e, mo_ba_e, mo_za_e, mo_la_e, mo_aa_e, mo_le_e, mo_is_e, mo_bs_e, mo_zs_0, mo_zs_1, mo_ls_e, mo_as_e, mo_na_e, mo_aci_e, mo_acb_e, mo_acj_e, hp_gs, hp_gn, hp_ss, List.getElem?_cons_zero, List.getElem?_cons_succ, List.set_cons_zero, List.set_cons_succ]
theorem m_value_hi (w0 : hp_g h M = some (mdO M mt mk mp mu ms mn mo ml mv me mf mw)) (wA : hp_g h (M + 1) = some (iA 12639 A)) (hr : RS A 0 p rk tg ch ba) (hc : CI p rk tg f ch ba) {v : Nat} (hd : v < pnv p) {y : Int32} (hy : ¬ y < nI 10) : zz_run 182 [.ref M, .int (nI v), .int y] h = some (some (.int (letC (pvn p v) (y - nI 10))), h) := by
  have r1 := hr.1.2.1
  have hv : isV (pnv p) (nI v) = true := isV_nI (by omega) hd
  have hnm := (hr.2.2.1 v hd).2.2.2
  rw [Nat.zero_add] at hnm
  rw [en182 w0]
  simp (disch := first | assumption | exact zz_nl_i _ | exact zz_nl_r _ | exact zz_nl_n | exact okv_i _ | exact okv_j _ | exact okv_0 | exact okv_1 | exact okv_o _ _ | exact okv_a _ _ | exact bI_okr _ | omega | exact llt_0 | ((repeat apply llt_s) <;> exact llt_0) | fail) only [x182_p0, x182_p1, m_isValue w0 wA hr, hv, bI_t, nI_01, if_false, m_valueAt, hy, nI_add, m_letter w0 wA hnm, mo_k_v, mo_k_n, mo_v_e, mo_gf_e, mo_pf_e, mo_ia_e, mo_ba_e, mo_za_e, mo_la_e, mo_aa_e, mo_le_e, mo_is_e, mo_bs_e, mo_zs_0, mo_zs_1, mo_ls_e, mo_as_e, mo_na_e, mo_aci_e, mo_acb_e, mo_acj_e, hp_gs, hp_gn, hp_ss, List.getElem?_cons_zero, List.getElem?_cons_succ, List.set_cons_zero, List.set_cons_succ]
theorem m_value_7 (w0 : hp_g h M = some (mdO M mt mk mp mu ms mn mo ml mv me mf mw)) (wA : hp_g h (M + 1) = some (iA 12639 A)) (hr : RS A 0 p rk tg ch ba) (hc : CI p rk tg f ch ba) (hs : scr3 h M) {v d : Nat} (hd : v < pnv p) (hdh : d < pnh p) (ho : pho p v = nI d) : ∃ k, zz_run 182 [.ref M, .int (nI v), .int (nI 7)] h = some (some (.int (nI (amt (fun b => lfW p f ch ba b (if ba d = nI 1 then -1 else nI d) (-1) &&& f (8 * v + b))))), k) ∧ scr3 k M ∧ frm h k (M + 4) (M + 7) := by
  have r1 := hr.1.2.1
  have hv : isV (pnv p) (nI v) = true := isV_nI (by omega) hd
  have hy : nI 7 < nI 10 := by decide +kernel
  obtain ⟨k, e, s, hf⟩ := m_countOf w0 wA hr hc hs hd hdh ho
  refine ⟨k, ?_, s, hf⟩
  rw [en182 w0]
  simp (disch := first | assumption | exact zz_nl_i _ | exact zz_nl_r _ | exact zz_nl_n | exact okv_i _ | exact okv_j _ | exact okv_0 | exact okv_1 | exact okv_o _ _ | exact okv_a _ _ | exact bI_okr _ | omega | exact llt_0 | ((repeat apply llt_s) <;> exact llt_0) | fail) only [x182_p0, x182_p1, m_isValue w0 wA hr, hv, bI_t, nI_01, if_false, m_valueAt, hy, if_true, e, mo_k_v, mo_k_n, mo_v_e, mo_gf_e, mo_pf_e, mo_ia_e, mo_ba_e, mo_za_e, mo_la_e, mo_aa_e, mo_le_e, mo_is_e, mo_bs_e, mo_zs_0, mo_zs_1, mo_ls_e, mo_as_e, mo_na_e, mo_aci_e, mo_acb_e, mo_acj_e, hp_gs, hp_gn, hp_ss, List.getElem?_cons_zero, List.getElem?_cons_succ, List.set_cons_zero, List.set_cons_succ]
theorem m_value_8 (w0 : hp_g h M = some (mdO M mt mk mp mu ms mn mo ml mv me mf mw)) (wA : hp_g h (M + 1) = some (iA 12639 A)) (hr : RS A 0 p rk tg ch ba) (hc : CI p rk tg f ch ba) (hs : scr3 h M) {v : Nat} (hd : v < pnv p) : ∃ k, zz_run 182 [.ref M, .int (nI v), .int (nI 8)] h = some (some (.int (nI (amt (fun blk => lfW p f ch ba blk (-1) (nI v) &&& f (8 * 20 + blk))))), k) ∧ scr3 k M ∧ frm h k (M + 4) (M + 7) := by
  have r1 := hr.1.2.1
  have hv : isV (pnv p) (nI v) = true := isV_nI (by omega) hd
  have hy : nI 8 < nI 10 := by decide +kernel
  have n87 : ¬ nI 8 = nI 7 := by decide +kernel
  obtain ⟨k, e, s, hf⟩ := m_aheadOf w0 wA hr hc hs hd
  refine ⟨k, ?_, s, hf⟩
  rw [en182 w0]
  simp (disch := first | assumption | exact zz_nl_i _ | exact zz_nl_r _ | exact zz_nl_n | exact okv_i _ | exact okv_j _ | exact okv_0 | exact okv_1 | exact okv_o _ _ | exact okv_a _ _ | exact bI_okr _ | omega | exact llt_0 | ((repeat apply llt_s) <;> exact llt_0) | fail) only [x182_p0, x182_p1, m_isValue w0 wA hr, hv, bI_t, nI_01, if_false, m_valueAt, hy, n87, if_true, e, mo_k_v, mo_k_n, mo_v_e, mo_gf_e, mo_pf_e, mo_ia_e, mo_ba_e, mo_za_e, mo_la_e, mo_aa_e, mo_le_e, mo_is_e, mo_bs_e, mo_zs_0, mo_zs_1, mo_ls_e, mo_as_e, mo_na_e, mo_aci_e, mo_acb_e, mo_acj_e, hp_gs, hp_gn, hp_ss, List.getElem?_cons_zero, List.getElem?_cons_succ, List.set_cons_zero, List.set_cons_succ]
theorem m_value_0 (w0 : hp_g h M = some (mdO M mt mk mp mu ms mn mo ml mv me mf mw)) (wA : hp_g h (M + 1) = some (iA 12639 A)) (hr : RS A 0 p rk tg ch ba) (hc : CI p rk tg f ch ba) (hs : scr3 h M) {v : Nat} (hd : v < pnv p) : ∃ k, zz_run 182 [.ref M, .int (nI v), .int (nI 0)] h = some (some (.int (pho p v)), k) ∧ scr3 k M ∧ frm h k (M + 4) (M + 7) := by
  have r1 := hr.1.2.1
  have hv : isV (pnv p) (nI v) = true := isV_nI (by omega) hd
  obtain ⟨q1, q2, q3, _⟩ := hr.2.2.1 v hd
  rw [Nat.zero_add] at q1 q2 q3
  obtain ⟨V4, a4⟩ := hs.1
  obtain ⟨k, e, s4, hf⟩ := m_laysSet w0 wA hr hc a4 (by omega) (by omega) hd
  have w0' := (hf.2.2.2 M (by omega)).trans w0
  have wA' := (hf.2.2.2 (M + 1) (by omega)).trans wA
  have hS : scr3 k M := by
    obtain ⟨V5, a5⟩ := hs.2.1
    obtain ⟨V6, a6⟩ := hs.2.2
    exact ⟨⟨_, s4⟩, ⟨V5, ar8_sam a5 (hf.2.2.2 _ (by omega))⟩, ⟨V6, ar8_sam a6 (hf.2.2.2 _ (by omega))⟩⟩
  refine ⟨k, ?_, hS, frm_mono hf (by omega) (by omega)⟩
  have hy : nI 0 < nI 10 := by decide +kernel
  have n7 : ¬ nI 0 = nI 7 := by decide +kernel
  have n8 : ¬ nI 0 = nI 8 := by decide +kernel
  have sw : zz_sw [(nI 0, 124), (nI 1, 133), (nI 2, 142), (nI 3, 180), (nI 4, 188), (nI 5, 194), (nI 6, 202), (nI 7, 250), (nI 8, 250), (nI 9, 241)] 250 (nI 0) = 124 := by decide +kernel
  rw [en182 w0]
  simp (disch := first | assumption | exact zz_nl_i _ | exact zz_nl_r _ | exact zz_nl_n | exact okv_i _ | exact okv_j _ | exact okv_0 | exact okv_1 | exact okv_o _ _ | exact okv_a _ _ | exact bI_okr _ | omega | exact llt_0 | ((repeat apply llt_s) <;> exact llt_0) | fail) only [x182_p0, x182_p1, w0, m_isValue w0 wA hr, hv, bI_t, nI_01, if_false, m_valueAt, hy, if_true, n7, n8, e, sw, w0', wA', nI_add, Nat.add_zero, q1, mo_k_v, mo_k_n, mo_v_e, mo_gf_e, mo_pf_e, mo_ia_e, mo_ba_e, mo_za_e, mo_la_e, mo_aa_e, mo_le_e, mo_is_e, mo_bs_e, mo_zs_0, mo_zs_1, mo_ls_e, mo_as_e, mo_na_e, mo_aci_e, mo_acb_e, mo_acj_e, hp_gs, hp_gn, hp_ss, List.getElem?_cons_zero, List.getElem?_cons_succ, List.set_cons_zero, List.set_cons_succ]
theorem m_value_1 (w0 : hp_g h M = some (mdO M mt mk mp mu ms mn mo ml mv me mf mw)) (wA : hp_g h (M + 1) = some (iA 12639 A)) (hr : RS A 0 p rk tg ch ba) (hc : CI p rk tg f ch ba) (hs : scr3 h M) {v : Nat} (hd : v < pnv p) : ∃ k, zz_run 182 [.ref M, .int (nI v), .int (nI 1)] h = some (some (.int (ppa p v)), k) ∧ scr3 k M ∧ frm h k (M + 4) (M + 7) := by
  have r1 := hr.1.2.1
  have hv : isV (pnv p) (nI v) = true := isV_nI (by omega) hd
  obtain ⟨q1, q2, q3, _⟩ := hr.2.2.1 v hd
  rw [Nat.zero_add] at q1 q2 q3
  obtain ⟨V4, a4⟩ := hs.1
  obtain ⟨k, e, s4, hf⟩ := m_laysSet w0 wA hr hc a4 (by omega) (by omega) hd
  have w0' := (hf.2.2.2 M (by omega)).trans w0
  have wA' := (hf.2.2.2 (M + 1) (by omega)).trans wA
  have hS : scr3 k M := by
    obtain ⟨V5, a5⟩ := hs.2.1
    obtain ⟨V6, a6⟩ := hs.2.2
    exact ⟨⟨_, s4⟩, ⟨V5, ar8_sam a5 (hf.2.2.2 _ (by omega))⟩, ⟨V6, ar8_sam a6 (hf.2.2.2 _ (by omega))⟩⟩
  refine ⟨k, ?_, hS, frm_mono hf (by omega) (by omega)⟩
  have hy : nI 1 < nI 10 := by decide +kernel
  have n7 : ¬ nI 1 = nI 7 := by decide +kernel
  have n8 : ¬ nI 1 = nI 8 := by decide +kernel
  have sw : zz_sw [(nI 0, 124), (nI 1, 133), (nI 2, 142), (nI 3, 180), (nI 4, 188), (nI 5, 194), (nI 6, 202), (nI 7, 250), (nI 8, 250), (nI 9, 241)] 250 (nI 1) = 133 := by decide +kernel
  rw [en182 w0]
  simp (disch := first | assumption | exact zz_nl_i _ | exact zz_nl_r _ | exact zz_nl_n | exact okv_i _ | exact okv_j _ | exact okv_0 | exact okv_1 | exact okv_o _ _ | exact okv_a _ _ | exact bI_okr _ | omega | exact llt_0 | ((repeat apply llt_s) <;> exact llt_0) | fail) only [x182_p0, x182_p1, w0, m_isValue w0 wA hr, hv, bI_t, nI_01, if_false, m_valueAt, hy, if_true, n7, n8, e, sw, w0', wA', nI_add, q2, mo_k_v, mo_k_n, mo_v_e, mo_gf_e, mo_pf_e, mo_ia_e, mo_ba_e, mo_za_e, mo_la_e, mo_aa_e, mo_le_e, mo_is_e, mo_bs_e, mo_zs_0, mo_zs_1, mo_ls_e, mo_as_e, mo_na_e, mo_aci_e, mo_acb_e, mo_acj_e, hp_gs, hp_gn, hp_ss, List.getElem?_cons_zero, List.getElem?_cons_succ, List.set_cons_zero, List.set_cons_succ]
theorem m_value_3 (w0 : hp_g h M = some (mdO M mt mk mp mu ms mn mo ml mv me mf mw)) (wA : hp_g h (M + 1) = some (iA 12639 A)) (hr : RS A 0 p rk tg ch ba) (hc : CI p rk tg f ch ba) (hs : scr3 h M) {v : Nat} (hd : v < pnv p) : ∃ k, zz_run 182 [.ref M, .int (nI v), .int (nI 3)] h = some (some (.int (nI (amt (rw8 f v)))), k) ∧ scr3 k M ∧ frm h k (M + 4) (M + 7) := by
  have r1 := hr.1.2.1
  have hv : isV (pnv p) (nI v) = true := isV_nI (by omega) hd
  obtain ⟨q1, q2, q3, _⟩ := hr.2.2.1 v hd
  rw [Nat.zero_add] at q1 q2 q3
  obtain ⟨V4, a4⟩ := hs.1
  obtain ⟨k, e, s4, hf⟩ := m_laysSet w0 wA hr hc a4 (by omega) (by omega) hd
  have w0' := (hf.2.2.2 M (by omega)).trans w0
  have wA' := (hf.2.2.2 (M + 1) (by omega)).trans wA
  have hS : scr3 k M := by
    obtain ⟨V5, a5⟩ := hs.2.1
    obtain ⟨V6, a6⟩ := hs.2.2
    exact ⟨⟨_, s4⟩, ⟨V5, ar8_sam a5 (hf.2.2.2 _ (by omega))⟩, ⟨V6, ar8_sam a6 (hf.2.2.2 _ (by omega))⟩⟩
  refine ⟨k, ?_, hS, frm_mono hf (by omega) (by omega)⟩
  have hy : nI 3 < nI 10 := by decide +kernel
  have n7 : ¬ nI 3 = nI 7 := by decide +kernel
  have n8 : ¬ nI 3 = nI 8 := by decide +kernel
  have sw : zz_sw [(nI 0, 124), (nI 1, 133), (nI 2, 142), (nI 3, 180), (nI 4, 188), (nI 5, 194), (nI 6, 202), (nI 7, 250), (nI 8, 250), (nI 9, 241)] 250 (nI 3) = 180 := by decide +kernel
  rw [en182 w0]
  simp (disch := first | assumption | exact zz_nl_i _ | exact zz_nl_r _ | exact zz_nl_n | exact okv_i _ | exact okv_j _ | exact okv_0 | exact okv_1 | exact okv_o _ _ | exact okv_a _ _ | exact bI_okr _ | omega | exact llt_0 | ((repeat apply llt_s) <;> exact llt_0) | fail) only [x182_p0, x182_p1, w0, m_isValue w0 wA hr, hv, bI_t, nI_01, if_false, m_valueAt, hy, if_true, n7, n8, e, sw, w0', wA', nI_add, a_many s4, mo_k_v, mo_k_n, mo_v_e, mo_gf_e, mo_pf_e, mo_ia_e, mo_ba_e, mo_za_e, mo_la_e, mo_aa_e, mo_le_e, mo_is_e, mo_bs_e, mo_zs_0, mo_zs_1, mo_ls_e, mo_as_e, mo_na_e, mo_aci_e, mo_acb_e, mo_acj_e, hp_gs, hp_gn, hp_ss, List.getElem?_cons_zero, List.getElem?_cons_succ, List.set_cons_zero, List.set_cons_succ]
theorem m_value_4 (w0 : hp_g h M = some (mdO M mt mk mp mu ms mn mo ml mv me mf mw)) (wA : hp_g h (M + 1) = some (iA 12639 A)) (hr : RS A 0 p rk tg ch ba) (hc : CI p rk tg f ch ba) (hs : scr3 h M) {v : Nat} (hd : v < pnv p) : ∃ k, zz_run 182 [.ref M, .int (nI v), .int (nI 4)] h = some (some (.int (nI (fb_ct (fun q => bt (tg q) v) 256))), k) ∧ scr3 k M ∧ frm h k (M + 4) (M + 7) := by
  have r1 := hr.1.2.1
  have hv : isV (pnv p) (nI v) = true := isV_nI (by omega) hd
  obtain ⟨q1, q2, q3, _⟩ := hr.2.2.1 v hd
  rw [Nat.zero_add] at q1 q2 q3
  obtain ⟨V4, a4⟩ := hs.1
  obtain ⟨k, e, s4, hf⟩ := m_laysSet w0 wA hr hc a4 (by omega) (by omega) hd
  have w0' := (hf.2.2.2 M (by omega)).trans w0
  have wA' := (hf.2.2.2 (M + 1) (by omega)).trans wA
  have hS : scr3 k M := by
    obtain ⟨V5, a5⟩ := hs.2.1
    obtain ⟨V6, a6⟩ := hs.2.2
    exact ⟨⟨_, s4⟩, ⟨V5, ar8_sam a5 (hf.2.2.2 _ (by omega))⟩, ⟨V6, ar8_sam a6 (hf.2.2.2 _ (by omega))⟩⟩
  refine ⟨k, ?_, hS, frm_mono hf (by omega) (by omega)⟩
  have hy : nI 4 < nI 10 := by decide +kernel
  have n7 : ¬ nI 4 = nI 7 := by decide +kernel
  have n8 : ¬ nI 4 = nI 8 := by decide +kernel
  have sw : zz_sw [(nI 0, 124), (nI 1, 133), (nI 2, 142), (nI 3, 180), (nI 4, 188), (nI 5, 194), (nI 6, 202), (nI 7, 250), (nI 8, 250), (nI 9, 241)] 250 (nI 4) = 188 := by decide +kernel
  rw [en182 w0]
  simp (disch := first | assumption | exact zz_nl_i _ | exact zz_nl_r _ | exact zz_nl_n | exact okv_i _ | exact okv_j _ | exact okv_0 | exact okv_1 | exact okv_o _ _ | exact okv_a _ _ | exact bI_okr _ | omega | exact llt_0 | ((repeat apply llt_s) <;> exact llt_0) | fail) only [x182_p0, x182_p1, w0, m_isValue w0 wA hr, hv, bI_t, nI_01, if_false, m_valueAt, hy, if_true, n7, n8, e, sw, w0', wA', nI_add, m_tagsOf w0' wA' hr hc hd, mo_k_v, mo_k_n, mo_v_e, mo_gf_e, mo_pf_e, mo_ia_e, mo_ba_e, mo_za_e, mo_la_e, mo_aa_e, mo_le_e, mo_is_e, mo_bs_e, mo_zs_0, mo_zs_1, mo_ls_e, mo_as_e, mo_na_e, mo_aci_e, mo_acb_e, mo_acj_e, hp_gs, hp_gn, hp_ss, List.getElem?_cons_zero, List.getElem?_cons_succ, List.set_cons_zero, List.set_cons_succ]
theorem m_value_5 (w0 : hp_g h M = some (mdO M mt mk mp mu ms mn mo ml mv me mf mw)) (wA : hp_g h (M + 1) = some (iA 12639 A)) (hr : RS A 0 p rk tg ch ba) (hc : CI p rk tg f ch ba) (hs : scr3 h M) {v : Nat} (hd : v < pnv p) : ∃ k, zz_run 182 [.ref M, .int (nI v), .int (nI 5)] h = some (some (.int (nI (cs8 (rw8 f v)))), k) ∧ scr3 k M ∧ frm h k (M + 4) (M + 7) := by
  have r1 := hr.1.2.1
  have hv : isV (pnv p) (nI v) = true := isV_nI (by omega) hd
  obtain ⟨q1, q2, q3, _⟩ := hr.2.2.1 v hd
  rw [Nat.zero_add] at q1 q2 q3
  obtain ⟨V4, a4⟩ := hs.1
  obtain ⟨k, e, s4, hf⟩ := m_laysSet w0 wA hr hc a4 (by omega) (by omega) hd
  have w0' := (hf.2.2.2 M (by omega)).trans w0
  have wA' := (hf.2.2.2 (M + 1) (by omega)).trans wA
  have hS : scr3 k M := by
    obtain ⟨V5, a5⟩ := hs.2.1
    obtain ⟨V6, a6⟩ := hs.2.2
    exact ⟨⟨_, s4⟩, ⟨V5, ar8_sam a5 (hf.2.2.2 _ (by omega))⟩, ⟨V6, ar8_sam a6 (hf.2.2.2 _ (by omega))⟩⟩
  refine ⟨k, ?_, hS, frm_mono hf (by omega) (by omega)⟩
  have hy : nI 5 < nI 10 := by decide +kernel
  have n7 : ¬ nI 5 = nI 7 := by decide +kernel
  have n8 : ¬ nI 5 = nI 8 := by decide +kernel
  have sw : zz_sw [(nI 0, 124), (nI 1, 133), (nI 2, 142), (nI 3, 180), (nI 4, 188), (nI 5, 194), (nI 6, 202), (nI 7, 250), (nI 8, 250), (nI 9, 241)] 250 (nI 5) = 194 := by decide +kernel
  rw [en182 w0]
  simp (disch := first | assumption | exact zz_nl_i _ | exact zz_nl_r _ | exact zz_nl_n | exact okv_i _ | exact okv_j _ | exact okv_0 | exact okv_1 | exact okv_o _ _ | exact okv_a _ _ | exact bI_okr _ | omega | exact llt_0 | ((repeat apply llt_s) <;> exact llt_0) | fail) only [x182_p0, x182_p1, w0, m_isValue w0 wA hr, hv, bI_t, nI_01, if_false, m_valueAt, hy, if_true, n7, n8, e, sw, w0', wA', nI_add, a_size s4, mo_k_v, mo_k_n, mo_v_e, mo_gf_e, mo_pf_e, mo_ia_e, mo_ba_e, mo_za_e, mo_la_e, mo_aa_e, mo_le_e, mo_is_e, mo_bs_e, mo_zs_0, mo_zs_1, mo_ls_e, mo_as_e, mo_na_e, mo_aci_e, mo_acb_e, mo_acj_e, hp_gs, hp_gn, hp_ss, List.getElem?_cons_zero, List.getElem?_cons_succ, List.set_cons_zero, List.set_cons_succ]
theorem m_value_9 (w0 : hp_g h M = some (mdO M mt mk mp mu ms mn mo ml mv me mf mw)) (wA : hp_g h (M + 1) = some (iA 12639 A)) (hr : RS A 0 p rk tg ch ba) (hc : CI p rk tg f ch ba) (hs : scr3 h M) {v : Nat} (hd : v < pnv p) : ∃ k, zz_run 182 [.ref M, .int (nI v), .int (nI 9)] h = some (some (.int (ch v)), k) ∧ scr3 k M ∧ frm h k (M + 4) (M + 7) := by
  have r1 := hr.1.2.1
  have hv : isV (pnv p) (nI v) = true := isV_nI (by omega) hd
  obtain ⟨q1, q2, q3, _⟩ := hr.2.2.1 v hd
  rw [Nat.zero_add] at q1 q2 q3
  obtain ⟨V4, a4⟩ := hs.1
  obtain ⟨k, e, s4, hf⟩ := m_laysSet w0 wA hr hc a4 (by omega) (by omega) hd
  have w0' := (hf.2.2.2 M (by omega)).trans w0
  have wA' := (hf.2.2.2 (M + 1) (by omega)).trans wA
  have hS : scr3 k M := by
    obtain ⟨V5, a5⟩ := hs.2.1
    obtain ⟨V6, a6⟩ := hs.2.2
    exact ⟨⟨_, s4⟩, ⟨V5, ar8_sam a5 (hf.2.2.2 _ (by omega))⟩, ⟨V6, ar8_sam a6 (hf.2.2.2 _ (by omega))⟩⟩
  refine ⟨k, ?_, hS, frm_mono hf (by omega) (by omega)⟩
  have hy : nI 9 < nI 10 := by decide +kernel
  have n7 : ¬ nI 9 = nI 7 := by decide +kernel
  have n8 : ¬ nI 9 = nI 8 := by decide +kernel
  have sw : zz_sw [(nI 0, 124), (nI 1, 133), (nI 2, 142), (nI 3, 180), (nI 4, 188), (nI 5, 194), (nI 6, 202), (nI 7, 250), (nI 8, 250), (nI 9, 241)] 250 (nI 9) = 241 := by decide +kernel
  rw [en182 w0]
  simp (disch := first | assumption | exact zz_nl_i _ | exact zz_nl_r _ | exact zz_nl_n | exact okv_i _ | exact okv_j _ | exact okv_0 | exact okv_1 | exact okv_o _ _ | exact okv_a _ _ | exact bI_okr _ | omega | exact llt_0 | ((repeat apply llt_s) <;> exact llt_0) | fail) only [x182_p0, x182_p1, w0, m_isValue w0 wA hr, hv, bI_t, nI_01, if_false, m_valueAt, hy, if_true, n7, n8, e, sw, w0', wA', nI_add, q3, mo_k_v, mo_k_n, mo_v_e, mo_gf_e, mo_pf_e, mo_ia_e, mo_ba_e, mo_za_e, mo_la_e, mo_aa_e, mo_le_e, mo_is_e, mo_bs_e, mo_zs_0, mo_zs_1, mo_ls_e, mo_as_e, mo_na_e, mo_aci_e, mo_acb_e, mo_acj_e, hp_gs, hp_gn, hp_ss, List.getElem?_cons_zero, List.getElem?_cons_succ, List.set_cons_zero, List.set_cons_succ]
theorem m_value_2 (w0 : hp_g h M = some (mdO M mt mk mp mu ms mn mo ml mv me mf mw)) (wA : hp_g h (M + 1) = some (iA 12639 A)) (hr : RS A 0 p rk tg ch ba) (hc : CI p rk tg f ch ba) (hs : scr3 h M) {v : Nat} (hd : v < pnv p) : ∃ k, zz_run 182 [.ref M, .int (nI v), .int (nI 2)] h = some (some (.int (nI (pc (pli p v)) - nI 1)), k) ∧ scr3 k M ∧ frm h k (M + 4) (M + 7) := by
  have r1 := hr.1.2.1
  have hv : isV (pnv p) (nI v) = true := isV_nI (by omega) hd
  obtain ⟨q1, q2, q3, _⟩ := hr.2.2.1 v hd
  rw [Nat.zero_add] at q1 q2 q3
  obtain ⟨V4, a4⟩ := hs.1
  obtain ⟨k, e, s4, hf⟩ := m_laysSet w0 wA hr hc a4 (by omega) (by omega) hd
  have w0' := (hf.2.2.2 M (by omega)).trans w0
  have wA' := (hf.2.2.2 (M + 1) (by omega)).trans wA
  have hS : scr3 k M := by
    obtain ⟨V5, a5⟩ := hs.2.1
    obtain ⟨V6, a6⟩ := hs.2.2
    exact ⟨⟨_, s4⟩, ⟨V5, ar8_sam a5 (hf.2.2.2 _ (by omega))⟩, ⟨V6, ar8_sam a6 (hf.2.2.2 _ (by omega))⟩⟩
  refine ⟨k, ?_, hS, frm_mono hf (by omega) (by omega)⟩
  have hy : nI 2 < nI 10 := by decide +kernel
  have n7 : ¬ nI 2 = nI 7 := by decide +kernel
  have n8 : ¬ nI 2 = nI 8 := by decide +kernel
  have sw : zz_sw [(nI 0, 124), (nI 1, 133), (nI 2, 142), (nI 3, 180), (nI 4, 188), (nI 5, 194), (nI 6, 202), (nI 7, 250), (nI 8, 250), (nI 9, 241)] 250 (nI 2) = 142 := by decide +kernel
  have key : ∀ m u, u < m → u < pnv p → ∀ n, zz_Y 182 (152, [some (.ref (M)), some (.int (nI (v))), some (.int (nI (2))), some (.int (nI (54 + 12 * v))), some (.int (nI (n))), some (.int (ppa p u))], [], k) = some (some (.int (nI (n + pc (pli p u)) - nI 1)), k) := by
    intro m
    induction m with
    | zero => intro u hu; omega
    | succ m ih =>
      intro u hum hu n
      rw [x182_c152]
      rcases (hc.1.2 u hu).2 with ⟨e1, e2⟩ | ⟨w, h1, e1, _, e2⟩
      · rw [e1, e2, pc_sh1 (by omega) (by rw [nI_0]; exact b_0 _), pc_zero.mpr nI_0]
        simp (disch := first | assumption | exact zz_nl_i _ | exact zz_nl_r _ | exact zz_nl_n | exact okv_i _ | exact okv_j _ | exact okv_0 | exact okv_1 | exact okv_o _ _ | exact okv_a _ _ | exact bI_okr _ | omega | exact llt_0 | ((repeat apply llt_s) <;> exact llt_0) | fail) only [x182_p0, x182_p1, show ((-1 : Int32) < nI 0) = True from eq_true m1_lt0, if_true, mo_k_v, mo_k_n, mo_v_e, mo_gf_e, mo_pf_e, mo_ia_e, mo_ba_e, mo_za_e, mo_la_e, mo_aa_e, mo_le_e, mo_is_e, mo_bs_e, mo_zs_0, mo_zs_1, mo_ls_e, mo_as_e, mo_na_e, mo_aci_e, mo_acb_e, mo_acj_e, hp_gs, hp_gn, hp_ss, List.getElem?_cons_zero, List.getElem?_cons_succ, List.set_cons_zero, List.set_cons_succ]
        rw [Nat.zero_add, pk_sub (by omega), Nat.add_sub_cancel]
      · have q := (hr.2.2.1 w (by omega)).2.1
        rw [Nat.zero_add] at q
        have hneg : ¬ nI w < nI 0 := nI_nlt0 (by omega)
        rw [e1, e2, pc_sh1 (by omega) (pli_lt hc.1 r1 (w + 1) w (by omega) (by omega) u (by omega) h1)]
        simp (disch := first | assumption | exact zz_nl_i _ | exact zz_nl_r _ | exact zz_nl_n | exact okv_i _ | exact okv_j _ | exact okv_0 | exact okv_1 | exact okv_o _ _ | exact okv_a _ _ | exact bI_okr _ | omega | exact llt_0 | ((repeat apply llt_s) <;> exact llt_0) | fail) only [x182_p0, x182_p1, hneg, if_false, w0', wA', m_valueAt, nI_add, q, mo_k_v, mo_k_n, mo_v_e, mo_gf_e, mo_pf_e, mo_ia_e, mo_ba_e, mo_za_e, mo_la_e, mo_aa_e, mo_le_e, mo_is_e, mo_bs_e, mo_zs_0, mo_zs_1, mo_ls_e, mo_as_e, mo_na_e, mo_aci_e, mo_acb_e, mo_acj_e, hp_gs, hp_gn, hp_ss, List.getElem?_cons_zero, List.getElem?_cons_succ, List.set_cons_zero, List.set_cons_succ]
        rw [ih w (by omega) (by omega), show n + 1 + pc (pli p w) = n + (pc (pli p w) + 1) by omega]
  rw [en182 w0]
  simp (disch := first | assumption | exact zz_nl_i _ | exact zz_nl_r _ | exact zz_nl_n | exact okv_i _ | exact okv_j _ | exact okv_0 | exact okv_1 | exact okv_o _ _ | exact okv_a _ _ | exact bI_okr _ | omega | exact llt_0 | ((repeat apply llt_s) <;> exact llt_0) | fail) only [x182_p0, x182_p1, w0, m_isValue w0 wA hr, hv, bI_t, nI_01, if_false, m_valueAt, hy, if_true, n7, n8, e, sw, w0', wA', nI_add, q2, mo_k_v, mo_k_n, mo_v_e, mo_gf_e, mo_pf_e, mo_ia_e, mo_ba_e, mo_za_e, mo_la_e, mo_aa_e, mo_le_e, mo_is_e, mo_bs_e, mo_zs_0, mo_zs_1, mo_ls_e, mo_as_e, mo_na_e, mo_aci_e, mo_acb_e, mo_acj_e, hp_gs, hp_gn, hp_ss, List.getElem?_cons_zero, List.getElem?_cons_succ, List.set_cons_zero, List.set_cons_succ]
  have := key _ v (Nat.lt_succ_self v) hd 0
  rw [Nat.zero_add] at this
  exact this
theorem m_value_6 (w0 : hp_g h M = some (mdO M mt mk mp mu ms mn mo ml mv me mf mw)) (wA : hp_g h (M + 1) = some (iA 12639 A)) (hr : RS A 0 p rk tg ch ba) (hc : CI p rk tg f ch ba) (hs : scr3 h M) {v : Nat} (hd : v < pnv p) : ∃ k, zz_run 182 [.ref M, .int (nI v), .int (nI 6)] h = some (some (.int (nI (bx8 (-1) (rw8 f v)))), k) ∧ scr3 k M ∧ frm h k (M + 4) (M + 7) := by
  have r1 := hr.1.2.1
  have hv : isV (pnv p) (nI v) = true := isV_nI (by omega) hd
  obtain ⟨q1, q2, q3, _⟩ := hr.2.2.1 v hd
  rw [Nat.zero_add] at q1 q2 q3
  obtain ⟨V4, a4⟩ := hs.1
  obtain ⟨k, e, s4, hf⟩ := m_laysSet w0 wA hr hc a4 (by omega) (by omega) hd
  have w0' := (hf.2.2.2 M (by omega)).trans w0
  have wA' := (hf.2.2.2 (M + 1) (by omega)).trans wA
  have hS : scr3 k M := by
    obtain ⟨V5, a5⟩ := hs.2.1
    obtain ⟨V6, a6⟩ := hs.2.2
    exact ⟨⟨_, s4⟩, ⟨V5, ar8_sam a5 (hf.2.2.2 _ (by omega))⟩, ⟨V6, ar8_sam a6 (hf.2.2.2 _ (by omega))⟩⟩
  refine ⟨k, ?_, hS, frm_mono hf (by omega) (by omega)⟩
  have hy : nI 6 < nI 10 := by decide +kernel
  have n7 : ¬ nI 6 = nI 7 := by decide +kernel
  have n8 : ¬ nI 6 = nI 8 := by decide +kernel
  have sw : zz_sw [(nI 0, 124), (nI 1, 133), (nI 2, 142), (nI 3, 180), (nI 4, 188), (nI 5, 194), (nI 6, 202), (nI 7, 250), (nI 8, 250), (nI 9, 241)] 250 (nI 6) = 202 := by decide +kernel
  have s4c := s4
  obtain ⟨g, hg, eg⟩ := s4
  have step : ∀ b n, b < 8 → zz_Y 182 (205, [some (.ref (M)), some (.int (nI (v))), some (.int (nI (6))), some (.int (nI (54 + 12 * v))), some (.int (nI (n))), some (.int (nI (b)))], [], k) = zz_Y 182 (205, [some (.ref (M)), some (.int (nI (v))), some (.int (nI (6))), some (.int (nI (54 + 12 * v))), some (.int (nI (n + (if ¬ rw8 f v b = nI 0 ∧ ((-1 : Int32) = -1 ∨ (-1 : Int32) = nI (knd (rw8 f v b))) then 1 else 0)))), some (.int (nI (b + 1)))], [], k) := by
    intro b n hb
    rw [x182_c205, ← eg b hb]
    by_cases c : g b = nI 0
    · rw [if_neg (fun q => q.1 c)]
      simp (disch := first | assumption | exact zz_nl_i _ | exact zz_nl_r _ | exact zz_nl_n | exact okv_i _ | exact okv_j _ | exact okv_0 | exact okv_1 | exact okv_o _ _ | exact okv_a _ _ | exact bI_okr _ | omega | exact llt_0 | ((repeat apply llt_s) <;> exact llt_0) | fail) only [x182_p0, x182_p1, w0', hg, nI_ltI, hb, if_true, eq_true c, nI_add, mo_k_v, mo_k_n, mo_v_e, mo_gf_e, mo_pf_e, mo_ia_e, mo_ba_e, mo_za_e, mo_la_e, mo_aa_e, mo_le_e, mo_is_e, mo_bs_e, mo_zs_0, mo_zs_1, mo_ls_e, mo_as_e, mo_na_e, mo_aci_e, mo_acb_e, mo_acj_e, hp_gs, hp_gn, hp_ss, List.getElem?_cons_zero, List.getElem?_cons_succ, List.set_cons_zero, List.set_cons_succ]
    · rw [if_pos ⟨c, Or.inl rfl⟩]
      simp (disch := first | assumption | exact zz_nl_i _ | exact zz_nl_r _ | exact zz_nl_n | exact okv_i _ | exact okv_j _ | exact okv_0 | exact okv_1 | exact okv_o _ _ | exact okv_a _ _ | exact bI_okr _ | omega | exact llt_0 | ((repeat apply llt_s) <;> exact llt_0) | fail) only [x182_p0, x182_p1, w0', hg, nI_ltI, hb, if_true, c, if_false, nI_add, mo_k_v, mo_k_n, mo_v_e, mo_gf_e, mo_pf_e, mo_ia_e, mo_ba_e, mo_za_e, mo_la_e, mo_aa_e, mo_le_e, mo_is_e, mo_bs_e, mo_zs_0, mo_zs_1, mo_ls_e, mo_as_e, mo_na_e, mo_aci_e, mo_acb_e, mo_acj_e, hp_gs, hp_gn, hp_ss, List.getElem?_cons_zero, List.getElem?_cons_succ, List.set_cons_zero, List.set_cons_succ]
  rw [en182 w0]
  simp (disch := first | assumption | exact zz_nl_i _ | exact zz_nl_r _ | exact zz_nl_n | exact okv_i _ | exact okv_j _ | exact okv_0 | exact okv_1 | exact okv_o _ _ | exact okv_a _ _ | exact bI_okr _ | omega | exact llt_0 | ((repeat apply llt_s) <;> exact llt_0) | fail) only [x182_p0, x182_p1, w0, m_isValue w0 wA hr, hv, bI_t, nI_01, if_false, m_valueAt, hy, if_true, n7, n8, e, sw, w0', wA', nI_add, mo_k_v, mo_k_n, mo_v_e, mo_gf_e, mo_pf_e, mo_ia_e, mo_ba_e, mo_za_e, mo_la_e, mo_aa_e, mo_le_e, mo_is_e, mo_bs_e, mo_zs_0, mo_zs_1, mo_ls_e, mo_as_e, mo_na_e, mo_aci_e, mo_acb_e, mo_acj_e, hp_gs, hp_gn, hp_ss, List.getElem?_cons_zero, List.getElem?_cons_succ, List.set_cons_zero, List.set_cons_succ]
  refine (lp_fold (N := 8) (St := fun b n => zz_Y 182 (205, [some (.ref (M)), some (.int (nI (v))), some (.int (nI (6))), some (.int (nI (54 + 12 * v))), some (.int (nI (n))), some (.int (nI (b)))], [], k)) step).trans ?_
  rw [lp_sum]
  ((try dsimp only); rw [x182_c205]; simp (disch := first | assumption | exact zz_nl_i _ | exact zz_nl_r _ | exact zz_nl_n | exact okv_i _ | exact okv_j _ | exact okv_0 | exact okv_1 | exact okv_o _ _ | exact okv_a _ _ | exact bI_okr _ | omega | exact llt_0 | ((repeat apply llt_s) <;> exact llt_0) | fail) only [x182_p0, x182_p1, nI_ltI, Nat.lt_irrefl, if_false, Nat.zero_add, mo_k_v, mo_k_n, mo_v_e, mo_gf_e, mo_pf_e, mo_ia_e, mo_ba_e, mo_za_e, mo_la_e, mo_aa_e, mo_le_e, mo_is_e, mo_bs_e, mo_zs_0, mo_zs_1, mo_ls_e, mo_as_e, mo_na_e, mo_aci_e, mo_acb_e, mo_acj_e, hp_gs, hp_gn, hp_ss, List.getElem?_cons_zero, List.getElem?_cons_succ, List.set_cons_zero, List.set_cons_succ])
  simp [bx8]
theorem m_value_x (w0 : hp_g h M = some (mdO M mt mk mp mu ms mn mo ml mv me mf mw)) (wA : hp_g h (M + 1) = some (iA 12639 A)) (hr : RS A 0 p rk tg ch ba) (hc : CI p rk tg f ch ba) (hs : scr3 h M) {v : Nat} (hd : v < pnv p) {y : Int32} (hx : isV 10 y = false) (hy : y < nI 10) : ∃ k, zz_run 182 [.ref M, .int (nI v), .int y] h = some (some (.int (-1)), k) ∧ scr3 k M ∧ frm h k (M + 4) (M + 7) := by
  have r1 := hr.1.2.1
  have hv : isV (pnv p) (nI v) = true := isV_nI (by omega) hd
  obtain ⟨q1, q2, q3, _⟩ := hr.2.2.1 v hd
  rw [Nat.zero_add] at q1 q2 q3
  obtain ⟨V4, a4⟩ := hs.1
  obtain ⟨k, e, s4, hf⟩ := m_laysSet w0 wA hr hc a4 (by omega) (by omega) hd
  have w0' := (hf.2.2.2 M (by omega)).trans w0
  have wA' := (hf.2.2.2 (M + 1) (by omega)).trans wA
  have hS : scr3 k M := by
    obtain ⟨V5, a5⟩ := hs.2.1
    obtain ⟨V6, a6⟩ := hs.2.2
    exact ⟨⟨_, s4⟩, ⟨V5, ar8_sam a5 (hf.2.2.2 _ (by omega))⟩, ⟨V6, ar8_sam a6 (hf.2.2.2 _ (by omega))⟩⟩
  refine ⟨k, ?_, hS, frm_mono hf (by omega) (by omega)⟩
  have n0 := isV_ne hx (by omega) (show 0 < 10 by omega)
  have n1 := isV_ne hx (by omega) (show 1 < 10 by omega)
  have n2 := isV_ne hx (by omega) (show 2 < 10 by omega)
  have n3 := isV_ne hx (by omega) (show 3 < 10 by omega)
  have n4 := isV_ne hx (by omega) (show 4 < 10 by omega)
  have n5 := isV_ne hx (by omega) (show 5 < 10 by omega)
  have n6 := isV_ne hx (by omega) (show 6 < 10 by omega)
  have n7 := isV_ne hx (by omega) (show 7 < 10 by omega)
  have n8 := isV_ne hx (by omega) (show 8 < 10 by omega)
  have n9 := isV_ne hx (by omega) (show 9 < 10 by omega)
  have sw : zz_sw [(nI 0, 124), (nI 1, 133), (nI 2, 142), (nI 3, 180), (nI 4, 188), (nI 5, 194), (nI 6, 202), (nI 7, 250), (nI 8, 250), (nI 9, 241)] 250 y = 250 := by rw [zz_sw, if_neg n0, zz_sw, if_neg n1, zz_sw, if_neg n2, zz_sw, if_neg n3, zz_sw, if_neg n4, zz_sw, if_neg n5, zz_sw, if_neg n6, zz_sw, if_neg n7, zz_sw, if_neg n8, zz_sw, if_neg n9, zz_sw]
  rw [en182 w0]
  simp (disch := first | assumption | exact zz_nl_i _ | exact zz_nl_r _ | exact zz_nl_n | exact okv_i _ | exact okv_j _ | exact okv_0 | exact okv_1 | exact okv_o _ _ | exact okv_a _ _ | exact bI_okr _ | omega | exact llt_0 | ((repeat apply llt_s) <;> exact llt_0) | fail) only [x182_p0, x182_p1, w0, m_isValue w0 wA hr, hv, bI_t, nI_01, if_false, m_valueAt, hy, if_true, n7, n8, e, sw, mo_k_v, mo_k_n, mo_v_e, mo_gf_e, mo_pf_e, mo_ia_e, mo_ba_e, mo_za_e, mo_la_e, mo_aa_e, mo_le_e, mo_is_e, mo_bs_e, mo_zs_0, mo_zs_1, mo_ls_e, mo_as_e, mo_na_e, mo_aci_e, mo_acb_e, mo_acj_e, hp_gs, hp_gn, hp_ss, List.getElem?_cons_zero, List.getElem?_cons_succ, List.set_cons_zero, List.set_cons_succ]
end
