/-! the reference: rank, choose, go, why, undo, asked, fault, end, feed -/
section
variable {h : zz_H} {M : Nat} {A : Nat → Int32} {mt mk mp mu ms mn mo ml : Int32} {mv : Int64} {me mf mw : Int32} {p : Pl} {rk tg f ch ba : Nat → Int32}
theorem RS_ba (hr : RS A 0 p rk tg ch ba) {v : Nat} (hv : v < pnh p) (x : Int32) : RS (upd A (10 + 11 * v + 1) x) 0 p rk tg ch (upd ba v x) := by
  obtain ⟨⟨r1, r2, r3, r4⟩, rH, rV, rT, rG⟩ := hr
  refine ⟨⟨r1, r2, ?_, ?_⟩, fun d hd => ?_, fun u hu => ?_, fun q hq => ?_, fun u hu q hq => ?_⟩
  · rw [upd_ne (by omega)]; exact r3
  · rw [upd_ne (by omega)]; exact r4
  · obtain ⟨a1, a2, a3⟩ := rH d hd
    refine ⟨?_, ?_, nmR_cong a3 (fun i hi => upd_ne (by omega))⟩
    · rw [upd_ne (by omega)]; exact a1
    · by_cases e : d = v
      · subst e
        rw [Nat.zero_add, upd_eq, upd_eq]
      · rw [upd_ne (by omega), upd_ne e]; exact a2
  · obtain ⟨a1, a2, a3, a4⟩ := rV u hu
    refine ⟨?_, ?_, ?_, nmR_cong a4 (fun i hi => upd_ne (by omega))⟩
    · rw [upd_ne (by omega)]; exact a1
    · rw [upd_ne (by omega)]; exact a2
    · rw [upd_ne (by omega)]; exact a3
  · obtain ⟨a1, a2⟩ := rT q hq
    refine ⟨?_, ?_⟩
    · rw [upd_ne (by omega)]; exact a1
    · rw [upd_ne (by omega)]; exact a2
  · rw [upd_ne (by omega)]; exact rG u hu q hq
theorem m_rank_r (w0 : hp_g h M = some (mdO M mt mk mp mu ms mn mo ml mv me mf mw)) (wA : hp_g h (M + 1) = some (iA 12639 A)) (hr : RS A 0 p rk tg ch ba) (hc : CI p rk tg f ch ba) {x y : Int32} {r : Nat} (hr3 : ((isV 256 x && isV 1000 y) = false ∧ r = 1) ∨ ((isV 256 x && isV 1000 y) = true ∧ thrC rk x = false ∧ r = 3) ∨ (∃ q, q < 256 ∧ x = nI q ∧ isV 1000 y = true ∧ thrC rk (nI q) = true ∧ rk q = y ∧ r = 2)) : ∃ k, zz_run 213 [.ref M, .int x, .int y] h = some (some (.int (nI r)), k) ∧ mU h k M (mdO M mt mk mp mu ms mn mo ml mv me mf mw) (upd (upd A 728 (nI r)) 729 (-1)) := by
  have hr0 : 0 < r ∧ r < 10 := by
    rcases hr3 with ⟨_, c⟩ | ⟨_, _, c⟩ | ⟨_, _, _, _, _, _, c⟩ <;> omega
  obtain ⟨k, e, hu⟩ := m_refused_n w0 wA (r := r) hr0.1 hr0.2 (-1)
  refine ⟨k, ?_, hu⟩
  rw [en213 w0]
  have nz : ¬ r = 0 := by omega
  rcases hr3 with ⟨c, hrr⟩ | ⟨c, c2, hrr⟩ | ⟨q, hq, c, c2, c3, c4, hrr⟩
  · subst hrr
    cases e1 : isV 256 x with
    | false => simp (disch := first | assumption | exact zz_nl_i _ | exact zz_nl_r _ | exact zz_nl_n | exact okv_i _ | exact okv_j _ | exact okv_0 | exact okv_1 | exact okv_o _ _ | exact okv_a _ _ | exact bI_okr _ | omega | exact llt_0 | ((repeat apply llt_s) <;> exact llt_0) | fail) only [x213, m_isRecord, e1, bI_f, if_true, e, nI_01, if_false, mo_k_v, mo_k_n, mo_v_e, mo_gf_e, mo_pf_e, mo_ia_e, mo_ba_e, mo_za_e, mo_la_e, mo_aa_e, mo_le_e, mo_is_e, mo_bs_e, mo_zs_0, mo_zs_1, mo_ls_e, mo_as_e, mo_na_e, mo_aci_e, mo_acb_e, mo_acj_e, hp_gs, hp_gn, hp_ss, List.getElem?_cons_zero, List.getElem?_cons_succ, List.set_cons_zero, List.set_cons_succ]
    | true =>
      rw [e1, Bool.true_and] at c
      simp (disch := first | assumption | exact zz_nl_i _ | exact zz_nl_r _ | exact zz_nl_n | exact okv_i _ | exact okv_j _ | exact okv_0 | exact okv_1 | exact okv_o _ _ | exact okv_a _ _ | exact bI_okr _ | omega | exact llt_0 | ((repeat apply llt_s) <;> exact llt_0) | fail) only [x213, m_isRecord, e1, bI_t, nI_01, if_false, m_isIn, in_V, Nat.reduceAdd, c, bI_f, if_true, e, mo_k_v, mo_k_n, mo_v_e, mo_gf_e, mo_pf_e, mo_ia_e, mo_ba_e, mo_za_e, mo_la_e, mo_aa_e, mo_le_e, mo_is_e, mo_bs_e, mo_zs_0, mo_zs_1, mo_ls_e, mo_as_e, mo_na_e, mo_aci_e, mo_acb_e, mo_acj_e, hp_gs, hp_gn, hp_ss, List.getElem?_cons_zero, List.getElem?_cons_succ, List.set_cons_zero, List.set_cons_succ]
  · subst hrr
    obtain ⟨e1, e2⟩ := Bool.and_eq_true_iff.mp c
    have n3 : ¬ nI 3 = nI 0 := by decide +kernel
    simp (disch := first | assumption | exact zz_nl_i _ | exact zz_nl_r _ | exact zz_nl_n | exact okv_i _ | exact okv_j _ | exact okv_0 | exact okv_1 | exact okv_o _ _ | exact okv_a _ _ | exact bI_okr _ | omega | exact llt_0 | ((repeat apply llt_s) <;> exact llt_0) | fail) only [x213, m_isRecord, e1, bI_t, nI_01, if_false, m_isIn, in_V, Nat.reduceAdd, e2, m_isThere w0 wA hr, c2, bI_f, if_true, e, n3, mo_k_v, mo_k_n, mo_v_e, mo_gf_e, mo_pf_e, mo_ia_e, mo_ba_e, mo_za_e, mo_la_e, mo_aa_e, mo_le_e, mo_is_e, mo_bs_e, mo_zs_0, mo_zs_1, mo_ls_e, mo_as_e, mo_na_e, mo_aci_e, mo_acb_e, mo_acj_e, hp_gs, hp_gn, hp_ss, List.getElem?_cons_zero, List.getElem?_cons_succ, List.set_cons_zero, List.set_cons_succ]
  · subst hrr c
    have e1 : isV 256 (nI q) = true := isV_nI (by omega) hq
    have n3 : ¬ nI 2 = nI 0 := by decide +kernel
    have ea := (hr.2.2.2.1 q hq).2.resolve_left (thr_rk hq c3)
    rw [Nat.zero_add] at ea
    simp (disch := first | assumption | exact zz_nl_i _ | exact zz_nl_r _ | exact zz_nl_n | exact okv_i _ | exact okv_j _ | exact okv_0 | exact okv_1 | exact okv_o _ _ | exact okv_a _ _ | exact bI_okr _ | omega | exact llt_0 | ((repeat apply llt_s) <;> exact llt_0) | fail) only [x213, m_isRecord, e1, bI_t, nI_01, if_false, m_isIn, in_V, Nat.reduceAdd, c2, m_isThere w0 wA hr, c3, w0, wA, nI_add, ea, eq_true c4, if_true, e, n3, mo_k_v, mo_k_n, mo_v_e, mo_gf_e, mo_pf_e, mo_ia_e, mo_ba_e, mo_za_e, mo_la_e, mo_aa_e, mo_le_e, mo_is_e, mo_bs_e, mo_zs_0, mo_zs_1, mo_ls_e, mo_as_e, mo_na_e, mo_aci_e, mo_acb_e, mo_acj_e, hp_gs, hp_gn, hp_ss, List.getElem?_cons_zero, List.getElem?_cons_succ, List.set_cons_zero, List.set_cons_succ]
theorem m_rank_ok (w0 : hp_g h M = some (mdO M mt mk mp mu ms mn mo ml mv me mf mw)) (wA : hp_g h (M + 1) = some (iA 12639 A)) (hr : RS A 0 p rk tg ch ba) (hc : CI p rk tg f ch ba) {u : Nat} (hu : u ≤ 10) (hmu : mu = nI u) {q : Nat} {y : Int32} (hq : q < 256) (hy : isV 1000 y = true) (ht : thrC rk (nI q) = true) (he : ¬ rk q = y) : ∃ k B, zz_run 213 [.ref M, .int (nI q), .int y] h = some (some (.int (nI 0)), k) ∧ mU h k M (mdO M mt mk mp (nI (min (u + 1) 10)) ms mn mo ml mv me mf mw) B ∧ acc A B u ∧ RS B 0 p (upd rk q y) (upd tg q (tg q)) ch ba := by
  obtain ⟨k, e, u1, u2, u3⟩ := m_refused_0 w0 wA hu hmu (-1)
  have hn := hr.1.2.1
  have e1 : isV 256 (nI q) = true := isV_nI (by omega) hq
  have ea := (hr.2.2.2.1 q hq).2.resolve_left (thr_rk hq ht)
  rw [Nat.zero_add] at ea
  have hk := kp_RS (y := -1) hu hr
  generalize hA1 : kpA (upd (upd A 728 (nI 0)) 729 (-1)) u = A1 at *
  have hym : ¬ y = -1 := fun c => by
    rw [c] at hy
    exact absurd hy (by decide +kernel)
  refine ⟨hp_s k (M + 1) (iA 12639 (upd A1 (462 + q) y)), _, ?_, ⟨(hp_gn (by omega)).trans u1, hp_gs _ _ _, frm_s ⟨by omega, by omega⟩ u3⟩, acc_of (y := -1) hu (fun i hi => by rw [upd_ne (by omega), hA1]), ?_⟩
  · rw [en213 w0]
    simp (disch := first | assumption | exact zz_nl_i _ | exact zz_nl_r _ | exact zz_nl_n | exact okv_i _ | exact okv_j _ | exact okv_0 | exact okv_1 | exact okv_o _ _ | exact okv_a _ _ | exact bI_okr _ | omega | exact llt_0 | ((repeat apply llt_s) <;> exact llt_0) | fail) only [x213, m_isRecord, e1, bI_t, nI_01, if_false, m_isIn, in_V, Nat.reduceAdd, hy, m_isThere w0 wA hr, ht, w0, wA, nI_add, ea, he, e, if_true, u1, u2, mo_k_v, mo_k_n, mo_v_e, mo_gf_e, mo_pf_e, mo_ia_e, mo_ba_e, mo_za_e, mo_la_e, mo_aa_e, mo_le_e, mo_is_e, mo_bs_e, mo_zs_0, mo_zs_1, mo_ls_e, mo_as_e, mo_na_e, mo_aci_e, mo_acb_e, mo_acj_e, hp_gs, hp_gn, hp_ss, List.getElem?_cons_zero, List.getElem?_cons_succ, List.set_cons_zero, List.set_cons_succ]
  · refine RS_put hk y (tg q) (fun i hi => upd_ne (by omega)) (fun r hr1 => ?_) (fun v hv r hr1 => ?_) (fun r hr1 hrq => upd_ne (by omega)) (Or.inr (upd_eq _ _ _))
    · rw [upd_ne (by omega)]
      by_cases c : r = q
      · subst c
        have a := (hk.2.2.2.1 r hr1).1
        rw [Nat.zero_add, decide_eq_false (thr_rk hq ht)] at a
        rw [if_pos rfl, a, decide_eq_false hym]
      · rw [if_neg c]
    · rw [upd_ne (by omega)]
      by_cases c : r = q
      · subst c
        have a := hk.2.2.2.2 v hv r hr1
        rw [Nat.zero_add] at a
        rw [if_pos rfl, a]
      · rw [if_neg c]
theorem m_choose_bad (w0 : hp_g h M = some (mdO M mt mk mp mu ms mn mo ml mv me mf mw)) (wA : hp_g h (M + 1) = some (iA 12639 A)) (hr : RS A 0 p rk tg ch ba) (hc : CI p rk tg f ch ba) {x y : Int32} (hx : (isV (pnv p) x && isV 3 y) = false) : ∃ k, zz_run 214 [.ref M, .int x, .int y] h = some (some (.int (nI 1)), k) ∧ mU h k M (mdO M mt mk mp mu ms mn mo ml mv me mf mw) (upd (upd A 728 (nI 1)) 729 (-1)) := by
  obtain ⟨k, e, hu⟩ := m_refused_n w0 wA (r := 1) (by omega) (by omega) (-1)
  refine ⟨k, ?_, hu⟩
  rw [en214 w0]
  cases e1 : isV (pnv p) x with
  | false => simp (disch := first | assumption | exact zz_nl_i _ | exact zz_nl_r _ | exact zz_nl_n | exact okv_i _ | exact okv_j _ | exact okv_0 | exact okv_1 | exact okv_o _ _ | exact okv_a _ _ | exact bI_okr _ | omega | exact llt_0 | ((repeat apply llt_s) <;> exact llt_0) | fail) only [x214, m_isValue w0 wA hr, e1, bI_f, if_true, e, nI_01, if_false, mo_k_v, mo_k_n, mo_v_e, mo_gf_e, mo_pf_e, mo_ia_e, mo_ba_e, mo_za_e, mo_la_e, mo_aa_e, mo_le_e, mo_is_e, mo_bs_e, mo_zs_0, mo_zs_1, mo_ls_e, mo_as_e, mo_na_e, mo_aci_e, mo_acb_e, mo_acj_e, hp_gs, hp_gn, hp_ss, List.getElem?_cons_zero, List.getElem?_cons_succ, List.set_cons_zero, List.set_cons_succ]
  | true =>
    rw [e1, Bool.true_and] at hx
    simp (disch := first | assumption | exact zz_nl_i _ | exact zz_nl_r _ | exact zz_nl_n | exact okv_i _ | exact okv_j _ | exact okv_0 | exact okv_1 | exact okv_o _ _ | exact okv_a _ _ | exact bI_okr _ | omega | exact llt_0 | ((repeat apply llt_s) <;> exact llt_0) | fail) only [x214, m_isValue w0 wA hr, e1, bI_t, nI_01, if_false, m_isIn, in_V, Nat.reduceAdd, hx, bI_f, if_true, e, mo_k_v, mo_k_n, mo_v_e, mo_gf_e, mo_pf_e, mo_ia_e, mo_ba_e, mo_za_e, mo_la_e, mo_aa_e, mo_le_e, mo_is_e, mo_bs_e, mo_zs_0, mo_zs_1, mo_ls_e, mo_as_e, mo_na_e, mo_aci_e, mo_acb_e, mo_acj_e, hp_gs, hp_gn, hp_ss, List.getElem?_cons_zero, List.getElem?_cons_succ, List.set_cons_zero, List.set_cons_succ]
theorem m_choose_same (w0 : hp_g h M = some (mdO M mt mk mp mu ms mn mo ml mv me mf mw)) (wA : hp_g h (M + 1) = some (iA 12639 A)) (hr : RS A 0 p rk tg ch ba) (hc : CI p rk tg f ch ba) {v : Nat} {y : Int32} (hv : v < pnv p) (hy : isV 3 y = true) (he : ch v = y) : ∃ k, zz_run 214 [.ref M, .int (nI v), .int y] h = some (some (.int (nI 2)), k) ∧ mU h k M (mdO M mt mk mp mu ms mn mo ml mv me mf mw) (upd (upd A 728 (nI 2)) 729 (-1)) := by
  obtain ⟨k, e, hu⟩ := m_refused_n w0 wA (r := 2) (by omega) (by omega) (-1)
  refine ⟨k, ?_, hu⟩
  have hn := hr.1.2.1
  have e1 : isV (pnv p) (nI v) = true := isV_nI (by omega) hv
  have q3 := (hr.2.2.1 v hv).2.2.1
  rw [Nat.zero_add] at q3
  have n3 : ¬ nI 2 = nI 0 := by decide +kernel
  rw [en214 w0]
  simp (disch := first | assumption | exact zz_nl_i _ | exact zz_nl_r _ | exact zz_nl_n | exact okv_i _ | exact okv_j _ | exact okv_0 | exact okv_1 | exact okv_o _ _ | exact okv_a _ _ | exact bI_okr _ | omega | exact llt_0 | ((repeat apply llt_s) <;> exact llt_0) | fail) only [x214, m_isValue w0 wA hr, e1, bI_t, nI_01, if_false, m_isIn, in_V, Nat.reduceAdd, hy, m_chosen w0 wA (show v < 20 by omega), q3, eq_true he, if_true, e, n3, mo_k_v, mo_k_n, mo_v_e, mo_gf_e, mo_pf_e, mo_ia_e, mo_ba_e, mo_za_e, mo_la_e, mo_aa_e, mo_le_e, mo_is_e, mo_bs_e, mo_zs_0, mo_zs_1, mo_ls_e, mo_as_e, mo_na_e, mo_aci_e, mo_acb_e, mo_acj_e, hp_gs, hp_gn, hp_ss, List.getElem?_cons_zero, List.getElem?_cons_succ, List.set_cons_zero, List.set_cons_succ]
theorem m_choose_ok (w0 : hp_g h M = some (mdO M mt mk mp mu ms mn mo ml mv me mf mw)) (wA : hp_g h (M + 1) = some (iA 12639 A)) (hr : RS A 0 p rk tg ch ba) (hc : CI p rk tg f ch ba) {u : Nat} (hu : u ≤ 10) (hmu : mu = nI u) {v : Nat} {y : Int32} (hv : v < pnv p) (hy : isV 3 y = true) (he : ¬ ch v = y) : ∃ k B, zz_run 214 [.ref M, .int (nI v), .int y] h = some (some (.int (nI 0)), k) ∧ mU h k M (mdO M mt mk mp (nI (min (u + 1) 10)) ms mn mo ml mv me mf mw) B ∧ acc A B u ∧ RS B 0 p rk tg (upd ch v y) ba := by
  obtain ⟨k, e, u1, u2, u3⟩ := m_refused_0 w0 wA hu hmu (-1)
  have hn := hr.1.2.1
  have e1 : isV (pnv p) (nI v) = true := isV_nI (by omega) hv
  have q3 := (hr.2.2.1 v hv).2.2.1
  rw [Nat.zero_add] at q3
  have hk := kp_RS (y := -1) hu hr
  generalize hA1 : kpA (upd (upd A 728 (nI 0)) 729 (-1)) u = A1 at *
  refine ⟨hp_s k (M + 1) (iA 12639 (upd A1 (54 + 12 * v + 2) y)), _, ?_, ⟨(hp_gn (by omega)).trans u1, hp_gs _ _ _, frm_s ⟨by omega, by omega⟩ u3⟩, acc_of (y := -1) hu (fun i hi => by rw [upd_ne (by omega), hA1]), RS_ch hk hv y⟩
  rw [en214 w0]
  simp (disch := first | assumption | exact zz_nl_i _ | exact zz_nl_r _ | exact zz_nl_n | exact okv_i _ | exact okv_j _ | exact okv_0 | exact okv_1 | exact okv_o _ _ | exact okv_a _ _ | exact bI_okr _ | omega | exact llt_0 | ((repeat apply llt_s) <;> exact llt_0) | fail) only [x214, m_isValue w0 wA hr, e1, bI_t, nI_01, if_false, m_isIn, in_V, Nat.reduceAdd, hy, m_chosen w0 wA (show v < 20 by omega), q3, he, e, if_true, u1, u2, m_valueAt, nI_add, mo_k_v, mo_k_n, mo_v_e, mo_gf_e, mo_pf_e, mo_ia_e, mo_ba_e, mo_za_e, mo_la_e, mo_aa_e, mo_le_e, mo_is_e, mo_bs_e, mo_zs_0, mo_zs_1, mo_ls_e, mo_as_e, mo_na_e, mo_aci_e, mo_acb_e, mo_acj_e, hp_gs, hp_gn, hp_ss, List.getElem?_cons_zero, List.getElem?_cons_succ, List.set_cons_zero, List.set_cons_succ]
theorem m_go_bad (w0 : hp_g h M = some (mdO M mt mk mp mu ms mn mo ml mv me mf mw)) (wA : hp_g h (M + 1) = some (iA 12639 A)) (hr : RS A 0 p rk tg ch ba) (hc : CI p rk tg f ch ba) {x : Int32} {b : Bool} (hx : isV (pnh p) x = false) : ∃ k, zz_run 215 [.ref M, .int x, .int (bI b)] h = some (some (.int (nI 1)), k) ∧ mU h k M (mdO M mt mk mp mu ms mn mo ml mv me mf mw) (upd (upd A 728 (nI 1)) 729 (-1)) := by
  obtain ⟨k, e, hu⟩ := m_refused_n w0 wA (r := 1) (by omega) (by omega) (-1)
  refine ⟨k, ?_, hu⟩
  rw [en215 w0]
  cases b
  · simp (disch := first | assumption | exact zz_nl_i _ | exact zz_nl_r _ | exact zz_nl_n | exact okv_i _ | exact okv_j _ | exact okv_0 | exact okv_1 | exact okv_o _ _ | exact okv_a _ _ | exact bI_okr _ | omega | exact llt_0 | ((repeat apply llt_s) <;> exact llt_0) | fail) only [x215, bI_f, if_true, m_isHead w0 wA hr, hx, e, nI_01, if_false, mo_k_v, mo_k_n, mo_v_e, mo_gf_e, mo_pf_e, mo_ia_e, mo_ba_e, mo_za_e, mo_la_e, mo_aa_e, mo_le_e, mo_is_e, mo_bs_e, mo_zs_0, mo_zs_1, mo_ls_e, mo_as_e, mo_na_e, mo_aci_e, mo_acb_e, mo_acj_e, hp_gs, hp_gn, hp_ss, List.getElem?_cons_zero, List.getElem?_cons_succ, List.set_cons_zero, List.set_cons_succ]
  · simp (disch := first | assumption | exact zz_nl_i _ | exact zz_nl_r _ | exact zz_nl_n | exact okv_i _ | exact okv_j _ | exact okv_0 | exact okv_1 | exact okv_o _ _ | exact okv_a _ _ | exact bI_okr _ | omega | exact llt_0 | ((repeat apply llt_s) <;> exact llt_0) | fail) only [x215, bI_t, nI_01, if_false, m_isHead w0 wA hr, hx, bI_f, if_true, e, mo_k_v, mo_k_n, mo_v_e, mo_gf_e, mo_pf_e, mo_ia_e, mo_ba_e, mo_za_e, mo_la_e, mo_aa_e, mo_le_e, mo_is_e, mo_bs_e, mo_zs_0, mo_zs_1, mo_ls_e, mo_as_e, mo_na_e, mo_aci_e, mo_acb_e, mo_acj_e, hp_gs, hp_gn, hp_ss, List.getElem?_cons_zero, List.getElem?_cons_succ, List.set_cons_zero, List.set_cons_succ]
theorem m_go_same (w0 : hp_g h M = some (mdO M mt mk mp mu ms mn mo ml mv me mf mw)) (wA : hp_g h (M + 1) = some (iA 12639 A)) (hr : RS A 0 p rk tg ch ba) (hc : CI p rk tg f ch ba) {v : Nat} {b : Bool} (hv : v < pnh p) (he : ba v = bI b) : ∃ k, zz_run 215 [.ref M, .int (nI v), .int (bI b)] h = some (some (.int (nI 2)), k) ∧ mU h k M (mdO M mt mk mp mu ms mn mo ml mv me mf mw) (upd (upd A 728 (nI 2)) 729 (-1)) := by
  obtain ⟨k, e, hu⟩ := m_refused_n w0 wA (r := 2) (by omega) (by omega) (-1)
  refine ⟨k, ?_, hu⟩
  have hn := hr.1.1
  have e1 : isV (pnh p) (nI v) = true := isV_nI (by omega) hv
  have g2 := (hr.2.1 v hv).2.1
  rw [Nat.zero_add] at g2
  have n3 : ¬ nI 2 = nI 0 := by decide +kernel
  rw [en215 w0]
  cases b
  · rw [bI_f] at he
    simp (disch := first | assumption | exact zz_nl_i _ | exact zz_nl_r _ | exact zz_nl_n | exact okv_i _ | exact okv_j _ | exact okv_0 | exact okv_1 | exact okv_o _ _ | exact okv_a _ _ | exact bI_okr _ | omega | exact llt_0 | ((repeat apply llt_s) <;> exact llt_0) | fail) only [x215, bI_f, if_true, m_isHead w0 wA hr, e1, bI_t, nI_01, if_false, w0, wA, m_headAt, nI_add, g2, eq_true he, e, n3, mo_k_v, mo_k_n, mo_v_e, mo_gf_e, mo_pf_e, mo_ia_e, mo_ba_e, mo_za_e, mo_la_e, mo_aa_e, mo_le_e, mo_is_e, mo_bs_e, mo_zs_0, mo_zs_1, mo_ls_e, mo_as_e, mo_na_e, mo_aci_e, mo_acb_e, mo_acj_e, hp_gs, hp_gn, hp_ss, List.getElem?_cons_zero, List.getElem?_cons_succ, List.set_cons_zero, List.set_cons_succ]
  · rw [bI_t] at he
    simp (disch := first | assumption | exact zz_nl_i _ | exact zz_nl_r _ | exact zz_nl_n | exact okv_i _ | exact okv_j _ | exact okv_0 | exact okv_1 | exact okv_o _ _ | exact okv_a _ _ | exact bI_okr _ | omega | exact llt_0 | ((repeat apply llt_s) <;> exact llt_0) | fail) only [x215, bI_t, if_true, m_isHead w0 wA hr, e1, nI_01, if_false, w0, wA, m_headAt, nI_add, g2, eq_true he, e, n3, mo_k_v, mo_k_n, mo_v_e, mo_gf_e, mo_pf_e, mo_ia_e, mo_ba_e, mo_za_e, mo_la_e, mo_aa_e, mo_le_e, mo_is_e, mo_bs_e, mo_zs_0, mo_zs_1, mo_ls_e, mo_as_e, mo_na_e, mo_aci_e, mo_acb_e, mo_acj_e, hp_gs, hp_gn, hp_ss, List.getElem?_cons_zero, List.getElem?_cons_succ, List.set_cons_zero, List.set_cons_succ]
theorem m_go_ok (w0 : hp_g h M = some (mdO M mt mk mp mu ms mn mo ml mv me mf mw)) (wA : hp_g h (M + 1) = some (iA 12639 A)) (hr : RS A 0 p rk tg ch ba) (hc : CI p rk tg f ch ba) {u : Nat} (hu : u ≤ 10) (hmu : mu = nI u) {v : Nat} {b : Bool} (hv : v < pnh p) (he : ¬ ba v = bI b) : ∃ k B, zz_run 215 [.ref M, .int (nI v), .int (bI b)] h = some (some (.int (nI 0)), k) ∧ mU h k M (mdO M mt mk mp (nI (min (u + 1) 10)) ms mn mo ml mv me mf mw) B ∧ acc A B u ∧ RS B 0 p rk tg ch (upd ba v (bI b)) := by
  obtain ⟨k, e, u1, u2, u3⟩ := m_refused_0 w0 wA hu hmu (-1)
  have hn := hr.1.1
  have e1 : isV (pnh p) (nI v) = true := isV_nI (by omega) hv
  have g2 := (hr.2.1 v hv).2.1
  rw [Nat.zero_add] at g2
  have hk := kp_RS (y := -1) hu hr
  generalize hA1 : kpA (upd (upd A 728 (nI 0)) 729 (-1)) u = A1 at *
  refine ⟨hp_s k (M + 1) (iA 12639 (upd A1 (10 + 11 * v + 1) (bI b))), _, ?_, ⟨(hp_gn (by omega)).trans u1, hp_gs _ _ _, frm_s ⟨by omega, by omega⟩ u3⟩, acc_of (y := -1) hu (fun i hi => by rw [upd_ne (by omega), hA1]), RS_ba hk hv (bI b)⟩
  rw [en215 w0]
  cases b
  · rw [bI_f] at he
    simp (disch := first | assumption | exact zz_nl_i _ | exact zz_nl_r _ | exact zz_nl_n | exact okv_i _ | exact okv_j _ | exact okv_0 | exact okv_1 | exact okv_o _ _ | exact okv_a _ _ | exact bI_okr _ | omega | exact llt_0 | ((repeat apply llt_s) <;> exact llt_0) | fail) only [x215, bI_f, if_true, m_isHead w0 wA hr, e1, bI_t, nI_01, if_false, w0, wA, m_headAt, nI_add, g2, he, e, u1, u2, mo_k_v, mo_k_n, mo_v_e, mo_gf_e, mo_pf_e, mo_ia_e, mo_ba_e, mo_za_e, mo_la_e, mo_aa_e, mo_le_e, mo_is_e, mo_bs_e, mo_zs_0, mo_zs_1, mo_ls_e, mo_as_e, mo_na_e, mo_aci_e, mo_acb_e, mo_acj_e, hp_gs, hp_gn, hp_ss, List.getElem?_cons_zero, List.getElem?_cons_succ, List.set_cons_zero, List.set_cons_succ]
  · rw [bI_t] at he
    simp (disch := first | assumption | exact zz_nl_i _ | exact zz_nl_r _ | exact zz_nl_n | exact okv_i _ | exact okv_j _ | exact okv_0 | exact okv_1 | exact okv_o _ _ | exact okv_a _ _ | exact bI_okr _ | omega | exact llt_0 | ((repeat apply llt_s) <;> exact llt_0) | fail) only [x215, bI_t, if_true, m_isHead w0 wA hr, e1, nI_01, if_false, w0, wA, m_headAt, nI_add, g2, he, e, u1, u2, mo_k_v, mo_k_n, mo_v_e, mo_gf_e, mo_pf_e, mo_ia_e, mo_ba_e, mo_za_e, mo_la_e, mo_aa_e, mo_le_e, mo_is_e, mo_bs_e, mo_zs_0, mo_zs_1, mo_ls_e, mo_as_e, mo_na_e, mo_aci_e, mo_acb_e, mo_acj_e, hp_gs, hp_gn, hp_ss, List.getElem?_cons_zero, List.getElem?_cons_succ, List.set_cons_zero, List.set_cons_succ]
theorem m_why_bad (w0 : hp_g h M = some (mdO M mt mk mp mu ms mn mo ml mv me mf mw)) (wA : hp_g h (M + 1) = some (iA 12639 A)) {x y : Int32} (hx : (isV 2 x && isV 2 y) = false) : zz_run 216 [.ref M, .int x, .int y] h = some (some (.int (-1)), h) := by
  rw [en216 w0]
  cases e1 : isV 2 x with
  | false => simp (disch := first | assumption | exact zz_nl_i _ | exact zz_nl_r _ | exact zz_nl_n | exact okv_i _ | exact okv_j _ | exact okv_0 | exact okv_1 | exact okv_o _ _ | exact okv_a _ _ | exact bI_okr _ | omega | exact llt_0 | ((repeat apply llt_s) <;> exact llt_0) | fail) only [x216, m_isIn, in_V, Nat.reduceAdd, e1, bI_f, if_true, mo_k_v, mo_k_n, mo_v_e, mo_gf_e, mo_pf_e, mo_ia_e, mo_ba_e, mo_za_e, mo_la_e, mo_aa_e, mo_le_e, mo_is_e, mo_bs_e, mo_zs_0, mo_zs_1, mo_ls_e, mo_as_e, mo_na_e, mo_aci_e, mo_acb_e, mo_acj_e, hp_gs, hp_gn, hp_ss, List.getElem?_cons_zero, List.getElem?_cons_succ, List.set_cons_zero, List.set_cons_succ]
  | true =>
    rw [e1, Bool.true_and] at hx
    simp (disch := first | assumption | exact zz_nl_i _ | exact zz_nl_r _ | exact zz_nl_n | exact okv_i _ | exact okv_j _ | exact okv_0 | exact okv_1 | exact okv_o _ _ | exact okv_a _ _ | exact bI_okr _ | omega | exact llt_0 | ((repeat apply llt_s) <;> exact llt_0) | fail) only [x216, m_isIn, in_V, Nat.reduceAdd, e1, bI_t, nI_01, if_false, hx, bI_f, if_true, mo_k_v, mo_k_n, mo_v_e, mo_gf_e, mo_pf_e, mo_ia_e, mo_ba_e, mo_za_e, mo_la_e, mo_aa_e, mo_le_e, mo_is_e, mo_bs_e, mo_zs_0, mo_zs_1, mo_ls_e, mo_as_e, mo_na_e, mo_aci_e, mo_acb_e, mo_acj_e, hp_gs, hp_gn, hp_ss, List.getElem?_cons_zero, List.getElem?_cons_succ, List.set_cons_zero, List.set_cons_succ]
theorem m_why_1 (w0 : hp_g h M = some (mdO M mt mk mp mu ms mn mo ml mv me mf mw)) (wA : hp_g h (M + 1) = some (iA 12639 A)) {j : Nat} (hj : j < 2) : zz_run 216 [.ref M, .int (nI 1), .int (nI j)] h = some (some (.int (if A 728 = nI 4 then (if j = 0 then nI 5 else A 729) else nI 0)), h) := by
  have e1 : isV 2 (nI 1) = true := by decide +kernel
  have e2 : isV 2 (nI j) = true := isV_nI (by omega) hj
  have n40 : ¬ nI 4 = nI 0 := by decide +kernel
  rw [en216 w0]
  by_cases c : A 728 = nI 4
  · have c0 : ¬ A 728 = nI 0 := fun q => n40 (c.symm.trans q)
    by_cases c2 : j = 0
    · simp (disch := first | assumption | exact zz_nl_i _ | exact zz_nl_r _ | exact zz_nl_n | exact okv_i _ | exact okv_j _ | exact okv_0 | exact okv_1 | exact okv_o _ _ | exact okv_a _ _ | exact bI_okr _ | omega | exact llt_0 | ((repeat apply llt_s) <;> exact llt_0) | fail) only [x216, m_isIn, in_V, Nat.reduceAdd, e1, e2, bI_t, nI_01, if_false, w0, wA, c0, eq_true c, if_true, nI_eq, eq_true c2, show ((1 : Nat) = 0) = False from eq_false (by omega), mo_k_v, mo_k_n, mo_v_e, mo_gf_e, mo_pf_e, mo_ia_e, mo_ba_e, mo_za_e, mo_la_e, mo_aa_e, mo_le_e, mo_is_e, mo_bs_e, mo_zs_0, mo_zs_1, mo_ls_e, mo_as_e, mo_na_e, mo_aci_e, mo_acb_e, mo_acj_e, hp_gs, hp_gn, hp_ss, List.getElem?_cons_zero, List.getElem?_cons_succ, List.set_cons_zero, List.set_cons_succ]
    · simp (disch := first | assumption | exact zz_nl_i _ | exact zz_nl_r _ | exact zz_nl_n | exact okv_i _ | exact okv_j _ | exact okv_0 | exact okv_1 | exact okv_o _ _ | exact okv_a _ _ | exact bI_okr _ | omega | exact llt_0 | ((repeat apply llt_s) <;> exact llt_0) | fail) only [x216, m_isIn, in_V, Nat.reduceAdd, e1, e2, bI_t, nI_01, if_false, w0, wA, c0, eq_true c, if_true, nI_eq, c2, show ((1 : Nat) = 0) = False from eq_false (by omega), mo_k_v, mo_k_n, mo_v_e, mo_gf_e, mo_pf_e, mo_ia_e, mo_ba_e, mo_za_e, mo_la_e, mo_aa_e, mo_le_e, mo_is_e, mo_bs_e, mo_zs_0, mo_zs_1, mo_ls_e, mo_as_e, mo_na_e, mo_aci_e, mo_acb_e, mo_acj_e, hp_gs, hp_gn, hp_ss, List.getElem?_cons_zero, List.getElem?_cons_succ, List.set_cons_zero, List.set_cons_succ]
  · by_cases c0 : A 728 = nI 0
    · simp (disch := first | assumption | exact zz_nl_i _ | exact zz_nl_r _ | exact zz_nl_n | exact okv_i _ | exact okv_j _ | exact okv_0 | exact okv_1 | exact okv_o _ _ | exact okv_a _ _ | exact bI_okr _ | omega | exact llt_0 | ((repeat apply llt_s) <;> exact llt_0) | fail) only [x216, m_isIn, in_V, Nat.reduceAdd, e1, e2, bI_t, nI_01, if_false, w0, wA, eq_true c0, if_true, c, mo_k_v, mo_k_n, mo_v_e, mo_gf_e, mo_pf_e, mo_ia_e, mo_ba_e, mo_za_e, mo_la_e, mo_aa_e, mo_le_e, mo_is_e, mo_bs_e, mo_zs_0, mo_zs_1, mo_ls_e, mo_as_e, mo_na_e, mo_aci_e, mo_acb_e, mo_acj_e, hp_gs, hp_gn, hp_ss, List.getElem?_cons_zero, List.getElem?_cons_succ, List.set_cons_zero, List.set_cons_succ]
    · simp (disch := first | assumption | exact zz_nl_i _ | exact zz_nl_r _ | exact zz_nl_n | exact okv_i _ | exact okv_j _ | exact okv_0 | exact okv_1 | exact okv_o _ _ | exact okv_a _ _ | exact bI_okr _ | omega | exact llt_0 | ((repeat apply llt_s) <;> exact llt_0) | fail) only [x216, m_isIn, in_V, Nat.reduceAdd, e1, e2, bI_t, nI_01, if_false, w0, wA, c0, if_true, c, mo_k_v, mo_k_n, mo_v_e, mo_gf_e, mo_pf_e, mo_ia_e, mo_ba_e, mo_za_e, mo_la_e, mo_aa_e, mo_le_e, mo_is_e, mo_bs_e, mo_zs_0, mo_zs_1, mo_ls_e, mo_as_e, mo_na_e, mo_aci_e, mo_acb_e, mo_acj_e, hp_gs, hp_gn, hp_ss, List.getElem?_cons_zero, List.getElem?_cons_succ, List.set_cons_zero, List.set_cons_succ]
theorem m_why_0 (w0 : hp_g h M = some (mdO M mt mk mp mu ms mn mo ml mv me mf mw)) (wA : hp_g h (M + 1) = some (iA 12639 A)) {j : Nat} (hj : j < 2) : zz_run 216 [.ref M, .int (nI 0), .int (nI j)] h = some (some (.int (if A 728 = nI 0 then nI 0 else if j = 0 then A 728 else -1)), h) := by
  have e1 : isV 2 (nI 0) = true := by decide +kernel
  have e2 : isV 2 (nI j) = true := isV_nI (by omega) hj
  have n01 : ¬ nI 0 = nI 1 := by decide +kernel
  rw [en216 w0]
  by_cases c0 : A 728 = nI 0
  · simp (disch := first | assumption | exact zz_nl_i _ | exact zz_nl_r _ | exact zz_nl_n | exact okv_i _ | exact okv_j _ | exact okv_0 | exact okv_1 | exact okv_o _ _ | exact okv_a _ _ | exact bI_okr _ | omega | exact llt_0 | ((repeat apply llt_s) <;> exact llt_0) | fail) only [x216, m_isIn, in_V, Nat.reduceAdd, e1, e2, bI_t, nI_01, if_false, w0, wA, eq_true c0, if_true, mo_k_v, mo_k_n, mo_v_e, mo_gf_e, mo_pf_e, mo_ia_e, mo_ba_e, mo_za_e, mo_la_e, mo_aa_e, mo_le_e, mo_is_e, mo_bs_e, mo_zs_0, mo_zs_1, mo_ls_e, mo_as_e, mo_na_e, mo_aci_e, mo_acb_e, mo_acj_e, hp_gs, hp_gn, hp_ss, List.getElem?_cons_zero, List.getElem?_cons_succ, List.set_cons_zero, List.set_cons_succ]
  · by_cases c2 : j = 0
    · simp (disch := first | assumption | exact zz_nl_i _ | exact zz_nl_r _ | exact zz_nl_n | exact okv_i _ | exact okv_j _ | exact okv_0 | exact okv_1 | exact okv_o _ _ | exact okv_a _ _ | exact bI_okr _ | omega | exact llt_0 | ((repeat apply llt_s) <;> exact llt_0) | fail) only [x216, m_isIn, in_V, Nat.reduceAdd, e1, e2, bI_t, nI_01, if_false, w0, wA, c0, if_true, n01, nI_eq, eq_true c2, show ((1 : Nat) = 0) = False from eq_false (by omega), show ((0 : Nat) = 1) = False from eq_false (by omega), mo_k_v, mo_k_n, mo_v_e, mo_gf_e, mo_pf_e, mo_ia_e, mo_ba_e, mo_za_e, mo_la_e, mo_aa_e, mo_le_e, mo_is_e, mo_bs_e, mo_zs_0, mo_zs_1, mo_ls_e, mo_as_e, mo_na_e, mo_aci_e, mo_acb_e, mo_acj_e, hp_gs, hp_gn, hp_ss, List.getElem?_cons_zero, List.getElem?_cons_succ, List.set_cons_zero, List.set_cons_succ]
    · simp (disch := first | assumption | exact zz_nl_i _ | exact zz_nl_r _ | exact zz_nl_n | exact okv_i _ | exact okv_j _ | exact okv_0 | exact okv_1 | exact okv_o _ _ | exact okv_a _ _ | exact bI_okr _ | omega | exact llt_0 | ((repeat apply llt_s) <;> exact llt_0) | fail) only [x216, m_isIn, in_V, Nat.reduceAdd, e1, e2, bI_t, nI_01, if_false, w0, wA, c0, if_true, n01, nI_eq, c2, show ((1 : Nat) = 0) = False from eq_false (by omega), show ((0 : Nat) = 1) = False from eq_false (by omega), mo_k_v, mo_k_n, mo_v_e, mo_gf_e, mo_pf_e, mo_ia_e, mo_ba_e, mo_za_e, mo_la_e, mo_aa_e, mo_le_e, mo_is_e, mo_bs_e, mo_zs_0, mo_zs_1, mo_ls_e, mo_as_e, mo_na_e, mo_aci_e, mo_acb_e, mo_acj_e, hp_gs, hp_gn, hp_ss, List.getElem?_cons_zero, List.getElem?_cons_succ, List.set_cons_zero, List.set_cons_succ]
theorem m_undo_no (w0 : hp_g h M = some (mdO M mt mk mp mu ms mn mo ml mv me mf mw)) (wA : hp_g h (M + 1) = some (iA 12639 A)) (hmu : mu = nI 0) : zz_run 217 [.ref M] h = some (some (.int (-1)), h) := by
  subst hmu
  rw [en217 w0]
  simp (disch := first | assumption | exact zz_nl_i _ | exact zz_nl_r _ | exact zz_nl_n | exact okv_i _ | exact okv_j _ | exact okv_0 | exact okv_1 | exact okv_o _ _ | exact okv_a _ _ | exact bI_okr _ | omega | exact llt_0 | ((repeat apply llt_s) <;> exact llt_0) | fail) only [x217, w0, if_true, mo_k_v, mo_k_n, mo_v_e, mo_gf_e, mo_pf_e, mo_ia_e, mo_ba_e, mo_za_e, mo_la_e, mo_aa_e, mo_le_e, mo_is_e, mo_bs_e, mo_zs_0, mo_zs_1, mo_ls_e, mo_as_e, mo_na_e, mo_aci_e, mo_acb_e, mo_acj_e, hp_gs, hp_gn, hp_ss, List.getElem?_cons_zero, List.getElem?_cons_succ, List.set_cons_zero, List.set_cons_succ]
theorem m_undo_ok (w0 : hp_g h M = some (mdO M mt mk mp mu ms mn mo ml mv me mf mw)) (wA : hp_g h (M + 1) = some (iA 12639 A)) {u : Nat} (hu : u ≤ 10) (hu0 : 0 < u) (hmu : mu = nI u) : ∃ k, zz_run 217 [.ref M] h = some (some (.int (nI (u - 1))), k) ∧ mU h k M (mdO M mt mk mp (nI (u - 1)) ms mn mo ml mv me mf mw) (cpA A (1460 + 718 * (u - 1)) 0 718) := by
  subst hmu
  have s1 : nI u - nI 1 = nI (u - 1) := pk_sub (by omega)
  have w0' : hp_g (hp_s h M (mdO M mt mk mp (nI (u - 1)) ms mn mo ml mv me mf mw)) M = some (mdO M mt mk mp (nI (u - 1)) ms mn mo ml mv me mf mw) := hp_gs _ _ _
  have wA' : hp_g (hp_s h M (mdO M mt mk mp (nI (u - 1)) ms mn mo ml mv me mf mw)) (M + 1) = some (iA 12639 A) := (hp_gn (by omega)).trans wA
  have cp := m_copies w0' wA' (a := 1460 + 718 * (u - 1)) (b := 0) (n := 718) (by omega) (by omega) (by omega)
  rw [en217 w0]
  simp (disch := first | assumption | exact zz_nl_i _ | exact zz_nl_r _ | exact zz_nl_n | exact okv_i _ | exact okv_j _ | exact okv_0 | exact okv_1 | exact okv_o _ _ | exact okv_a _ _ | exact bI_okr _ | omega | exact llt_0 | ((repeat apply llt_s) <;> exact llt_0) | fail) only [x217, w0, nI_eq, show (u = 0) = False from eq_false (by omega), if_false, s1, pk_mul, nI_add, cp, mo_k_v, mo_k_n, mo_v_e, mo_gf_e, mo_pf_e, mo_ia_e, mo_ba_e, mo_za_e, mo_la_e, mo_aa_e, mo_le_e, mo_is_e, mo_bs_e, mo_zs_0, mo_zs_1, mo_ls_e, mo_as_e, mo_na_e, mo_aci_e, mo_acb_e, mo_acj_e, hp_gs, hp_gn, hp_ss, List.getElem?_cons_zero, List.getElem?_cons_succ, List.set_cons_zero, List.set_cons_succ]
  refine ⟨_, rfl, ?_, ?_, ?_⟩
  · simp (disch := first | assumption | exact zz_nl_i _ | exact zz_nl_r _ | exact zz_nl_n | exact okv_i _ | exact okv_j _ | exact okv_0 | exact okv_1 | exact okv_o _ _ | exact okv_a _ _ | exact bI_okr _ | omega | exact llt_0 | ((repeat apply llt_s) <;> exact llt_0) | fail) only [mo_k_v, mo_k_n, mo_v_e, mo_gf_e, mo_pf_e, mo_ia_e, mo_ba_e, mo_za_e, mo_la_e, mo_aa_e, mo_le_e, mo_is_e, mo_bs_e, mo_zs_0, mo_zs_1, mo_ls_e, mo_as_e, mo_na_e, mo_aci_e, mo_acb_e, mo_acj_e, hp_gs, hp_gn, hp_ss, List.getElem?_cons_zero, List.getElem?_cons_succ, List.set_cons_zero, List.set_cons_succ]
  · simp (disch := first | assumption | exact zz_nl_i _ | exact zz_nl_r _ | exact zz_nl_n | exact okv_i _ | exact okv_j _ | exact okv_0 | exact okv_1 | exact okv_o _ _ | exact okv_a _ _ | exact bI_okr _ | omega | exact llt_0 | ((repeat apply llt_s) <;> exact llt_0) | fail) only [mo_k_v, mo_k_n, mo_v_e, mo_gf_e, mo_pf_e, mo_ia_e, mo_ba_e, mo_za_e, mo_la_e, mo_aa_e, mo_le_e, mo_is_e, mo_bs_e, mo_zs_0, mo_zs_1, mo_ls_e, mo_as_e, mo_na_e, mo_aci_e, mo_acb_e, mo_acj_e, hp_gs, hp_gn, hp_ss, List.getElem?_cons_zero, List.getElem?_cons_succ, List.set_cons_zero, List.set_cons_succ]
  · repeat (first | exact frm_refl _ _ _ | refine frm_s (by omega) ?_)
theorem m_fault (w0 : hp_g h M = some (mdO M mt mk mp mu ms mn mo ml mv me mf mw)) (x : Int32) : zz_run 220 [.ref M, .int x] h = some (some (.int (if x = nI 0 then mk else if x = nI 1 then mp else -1)), h) := by
  rw [en220 w0]
  by_cases c0 : x = nI 0
  · simp (disch := first | assumption | exact zz_nl_i _ | exact zz_nl_r _ | exact zz_nl_n | exact okv_i _ | exact okv_j _ | exact okv_0 | exact okv_1 | exact okv_o _ _ | exact okv_a _ _ | exact bI_okr _ | omega | exact llt_0 | ((repeat apply llt_s) <;> exact llt_0) | fail) only [x220, w0, eq_true c0, if_true, mo_k_v, mo_k_n, mo_v_e, mo_gf_e, mo_pf_e, mo_ia_e, mo_ba_e, mo_za_e, mo_la_e, mo_aa_e, mo_le_e, mo_is_e, mo_bs_e, mo_zs_0, mo_zs_1, mo_ls_e, mo_as_e, mo_na_e, mo_aci_e, mo_acb_e, mo_acj_e, hp_gs, hp_gn, hp_ss, List.getElem?_cons_zero, List.getElem?_cons_succ, List.set_cons_zero, List.set_cons_succ]
  · by_cases c1 : x = nI 1
    · simp (disch := first | assumption | exact zz_nl_i _ | exact zz_nl_r _ | exact zz_nl_n | exact okv_i _ | exact okv_j _ | exact okv_0 | exact okv_1 | exact okv_o _ _ | exact okv_a _ _ | exact bI_okr _ | omega | exact llt_0 | ((repeat apply llt_s) <;> exact llt_0) | fail) only [x220, w0, c0, eq_true c1, if_true, if_false, mo_k_v, mo_k_n, mo_v_e, mo_gf_e, mo_pf_e, mo_ia_e, mo_ba_e, mo_za_e, mo_la_e, mo_aa_e, mo_le_e, mo_is_e, mo_bs_e, mo_zs_0, mo_zs_1, mo_ls_e, mo_as_e, mo_na_e, mo_aci_e, mo_acb_e, mo_acj_e, hp_gs, hp_gn, hp_ss, List.getElem?_cons_zero, List.getElem?_cons_succ, List.set_cons_zero, List.set_cons_succ]
    · simp (disch := first | assumption | exact zz_nl_i _ | exact zz_nl_r _ | exact zz_nl_n | exact okv_i _ | exact okv_j _ | exact okv_0 | exact okv_1 | exact okv_o _ _ | exact okv_a _ _ | exact bI_okr _ | omega | exact llt_0 | ((repeat apply llt_s) <;> exact llt_0) | fail) only [x220, w0, c0, c1, if_false, mo_k_v, mo_k_n, mo_v_e, mo_gf_e, mo_pf_e, mo_ia_e, mo_ba_e, mo_za_e, mo_la_e, mo_aa_e, mo_le_e, mo_is_e, mo_bs_e, mo_zs_0, mo_zs_1, mo_ls_e, mo_as_e, mo_na_e, mo_aci_e, mo_acb_e, mo_acj_e, hp_gs, hp_gn, hp_ss, List.getElem?_cons_zero, List.getElem?_cons_succ, List.set_cons_zero, List.set_cons_succ]
theorem m_end_no (w0 : hp_g h M = some (mdO M mt mk mp mu ms mn mo ml mv me mf mw)) {t : Nat} (ht : t ≤ 600) (hmt : mt = nI t) {x : Int32} (hx : isV (t + 1) x = false) : zz_run 219 [.ref M, .int x] h = some (some (.int (-1)), h) := by
  subst hmt
  rw [en219 w0]
  simp (disch := first | assumption | exact zz_nl_i _ | exact zz_nl_r _ | exact zz_nl_n | exact okv_i _ | exact okv_j _ | exact okv_0 | exact okv_1 | exact okv_o _ _ | exact okv_a _ _ | exact bI_okr _ | omega | exact llt_0 | ((repeat apply llt_s) <;> exact llt_0) | fail) only [x219, w0, m_isIn, in_V, hx, bI_f, if_true, mo_k_v, mo_k_n, mo_v_e, mo_gf_e, mo_pf_e, mo_ia_e, mo_ba_e, mo_za_e, mo_la_e, mo_aa_e, mo_le_e, mo_is_e, mo_bs_e, mo_zs_0, mo_zs_1, mo_ls_e, mo_as_e, mo_na_e, mo_aci_e, mo_acb_e, mo_acj_e, hp_gs, hp_gn, hp_ss, List.getElem?_cons_zero, List.getElem?_cons_succ, List.set_cons_zero, List.set_cons_succ]
theorem m_end_ok (w0 : hp_g h M = some (mdO M mt mk mp mu ms mn mo ml mv me mf mw)) {t n : Nat} (ht : t ≤ 600) (hmt : mt = nI t) (hn : n ≤ t) : zz_run 219 [.ref M, .int (nI n)] h = some (some (.int (nI n)), hp_s h M (mdO M (nI n) mk mp mu ms mn mo ml mv me mf mw)) := by
  subst hmt
  have hx : isV (t + 1) (nI n) = true := isV_nI (by omega) (by omega)
  rw [en219 w0]
  simp (disch := first | assumption | exact zz_nl_i _ | exact zz_nl_r _ | exact zz_nl_n | exact okv_i _ | exact okv_j _ | exact okv_0 | exact okv_1 | exact okv_o _ _ | exact okv_a _ _ | exact bI_okr _ | omega | exact llt_0 | ((repeat apply llt_s) <;> exact llt_0) | fail) only [x219, w0, m_isIn, in_V, hx, bI_t, nI_01, if_false, mo_k_v, mo_k_n, mo_v_e, mo_gf_e, mo_pf_e, mo_ia_e, mo_ba_e, mo_za_e, mo_la_e, mo_aa_e, mo_le_e, mo_is_e, mo_bs_e, mo_zs_0, mo_zs_1, mo_ls_e, mo_as_e, mo_na_e, mo_aci_e, mo_acb_e, mo_acj_e, hp_gs, hp_gn, hp_ss, List.getElem?_cons_zero, List.getElem?_cons_succ, List.set_cons_zero, List.set_cons_succ]
theorem m_asked_no (w0 : hp_g h M = some (mdO M mt mk mp mu ms mn mo ml mv me mf mw)) (wA : hp_g h (M + 1) = some (iA 12639 A)) (ha : A 718 = nI 0) (x : Int32) : zz_run 253 [.ref M, .int x] h = some (some (.int (-1)), h) := by
  rw [en253 w0]
  simp (disch := first | assumption | exact zz_nl_i _ | exact zz_nl_r _ | exact zz_nl_n | exact okv_i _ | exact okv_j _ | exact okv_0 | exact okv_1 | exact okv_o _ _ | exact okv_a _ _ | exact bI_okr _ | omega | exact llt_0 | ((repeat apply llt_s) <;> exact llt_0) | fail) only [x253, w0, wA, ha, if_true, mo_k_v, mo_k_n, mo_v_e, mo_gf_e, mo_pf_e, mo_ia_e, mo_ba_e, mo_za_e, mo_la_e, mo_aa_e, mo_le_e, mo_is_e, mo_bs_e, mo_zs_0, mo_zs_1, mo_ls_e, mo_as_e, mo_na_e, mo_aci_e, mo_acb_e, mo_acj_e, hp_gs, hp_gn, hp_ss, List.getElem?_cons_zero, List.getElem?_cons_succ, List.set_cons_zero, List.set_cons_succ]
theorem m_asked_ok (w0 : hp_g h M = some (mdO M mt mk mp mu ms mn mo ml mv me mf mw)) (wA : hp_g h (M + 1) = some (iA 12639 A)) (ha : A 718 = nI 1) (hs : scr3 h M) {af : Nat → Int32} (hf8 : ∀ b, b < 8 → A (720 + b) = af b) (x : Int32) : ∃ k, zz_run 253 [.ref M, .int x] h = some (some (.int (if x < nI 10 then (if x = nI 0 then nI (amt af) else if x = nI 1 then A 719 else if x = nI 2 then nI (cs8 af) else -1) else KT (pb af) 256 (x - nI 10))), k) ∧ scr3 k M ∧ frm h k (M + 4) (M + 7) := by
  obtain ⟨V4, g4, hg4, _⟩ := hs.1
  obtain ⟨V5, a5⟩ := hs.2.1
  obtain ⟨V6, a6⟩ := hs.2.2
  have l1 := lp_arr (N := 8) (St := fun b k => zz_Y 253 (15, [some (.ref (M)), some (.int (x)), some (.int (nI (b)))], [], k)) (fun b _ => A (720 + b)) hg4 (fun b g hb => by
    rw [x253_c15]
    simp (disch := first | assumption | exact zz_nl_i _ | exact zz_nl_r _ | exact zz_nl_n | exact okv_i _ | exact okv_j _ | exact okv_0 | exact okv_1 | exact okv_o _ _ | exact okv_a _ _ | exact bI_okr _ | omega | exact llt_0 | ((repeat apply llt_s) <;> exact llt_0) | fail) only [x253, w0, wA, nI_ltI, hb, if_true, nI_add, mo_k_v, mo_k_n, mo_v_e, mo_gf_e, mo_pf_e, mo_ia_e, mo_ba_e, mo_za_e, mo_la_e, mo_aa_e, mo_le_e, mo_is_e, mo_bs_e, mo_zs_0, mo_zs_1, mo_ls_e, mo_as_e, mo_na_e, mo_aci_e, mo_acb_e, mo_acj_e, hp_gs, hp_gn, hp_ss, List.getElem?_cons_zero, List.getElem?_cons_succ, List.set_cons_zero, List.set_cons_succ])
  have a4 : ar8 (hp_s h (M + 4) (iA 8 (mpa 8 (fun b _ => A (720 + b)) g4))) (M + 4) af := ⟨_, hp_gs _ _ _, fun b hb => (mpa_in hb).trans (hf8 b hb)⟩
  have w0' : hp_g (hp_s h (M + 4) (iA 8 (mpa 8 (fun b _ => A (720 + b)) g4))) M = some (mdO M mt mk mp mu ms mn mo ml mv me mf mw) := (hp_gn (by omega)).trans w0
  refine ⟨_, ?_, ⟨⟨_, a4⟩, ⟨V5, ar8_ne a5 (by omega)⟩, ⟨V6, ar8_ne a6 (by omega)⟩⟩, frm_s ⟨by omega, by omega⟩ (frm_refl _ _ _)⟩
  rw [en253 w0]
  simp (disch := first | assumption | exact zz_nl_i _ | exact zz_nl_r _ | exact zz_nl_n | exact okv_i _ | exact okv_j _ | exact okv_0 | exact okv_1 | exact okv_o _ _ | exact okv_a _ _ | exact bI_okr _ | omega | exact llt_0 | ((repeat apply llt_s) <;> exact llt_0) | fail) only [x253, w0, wA, ha, nI_01, if_false, mo_k_v, mo_k_n, mo_v_e, mo_gf_e, mo_pf_e, mo_ia_e, mo_ba_e, mo_za_e, mo_la_e, mo_aa_e, mo_le_e, mo_is_e, mo_bs_e, mo_zs_0, mo_zs_1, mo_ls_e, mo_as_e, mo_na_e, mo_aci_e, mo_acb_e, mo_acj_e, hp_gs, hp_gn, hp_ss, List.getElem?_cons_zero, List.getElem?_cons_succ, List.set_cons_zero, List.set_cons_succ]
  rw [l1, x253_c15]
  by_cases c : x < nI 10
  · rw [if_pos c]
    by_cases c0 : x = nI 0
    · simp (disch := first | assumption | exact zz_nl_i _ | exact zz_nl_r _ | exact zz_nl_n | exact okv_i _ | exact okv_j _ | exact okv_0 | exact okv_1 | exact okv_o _ _ | exact okv_a _ _ | exact bI_okr _ | omega | exact llt_0 | ((repeat apply llt_s) <;> exact llt_0) | fail) only [x253, nI_ltI, Nat.lt_irrefl, if_false, c, eq_true c0, if_true, w0', a_many a4, mo_k_v, mo_k_n, mo_v_e, mo_gf_e, mo_pf_e, mo_ia_e, mo_ba_e, mo_za_e, mo_la_e, mo_aa_e, mo_le_e, mo_is_e, mo_bs_e, mo_zs_0, mo_zs_1, mo_ls_e, mo_as_e, mo_na_e, mo_aci_e, mo_acb_e, mo_acj_e, hp_gs, hp_gn, hp_ss, List.getElem?_cons_zero, List.getElem?_cons_succ, List.set_cons_zero, List.set_cons_succ]
    · by_cases c1 : x = nI 1
      · simp (disch := first | assumption | exact zz_nl_i _ | exact zz_nl_r _ | exact zz_nl_n | exact okv_i _ | exact okv_j _ | exact okv_0 | exact okv_1 | exact okv_o _ _ | exact okv_a _ _ | exact bI_okr _ | omega | exact llt_0 | ((repeat apply llt_s) <;> exact llt_0) | fail) only [x253, nI_ltI, Nat.lt_irrefl, if_false, c, c0, eq_true c1, if_true, w0', wA, mo_k_v, mo_k_n, mo_v_e, mo_gf_e, mo_pf_e, mo_ia_e, mo_ba_e, mo_za_e, mo_la_e, mo_aa_e, mo_le_e, mo_is_e, mo_bs_e, mo_zs_0, mo_zs_1, mo_ls_e, mo_as_e, mo_na_e, mo_aci_e, mo_acb_e, mo_acj_e, hp_gs, hp_gn, hp_ss, List.getElem?_cons_zero, List.getElem?_cons_succ, List.set_cons_zero, List.set_cons_succ]
      · by_cases c2 : x = nI 2
        · simp (disch := first | assumption | exact zz_nl_i _ | exact zz_nl_r _ | exact zz_nl_n | exact okv_i _ | exact okv_j _ | exact okv_0 | exact okv_1 | exact okv_o _ _ | exact okv_a _ _ | exact bI_okr _ | omega | exact llt_0 | ((repeat apply llt_s) <;> exact llt_0) | fail) only [x253, nI_ltI, Nat.lt_irrefl, if_false, c, c0, c1, eq_true c2, if_true, w0', a_size a4, mo_k_v, mo_k_n, mo_v_e, mo_gf_e, mo_pf_e, mo_ia_e, mo_ba_e, mo_za_e, mo_la_e, mo_aa_e, mo_le_e, mo_is_e, mo_bs_e, mo_zs_0, mo_zs_1, mo_ls_e, mo_as_e, mo_na_e, mo_aci_e, mo_acb_e, mo_acj_e, hp_gs, hp_gn, hp_ss, List.getElem?_cons_zero, List.getElem?_cons_succ, List.set_cons_zero, List.set_cons_succ]
        · simp (disch := first | assumption | exact zz_nl_i _ | exact zz_nl_r _ | exact zz_nl_n | exact okv_i _ | exact okv_j _ | exact okv_0 | exact okv_1 | exact okv_o _ _ | exact okv_a _ _ | exact bI_okr _ | omega | exact llt_0 | ((repeat apply llt_s) <;> exact llt_0) | fail) only [x253, nI_ltI, Nat.lt_irrefl, if_false, c, c0, c1, c2, if_true, mo_k_v, mo_k_n, mo_v_e, mo_gf_e, mo_pf_e, mo_ia_e, mo_ba_e, mo_za_e, mo_la_e, mo_aa_e, mo_le_e, mo_is_e, mo_bs_e, mo_zs_0, mo_zs_1, mo_ls_e, mo_as_e, mo_na_e, mo_aci_e, mo_acb_e, mo_acj_e, hp_gs, hp_gn, hp_ss, List.getElem?_cons_zero, List.getElem?_cons_succ, List.set_cons_zero, List.set_cons_succ]
  · rw [if_neg c]
    simp (disch := first | assumption | exact zz_nl_i _ | exact zz_nl_r _ | exact zz_nl_n | exact okv_i _ | exact okv_j _ | exact okv_0 | exact okv_1 | exact okv_o _ _ | exact okv_a _ _ | exact bI_okr _ | omega | exact llt_0 | ((repeat apply llt_s) <;> exact llt_0) | fail) only [x253, nI_ltI, Nat.lt_irrefl, if_false, c, w0', a_at w0' a4, mo_k_v, mo_k_n, mo_v_e, mo_gf_e, mo_pf_e, mo_ia_e, mo_ba_e, mo_za_e, mo_la_e, mo_aa_e, mo_le_e, mo_is_e, mo_bs_e, mo_zs_0, mo_zs_1, mo_ls_e, mo_as_e, mo_na_e, mo_aci_e, mo_acb_e, mo_acj_e, hp_gs, hp_gn, hp_ss, List.getElem?_cons_zero, List.getElem?_cons_succ, List.set_cons_zero, List.set_cons_succ]
end
