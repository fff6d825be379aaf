/-! the reference: acts on records -/
theorem hld_eq {p : Pl} (hw : wfP p) (hn : pnv p ≤ 20) {v d : Nat} (hd : d < pnh p) (hd4 : d < 4) (ho : pho p v = nI d) (t : Int32) : hldC p t v = if pmn p d = nI 1 then -1 else FI (fun u => decide (pho p u = nI d) && bt t u) (pnv p) := by
  unfold hldC
  obtain ⟨fi, si, e1, e2, e3, e4⟩ := hw.1 d hd
  simp only [ho, nI_clamp (show d < 2147483648 by omega), e1, e2, nI_clamp (show fi < 2147483648 by omega), nI_clamp (show si < 2147483648 by omega)]
  by_cases c : pmn p d = nI 1
  · rw [if_pos c, if_pos c]
  · rw [if_neg c, if_neg c]
    have hno := fa_first_no (fun i => bt t (fi + i)) si
    have hyes := fa_first_yes (fun i => bt t (fi + i)) si
    generalize fa_first (fun i => bt t (fi + i)) si = j at *
    have out : ∀ u, u < pnv p → ¬ (fi ≤ u ∧ u < fi + si) → (decide (pho p u = nI d) && bt t u) = false := fun u hu q => by
      rw [decide_eq_false (fun c => q ((e4 u hu).mp c)), Bool.false_and]
    by_cases c2 : j < si
    · rw [if_pos c2, FI_of (i := fi + j) (by omega) (by rw [decide_eq_true ((e4 (fi + j) (by omega)).mpr ⟨by omega, by omega⟩), Bool.true_and]; exact hyes c2) (fun u hu => ?_)]
      by_cases c3 : fi ≤ u
      · have := hno (u - fi) (by omega)
        rw [show fi + (u - fi) = u by omega] at this
        rw [this, Bool.and_false]
      · exact out u (by omega) (by omega)
    · rw [if_neg c2, FI_none (fun u hu => ?_)]
      by_cases c3 : fi ≤ u ∧ u < fi + si
      · have := hno (u - fi) (by omega)
        rw [show fi + (u - fi) = u by omega] at this
        rw [this, Bool.and_false]
      · exact out u hu c3
theorem kp_cong {A B : Nat → Int32} {u i : Nat} (hu : u ≤ 10) (he : ∀ i, i < 718 ∨ 1460 ≤ i → A i = B i) (hi : 1460 ≤ i) : kpA A u i = kpA B u i := by
  unfold kpA
  split
  · unfold cpA
    split
    · rw [if_neg (by omega), if_neg (by omega)]
      exact he _ (by omega)
    · split
      · exact he _ (by omega)
      · exact he _ (by omega)
  · unfold cpA
    split
    · exact he _ (by omega)
    · exact he _ (by omega)
def acc (A B : Nat → Int32) (u : Nat) : Prop := B 728 = nI 0 ∧ (∀ i, 718 ≤ i → i < 728 → B i = A i) ∧ (∀ i, 1460 ≤ i → i < 8640 → B i = kpA A u i) ∧ ∀ i, 8640 ≤ i → B i = A i
theorem acc_of {A B : Nat → Int32} {u : Nat} {y : Int32} (hu : u ≤ 10) (h : ∀ i, 718 ≤ i → B i = kpA (upd (upd A 728 (nI 0)) 729 y) u i) : acc A B u := by
  refine ⟨?_, fun i h1 h2 => ?_, fun i h1 h2 => ?_, fun i h1 => ?_⟩
  · rw [h 728 (by omega), kp_off hu (by omega), upd_ne (by omega), upd_eq]
  · rw [h i h1, kp_off hu (by omega), upd_ne (by omega), upd_ne (by omega)]
  · rw [h i (by omega)]
    exact kp_cong hu (fun j hj => by rw [upd_ne (by omega), upd_ne (by omega)]) h1
  · rw [h i (by omega), kp_off hu (by omega), upd_ne (by omega), upd_ne (by omega)]
theorem kp_RS {A : Nat → Int32} {u : Nat} {y : Int32} {p : Pl} {rk tg ch ba : Nat → Int32} (hu : u ≤ 10) (hr : RS A 0 p rk tg ch ba) : RS (kpA (upd (upd A 728 (nI 0)) 729 y) u) 0 p rk tg ch ba := RS_shift hr (fun i hi => by
  rw [kp_off hu (by omega), upd_ne (by omega), upd_ne (by omega)])
theorem b_tog {x : Int32} {i j : Nat} (hi : i < 32) (hj : j < 32) : bt (x ^^^ (nI 1 <<< (nI i &&& 31))) j = if j = i then !bt x j else bt x j := by
  rw [b_xor, b_one hi hj]
  by_cases c : j = i
  · rw [decide_eq_true c, if_pos c, Bool.xor_true]
  · rw [decide_eq_false c, if_neg c, Bool.xor_false]
def togA (A : Nat → Int32) (a q : Nat) : Nat → Int32 := upd A (a + q / 32) (A (a + q / 32) ^^^ (nI 1 <<< (nI (q % 32) &&& 31)))
theorem tog_bit (A : Nat → Int32) (a : Nat) {q r : Nat} (hq : q < 256) (hr : r < 256) : bt (togA A a q (a + r / 32)) (r % 32) = if r = q then !bt (A (a + q / 32)) (q % 32) else bt (A (a + r / 32)) (r % 32) := by
  unfold togA
  by_cases c : r / 32 = q / 32
  · rw [c, upd_eq, b_tog (by omega) (by omega)]
    by_cases c2 : r = q
    · subst c2; rw [if_pos rfl, if_pos rfl]
    · rw [if_neg (by omega), if_neg c2]
  · rw [upd_ne (by omega), if_neg (by omega)]
theorem tog_out {A : Nat → Int32} {a q i : Nat} (hq : q < 256) (hi : i < a ∨ a + 8 ≤ i) : togA A a q i = A i := upd_ne (by omega)
theorem RS_put {A B : Nat → Int32} {p : Pl} {rk tg ch ba : Nat → Int32} (hr : RS A 0 p rk tg ch ba) {q : Nat} (x t : Int32) (h0 : ∀ i, i < 294 → B i = A i) (h1 : ∀ r, r < 256 → bt (B (294 + r / 32)) (r % 32) = if r = q then !decide (x = -1) else bt (A (294 + r / 32)) (r % 32)) (h2 : ∀ v, v < pnv p → ∀ r, r < 256 → bt (B (302 + 8 * v + r / 32)) (r % 32) = if r = q then bt t v else bt (A (302 + 8 * v + r / 32)) (r % 32)) (h3 : ∀ r, r < 256 → r ≠ q → B (462 + r) = A (462 + r)) (h4 : x = -1 ∨ B (462 + q) = x) : RS B 0 p (upd rk q x) (upd tg q t) ch ba := by
  obtain ⟨⟨r1, r2, r3, r4⟩, rH, rV, rT, rG⟩ := hr
  refine ⟨⟨r1, r2, (h0 _ (by omega)).trans r3, (h0 _ (by omega)).trans r4⟩, fun d hd => ?_, fun v hv => ?_, fun r hr => ?_, fun v hv r hr => ?_⟩
  · obtain ⟨a1, a2, a3⟩ := rH d hd
    exact ⟨(h0 _ (by omega)).trans a1, (h0 _ (by omega)).trans a2, nmR_cong a3 (fun i hi => h0 _ (by omega))⟩
  · obtain ⟨a1, a2, a3, a4⟩ := rV v hv
    exact ⟨(h0 _ (by omega)).trans a1, (h0 _ (by omega)).trans a2, (h0 _ (by omega)).trans a3, nmR_cong a4 (fun i hi => h0 _ (by omega))⟩
  · obtain ⟨a1, a2⟩ := rT r hr
    rw [Nat.zero_add] at a1 a2 ⊢
    rw [Nat.zero_add, h1 r hr]
    by_cases c : r = q
    · subst c
      rw [if_pos rfl, upd_eq]
      exact ⟨rfl, h4⟩
    · rw [if_neg c, upd_ne c, h3 r hr c]
      exact ⟨a1, a2⟩
  · have a := rG v hv r hr
    rw [Nat.zero_add] at a ⊢
    rw [h2 v hv r hr]
    by_cases c : r = q
    · subst c; rw [if_pos rfl, upd_eq]
    · rw [if_neg c, upd_ne c]; exact a
section
variable {h : zz_H} {M : Nat} {A : Nat → Int32} {mt mk mp mu ms mn mo ml : Int32} {mv : Int64} {me mf mw : Int32} {p : Pl} {rk tg f ch ba : Nat → Int32}
theorem m_held (w0 : hp_g h M = some (mdO M mt mk mp mu ms mn mo ml mv me mf mw)) (wA : hp_g h (M + 1) = some (iA 12639 A)) {o : Nat} (hr : RS A o p rk tg ch ba) (hw : wfP p) (ho : o ≤ 11000) {q v : Nat} (hq : q < 256) (hv : v < pnv p) : zz_run 211 [.ref M, .int (nI o), .int (nI q), .int (nI v)] h = some (some (.int (hldC p (tg q) v)), h) := by
  obtain ⟨r1, r2, r3, r4⟩ := hr.1
  obtain ⟨⟨d, hd, hod⟩, _⟩ := hw.2 v hv
  rw [hld_eq hw r2 hd (by omega) hod]
  have q1 := (hr.2.2.1 v hv).1
  rw [hod] at q1
  have g1 := (hr.2.1 d hd).1
  rw [en211 w0]
  by_cases c : pmn p d = nI 1
  · rw [if_pos c]
    simp (disch := first | assumption | exact zz_nl_i _ | exact zz_nl_r _ | exact zz_nl_n | exact okv_i _ | exact okv_j _ | exact okv_0 | exact okv_1 | exact okv_o _ _ | exact okv_a _ _ | exact bI_okr _ | omega | exact llt_0 | ((repeat apply llt_s) <;> exact llt_0) | fail) only [x211, w0, wA, m_valueAt, m_headAt, nI_add, Nat.add_zero, q1, g1, eq_true c, if_true, mo_k_v, mo_k_n, mo_v_e, mo_gf_e, mo_pf_e, mo_ia_e, mo_ba_e, mo_za_e, mo_la_e, mo_aa_e, mo_le_e, mo_is_e, mo_bs_e, mo_zs_0, mo_zs_1, mo_ls_e, mo_as_e, mo_na_e, mo_aci_e, mo_acb_e, mo_acj_e, hp_gs, hp_gn, hp_ss, List.getElem?_cons_zero, List.getElem?_cons_succ, List.set_cons_zero, List.set_cons_succ]
  · rw [if_neg c]
    have step : ∀ u, u < pnv p → zz_Y 211 (38, [some (.ref (M)), some (.int (nI (o))), some (.int (nI (q))), some (.int (nI (v))), some (.int (nI (d))), some (.int (nI (u)))], [], h) = if (decide (pho p u = nI d) && bt (tg q) u) = true then some (some (.int (nI u)), h) else zz_Y 211 (38, [some (.ref (M)), some (.int (nI (o))), some (.int (nI (q))), some (.int (nI (v))), some (.int (nI (d))), some (.int (nI (u + 1)))], [], h) := by
      intro u hu
      have q2 := (hr.2.2.1 u hu).1
      have t := hr.2.2.2.2 u hu q hq
      have ib := m_isBit w0 wA (at_ := o + 302 + 8 * u) hq (by omega)
      rw [t] at ib
      rw [x211_c38]
      by_cases c1 : pho p u = nI d
      · cases c2 : bt (tg q) u
        · rw [c2] at ib
          simp (disch := first | assumption | exact zz_nl_i _ | exact zz_nl_r _ | exact zz_nl_n | exact okv_i _ | exact okv_j _ | exact okv_0 | exact okv_1 | exact okv_o _ _ | exact okv_a _ _ | exact bI_okr _ | omega | exact llt_0 | ((repeat apply llt_s) <;> exact llt_0) | fail) only [x211, w0, wA, r4, nI_ltI, hu, if_true, m_valueAt, nI_add, Nat.add_zero, q2, eq_true c1, pk_mul, ib, bI_f, decide_true, Bool.and_false, Bool.false_eq_true, if_false, mo_k_v, mo_k_n, mo_v_e, mo_gf_e, mo_pf_e, mo_ia_e, mo_ba_e, mo_za_e, mo_la_e, mo_aa_e, mo_le_e, mo_is_e, mo_bs_e, mo_zs_0, mo_zs_1, mo_ls_e, mo_as_e, mo_na_e, mo_aci_e, mo_acb_e, mo_acj_e, hp_gs, hp_gn, hp_ss, List.getElem?_cons_zero, List.getElem?_cons_succ, List.set_cons_zero, List.set_cons_succ]
        · rw [c2] at ib
          simp (disch := first | assumption | exact zz_nl_i _ | exact zz_nl_r _ | exact zz_nl_n | exact okv_i _ | exact okv_j _ | exact okv_0 | exact okv_1 | exact okv_o _ _ | exact okv_a _ _ | exact bI_okr _ | omega | exact llt_0 | ((repeat apply llt_s) <;> exact llt_0) | fail) only [x211, w0, wA, r4, nI_ltI, hu, if_true, m_valueAt, nI_add, Nat.add_zero, q2, eq_true c1, pk_mul, ib, bI_t, nI_01, decide_true, Bool.and_self, if_false, mo_k_v, mo_k_n, mo_v_e, mo_gf_e, mo_pf_e, mo_ia_e, mo_ba_e, mo_za_e, mo_la_e, mo_aa_e, mo_le_e, mo_is_e, mo_bs_e, mo_zs_0, mo_zs_1, mo_ls_e, mo_as_e, mo_na_e, mo_aci_e, mo_acb_e, mo_acj_e, hp_gs, hp_gn, hp_ss, List.getElem?_cons_zero, List.getElem?_cons_succ, List.set_cons_zero, List.set_cons_succ]
      · simp (disch := first | assumption | exact zz_nl_i _ | exact zz_nl_r _ | exact zz_nl_n | exact okv_i _ | exact okv_j _ | exact okv_0 | exact okv_1 | exact okv_o _ _ | exact okv_a _ _ | exact bI_okr _ | omega | exact llt_0 | ((repeat apply llt_s) <;> exact llt_0) | fail) only [x211, w0, wA, r4, nI_ltI, hu, if_true, m_valueAt, nI_add, Nat.add_zero, q2, c1, if_false, decide_false, Bool.false_and, Bool.false_eq_true, mo_k_v, mo_k_n, mo_v_e, mo_gf_e, mo_pf_e, mo_ia_e, mo_ba_e, mo_za_e, mo_la_e, mo_aa_e, mo_le_e, mo_is_e, mo_bs_e, mo_zs_0, mo_zs_1, mo_ls_e, mo_as_e, mo_na_e, mo_aci_e, mo_acb_e, mo_acj_e, hp_gs, hp_gn, hp_ss, List.getElem?_cons_zero, List.getElem?_cons_succ, List.set_cons_zero, List.set_cons_succ]
    simp (disch := first | assumption | exact zz_nl_i _ | exact zz_nl_r _ | exact zz_nl_n | exact okv_i _ | exact okv_j _ | exact okv_0 | exact okv_1 | exact okv_o _ _ | exact okv_a _ _ | exact bI_okr _ | omega | exact llt_0 | ((repeat apply llt_s) <;> exact llt_0) | fail) only [x211, w0, wA, m_valueAt, m_headAt, nI_add, Nat.add_zero, q1, g1, c, if_false, mo_k_v, mo_k_n, mo_v_e, mo_gf_e, mo_pf_e, mo_ia_e, mo_ba_e, mo_za_e, mo_la_e, mo_aa_e, mo_le_e, mo_is_e, mo_bs_e, mo_zs_0, mo_zs_1, mo_ls_e, mo_as_e, mo_na_e, mo_aci_e, mo_acb_e, mo_acj_e, hp_gs, hp_gn, hp_ss, List.getElem?_cons_zero, List.getElem?_cons_succ, List.set_cons_zero, List.set_cons_succ]
    refine (lp_find (N := pnv p) (St := fun u => zz_Y 211 (38, [some (.ref (M)), some (.int (nI (o))), some (.int (nI (q))), some (.int (nI (v))), some (.int (nI (d))), some (.int (nI (u)))], [], h)) (R := fun u => some (some (.int (nI u)), h)) step).trans ?_
    unfold FI
    split
    · rfl
    · rw [x211_c38]
      simp (disch := first | assumption | exact zz_nl_i _ | exact zz_nl_r _ | exact zz_nl_n | exact okv_i _ | exact okv_j _ | exact okv_0 | exact okv_1 | exact okv_o _ _ | exact okv_a _ _ | exact bI_okr _ | omega | exact llt_0 | ((repeat apply llt_s) <;> exact llt_0) | fail) only [x211, w0, wA, nI_add, r4, nI_ltI, Nat.lt_irrefl, if_false, mo_k_v, mo_k_n, mo_v_e, mo_gf_e, mo_pf_e, mo_ia_e, mo_ba_e, mo_za_e, mo_la_e, mo_aa_e, mo_le_e, mo_is_e, mo_bs_e, mo_zs_0, mo_zs_1, mo_ls_e, mo_as_e, mo_na_e, mo_aci_e, mo_acb_e, mo_acj_e, hp_gs, hp_gn, hp_ss, List.getElem?_cons_zero, List.getElem?_cons_succ, List.set_cons_zero, List.set_cons_succ]
theorem m_add_bad (w0 : hp_g h M = some (mdO M mt mk mp mu ms mn mo ml mv me mf mw)) (wA : hp_g h (M + 1) = some (iA 12639 A)) (hr : RS A 0 p rk tg ch ba) (hc : CI p rk tg f ch ba) {x y : Int32} (hx : (isV 256 x && isV 1000 y) = false) : ∃ k, zz_run 204 [.ref M, .int x, .int y] h = some (some (.int (nI 1)), k) ∧ mU h k M (mdO M mt mk mp mu ms mn mo ml mv me mf mw) (upd (upd A 728 (nI 1)) 729 (-1)) := by
  obtain ⟨k, e, hu⟩ := m_refused_n w0 wA (r := 1) (by omega) (by omega) (-1)
  refine ⟨k, ?_, hu⟩
  have l1 : nI 0 < nI 1 := by decide +kernel
  rw [en204 w0]
  cases e1 : isV 256 x with
  | false => simp (disch := first | assumption | exact zz_nl_i _ | exact zz_nl_r _ | exact zz_nl_n | exact okv_i _ | exact okv_j _ | exact okv_0 | exact okv_1 | exact okv_o _ _ | exact okv_a _ _ | exact bI_okr _ | omega | exact llt_0 | ((repeat apply llt_s) <;> exact llt_0) | fail) only [x204, m_isRecord, e1, bI_f, if_true, e, l1, mo_k_v, mo_k_n, mo_v_e, mo_gf_e, mo_pf_e, mo_ia_e, mo_ba_e, mo_za_e, mo_la_e, mo_aa_e, mo_le_e, mo_is_e, mo_bs_e, mo_zs_0, mo_zs_1, mo_ls_e, mo_as_e, mo_na_e, mo_aci_e, mo_acb_e, mo_acj_e, hp_gs, hp_gn, hp_ss, List.getElem?_cons_zero, List.getElem?_cons_succ, List.set_cons_zero, List.set_cons_succ]
  | true =>
    rw [e1, Bool.true_and] at hx
    simp (disch := first | assumption | exact zz_nl_i _ | exact zz_nl_r _ | exact zz_nl_n | exact okv_i _ | exact okv_j _ | exact okv_0 | exact okv_1 | exact okv_o _ _ | exact okv_a _ _ | exact bI_okr _ | omega | exact llt_0 | ((repeat apply llt_s) <;> exact llt_0) | fail) only [x204, m_isRecord, e1, bI_t, nI_01, if_false, m_isIn, in_V, Nat.reduceAdd, hx, bI_f, if_true, e, l1, mo_k_v, mo_k_n, mo_v_e, mo_gf_e, mo_pf_e, mo_ia_e, mo_ba_e, mo_za_e, mo_la_e, mo_aa_e, mo_le_e, mo_is_e, mo_bs_e, mo_zs_0, mo_zs_1, mo_ls_e, mo_as_e, mo_na_e, mo_aci_e, mo_acb_e, mo_acj_e, hp_gs, hp_gn, hp_ss, List.getElem?_cons_zero, List.getElem?_cons_succ, List.set_cons_zero, List.set_cons_succ]
theorem m_add_there (w0 : hp_g h M = some (mdO M mt mk mp mu ms mn mo ml mv me mf mw)) (wA : hp_g h (M + 1) = some (iA 12639 A)) (hr : RS A 0 p rk tg ch ba) (hc : CI p rk tg f ch ba) {x y : Int32} (hx : (isV 256 x && isV 1000 y) = true) (ht : thrC rk x = true) : ∃ k, zz_run 204 [.ref M, .int x, .int y] h = some (some (.int (nI 2)), k) ∧ mU h k M (mdO M mt mk mp mu ms mn mo ml mv me mf mw) (upd (upd A 728 (nI 2)) 729 (-1)) := by
  obtain ⟨k, e, hu⟩ := m_refused_n w0 wA (r := 2) (by omega) (by omega) (-1)
  refine ⟨k, ?_, hu⟩
  have l1 : nI 0 < nI 2 := by decide +kernel
  obtain ⟨e1, e2⟩ := Bool.and_eq_true_iff.mp hx
  rw [en204 w0]
  simp (disch := first | assumption | exact zz_nl_i _ | exact zz_nl_r _ | exact zz_nl_n | exact okv_i _ | exact okv_j _ | exact okv_0 | exact okv_1 | exact okv_o _ _ | exact okv_a _ _ | exact bI_okr _ | omega | exact llt_0 | ((repeat apply llt_s) <;> exact llt_0) | fail) only [x204, m_isRecord, e1, bI_t, nI_01, if_false, m_isIn, in_V, Nat.reduceAdd, e2, m_isThere w0 wA hr, ht, e, l1, if_true, mo_k_v, mo_k_n, mo_v_e, mo_gf_e, mo_pf_e, mo_ia_e, mo_ba_e, mo_za_e, mo_la_e, mo_aa_e, mo_le_e, mo_is_e, mo_bs_e, mo_zs_0, mo_zs_1, mo_ls_e, mo_as_e, mo_na_e, mo_aci_e, mo_acb_e, mo_acj_e, hp_gs, hp_gn, hp_ss, List.getElem?_cons_zero, List.getElem?_cons_succ, List.set_cons_zero, List.set_cons_succ]
theorem m_add_ok (w0 : hp_g h M = some (mdO M mt mk mp mu ms mn mo ml mv me mf mw)) (wA : hp_g h (M + 1) = some (iA 12639 A)) (hr : RS A 0 p rk tg ch ba) (hc : CI p rk tg f ch ba) {u : Nat} (hu : u ≤ 10) (hmu : mu = nI u) {q : Nat} {y : Int32} (hq : q < 256) (hy : isV 1000 y = true) (ht : thrC rk (nI q) = false) : ∃ k B, zz_run 204 [.ref M, .int (nI q), .int y] h = some (some (.int (nI 0)), k) ∧ mU h k M (mdO M mt mk mp (nI (min (u + 1) 10)) ms mn mo ml mv me mf mw) B ∧ acc A B u ∧ RS B 0 p (upd rk q y) (upd tg q (nI 0)) ch ba := by
  obtain ⟨k, e, u1, u2, u3⟩ := m_refused_0 w0 wA hu hmu (-1)
  have l1 : ¬ nI 0 < nI 0 := by decide +kernel
  have e1 : isV 256 (nI q) = true := isV_nI (by omega) hq
  have hk := kp_RS (y := -1) hu hr
  generalize hA1 : kpA (upd (upd A 728 (nI 0)) 729 (-1)) u = A1 at *
  have tn := m_turns u1 u2 (a := 294) hq (by omega)
  have hrk : rk q = -1 := by
    unfold thrC at ht
    rw [e1, nI_clamp (by omega), Bool.true_and, Bool.not_eq_false', decide_eq_true_iff] at ht
    exact ht
  have htg : tg q = nI 0 := by
    rcases (hc.2.2.2.1 q hq).2 with ⟨_, c⟩ | ⟨a, h3, h4⟩
    · exact c
    · rw [hrk] at h4
      exact absurd h4 (m1_nI (by omega))
  have hym : ¬ y = -1 := fun c => by
    rw [c] at hy
    exact absurd hy (by decide +kernel)
  have hlast : togA A1 294 q (294 + q / 32) = A1 (294 + q / 32) ^^^ (nI 1 <<< (nI (q % 32) &&& 31)) := upd_eq _ _ _
  refine ⟨hp_s k (M + 1) (iA 12639 (upd (togA A1 294 q) (462 + q) y)), upd (togA A1 294 q) (462 + q) y, ?_, ⟨(hp_gn (by omega)).trans u1, hp_gs _ _ _, frm_s ⟨by omega, by omega⟩ u3⟩, acc_of (y := -1) hu (fun i hi => by rw [upd_ne (by omega), tog_out hq (by omega), hA1]), ?_⟩
  · rw [en204 w0]
    simp (disch := first | assumption | exact zz_nl_i _ | exact zz_nl_r _ | exact zz_nl_n | exact okv_i _ | exact okv_j _ | exact okv_0 | exact okv_1 | exact okv_o _ _ | exact okv_a _ _ | exact bI_okr _ | omega | exact llt_0 | ((repeat apply llt_s) <;> exact llt_0) | fail) only [x204, m_isRecord, e1, bI_t, nI_01, if_false, m_isIn, in_V, Nat.reduceAdd, hy, m_isThere w0 wA hr, ht, bI_f, if_true, e, l1, tn, u1, nI_add, mo_k_v, mo_k_n, mo_v_e, mo_gf_e, mo_pf_e, mo_ia_e, mo_ba_e, mo_za_e, mo_la_e, mo_aa_e, mo_le_e, mo_is_e, mo_bs_e, mo_zs_0, mo_zs_1, mo_ls_e, mo_as_e, mo_na_e, mo_aci_e, mo_acb_e, mo_acj_e, hp_gs, hp_gn, hp_ss, List.getElem?_cons_zero, List.getElem?_cons_succ, List.set_cons_zero, List.set_cons_succ]
    rfl
  · refine RS_put hk y (nI 0) (fun i hi => ?_) (fun r hr1 => ?_) (fun v hv r hr1 => ?_) (fun r hr1 hrq => ?_) (Or.inr (upd_eq _ _ _))
    · rw [upd_ne (by omega), tog_out hq (by omega)]
    · rw [upd_ne (by omega), tog_bit A1 294 hq hr1]
      have a := (hk.2.2.2.1 q hq).1
      rw [Nat.zero_add, hrk, decide_eq_true rfl] at a
      rw [a, decide_eq_false hym]
      rfl
    · have hv20 := hr.1.2.1
      rw [upd_ne (by omega), tog_out hq (by omega)]
      by_cases c : r = q
      · subst c
        have a := hk.2.2.2.2 v hv r hr1
        rw [Nat.zero_add, htg] at a
        rw [if_pos rfl, a]
      · rw [if_neg c]
    · rw [upd_ne (by omega), tog_out hq (by omega)]
end
