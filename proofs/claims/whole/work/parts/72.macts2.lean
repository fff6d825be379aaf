/-! the reference: more acts -/
section
variable {h : zz_H} {M : Nat} {A : Nat → Int32} {mt mk mp mu ms mn mo ml : Int32} {mv : Int64} {me mf mw : Int32} {p : Pl} {rk tg f ch ba : Nat → Int32}
theorem m_drop_bad (w0 : hp_g h M = some (mdO M mt mk mp mu ms mn mo ml mv me mf mw)) (wA : hp_g h (M + 1) = some (iA 12639 A)) (hr : RS A 0 p rk tg ch ba) (hc : CI p rk tg f ch ba) {x : Int32} (hx : isV 256 x = false) : ∃ k, zz_run 209 [.ref M, .int x] h = some (some (.int (nI 1)), k) ∧ mU h k M (mdO M mt mk mp mu ms mn mo ml mv me mf mw) (upd (upd A 728 (nI 1)) 729 (-1)) := by
  obtain ⟨k, e, hu⟩ := m_refused_n w0 wA (r := 1) (by omega) (by omega) (-1)
  refine ⟨k, ?_, hu⟩
  have l1 : nI 0 < nI 1 := by decide +kernel
  rw [en209 w0]
  simp (disch := first | assumption | exact zz_nl_i _ | exact zz_nl_r _ | exact zz_nl_n | exact okv_i _ | exact okv_j _ | exact okv_0 | exact okv_1 | exact okv_o _ _ | exact okv_a _ _ | exact bI_okr _ | omega | exact llt_0 | ((repeat apply llt_s) <;> exact llt_0) | fail) only [x209, m_isRecord, hx, bI_f, if_true, e, l1, mo_k_v, mo_k_n, mo_v_e, mo_gf_e, mo_pf_e, mo_ia_e, mo_ba_e, mo_za_e, mo_la_e, mo_aa_e, mo_le_e, mo_is_e, mo_bs_e, mo_zs_0, mo_zs_1, mo_ls_e, mo_as_e, mo_na_e, mo_aci_e, mo_acb_e, mo_acj_e, hp_gs, hp_gn, hp_ss, List.getElem?_cons_zero, List.getElem?_cons_succ, List.set_cons_zero, List.set_cons_succ]
theorem m_drop_not (w0 : hp_g h M = some (mdO M mt mk mp mu ms mn mo ml mv me mf mw)) (wA : hp_g h (M + 1) = some (iA 12639 A)) (hr : RS A 0 p rk tg ch ba) (hc : CI p rk tg f ch ba) {x : Int32} (hx : isV 256 x = true) (ht : thrC rk x = false) : ∃ k, zz_run 209 [.ref M, .int x] h = some (some (.int (nI 3)), k) ∧ mU h k M (mdO M mt mk mp mu ms mn mo ml mv me mf mw) (upd (upd A 728 (nI 3)) 729 (-1)) := by
  obtain ⟨k, e, hu⟩ := m_refused_n w0 wA (r := 3) (by omega) (by omega) (-1)
  refine ⟨k, ?_, hu⟩
  have l1 : nI 0 < nI 3 := by decide +kernel
  rw [en209 w0]
  simp (disch := first | assumption | exact zz_nl_i _ | exact zz_nl_r _ | exact zz_nl_n | exact okv_i _ | exact okv_j _ | exact okv_0 | exact okv_1 | exact okv_o _ _ | exact okv_a _ _ | exact bI_okr _ | omega | exact llt_0 | ((repeat apply llt_s) <;> exact llt_0) | fail) only [x209, m_isRecord, hx, bI_t, nI_01, if_false, m_isThere w0 wA hr, ht, bI_f, if_true, e, l1, mo_k_v, mo_k_n, mo_v_e, mo_gf_e, mo_pf_e, mo_ia_e, mo_ba_e, mo_za_e, mo_la_e, mo_aa_e, mo_le_e, mo_is_e, mo_bs_e, mo_zs_0, mo_zs_1, mo_ls_e, mo_as_e, mo_na_e, mo_aci_e, mo_acb_e, mo_acj_e, hp_gs, hp_gn, hp_ss, List.getElem?_cons_zero, List.getElem?_cons_succ, List.set_cons_zero, List.set_cons_succ]
/-- tags taken off, one by one -/
def offA (p : Pl) (tg : Nat → Int32) (q : Nat) (A : Nat → Int32) (n : Nat) : Nat → Int32 := lp_it (fun v g => if bt (tg q) v = true then togA g (302 + 8 * v) q else g) n A
theorem off_out (p : Pl) (tg : Nat → Int32) {q : Nat} (hq : q < 256) (A : Nat → Int32) : ∀ n, n ≤ 20 → ∀ i, i < 302 ∨ 302 + 8 * n ≤ i → offA p tg q A n i = A i
  | 0, _, _, _ => rfl
  | n + 1, hn, i, hi => by
    rw [show offA p tg q A (n + 1) = if bt (tg q) n = true then togA (offA p tg q A n) (302 + 8 * n) q else offA p tg q A n from rfl]
    split
    · rw [tog_out hq (by omega), off_out p tg hq A n (by omega) i (by omega)]
    · rw [off_out p tg hq A n (by omega) i (by omega)]
theorem off_bit (p : Pl) (tg : Nat → Int32) {q : Nat} (hq : q < 256) {A : Nat → Int32} : ∀ n, n ≤ 20 → (∀ v, v < n → bt (A (302 + 8 * v + q / 32)) (q % 32) = bt (tg q) v) → ∀ v, v < n → ∀ r, r < 256 → bt (offA p tg q A n (302 + 8 * v + r / 32)) (r % 32) = if r = q then false else bt (A (302 + 8 * v + r / 32)) (r % 32)
  | 0, _, _, v, hv, _, _ => by omega
  | n + 1, hn, hA, v, hv, r, hr => by
    have ih := off_bit p tg hq n (by omega) (fun v hv => hA v (by omega))
    have ho := off_out p tg hq A n (by omega)
    rw [show offA p tg q A (n + 1) = if bt (tg q) n = true then togA (offA p tg q A n) (302 + 8 * n) q else offA p tg q A n from rfl]
    by_cases c : v = n
    · subst c
      have hAv := hA v (by omega)
      split
      · next ct =>
        rw [tog_bit _ _ hq hr, ho _ (by omega), ho _ (by omega), hAv, ct]
        rfl
      · next ct =>
        rw [ho _ (by omega)]
        by_cases c2 : r = q
        · subst c2
          rw [if_pos rfl, hAv, Bool.eq_false_iff.mpr ct]
        · rw [if_neg c2]
    · split
      · rw [tog_out hq (by omega)]
        exact ih v (by omega) r hr
      · exact ih v (by omega) r hr
theorem m_drop_ok (w0 : hp_g h M = some (mdO M mt mk mp mu ms mn mo ml mv me mf mw)) (wA : hp_g h (M + 1) = some (iA 12639 A)) (hr : RS A 0 p rk tg ch ba) (hc : CI p rk tg f ch ba) {u : Nat} (hu : u ≤ 10) (hmu : mu = nI u) {q : Nat} (hq : q < 256) (ht : thrC rk (nI q) = true) : ∃ k B, zz_run 209 [.ref M, .int (nI q)] h = some (some (.int (nI 0)), k) ∧ mU h k M (mdO M mt mk mp (nI (min (u + 1) 10)) ms mn mo ml mv me mf mw) B ∧ acc A B u ∧ RS B 0 p (upd rk q (-1)) (upd tg q (nI 0)) ch ba := by
  obtain ⟨k, e, u1, u2, u3⟩ := m_refused_0 w0 wA hu hmu (-1)
  have l1 : ¬ nI 0 < nI 0 := by decide +kernel
  have e1 : isV 256 (nI q) = true := isV_nI (by omega) hq
  have hk := kp_RS (y := -1) hu hr
  have hn20 := hr.1.2.1
  have r4 := hk.1.2.2.2
  rw [Nat.zero_add] at r4
  generalize hA1 : kpA (upd (upd A 728 (nI 0)) 729 (-1)) u = A1 at *
  have tn := m_turns u1 u2 (a := 294) hq (by omega)
  have tn' : zz_run 208 [.ref M, .int (nI 294), .int (nI q)] k = some (none, hp_s k (M + 1) (iA 12639 (togA A1 294 q))) := tn
  have hrk := thr_rk hq ht
  have hA2 : ∀ v, v < pnv p → bt (upd (togA A1 294 q) (462 + q) (nI 0) (302 + 8 * v + q / 32)) (q % 32) = bt (tg q) v := fun v hv => by
    have a := hk.2.2.2.2 v hv q hq
    rw [Nat.zero_add] at a
    rw [upd_ne (by omega), tog_out hq (by omega), a]
  have step : ∀ v, v < pnv p → zz_Y 209 (57, [some (.ref (M)), some (.int (nI (q))), some (.int (nI (0))), some (.int (nI (v)))], [], hp_s k (M + 1) (iA 12639 (offA p tg q (upd (togA A1 294 q) (462 + q) (nI 0)) v))) = zz_Y 209 (57, [some (.ref (M)), some (.int (nI (q))), some (.int (nI (0))), some (.int (nI (v + 1)))], [], hp_s k (M + 1) (iA 12639 (offA p tg q (upd (togA A1 294 q) (462 + q) (nI 0)) (v + 1)))) := by
    intro v hv
    have w0' : hp_g (hp_s k (M + 1) (iA 12639 (offA p tg q (upd (togA A1 294 q) (462 + q) (nI 0)) v))) M = some (mdO M mt mk mp (nI (min (u + 1) 10)) ms mn mo ml mv me mf mw) := (hp_gn (by omega)).trans u1
    have ho := off_out p tg hq (upd (togA A1 294 q) (462 + q) (nI 0)) v (by omega)
    have r4' : offA p tg q (upd (togA A1 294 q) (462 + q) (nI 0)) v 1 = nI (pnv p) := by
      rw [ho 1 (by omega), upd_ne (by omega), tog_out hq (by omega), r4]
    have ib := m_isBit w0' (hp_gs _ _ _) (at_ := 302 + 8 * v) hq (by omega)
    rw [ho _ (by omega), hA2 v hv] at ib
    have tn2 := m_turns w0' (hp_gs _ _ _) (a := 302 + 8 * v) hq (by omega)
    rw [hp_ss] at tn2
    rw [x209_c57, show offA p tg q (upd (togA A1 294 q) (462 + q) (nI 0)) (v + 1) = if bt (tg q) v = true then togA (offA p tg q (upd (togA A1 294 q) (462 + q) (nI 0)) v) (302 + 8 * v) q else offA p tg q (upd (togA A1 294 q) (462 + q) (nI 0)) v from rfl]
    cases c : bt (tg q) v with
    | false =>
      rw [c] at ib
      simp (disch := first | assumption | exact zz_nl_i _ | exact zz_nl_r _ | exact zz_nl_n | exact okv_i _ | exact okv_j _ | exact okv_0 | exact okv_1 | exact okv_o _ _ | exact okv_a _ _ | exact bI_okr _ | omega | exact llt_0 | ((repeat apply llt_s) <;> exact llt_0) | fail) only [x209, w0', r4', nI_ltI, hv, if_true, pk_mul, nI_add, ib, bI_f, Bool.false_eq_true, if_false, mo_k_v, mo_k_n, mo_v_e, mo_gf_e, mo_pf_e, mo_ia_e, mo_ba_e, mo_za_e, mo_la_e, mo_aa_e, mo_le_e, mo_is_e, mo_bs_e, mo_zs_0, mo_zs_1, mo_ls_e, mo_as_e, mo_na_e, mo_aci_e, mo_acb_e, mo_acj_e, hp_gs, hp_gn, hp_ss, List.getElem?_cons_zero, List.getElem?_cons_succ, List.set_cons_zero, List.set_cons_succ]
    | true =>
      rw [c] at ib
      simp (disch := first | assumption | exact zz_nl_i _ | exact zz_nl_r _ | exact zz_nl_n | exact okv_i _ | exact okv_j _ | exact okv_0 | exact okv_1 | exact okv_o _ _ | exact okv_a _ _ | exact bI_okr _ | omega | exact llt_0 | ((repeat apply llt_s) <;> exact llt_0) | fail) only [x209, w0', r4', nI_ltI, hv, if_true, pk_mul, nI_add, ib, bI_t, nI_01, if_false, tn2, mo_k_v, mo_k_n, mo_v_e, mo_gf_e, mo_pf_e, mo_ia_e, mo_ba_e, mo_za_e, mo_la_e, mo_aa_e, mo_le_e, mo_is_e, mo_bs_e, mo_zs_0, mo_zs_1, mo_ls_e, mo_as_e, mo_na_e, mo_aci_e, mo_acb_e, mo_acj_e, hp_gs, hp_gn, hp_ss, List.getElem?_cons_zero, List.getElem?_cons_succ, List.set_cons_zero, List.set_cons_succ]
      rfl
  have l := lp_wh (N := pnv p) (St := fun v => zz_Y 209 (57, [some (.ref (M)), some (.int (nI (q))), some (.int (nI (0))), some (.int (nI (v)))], [], hp_s k (M + 1) (iA 12639 (offA p tg q (upd (togA A1 294 q) (462 + q) (nI 0)) v)))) step
  have ho := off_out p tg hq (upd (togA A1 294 q) (462 + q) (nI 0)) (pnv p) hn20
  have r4' : offA p tg q (upd (togA A1 294 q) (462 + q) (nI 0)) (pnv p) 1 = nI (pnv p) := by
    rw [ho 1 (by omega), upd_ne (by omega), tog_out hq (by omega), r4]
  refine ⟨hp_s k (M + 1) (iA 12639 (offA p tg q (upd (togA A1 294 q) (462 + q) (nI 0)) (pnv p))), _, ?_, ⟨(hp_gn (by omega)).trans u1, hp_gs _ _ _, frm_s ⟨by omega, by omega⟩ u3⟩, acc_of (y := -1) hu (fun i hi => by rw [ho i (by omega), upd_ne (by omega), tog_out hq (by omega), hA1]), ?_⟩
  · rw [en209 w0]
    simp (disch := first | assumption | exact zz_nl_i _ | exact zz_nl_r _ | exact zz_nl_n | exact okv_i _ | exact okv_j _ | exact okv_0 | exact okv_1 | exact okv_o _ _ | exact okv_a _ _ | exact bI_okr _ | omega | exact llt_0 | ((repeat apply llt_s) <;> exact llt_0) | fail) only [x209, m_isRecord, e1, bI_t, nI_01, if_false, m_isThere w0 wA hr, ht, e, l1, tn', u1, nI_add, mo_k_v, mo_k_n, mo_v_e, mo_gf_e, mo_pf_e, mo_ia_e, mo_ba_e, mo_za_e, mo_la_e, mo_aa_e, mo_le_e, mo_is_e, mo_bs_e, mo_zs_0, mo_zs_1, mo_ls_e, mo_as_e, mo_na_e, mo_aci_e, mo_acb_e, mo_acj_e, hp_gs, hp_gn, hp_ss, List.getElem?_cons_zero, List.getElem?_cons_succ, List.set_cons_zero, List.set_cons_succ]
    refine l.trans ?_
    rw [x209_c57]
    simp (disch := first | assumption | exact zz_nl_i _ | exact zz_nl_r _ | exact zz_nl_n | exact okv_i _ | exact okv_j _ | exact okv_0 | exact okv_1 | exact okv_o _ _ | exact okv_a _ _ | exact bI_okr _ | omega | exact llt_0 | ((repeat apply llt_s) <;> exact llt_0) | fail) only [x209, u1, r4', nI_ltI, Nat.lt_irrefl, if_false, mo_k_v, mo_k_n, mo_v_e, mo_gf_e, mo_pf_e, mo_ia_e, mo_ba_e, mo_za_e, mo_la_e, mo_aa_e, mo_le_e, mo_is_e, mo_bs_e, mo_zs_0, mo_zs_1, mo_ls_e, mo_as_e, mo_na_e, mo_aci_e, mo_acb_e, mo_acj_e, hp_gs, hp_gn, hp_ss, List.getElem?_cons_zero, List.getElem?_cons_succ, List.set_cons_zero, List.set_cons_succ]
  · refine RS_put hk (-1) (nI 0) (fun i hi => ?_) (fun r hr1 => ?_) (fun v hv r hr1 => ?_) (fun r hr1 hrq => ?_) (Or.inl rfl)
    · rw [ho i (by omega), upd_ne (by omega), tog_out hq (by omega)]
    · rw [ho _ (by omega), upd_ne (by omega), tog_bit A1 294 hq hr1]
      have a := (hk.2.2.2.1 q hq).1
      rw [Nat.zero_add, decide_eq_false hrk] at a
      rw [a, decide_eq_true rfl]
      rfl
    · rw [off_bit p tg hq (pnv p) hn20 hA2 v hv r hr1, upd_ne (by omega), tog_out hq (by omega), nI_0, b_0]
    · rw [ho _ (by omega), upd_ne (by omega), tog_out hq (by omega)]
/-- a tag turned -/
theorem tag_turn {A1 : Nat → Int32} (hk : RS A1 0 p rk tg ch ba) {q v : Nat} (hq : q < 256) (hv : v < pnv p) {t : Int32} (ht : ∀ w, w < pnv p → bt t w = if w = v then !bt (tg q) v else bt (tg q) w) : RS (togA A1 (302 + 8 * v) q) 0 p (upd rk q (rk q)) (upd tg q t) ch ba := by
  have hn := hk.1.2.1
  have hT := hk.2.2.2.1 q hq
  rw [Nat.zero_add, Nat.zero_add] at hT
  refine RS_put hk (rk q) t (fun i hi => ?_) (fun r hr1 => ?_) (fun w hw r hr1 => ?_) (fun r hr1 hrq => ?_) (hT.2.imp id (fun a => ?_))
  · rw [tog_out hq (by omega)]
  · rw [tog_out hq (by omega)]
    by_cases c : r = q
    · subst c; rw [if_pos rfl]; exact hT.1
    · rw [if_neg c]
  · by_cases c : w = v
    · subst c
      rw [tog_bit A1 _ hq hr1]
      have a := hk.2.2.2.2 w hw q hq
      rw [Nat.zero_add] at a
      rw [a, ht w hw, if_pos rfl]
    · have a := hk.2.2.2.2 w hw r hr1
      rw [Nat.zero_add] at a
      rw [tog_out hq (by omega)]
      by_cases c2 : r = q
      · subst c2; rw [if_pos rfl, ht w hw, if_neg c, a]
      · rw [if_neg c2]
  · rw [tog_out hq (by omega)]
  · rw [tog_out hq (by omega)]
    exact a
theorem m_tag_bad (w0 : hp_g h M = some (mdO M mt mk mp mu ms mn mo ml mv me mf mw)) (wA : hp_g h (M + 1) = some (iA 12639 A)) (hr : RS A 0 p rk tg ch ba) (hc : CI p rk tg f ch ba) {x y : Int32} (hx : (isV 256 x && isV (pnv p) y) = false) : ∃ k, zz_run 210 [.ref M, .int x, .int y] h = some (some (.int (nI 1)), k) ∧ mU h k M (mdO M mt mk mp mu ms mn mo ml mv me mf mw) (upd (upd A 728 (nI 1)) 729 (-1)) := by
  obtain ⟨k, e, hu⟩ := m_refused_n w0 wA (r := 1) (by omega) (by omega) (-1)
  refine ⟨k, ?_, hu⟩
  have l1 : nI 0 < nI 1 := by decide +kernel
  have n14 : ¬ nI 1 = nI 4 := by decide +kernel
  rw [en210 w0]
  cases e1 : isV 256 x with
  | false => simp (disch := first | assumption | exact zz_nl_i _ | exact zz_nl_r _ | exact zz_nl_n | exact okv_i _ | exact okv_j _ | exact okv_0 | exact okv_1 | exact okv_o _ _ | exact okv_a _ _ | exact bI_okr _ | omega | exact llt_0 | ((repeat apply llt_s) <;> exact llt_0) | fail) only [x210_p0, x210_p1, m_isRecord, e1, bI_f, if_true, e, l1, n14, if_false, mo_k_v, mo_k_n, mo_v_e, mo_gf_e, mo_pf_e, mo_ia_e, mo_ba_e, mo_za_e, mo_la_e, mo_aa_e, mo_le_e, mo_is_e, mo_bs_e, mo_zs_0, mo_zs_1, mo_ls_e, mo_as_e, mo_na_e, mo_aci_e, mo_acb_e, mo_acj_e, hp_gs, hp_gn, hp_ss, List.getElem?_cons_zero, List.getElem?_cons_succ, List.set_cons_zero, List.set_cons_succ]
  | true =>
    rw [e1, Bool.true_and] at hx
    simp (disch := first | assumption | exact zz_nl_i _ | exact zz_nl_r _ | exact zz_nl_n | exact okv_i _ | exact okv_j _ | exact okv_0 | exact okv_1 | exact okv_o _ _ | exact okv_a _ _ | exact bI_okr _ | omega | exact llt_0 | ((repeat apply llt_s) <;> exact llt_0) | fail) only [x210_p0, x210_p1, m_isRecord, e1, bI_t, nI_01, if_false, m_isValue w0 wA hr, hx, bI_f, if_true, e, l1, n14, mo_k_v, mo_k_n, mo_v_e, mo_gf_e, mo_pf_e, mo_ia_e, mo_ba_e, mo_za_e, mo_la_e, mo_aa_e, mo_le_e, mo_is_e, mo_bs_e, mo_zs_0, mo_zs_1, mo_ls_e, mo_as_e, mo_na_e, mo_aci_e, mo_acb_e, mo_acj_e, hp_gs, hp_gn, hp_ss, List.getElem?_cons_zero, List.getElem?_cons_succ, List.set_cons_zero, List.set_cons_succ]
theorem hld_V (hw : wfP p) (hn : pnv p ≤ 20) (hn4 : pnh p ≤ 4) {v : Nat} (hv : v < pnv p) (t : Int32) : hldC p t v = -1 ∨ ∃ u, u < 20 ∧ hldC p t v = nI u := by
  obtain ⟨⟨d, hd, hod⟩, _⟩ := hw.2 v hv
  rw [hld_eq hw hn hd (by omega) hod]
  split
  · exact Or.inl rfl
  · rcases FI_cases (fun u => decide (pho p u = nI d) && bt t u) (pnv p) with ⟨i, h1, _, _, e⟩ | ⟨_, e⟩
    · exact Or.inr ⟨i, by omega, e⟩
    · exact Or.inl e
/-- what all tags ask first -/
theorem m_tag_r (w0 : hp_g h M = some (mdO M mt mk mp mu ms mn mo ml mv me mf mw)) (wA : hp_g h (M + 1) = some (iA 12639 A)) (hr : RS A 0 p rk tg ch ba) (hc : CI p rk tg f ch ba) {q v r : Nat} (hq : q < 256) (hv : v < pnv p) (hr3 : (thrC rk (nI q) = false ∧ r = 3) ∨ (thrC rk (nI q) = true ∧ bt (tg q) v = true ∧ r = 2) ∨ (thrC rk (nI q) = true ∧ bt (tg q) v = false ∧ ¬ hldC p (tg q) v = -1 ∧ r = 4)) : ∃ k, zz_run 210 [.ref M, .int (nI q), .int (nI v)] h = some (some (.int (nI r)), k) ∧ mU h k M (mdO M mt mk mp mu ms mn mo ml mv me mf mw) (upd (upd A 728 (nI r)) 729 (if r = 4 then hldC p (tg q) v else -1)) := by
  have hn := hr.1.2.1
  have hn4 := hr.1.1
  obtain ⟨k, e, hu⟩ := m_refused_n w0 wA (r := r) (by omega) (by omega) (if r = 4 then hldC p (tg q) v else -1)
  refine ⟨k, ?_, hu⟩
  have e1 : isV 256 (nI q) = true := isV_nI (by omega) hq
  have e2 : isV (pnv p) (nI v) = true := isV_nI (by omega) hv
  have hd := m_held w0 wA hr hc.1 (by omega) hq hv
  have t := hr.2.2.2.2 v hv q hq
  have ib := m_isBit w0 wA (at_ := 302 + 8 * v) hq (by omega)
  rw [Nat.zero_add] at t
  rw [t] at ib
  rw [en210 w0]
  rcases hr3 with ⟨c1, rfl⟩ | ⟨c1, c2, rfl⟩ | ⟨c1, c2, c3, rfl⟩
  · rw [if_neg (by omega)] at e
    have l1 : nI 0 < nI 3 := by decide +kernel
    have n14 : ¬ nI 3 = nI 4 := by decide +kernel
    simp (disch := first | assumption | exact zz_nl_i _ | exact zz_nl_r _ | exact zz_nl_n | exact okv_i _ | exact okv_j _ | exact okv_0 | exact okv_1 | exact okv_o _ _ | exact okv_a _ _ | exact bI_okr _ | omega | exact llt_0 | ((repeat apply llt_s) <;> exact llt_0) | fail) only [x210_p0, x210_p1, m_isRecord, e1, bI_t, nI_01, if_false, m_isValue w0 wA hr, e2, hd, m_isThere w0 wA hr, c1, bI_f, if_true, e, l1, n14, mo_k_v, mo_k_n, mo_v_e, mo_gf_e, mo_pf_e, mo_ia_e, mo_ba_e, mo_za_e, mo_la_e, mo_aa_e, mo_le_e, mo_is_e, mo_bs_e, mo_zs_0, mo_zs_1, mo_ls_e, mo_as_e, mo_na_e, mo_aci_e, mo_acb_e, mo_acj_e, hp_gs, hp_gn, hp_ss, List.getElem?_cons_zero, List.getElem?_cons_succ, List.set_cons_zero, List.set_cons_succ]
  · rw [if_neg (by omega)] at e
    have l1 : nI 0 < nI 2 := by decide +kernel
    have n14 : ¬ nI 2 = nI 4 := by decide +kernel
    rw [c2] at ib
    simp (disch := first | assumption | exact zz_nl_i _ | exact zz_nl_r _ | exact zz_nl_n | exact okv_i _ | exact okv_j _ | exact okv_0 | exact okv_1 | exact okv_o _ _ | exact okv_a _ _ | exact bI_okr _ | omega | exact llt_0 | ((repeat apply llt_s) <;> exact llt_0) | fail) only [x210_p0, x210_p1, m_isRecord, e1, bI_t, nI_01, if_false, m_isValue w0 wA hr, e2, hd, m_isThere w0 wA hr, c1, pk_mul, nI_add, ib, if_true, e, l1, n14, mo_k_v, mo_k_n, mo_v_e, mo_gf_e, mo_pf_e, mo_ia_e, mo_ba_e, mo_za_e, mo_la_e, mo_aa_e, mo_le_e, mo_is_e, mo_bs_e, mo_zs_0, mo_zs_1, mo_ls_e, mo_as_e, mo_na_e, mo_aci_e, mo_acb_e, mo_acj_e, hp_gs, hp_gn, hp_ss, List.getElem?_cons_zero, List.getElem?_cons_succ, List.set_cons_zero, List.set_cons_succ]
  · rw [if_pos rfl] at e
    have l1 : nI 0 < nI 4 := by decide +kernel
    rw [c2] at ib
    obtain ⟨u, hu20, hue⟩ := (hld_V hc.1 hn hn4 hv (tg q)).resolve_left c3
    rw [hue] at hd e
    have l2 : ¬ nI u < nI 0 := nI_nlt0 (by omega)
    simp (disch := first | assumption | exact zz_nl_i _ | exact zz_nl_r _ | exact zz_nl_n | exact okv_i _ | exact okv_j _ | exact okv_0 | exact okv_1 | exact okv_o _ _ | exact okv_a _ _ | exact bI_okr _ | omega | exact llt_0 | ((repeat apply llt_s) <;> exact llt_0) | fail) only [x210_p0, x210_p1, m_isRecord, e1, bI_t, nI_01, if_false, m_isValue w0 wA hr, e2, hd, m_isThere w0 wA hr, c1, pk_mul, nI_add, ib, bI_f, if_true, e, l1, l2, mo_k_v, mo_k_n, mo_v_e, mo_gf_e, mo_pf_e, mo_ia_e, mo_ba_e, mo_za_e, mo_la_e, mo_aa_e, mo_le_e, mo_is_e, mo_bs_e, mo_zs_0, mo_zs_1, mo_ls_e, mo_as_e, mo_na_e, mo_aci_e, mo_acb_e, mo_acj_e, hp_gs, hp_gn, hp_ss, List.getElem?_cons_zero, List.getElem?_cons_succ, List.set_cons_zero, List.set_cons_succ]
theorem m_tag_ok (w0 : hp_g h M = some (mdO M mt mk mp mu ms mn mo ml mv me mf mw)) (wA : hp_g h (M + 1) = some (iA 12639 A)) (hr : RS A 0 p rk tg ch ba) (hc : CI p rk tg f ch ba) {u : Nat} (hu : u ≤ 10) (hmu : mu = nI u) {q v : Nat} (hq : q < 256) (hv : v < pnv p) (ht : thrC rk (nI q) = true) (hb : bt (tg q) v = false) (hh : hldC p (tg q) v = -1) : ∃ k B, zz_run 210 [.ref M, .int (nI q), .int (nI v)] h = some (some (.int (nI 0)), k) ∧ mU h k M (mdO M mt mk mp (nI (min (u + 1) 10)) ms mn mo ml mv me mf mw) B ∧ acc A B u ∧ RS B 0 p (upd rk q (rk q)) (upd tg q (tg q ||| sh1 v)) ch ba := by
  have hn := hr.1.2.1
  obtain ⟨k, e, u1, u2, u3⟩ := m_refused_0 w0 wA hu hmu (-1)
  have l1 : ¬ nI 0 < nI 0 := by decide +kernel
  have n04 : ¬ nI 0 = nI 4 := by decide +kernel
  have e1 : isV 256 (nI q) = true := isV_nI (by omega) hq
  have e2 : isV (pnv p) (nI v) = true := isV_nI (by omega) hv
  have hd := m_held w0 wA hr hc.1 (by omega) hq hv
  rw [hh] at hd
  have t := hr.2.2.2.2 v hv q hq
  have ib := m_isBit w0 wA (at_ := 302 + 8 * v) hq (by omega)
  rw [Nat.zero_add] at t
  rw [t, hb] at ib
  have hk := kp_RS (y := -1) hu hr
  generalize hA1 : kpA (upd (upd A 728 (nI 0)) 729 (-1)) u = A1 at *
  have tn := m_turns u1 u2 (a := 302 + 8 * v) hq (by omega)
  refine ⟨hp_s k (M + 1) (iA 12639 (togA A1 (302 + 8 * v) q)), _, ?_, ⟨(hp_gn (by omega)).trans u1, hp_gs _ _ _, frm_s ⟨by omega, by omega⟩ u3⟩, acc_of (y := -1) hu (fun i hi => by rw [tog_out hq (by omega), hA1]), tag_turn hk hq hv (fun w hw => ?_)⟩
  · rw [en210 w0]
    simp (disch := first | assumption | exact zz_nl_i _ | exact zz_nl_r _ | exact zz_nl_n | exact okv_i _ | exact okv_j _ | exact okv_0 | exact okv_1 | exact okv_o _ _ | exact okv_a _ _ | exact bI_okr _ | omega | exact llt_0 | ((repeat apply llt_s) <;> exact llt_0) | fail) only [x210_p0, x210_p1, m_isRecord, e1, bI_t, nI_01, if_false, m_isValue w0 wA hr, e2, hd, m_isThere w0 wA hr, ht, pk_mul, nI_add, ib, bI_f, if_true, m1_lt0, e, l1, n04, tn, mo_k_v, mo_k_n, mo_v_e, mo_gf_e, mo_pf_e, mo_ia_e, mo_ba_e, mo_za_e, mo_la_e, mo_aa_e, mo_le_e, mo_is_e, mo_bs_e, mo_zs_0, mo_zs_1, mo_ls_e, mo_as_e, mo_na_e, mo_aci_e, mo_acb_e, mo_acj_e, hp_gs, hp_gn, hp_ss, List.getElem?_cons_zero, List.getElem?_cons_succ, List.set_cons_zero, List.set_cons_succ]
    rfl
  · rw [b_or, b_sh1 (by omega) (by omega)]
    by_cases c : w = v
    · subst c; rw [decide_eq_true rfl, if_pos rfl, hb]; rfl
    · rw [decide_eq_false c, if_neg c, Bool.or_false]
theorem m_untag_bad (w0 : hp_g h M = some (mdO M mt mk mp mu ms mn mo ml mv me mf mw)) (wA : hp_g h (M + 1) = some (iA 12639 A)) (hr : RS A 0 p rk tg ch ba) (hc : CI p rk tg f ch ba) {x y : Int32} (hx : (isV 256 x && isV (pnv p) y) = false) : ∃ k, zz_run 212 [.ref M, .int x, .int y] h = some (some (.int (nI 1)), k) ∧ mU h k M (mdO M mt mk mp mu ms mn mo ml mv me mf mw) (upd (upd A 728 (nI 1)) 729 (-1)) := by
  obtain ⟨k, e, hu⟩ := m_refused_n w0 wA (r := 1) (by omega) (by omega) (-1)
  refine ⟨k, ?_, hu⟩
  have l1 : nI 0 < nI 1 := by decide +kernel
  rw [en212 w0]
  cases e1 : isV 256 x with
  | false => simp (disch := first | assumption | exact zz_nl_i _ | exact zz_nl_r _ | exact zz_nl_n | exact okv_i _ | exact okv_j _ | exact okv_0 | exact okv_1 | exact okv_o _ _ | exact okv_a _ _ | exact bI_okr _ | omega | exact llt_0 | ((repeat apply llt_s) <;> exact llt_0) | fail) only [x212, m_isRecord, e1, bI_f, if_true, e, l1, mo_k_v, mo_k_n, mo_v_e, mo_gf_e, mo_pf_e, mo_ia_e, mo_ba_e, mo_za_e, mo_la_e, mo_aa_e, mo_le_e, mo_is_e, mo_bs_e, mo_zs_0, mo_zs_1, mo_ls_e, mo_as_e, mo_na_e, mo_aci_e, mo_acb_e, mo_acj_e, hp_gs, hp_gn, hp_ss, List.getElem?_cons_zero, List.getElem?_cons_succ, List.set_cons_zero, List.set_cons_succ]
  | true =>
    rw [e1, Bool.true_and] at hx
    simp (disch := first | assumption | exact zz_nl_i _ | exact zz_nl_r _ | exact zz_nl_n | exact okv_i _ | exact okv_j _ | exact okv_0 | exact okv_1 | exact okv_o _ _ | exact okv_a _ _ | exact bI_okr _ | omega | exact llt_0 | ((repeat apply llt_s) <;> exact llt_0) | fail) only [x212, m_isRecord, e1, bI_t, nI_01, if_false, m_isValue w0 wA hr, hx, bI_f, if_true, e, l1, mo_k_v, mo_k_n, mo_v_e, mo_gf_e, mo_pf_e, mo_ia_e, mo_ba_e, mo_za_e, mo_la_e, mo_aa_e, mo_le_e, mo_is_e, mo_bs_e, mo_zs_0, mo_zs_1, mo_ls_e, mo_as_e, mo_na_e, mo_aci_e, mo_acb_e, mo_acj_e, hp_gs, hp_gn, hp_ss, List.getElem?_cons_zero, List.getElem?_cons_succ, List.set_cons_zero, List.set_cons_succ]
theorem m_untag_not (w0 : hp_g h M = some (mdO M mt mk mp mu ms mn mo ml mv me mf mw)) (wA : hp_g h (M + 1) = some (iA 12639 A)) (hr : RS A 0 p rk tg ch ba) (hc : CI p rk tg f ch ba) {q v : Nat} (hq : q < 256) (hv : v < pnv p) (hn3 : thrC rk (nI q) = false ∨ (thrC rk (nI q) = true ∧ bt (tg q) v = false)) : ∃ k, zz_run 212 [.ref M, .int (nI q), .int (nI v)] h = some (some (.int (nI 3)), k) ∧ mU h k M (mdO M mt mk mp mu ms mn mo ml mv me mf mw) (upd (upd A 728 (nI 3)) 729 (-1)) := by
  have hn := hr.1.2.1
  obtain ⟨k, e, hu⟩ := m_refused_n w0 wA (r := 3) (by omega) (by omega) (-1)
  refine ⟨k, ?_, hu⟩
  have l1 : nI 0 < nI 3 := by decide +kernel
  have e1 : isV 256 (nI q) = true := isV_nI (by omega) hq
  have e2 : isV (pnv p) (nI v) = true := isV_nI (by omega) hv
  have t := hr.2.2.2.2 v hv q hq
  have ib := m_isBit w0 wA (at_ := 302 + 8 * v) hq (by omega)
  rw [Nat.zero_add] at t
  rw [t] at ib
  rw [en212 w0]
  rcases hn3 with c | ⟨c, c2⟩
  · simp (disch := first | assumption | exact zz_nl_i _ | exact zz_nl_r _ | exact zz_nl_n | exact okv_i _ | exact okv_j _ | exact okv_0 | exact okv_1 | exact okv_o _ _ | exact okv_a _ _ | exact bI_okr _ | omega | exact llt_0 | ((repeat apply llt_s) <;> exact llt_0) | fail) only [x212, m_isRecord, e1, bI_t, nI_01, if_false, m_isValue w0 wA hr, e2, m_isThere w0 wA hr, c, bI_f, if_true, e, l1, mo_k_v, mo_k_n, mo_v_e, mo_gf_e, mo_pf_e, mo_ia_e, mo_ba_e, mo_za_e, mo_la_e, mo_aa_e, mo_le_e, mo_is_e, mo_bs_e, mo_zs_0, mo_zs_1, mo_ls_e, mo_as_e, mo_na_e, mo_aci_e, mo_acb_e, mo_acj_e, hp_gs, hp_gn, hp_ss, List.getElem?_cons_zero, List.getElem?_cons_succ, List.set_cons_zero, List.set_cons_succ]
  · rw [c2] at ib
    simp (disch := first | assumption | exact zz_nl_i _ | exact zz_nl_r _ | exact zz_nl_n | exact okv_i _ | exact okv_j _ | exact okv_0 | exact okv_1 | exact okv_o _ _ | exact okv_a _ _ | exact bI_okr _ | omega | exact llt_0 | ((repeat apply llt_s) <;> exact llt_0) | fail) only [x212, m_isRecord, e1, bI_t, nI_01, if_false, m_isValue w0 wA hr, e2, m_isThere w0 wA hr, c, pk_mul, nI_add, ib, bI_f, if_true, e, l1, mo_k_v, mo_k_n, mo_v_e, mo_gf_e, mo_pf_e, mo_ia_e, mo_ba_e, mo_za_e, mo_la_e, mo_aa_e, mo_le_e, mo_is_e, mo_bs_e, mo_zs_0, mo_zs_1, mo_ls_e, mo_as_e, mo_na_e, mo_aci_e, mo_acb_e, mo_acj_e, hp_gs, hp_gn, hp_ss, List.getElem?_cons_zero, List.getElem?_cons_succ, List.set_cons_zero, List.set_cons_succ]
theorem m_untag_ok (w0 : hp_g h M = some (mdO M mt mk mp mu ms mn mo ml mv me mf mw)) (wA : hp_g h (M + 1) = some (iA 12639 A)) (hr : RS A 0 p rk tg ch ba) (hc : CI p rk tg f ch ba) {u : Nat} (hu : u ≤ 10) (hmu : mu = nI u) {q v : Nat} (hq : q < 256) (hv : v < pnv p) (ht : thrC rk (nI q) = true) (hb : bt (tg q) v = true) : ∃ k B, zz_run 212 [.ref M, .int (nI q), .int (nI v)] h = some (some (.int (nI 0)), k) ∧ mU h k M (mdO M mt mk mp (nI (min (u + 1) 10)) ms mn mo ml mv me mf mw) B ∧ acc A B u ∧ RS B 0 p (upd rk q (rk q)) (upd tg q (tg q &&& (sh1 v ^^^ -1))) ch ba := by
  have hn := hr.1.2.1
  obtain ⟨k, e, u1, u2, u3⟩ := m_refused_0 w0 wA hu hmu (-1)
  have l1 : ¬ nI 0 < nI 0 := by decide +kernel
  have e1 : isV 256 (nI q) = true := isV_nI (by omega) hq
  have e2 : isV (pnv p) (nI v) = true := isV_nI (by omega) hv
  have t := hr.2.2.2.2 v hv q hq
  have ib := m_isBit w0 wA (at_ := 302 + 8 * v) hq (by omega)
  rw [Nat.zero_add] at t
  rw [t, hb] at ib
  have hk := kp_RS (y := -1) hu hr
  generalize hA1 : kpA (upd (upd A 728 (nI 0)) 729 (-1)) u = A1 at *
  have tn := m_turns u1 u2 (a := 302 + 8 * v) hq (by omega)
  refine ⟨hp_s k (M + 1) (iA 12639 (togA A1 (302 + 8 * v) q)), _, ?_, ⟨(hp_gn (by omega)).trans u1, hp_gs _ _ _, frm_s ⟨by omega, by omega⟩ u3⟩, acc_of (y := -1) hu (fun i hi => by rw [tog_out hq (by omega), hA1]), tag_turn hk hq hv (fun w hw => ?_)⟩
  · rw [en212 w0]
    simp (disch := first | assumption | exact zz_nl_i _ | exact zz_nl_r _ | exact zz_nl_n | exact okv_i _ | exact okv_j _ | exact okv_0 | exact okv_1 | exact okv_o _ _ | exact okv_a _ _ | exact bI_okr _ | omega | exact llt_0 | ((repeat apply llt_s) <;> exact llt_0) | fail) only [x212, m_isRecord, e1, bI_t, nI_01, if_false, m_isValue w0 wA hr, e2, m_isThere w0 wA hr, ht, pk_mul, nI_add, ib, e, l1, tn, mo_k_v, mo_k_n, mo_v_e, mo_gf_e, mo_pf_e, mo_ia_e, mo_ba_e, mo_za_e, mo_la_e, mo_aa_e, mo_le_e, mo_is_e, mo_bs_e, mo_zs_0, mo_zs_1, mo_ls_e, mo_as_e, mo_na_e, mo_aci_e, mo_acb_e, mo_acj_e, hp_gs, hp_gn, hp_ss, List.getElem?_cons_zero, List.getElem?_cons_succ, List.set_cons_zero, List.set_cons_succ]
    rfl
  · rw [b_and, b_not (by omega), b_sh1 (by omega) (by omega)]
    by_cases c : w = v
    · subst c; rw [decide_eq_true rfl, if_pos rfl, hb]; rfl
    · rw [decide_eq_false c, if_neg c, Bool.not_false, Bool.and_true]
end
