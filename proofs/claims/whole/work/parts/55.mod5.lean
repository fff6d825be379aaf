/-! the reference: told, parting, sums -/
theorem nmR_cong {A B : Nat → Int32} {a b : Nat} {w : Int64} (hn : nmR A a w) (he : ∀ i, i ≤ 8 → B (b + i) = A (a + i)) : nmR B b w := by
  obtain ⟨n, l, h1, h2, h3, h4, h5⟩ := hn
  refine ⟨n, l, h1, h2, (he 0 (by omega)).trans h3, fun i hi => ?_, h5⟩
  obtain ⟨g1, g2, g3⟩ := h4 i hi
  refine ⟨g1, g2, ?_⟩
  have := he (1 + i) (by omega)
  rw [← Nat.add_assoc, ← Nat.add_assoc] at this
  exact this.trans g3
section
variable {h : zz_H} {M : Nat} {A : Nat → Int32} {mt mk mp mu ms mn mo ml : Int32} {mv : Int64} {me mf mw : Int32} {p : Pl} {rk tg f ch ba : Nat → Int32}
theorem RS_ch (hr : RS A 0 p rk tg ch ba) {v : Nat} (hv : v < pnv p) (x : Int32) : RS (upd A (54 + 12 * v + 2) x) 0 p rk tg (upd ch v x) ba := by
  obtain ⟨⟨r1, r2, r3, r4⟩, rH, rV, rT, rG⟩ := hr
  refine ⟨⟨r1, r2, ?_, ?_⟩, fun d hd => ?_, fun u hu => ?_, fun q hq => ?_, fun u hu q hq => ?_⟩
  · rw [upd_ne (by omega)]; exact r3
  · rw [upd_ne (by omega)]; exact r4
  · obtain ⟨a1, a2, a3⟩ := rH d hd
    refine ⟨?_, ?_, nmR_cong a3 (fun i hi => upd_ne (by omega))⟩
    · rw [upd_ne (by omega)]; exact a1
    · rw [upd_ne (by omega)]; exact a2
  · obtain ⟨a1, a2, a3, a4⟩ := rV u hu
    refine ⟨?_, ?_, ?_, nmR_cong a4 (fun i hi => upd_ne (by omega))⟩
    · rw [upd_ne (by omega)]; exact a1
    · rw [upd_ne (by omega)]; exact a2
    · by_cases e : u = v
      · subst e
        rw [Nat.zero_add, upd_eq, upd_eq]
      · rw [upd_ne (by omega), upd_ne e]; exact a3
  · obtain ⟨a1, a2⟩ := rT q hq
    refine ⟨?_, ?_⟩
    · rw [upd_ne (by omega)]; exact a1
    · rw [upd_ne (by omega)]; exact a2
  · rw [upd_ne (by omega)]; exact rG u hu q hq
theorem CI_ch (hc : CI p rk tg f ch ba) {v : Nat} {x : Int32} (hx : x = nI 0 ∨ x = nI 1 ∨ x = nI 2) : CI p rk tg f (upd ch v x) ba := by
  obtain ⟨c1, c2, c3, c4, c5, c6⟩ := hc
  refine ⟨c1, c2, fun u hu => ?_, c4, c5, c6⟩
  by_cases e : u = v
  · subst e; rw [upd_eq]; exact hx
  · rw [upd_ne e]; exact c3 u hu
theorem upd_back (A : Nat → Int32) (i : Nat) (x : Int32) : upd (upd A i x) i (A i) = A := by
  funext j
  by_cases e : j = i
  · subst e; rw [upd_eq]
  · rw [upd_ne e, upd_ne e]
theorem m_aheadOf (w0 : hp_g h M = some (mdO M mt mk mp mu ms mn mo ml mv me mf mw)) (wA : hp_g h (M + 1) = some (iA 12639 A)) (hr : RS A 0 p rk tg ch ba) (hc : CI p rk tg f ch ba) (hs : scr3 h M) {v : Nat} (hv : v < pnv p) : ∃ k, zz_run 175 [.ref M, .int (nI v)] h = some (some (.int (nI (amt (fun blk => lfW p f ch ba blk (-1) (nI v) &&& f (8 * 20 + blk))))), k) ∧ scr3 k M ∧ frm h k (M + 4) (M + 7) := by
  have hv20 : v < 20 := by have := hr.1.2.1; omega
  have w0' : hp_g (hp_s h (M + 1) (iA 12639 (upd A (54 + 12 * v + 2) (nI 1)))) M = some (mdO M mt mk mp mu ms mn mo ml mv me mf mw) := (hp_gn (by omega)).trans w0
  obtain ⟨k, e, a6, s, hf⟩ := m_leftMany w0' (hp_gs _ _ _) (RS_ch hr hv (nI 1)) (CI_ch hc (Or.inr (Or.inl rfl))) (scr3_sam hs (fun b h1 h2 => hp_gn (by omega)))
  have w0'' := (hf.2.2.2 M (by omega)).trans w0'
  have wA'' := (hf.2.2.2 (M + 1) (by omega)).trans (hp_gs _ _ _)
  rw [amt_cong (V := fun blk => lfW p f ch ba blk (-1) (nI v) &&& f (8 * 20 + blk)) (fun b hb => by rw [lf_there hc.1 f ch ba b _ _ hr.1.2.1, lf_ex hc.1 f ch ba b _ hr.1.2.1 hv])] at e
  refine ⟨hp_s k (M + 1) (iA 12639 A), ?_, scr3_sam s (fun b h1 h2 => hp_gn (by omega)), ?_⟩
  · rw [en175 w0]
    simp (disch := first | assumption | exact zz_nl_i _ | exact zz_nl_r _ | exact zz_nl_n | exact okv_i _ | exact okv_j _ | exact okv_0 | exact okv_1 | exact okv_o _ _ | exact okv_a _ _ | exact bI_okr _ | omega | exact llt_0 | ((repeat apply llt_s) <;> exact llt_0) | fail) only [x175, w0, wA, m_chosen w0 wA hv20, m_valueAt, nI_add, e, w0'', wA'', upd_back, mo_k_v, mo_k_n, mo_v_e, mo_gf_e, mo_pf_e, mo_ia_e, mo_ba_e, mo_za_e, mo_la_e, mo_aa_e, mo_le_e, mo_is_e, mo_bs_e, mo_zs_0, mo_zs_1, mo_ls_e, mo_as_e, mo_na_e, mo_aci_e, mo_acb_e, mo_acj_e, hp_gs, hp_gn, hp_ss, List.getElem?_cons_zero, List.getElem?_cons_succ, List.set_cons_zero, List.set_cons_succ]
  · refine ⟨hf.1, hf.2.1, hf.2.2.1, fun b hb => ?_⟩
    by_cases c : b = M + 1
    · subst c
      rw [hp_gs, wA]
    · rw [hp_gn c, hf.2.2.2 b hb, hp_gn c]
theorem m_isIdle (w0 : hp_g h M = some (mdO M mt mk mp mu ms mn mo ml mv me mf mw)) (wA : hp_g h (M + 1) = some (iA 12639 A)) (hr : RS A 0 p rk tg ch ba) (hc : CI p rk tg f ch ba) (hs : scr3 h M) {v : Nat} (hv : v < pnv p) : ∃ k, zz_run 174 [.ref M, .int (nI v)] h = some (some (.int (bI (idB p f ch ba v))), k) ∧ scr3 k M ∧ frm h k (M + 4) (M + 7) := by
  have hv20 : v < 20 := by have := hr.1.2.1; omega
  have q3 := (hr.2.2.1 v hv).2.2.1
  rw [Nat.zero_add] at q3
  unfold idB
  by_cases c : ch v = nI 0
  · obtain ⟨k, e, s, hf⟩ := m_aheadOf w0 wA hr hc hs hv
    have ct := eq_true c
    refine ⟨k, ?_, s, hf⟩
    rw [en174 w0]
    have hle := amt_le (fun blk => lfW p f ch ba blk (-1) (nI v) &&& f (8 * 20 + blk))
    by_cases c2 : amt (fun blk => lfW p f ch ba blk (-1) (nI v) &&& f (8 * 20 + blk)) = 0
    · simp (disch := first | assumption | exact zz_nl_i _ | exact zz_nl_r _ | exact zz_nl_n | exact okv_i _ | exact okv_j _ | exact okv_0 | exact okv_1 | exact okv_o _ _ | exact okv_a _ _ | exact bI_okr _ | omega | exact llt_0 | ((repeat apply llt_s) <;> exact llt_0) | fail) only [x174, xb174, m_chosen w0 wA hv20, q3, ct, if_true, e, nI_eq, c2, decide_true, Bool.and_self, bI_t, mo_k_v, mo_k_n, mo_v_e, mo_gf_e, mo_pf_e, mo_ia_e, mo_ba_e, mo_za_e, mo_la_e, mo_aa_e, mo_le_e, mo_is_e, mo_bs_e, mo_zs_0, mo_zs_1, mo_ls_e, mo_as_e, mo_na_e, mo_aci_e, mo_acb_e, mo_acj_e, hp_gs, hp_gn, hp_ss, List.getElem?_cons_zero, List.getElem?_cons_succ, List.set_cons_zero, List.set_cons_succ]
    · simp (disch := first | assumption | exact zz_nl_i _ | exact zz_nl_r _ | exact zz_nl_n | exact okv_i _ | exact okv_j _ | exact okv_0 | exact okv_1 | exact okv_o _ _ | exact okv_a _ _ | exact bI_okr _ | omega | exact llt_0 | ((repeat apply llt_s) <;> exact llt_0) | fail) only [x174, xb174, m_chosen w0 wA hv20, q3, ct, if_true, e, nI_eq, c2, if_false, decide_true, decide_false, Bool.true_and, bI_f, mo_k_v, mo_k_n, mo_v_e, mo_gf_e, mo_pf_e, mo_ia_e, mo_ba_e, mo_za_e, mo_la_e, mo_aa_e, mo_le_e, mo_is_e, mo_bs_e, mo_zs_0, mo_zs_1, mo_ls_e, mo_as_e, mo_na_e, mo_aci_e, mo_acb_e, mo_acj_e, hp_gs, hp_gn, hp_ss, List.getElem?_cons_zero, List.getElem?_cons_succ, List.set_cons_zero, List.set_cons_succ]
  · refine ⟨h, ?_, hs, frm_refl _ _ _⟩
    rw [en174 w0]
    simp (disch := first | assumption | exact zz_nl_i _ | exact zz_nl_r _ | exact zz_nl_n | exact okv_i _ | exact okv_j _ | exact okv_0 | exact okv_1 | exact okv_o _ _ | exact okv_a _ _ | exact bI_okr _ | omega | exact llt_0 | ((repeat apply llt_s) <;> exact llt_0) | fail) only [x174, xb174, m_chosen w0 wA hv20, q3, c, if_false, decide_false, Bool.false_and, bI_f, mo_k_v, mo_k_n, mo_v_e, mo_gf_e, mo_pf_e, mo_ia_e, mo_ba_e, mo_za_e, mo_la_e, mo_aa_e, mo_le_e, mo_is_e, mo_bs_e, mo_zs_0, mo_zs_1, mo_ls_e, mo_as_e, mo_na_e, mo_aci_e, mo_acb_e, mo_acj_e, hp_gs, hp_gn, hp_ss, List.getElem?_cons_zero, List.getElem?_cons_succ, List.set_cons_zero, List.set_cons_succ]
theorem m_isSure (w0 : hp_g h M = some (mdO M mt mk mp mu ms mn mo ml mv me mf mw)) (wA : hp_g h (M + 1) = some (iA 12639 A)) (hr : RS A 0 p rk tg ch ba) (hc : CI p rk tg f ch ba) (hs : scr3 h M) {v : Nat} (hv : v < pnv p) : ∃ k, zz_run 176 [.ref M, .int (nI v)] h = some (some (.int (bI (suB (fun b => lfW p f ch ba b (-1) (-1)) f ch v))), k) ∧ scr3 k M ∧ frm h k (M + 4) (M + 7) := by
  have hv20 : v < 20 := by have := hr.1.2.1; omega
  have q3 := (hr.2.2.1 v hv).2.2.1
  rw [Nat.zero_add] at q3
  unfold suB
  by_cases c : ch v = nI 0
  · obtain ⟨k, e, a6, s, hf⟩ := m_leftMany w0 wA hr hc hs
    have ct := eq_true c
    have w0' := (hf.2.2.2 M (by omega)).trans w0
    have wA' := (hf.2.2.2 (M + 1) (by omega)).trans wA
    obtain ⟨V5, a5⟩ := s.2.1
    obtain ⟨k2, e2, s2, hf2⟩ := m_inSet w0' wA' hr hc a5 a6 hv
    have hle := amt_le (fun b => lfW p f ch ba b (-1) (-1))
    have hle2 := amt_le (fun b => lfW p f ch ba b (-1) (-1) &&& f (8 * v + b))
    by_cases c2 : 0 < amt (fun b => lfW p f ch ba b (-1) (-1))
    · refine ⟨k2, ?_, ⟨?_, s2, _, ar8_sam a6 (hf2.2.2.2 _ (by omega))⟩, frm_trans hf (frm_mono hf2 (by omega) (by omega))⟩
      · rw [en176 w0]
        by_cases c3 : amt (fun b => lfW p f ch ba b (-1) (-1) &&& f (8 * v + b)) = amt (fun b => lfW p f ch ba b (-1) (-1))
        · simp (disch := first | assumption | exact zz_nl_i _ | exact zz_nl_r _ | exact zz_nl_n | exact okv_i _ | exact okv_j _ | exact okv_0 | exact okv_1 | exact okv_o _ _ | exact okv_a _ _ | exact bI_okr _ | omega | exact llt_0 | ((repeat apply llt_s) <;> exact llt_0) | fail) only [x176, xb176, m_chosen w0 wA hv20, q3, ct, if_true, e, nI_ltI, c2, e2, nI_eq, c3, decide_true, Bool.and_self, bI_t, mo_k_v, mo_k_n, mo_v_e, mo_gf_e, mo_pf_e, mo_ia_e, mo_ba_e, mo_za_e, mo_la_e, mo_aa_e, mo_le_e, mo_is_e, mo_bs_e, mo_zs_0, mo_zs_1, mo_ls_e, mo_as_e, mo_na_e, mo_aci_e, mo_acb_e, mo_acj_e, hp_gs, hp_gn, hp_ss, List.getElem?_cons_zero, List.getElem?_cons_succ, List.set_cons_zero, List.set_cons_succ]
        · simp (disch := first | assumption | exact zz_nl_i _ | exact zz_nl_r _ | exact zz_nl_n | exact okv_i _ | exact okv_j _ | exact okv_0 | exact okv_1 | exact okv_o _ _ | exact okv_a _ _ | exact bI_okr _ | omega | exact llt_0 | ((repeat apply llt_s) <;> exact llt_0) | fail) only [x176, xb176, m_chosen w0 wA hv20, q3, ct, if_true, e, nI_ltI, c2, e2, nI_eq, c3, if_false, decide_true, decide_false, Bool.true_and, Bool.false_and, bI_f, mo_k_v, mo_k_n, mo_v_e, mo_gf_e, mo_pf_e, mo_ia_e, mo_ba_e, mo_za_e, mo_la_e, mo_aa_e, mo_le_e, mo_is_e, mo_bs_e, mo_zs_0, mo_zs_1, mo_ls_e, mo_as_e, mo_na_e, mo_aci_e, mo_acb_e, mo_acj_e, hp_gs, hp_gn, hp_ss, List.getElem?_cons_zero, List.getElem?_cons_succ, List.set_cons_zero, List.set_cons_succ]
      · obtain ⟨V4, a4⟩ := s.1
        exact ⟨V4, ar8_sam a4 (hf2.2.2.2 _ (by omega))⟩
    · refine ⟨k, ?_, s, hf⟩
      rw [en176 w0]
      simp (disch := first | assumption | exact zz_nl_i _ | exact zz_nl_r _ | exact zz_nl_n | exact okv_i _ | exact okv_j _ | exact okv_0 | exact okv_1 | exact okv_o _ _ | exact okv_a _ _ | exact bI_okr _ | omega | exact llt_0 | ((repeat apply llt_s) <;> exact llt_0) | fail) only [x176, xb176, m_chosen w0 wA hv20, q3, ct, if_true, e, nI_ltI, c2, if_false, decide_false, Bool.and_false, bI_f, mo_k_v, mo_k_n, mo_v_e, mo_gf_e, mo_pf_e, mo_ia_e, mo_ba_e, mo_za_e, mo_la_e, mo_aa_e, mo_le_e, mo_is_e, mo_bs_e, mo_zs_0, mo_zs_1, mo_ls_e, mo_as_e, mo_na_e, mo_aci_e, mo_acb_e, mo_acj_e, hp_gs, hp_gn, hp_ss, List.getElem?_cons_zero, List.getElem?_cons_succ, List.set_cons_zero, List.set_cons_succ]
  · refine ⟨h, ?_, hs, frm_refl _ _ _⟩
    rw [en176 w0]
    simp (disch := first | assumption | exact zz_nl_i _ | exact zz_nl_r _ | exact zz_nl_n | exact okv_i _ | exact okv_j _ | exact okv_0 | exact okv_1 | exact okv_o _ _ | exact okv_a _ _ | exact bI_okr _ | omega | exact llt_0 | ((repeat apply llt_s) <;> exact llt_0) | fail) only [x176, xb176, m_chosen w0 wA hv20, q3, c, if_false, decide_false, Bool.false_and, bI_f, mo_k_v, mo_k_n, mo_v_e, mo_gf_e, mo_pf_e, mo_ia_e, mo_ba_e, mo_za_e, mo_la_e, mo_aa_e, mo_le_e, mo_is_e, mo_bs_e, mo_zs_0, mo_zs_1, mo_ls_e, mo_as_e, mo_na_e, mo_aci_e, mo_acb_e, mo_acj_e, hp_gs, hp_gn, hp_ss, List.getElem?_cons_zero, List.getElem?_cons_succ, List.set_cons_zero, List.set_cons_succ]
/-- whether a value is told -/
def tdB (p : Pl) (f ch ba : Nat → Int32) (id : Bool) (v : Nat) : Bool := if id = true then idB p f ch ba v else suB (fun b => lfW p f ch ba b (-1) (-1)) f ch v
theorem m_toldMany (w0 : hp_g h M = some (mdO M mt mk mp mu ms mn mo ml mv me mf mw)) (wA : hp_g h (M + 1) = some (iA 12639 A)) (hr : RS A 0 p rk tg ch ba) (hc : CI p rk tg f ch ba) (hs : scr3 h M) (id : Bool) : ∃ k, zz_run 173 [.ref M, .int (bI id)] h = some (some (.int (nI (fb_ct (tdB p f ch ba id) (pnv p)))), k) ∧ scr3 k M ∧ frm h k (M + 4) (M + 7) := by
  obtain ⟨r1, r2, r3, r4⟩ := hr.1
  rw [Nat.zero_add] at r4
  have n10 := nI_01
  have step : ∀ v (k : zz_H), v < pnv p → (scr3 k M ∧ frm h k (M + 4) (M + 7)) → ∃ k' : zz_H, (scr3 k' M ∧ frm h k' (M + 4) (M + 7)) ∧ zz_Y 173 (4, [some (.ref (M)), some (.int (bI (id))), some (.int (nI (fb_ct (tdB p f ch ba id) v))), some (.int (nI (v)))], [], k) = zz_Y 173 (4, [some (.ref (M)), some (.int (bI (id))), some (.int (nI (fb_ct (tdB p f ch ba id) (v + 1)))), some (.int (nI (v + 1)))], [], k') := by
    rintro v k hv ⟨hs, hf⟩
    have w0' := (hf.2.2.2 M (by omega)).trans w0
    have wA' := (hf.2.2.2 (M + 1) (by omega)).trans wA
    rw [x173_c4, fb_ct_succ]
    cases id with
    | false =>
      obtain ⟨k2, e2, s2, f2⟩ := m_isSure w0' wA' hr hc hs hv
      refine ⟨k2, ⟨s2, frm_trans hf f2⟩, ?_⟩
      rw [show tdB p f ch ba false v = suB (fun b => lfW p f ch ba b (-1) (-1)) f ch v from rfl]
      cases c : suB (fun b => lfW p f ch ba b (-1) (-1)) f ch v
      · rw [c] at e2
        simp (disch := first | assumption | exact zz_nl_i _ | exact zz_nl_r _ | exact zz_nl_n | exact okv_i _ | exact okv_j _ | exact okv_0 | exact okv_1 | exact okv_o _ _ | exact okv_a _ _ | exact bI_okr _ | omega | exact llt_0 | ((repeat apply llt_s) <;> exact llt_0) | fail) only [x173, w0', wA', r4, nI_ltI, hv, if_true, bI_f, e2, nI_add, Nat.add_zero, Bool.false_eq_true, if_false, mo_k_v, mo_k_n, mo_v_e, mo_gf_e, mo_pf_e, mo_ia_e, mo_ba_e, mo_za_e, mo_la_e, mo_aa_e, mo_le_e, mo_is_e, mo_bs_e, mo_zs_0, mo_zs_1, mo_ls_e, mo_as_e, mo_na_e, mo_aci_e, mo_acb_e, mo_acj_e, hp_gs, hp_gn, hp_ss, List.getElem?_cons_zero, List.getElem?_cons_succ, List.set_cons_zero, List.set_cons_succ]
      · rw [c] at e2
        simp (disch := first | assumption | exact zz_nl_i _ | exact zz_nl_r _ | exact zz_nl_n | exact okv_i _ | exact okv_j _ | exact okv_0 | exact okv_1 | exact okv_o _ _ | exact okv_a _ _ | exact bI_okr _ | omega | exact llt_0 | ((repeat apply llt_s) <;> exact llt_0) | fail) only [x173, w0', wA', r4, nI_ltI, hv, if_true, bI_f, e2, bI_t, n10, if_false, nI_add, mo_k_v, mo_k_n, mo_v_e, mo_gf_e, mo_pf_e, mo_ia_e, mo_ba_e, mo_za_e, mo_la_e, mo_aa_e, mo_le_e, mo_is_e, mo_bs_e, mo_zs_0, mo_zs_1, mo_ls_e, mo_as_e, mo_na_e, mo_aci_e, mo_acb_e, mo_acj_e, hp_gs, hp_gn, hp_ss, List.getElem?_cons_zero, List.getElem?_cons_succ, List.set_cons_zero, List.set_cons_succ]
    | true =>
      obtain ⟨k2, e2, s2, f2⟩ := m_isIdle w0' wA' hr hc hs hv
      refine ⟨k2, ⟨s2, frm_trans hf f2⟩, ?_⟩
      rw [show tdB p f ch ba true v = idB p f ch ba v from rfl]
      cases c : idB p f ch ba v
      · rw [c] at e2
        simp (disch := first | assumption | exact zz_nl_i _ | exact zz_nl_r _ | exact zz_nl_n | exact okv_i _ | exact okv_j _ | exact okv_0 | exact okv_1 | exact okv_o _ _ | exact okv_a _ _ | exact bI_okr _ | omega | exact llt_0 | ((repeat apply llt_s) <;> exact llt_0) | fail) only [x173, w0', wA', r4, nI_ltI, hv, if_true, bI_t, bI_f, n10, e2, nI_add, Nat.add_zero, Bool.false_eq_true, if_false, mo_k_v, mo_k_n, mo_v_e, mo_gf_e, mo_pf_e, mo_ia_e, mo_ba_e, mo_za_e, mo_la_e, mo_aa_e, mo_le_e, mo_is_e, mo_bs_e, mo_zs_0, mo_zs_1, mo_ls_e, mo_as_e, mo_na_e, mo_aci_e, mo_acb_e, mo_acj_e, hp_gs, hp_gn, hp_ss, List.getElem?_cons_zero, List.getElem?_cons_succ, List.set_cons_zero, List.set_cons_succ]
      · rw [c] at e2
        simp (disch := first | assumption | exact zz_nl_i _ | exact zz_nl_r _ | exact zz_nl_n | exact okv_i _ | exact okv_j _ | exact okv_0 | exact okv_1 | exact okv_o _ _ | exact okv_a _ _ | exact bI_okr _ | omega | exact llt_0 | ((repeat apply llt_s) <;> exact llt_0) | fail) only [x173, w0', wA', r4, nI_ltI, hv, if_true, e2, bI_t, n10, if_false, nI_add, mo_k_v, mo_k_n, mo_v_e, mo_gf_e, mo_pf_e, mo_ia_e, mo_ba_e, mo_za_e, mo_la_e, mo_aa_e, mo_le_e, mo_is_e, mo_bs_e, mo_zs_0, mo_zs_1, mo_ls_e, mo_as_e, mo_na_e, mo_aci_e, mo_acb_e, mo_acj_e, hp_gs, hp_gn, hp_ss, List.getElem?_cons_zero, List.getElem?_cons_succ, List.set_cons_zero, List.set_cons_succ]
  obtain ⟨k, ⟨s, hf⟩, e⟩ := lp_ex (N := pnv p) (St := fun v (k : zz_H) => zz_Y 173 (4, [some (.ref (M)), some (.int (bI (id))), some (.int (nI (fb_ct (tdB p f ch ba id) v))), some (.int (nI (v)))], [], k)) step (s := h) ⟨hs, frm_refl _ _ _⟩
  have w0' := (hf.2.2.2 M (by omega)).trans w0
  have wA' := (hf.2.2.2 (M + 1) (by omega)).trans wA
  refine ⟨k, ?_, s, hf⟩
  rw [en173 w0]
  simp (disch := first | assumption | exact zz_nl_i _ | exact zz_nl_r _ | exact zz_nl_n | exact okv_i _ | exact okv_j _ | exact okv_0 | exact okv_1 | exact okv_o _ _ | exact okv_a _ _ | exact bI_okr _ | omega | exact llt_0 | ((repeat apply llt_s) <;> exact llt_0) | fail) only [x173, mo_k_v, mo_k_n, mo_v_e, mo_gf_e, mo_pf_e, mo_ia_e, mo_ba_e, mo_za_e, mo_la_e, mo_aa_e, mo_le_e, mo_is_e, mo_bs_e, mo_zs_0, mo_zs_1, mo_ls_e, mo_as_e, mo_na_e, mo_aci_e, mo_acb_e, mo_acj_e, hp_gs, hp_gn, hp_ss, List.getElem?_cons_zero, List.getElem?_cons_succ, List.set_cons_zero, List.set_cons_succ]
  refine e.trans ?_
  rw [x173_c4]
  simp (disch := first | assumption | exact zz_nl_i _ | exact zz_nl_r _ | exact zz_nl_n | exact okv_i _ | exact okv_j _ | exact okv_0 | exact okv_1 | exact okv_o _ _ | exact okv_a _ _ | exact bI_okr _ | omega | exact llt_0 | ((repeat apply llt_s) <;> exact llt_0) | fail) only [x173, w0', wA', r4, nI_ltI, Nat.lt_irrefl, if_false, mo_k_v, mo_k_n, mo_v_e, mo_gf_e, mo_pf_e, mo_ia_e, mo_ba_e, mo_za_e, mo_la_e, mo_aa_e, mo_le_e, mo_is_e, mo_bs_e, mo_zs_0, mo_zs_1, mo_ls_e, mo_as_e, mo_na_e, mo_aci_e, mo_acb_e, mo_acj_e, hp_gs, hp_gn, hp_ss, List.getElem?_cons_zero, List.getElem?_cons_succ, List.set_cons_zero, List.set_cons_succ]
theorem m_tagsOf (w0 : hp_g h M = some (mdO M mt mk mp mu ms mn mo ml mv me mf mw)) (wA : hp_g h (M + 1) = some (iA 12639 A)) (hr : RS A 0 p rk tg ch ba) (hc : CI p rk tg f ch ba) {v : Nat} (hv : v < pnv p) : zz_run 159 [.ref M, .int (nI v)] h = some (some (.int (nI (fb_ct (fun q => bt (tg q) v) 256))), h) := by
  have hv20 : v < 20 := by have := hr.1.2.1; omega
  have step : ∀ b s, b < 8 → zz_Y 159 (4, [some (.ref (M)), some (.int (nI (v))), some (.int (nI (s))), some (.int (nI (b)))], [], h) = zz_Y 159 (4, [some (.ref (M)), some (.int (nI (v))), some (.int (nI ((s + pc (A (302 + 8 * v + b)))))), some (.int (nI ((b + 1))))], [], h) := by
    intro b s hb
    rw [x159_c4]
    simp (disch := first | assumption | exact zz_nl_i _ | exact zz_nl_r _ | exact zz_nl_n | exact okv_i _ | exact okv_j _ | exact okv_0 | exact okv_1 | exact okv_o _ _ | exact okv_a _ _ | exact bI_okr _ | omega | exact llt_0 | ((repeat apply llt_s) <;> exact llt_0) | fail) only [x159, nI_ltI, hb, if_true, nI_add, w0, wA, m_bitsOf, pk_mul, mo_k_v, mo_k_n, mo_v_e, mo_gf_e, mo_pf_e, mo_ia_e, mo_ba_e, mo_za_e, mo_la_e, mo_aa_e, mo_le_e, mo_is_e, mo_bs_e, mo_zs_0, mo_zs_1, mo_ls_e, mo_as_e, mo_na_e, mo_aci_e, mo_acb_e, mo_acj_e, hp_gs, hp_gn, hp_ss, List.getElem?_cons_zero, List.getElem?_cons_succ, List.set_cons_zero, List.set_cons_succ]
  rw [en159 w0]
  simp (disch := first | assumption | exact zz_nl_i _ | exact zz_nl_r _ | exact zz_nl_n | exact okv_i _ | exact okv_j _ | exact okv_0 | exact okv_1 | exact okv_o _ _ | exact okv_a _ _ | exact bI_okr _ | omega | exact llt_0 | ((repeat apply llt_s) <;> exact llt_0) | fail) only [x159, mo_k_v, mo_k_n, mo_v_e, mo_gf_e, mo_pf_e, mo_ia_e, mo_ba_e, mo_za_e, mo_la_e, mo_aa_e, mo_le_e, mo_is_e, mo_bs_e, mo_zs_0, mo_zs_1, mo_ls_e, mo_as_e, mo_na_e, mo_aci_e, mo_acb_e, mo_acj_e, hp_gs, hp_gn, hp_ss, List.getElem?_cons_zero, List.getElem?_cons_succ, List.set_cons_zero, List.set_cons_succ]
  refine (lp_fold (N := 8) (St := fun b s => zz_Y 159 (4, [some (.ref (M)), some (.int (nI (v))), some (.int (nI (s))), some (.int (nI (b)))], [], h)) step).trans ?_
  rw [lp_sum]
  ((try dsimp only); rw [x159_c4]; simp (disch := first | assumption | exact zz_nl_i _ | exact zz_nl_r _ | exact zz_nl_n | exact okv_i _ | exact okv_j _ | exact okv_0 | exact okv_1 | exact okv_o _ _ | exact okv_a _ _ | exact bI_okr _ | omega | exact llt_0 | ((repeat apply llt_s) <;> exact llt_0) | fail) only [x159, nI_ltI, Nat.lt_irrefl, if_false, Nat.zero_add, mo_k_v, mo_k_n, mo_v_e, mo_gf_e, mo_pf_e, mo_ia_e, mo_ba_e, mo_za_e, mo_la_e, mo_aa_e, mo_le_e, mo_is_e, mo_bs_e, mo_zs_0, mo_zs_1, mo_ls_e, mo_as_e, mo_na_e, mo_aci_e, mo_acb_e, mo_acj_e, hp_gs, hp_gn, hp_ss, List.getElem?_cons_zero, List.getElem?_cons_succ, List.set_cons_zero, List.set_cons_succ])
  rw [← ct_blocks (fun b => A (302 + 8 * v + b)) 8]
  rw [show 32 * 8 = 256 from rfl, fb_ct_cong (q := fun q => bt (tg q) v) (fun q hq => by
    have := hr.2.2.2.2 v hv q hq
    rw [Nat.zero_add] at this
    exact this)]
theorem m_thereMany (w0 : hp_g h M = some (mdO M mt mk mp mu ms mn mo ml mv me mf mw)) (wA : hp_g h (M + 1) = some (iA 12639 A)) (hr : RS A 0 p rk tg ch ba) (hc : CI p rk tg f ch ba) : zz_run 165 [.ref M] h = some (some (.int (nI (amt (rw8 f 20)))), h) := by
  have step : ∀ b s, b < 8 → zz_Y 165 (4, [some (.ref (M)), some (.int (nI (s))), some (.int (nI (b)))], [], h) = zz_Y 165 (4, [some (.ref (M)), some (.int (nI ((s + pc (A (294 + b)))))), some (.int (nI ((b + 1))))], [], h) := by
    intro b s hb
    rw [x165_c4]
    simp (disch := first | assumption | exact zz_nl_i _ | exact zz_nl_r _ | exact zz_nl_n | exact okv_i _ | exact okv_j _ | exact okv_0 | exact okv_1 | exact okv_o _ _ | exact okv_a _ _ | exact bI_okr _ | omega | exact llt_0 | ((repeat apply llt_s) <;> exact llt_0) | fail) only [x165, nI_ltI, hb, if_true, nI_add, w0, wA, m_bitsOf, mo_k_v, mo_k_n, mo_v_e, mo_gf_e, mo_pf_e, mo_ia_e, mo_ba_e, mo_za_e, mo_la_e, mo_aa_e, mo_le_e, mo_is_e, mo_bs_e, mo_zs_0, mo_zs_1, mo_ls_e, mo_as_e, mo_na_e, mo_aci_e, mo_acb_e, mo_acj_e, hp_gs, hp_gn, hp_ss, List.getElem?_cons_zero, List.getElem?_cons_succ, List.set_cons_zero, List.set_cons_succ]
  rw [en165 w0]
  simp (disch := first | assumption | exact zz_nl_i _ | exact zz_nl_r _ | exact zz_nl_n | exact okv_i _ | exact okv_j _ | exact okv_0 | exact okv_1 | exact okv_o _ _ | exact okv_a _ _ | exact bI_okr _ | omega | exact llt_0 | ((repeat apply llt_s) <;> exact llt_0) | fail) only [x165, mo_k_v, mo_k_n, mo_v_e, mo_gf_e, mo_pf_e, mo_ia_e, mo_ba_e, mo_za_e, mo_la_e, mo_aa_e, mo_le_e, mo_is_e, mo_bs_e, mo_zs_0, mo_zs_1, mo_ls_e, mo_as_e, mo_na_e, mo_aci_e, mo_acb_e, mo_acj_e, hp_gs, hp_gn, hp_ss, List.getElem?_cons_zero, List.getElem?_cons_succ, List.set_cons_zero, List.set_cons_succ]
  refine (lp_fold (N := 8) (St := fun b s => zz_Y 165 (4, [some (.ref (M)), some (.int (nI (s))), some (.int (nI (b)))], [], h)) step).trans ?_
  rw [lp_sum]
  ((try dsimp only); rw [x165_c4]; simp (disch := first | assumption | exact zz_nl_i _ | exact zz_nl_r _ | exact zz_nl_n | exact okv_i _ | exact okv_j _ | exact okv_0 | exact okv_1 | exact okv_o _ _ | exact okv_a _ _ | exact bI_okr _ | omega | exact llt_0 | ((repeat apply llt_s) <;> exact llt_0) | fail) only [x165, nI_ltI, Nat.lt_irrefl, if_false, Nat.zero_add, mo_k_v, mo_k_n, mo_v_e, mo_gf_e, mo_pf_e, mo_ia_e, mo_ba_e, mo_za_e, mo_la_e, mo_aa_e, mo_le_e, mo_is_e, mo_bs_e, mo_zs_0, mo_zs_1, mo_ls_e, mo_as_e, mo_na_e, mo_aci_e, mo_acb_e, mo_acj_e, hp_gs, hp_gn, hp_ss, List.getElem?_cons_zero, List.getElem?_cons_succ, List.set_cons_zero, List.set_cons_succ])
  unfold amt
  rw [sm_cong (fun b hb => by rw [there_eq hr hc hb])]
  rfl
end
