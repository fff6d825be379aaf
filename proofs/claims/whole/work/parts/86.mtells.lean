/-! the reference: names told, numbers; drafts grown -/
def ZR (A : Nat → Int32) (p : Pl) : Prop := (∀ d, pnh p ≤ d → d < 4 → A (730 + (10 + 11 * d) + 1) = nI 0) ∧ (∀ v, pnv p ≤ v → v < 20 → A (730 + (54 + 12 * v) + 2) = nI 0 ∧ ∀ b, b < 8 → A (730 + 302 + 8 * v + b) = nI 0)
def offR (A B : Nat → Int32) : Prop := ∀ i, i < 730 ∨ 1460 ≤ i → B i = A i
theorem RS_addH {A B : Nat → Int32} {p : Pl} {rk tg : Nat → Int32} (hr : RS A 730 p rk tg z0 z0) (hz : ZR A p) (h4 : pnh p < 4) {w : Int64} {m : Bool} (c0 : B 730 = nI (pnh p + 1)) (c1 : B (730 + (10 + 11 * pnh p)) = bI m) (c2 : nmR B (730 + (10 + 11 * pnh p) + 2) w) (off : ∀ i, i ≠ 730 → (i < 730 + (10 + 11 * pnh p) ∨ 730 + (10 + 11 * pnh p) + 11 ≤ i ∨ i = 730 + (10 + 11 * pnh p) + 1) → B i = A i) : RS B 730 (addH p w m) rk tg z0 z0 ∧ ZR B (addH p w m) := by
  obtain ⟨⟨r1, r2, r3, r4⟩, rH, rV, rT, rG⟩ := hr
  refine ⟨⟨⟨show pnh p + 1 ≤ 4 by omega, r2, c0, ?_⟩, fun d hd => ?_, fun v hv => ?_, fun q hq => ?_, fun v hv q hq => ?_⟩, fun d h1 h2 => ?_, fun v h1 h2 => ?_⟩
  · rw [off _ (by omega) (by omega)]; exact r4
  · have hd' : d < pnh p + 1 := hd
    by_cases c : d = pnh p
    · subst c
      refine ⟨?_, ?_, ?_⟩
      · show B _ = upd (pmn p) (pnh p) (bI m) (pnh p)
        rw [upd_eq]; exact c1
      · rw [off _ (by omega) (by omega)]
        exact hz.1 _ (Nat.le_refl _) h4
      · show nmR B _ (vp_updL (phn p) (pnh p) w (pnh p))
        have : vp_updL (phn p) (pnh p) w (pnh p) = w := by unfold vp_updL; rw [if_pos rfl]
        rw [this]; exact c2
    · obtain ⟨a1, a2, a3⟩ := rH d (by omega)
      refine ⟨?_, ?_, ?_⟩
      · show B _ = upd (pmn p) (pnh p) (bI m) d
        rw [upd_ne c, off _ (by omega) (by omega)]; exact a1
      · rw [off _ (by omega) (by omega)]; exact a2
      · show nmR B _ (vp_updL (phn p) (pnh p) w d)
        have : vp_updL (phn p) (pnh p) w d = phn p d := by unfold vp_updL; rw [if_neg c]
        rw [this]
        exact nmR_cong a3 (fun i hi => off _ (by omega) (by omega))
  · have hv20 : v < 20 := Nat.lt_of_lt_of_le hv r2
    obtain ⟨a1, a2, a3, a4⟩ := rV v hv
    refine ⟨?_, ?_, ?_, nmR_cong a4 (fun i hi => off _ (by omega) (by omega))⟩
    · rw [off _ (by omega) (by omega)]; exact a1
    · rw [off _ (by omega) (by omega)]; exact a2
    · rw [off _ (by omega) (by omega)]; exact a3
  · obtain ⟨a1, a2⟩ := rT q hq
    refine ⟨?_, ?_⟩
    · rw [off _ (by omega) (by omega)]; exact a1
    · rw [off _ (by omega) (by omega)]; exact a2
  · rw [off _ (by omega) (by omega)]; exact rG v hv q hq
  · have h1' : pnh p + 1 ≤ d := h1
    rw [off _ (by omega) (by omega)]
    exact hz.1 d (by omega) h2
  · obtain ⟨z1, z2⟩ := hz.2 v h1 h2
    refine ⟨?_, fun b hb => ?_⟩
    · rw [off _ (by omega) (by omega)]; exact z1
    · rw [off _ (by omega) (by omega)]; exact z2 b hb
theorem RS_addV {A B : Nat → Int32} {p : Pl} {rk tg : Nat → Int32} (hr : RS A 730 p rk tg z0 z0) (hz : ZR A p) (hlow : ∀ q, q < 256 → bt (tg q) (pnv p) = false) (h20 : pnv p < 20) {w : Int64} {par : Int32} (c0 : B 731 = nI (pnv p + 1)) (c1 : B (730 + (54 + 12 * pnv p)) = nI (pnh p - 1)) (c2 : B (730 + (54 + 12 * pnv p) + 1) = par) (c3 : nmR B (730 + (54 + 12 * pnv p) + 3) w) (off : ∀ i, i ≠ 731 → (i < 730 + (54 + 12 * pnv p) ∨ 730 + (54 + 12 * pnv p) + 12 ≤ i ∨ i = 730 + (54 + 12 * pnv p) + 2) → B i = A i) : RS B 730 (addV p w par) rk tg z0 z0 ∧ ZR B (addV p w par) := by
  obtain ⟨⟨r1, r2, r3, r4⟩, rH, rV, rT, rG⟩ := hr
  refine ⟨⟨⟨r1, show pnv p + 1 ≤ 20 by omega, ?_, c0⟩, fun d hd => ?_, fun v hv => ?_, fun q hq => ?_, fun v hv q hq => ?_⟩, fun d h1 h2 => ?_, fun v h1 h2 => ?_⟩
  · rw [off _ (by omega) (by omega)]; exact r3
  · have hd4 : d < 4 := Nat.lt_of_lt_of_le hd r1
    obtain ⟨a1, a2, a3⟩ := rH d hd
    refine ⟨?_, ?_, nmR_cong a3 (fun i hi => off _ (by omega) (by omega))⟩
    · rw [off _ (by omega) (by omega)]; exact a1
    · rw [off _ (by omega) (by omega)]; exact a2
  · have hv' : v < pnv p + 1 := hv
    by_cases c : v = pnv p
    · subst c
      refine ⟨?_, ?_, ?_, ?_⟩
      · show B _ = upd (pho p) (pnv p) (nI (pnh p - 1)) (pnv p)
        rw [upd_eq]; exact c1
      · show B _ = upd (ppa p) (pnv p) par (pnv p)
        rw [upd_eq]; exact c2
      · rw [off _ (by omega) (by omega)]
        exact (hz.2 _ (Nat.le_refl _) h20).1
      · show nmR B _ (vp_updL (pvn p) (pnv p) w (pnv p))
        have : vp_updL (pvn p) (pnv p) w (pnv p) = w := by unfold vp_updL; rw [if_pos rfl]
        rw [this]; exact c3
    · obtain ⟨a1, a2, a3, a4⟩ := rV v (by omega)
      refine ⟨?_, ?_, ?_, ?_⟩
      · show B _ = upd (pho p) (pnv p) (nI (pnh p - 1)) v
        rw [upd_ne c, off _ (by omega) (by omega)]; exact a1
      · show B _ = upd (ppa p) (pnv p) par v
        rw [upd_ne c, off _ (by omega) (by omega)]; exact a2
      · rw [off _ (by omega) (by omega)]; exact a3
      · show nmR B _ (vp_updL (pvn p) (pnv p) w v)
        have : vp_updL (pvn p) (pnv p) w v = pvn p v := by unfold vp_updL; rw [if_neg c]
        rw [this]
        exact nmR_cong a4 (fun i hi => off _ (by omega) (by omega))
  · obtain ⟨a1, a2⟩ := rT q hq
    refine ⟨?_, ?_⟩
    · rw [off _ (by omega) (by omega)]; exact a1
    · rw [off _ (by omega) (by omega)]; exact a2
  · have hv' : v < pnv p + 1 := hv
    rw [off _ (by omega) (by omega)]
    by_cases c : v = pnv p
    · subst c
      rw [(hz.2 _ (Nat.le_refl _) h20).2 (q / 32) (by omega), nI_0, b_0, hlow q hq]
    · exact rG v (by omega) q hq
  · have hd4 : d < 4 := h2
    rw [off _ (by omega) (by omega)]
    exact hz.1 d h1 h2
  · have h1' : pnv p + 1 ≤ v := h1
    obtain ⟨z1, z2⟩ := hz.2 v (by omega) h2
    refine ⟨?_, fun b hb => ?_⟩
    · rw [off _ (by omega) (by omega)]; exact z1
    · rw [off _ (by omega) (by omega)]; exact z2 b hb
section
variable {h : zz_H} {M : Nat} {A : Nat → Int32} {mt mp mu : Int32} {me mf mw : Int32} {p : Pl} {rk tg ch ba : Nat → Int32} {T : Nat → Int32} {t : Nat → Nat} {tl s : Nat}
theorem n01 : ¬ nI 1 = nI 0 := nI_01
theorem n30' : ¬ nI 3 = nI 0 := by decide +kernel
theorem FI_neg {P : Nat → Bool} {n : Nat} (hn : n ≤ 100) : (FI P n < nI 0) = ¬ (fa_first P n < n) := by
  apply propext
  unfold FI
  have hle := fa_first_le P n
  by_cases c : fa_first P n < n
  · rw [if_pos c]
    exact ⟨fun z => absurd z (nI_nlt0 (by omega)), fun z => absurd c z⟩
  · rw [if_neg c]
    exact ⟨fun _ => c, fun _ => m1_lt0⟩
theorem m_tells_f (w0 : hp_g h M = some (mdT M mt (nI 0) mp mu t tl s me mf mw)) (wA : hp_g h (M + 1) = some (iA 12639 A)) (hr : RS A 730 p rk tg ch ba) (hf : ¬ nmF p t tl s = 0) (a : Int32) : zz_run 232 [.ref M, .int a] h = some (none, hp_s h M (mdT M mt (nI (nmF p t tl s)) (nI s) mu t tl s me mf mw)) := by
  have inm := t_isName w0
  have ig := m_isGood w0
  rw [decide_eq_true rfl] at ig
  rw [en232 w0]
  unfold nmF at hf ⊢
  by_cases c : kdP t tl s = 2
  · rw [if_neg (fun z => z c)] at hf ⊢
    rw [decide_eq_true c] at inm
    have hw : wtk t tl s := (kd_wtk t tl s).1.mp (Or.inl c)
    have ct : tkn p (wP t tl s) = true := Classical.byContradiction (fun z => hf (if_neg z))
    rw [if_pos ct]
    have hb := t_headBy w0 wA hr (by omega) hw
    have vb := t_valueBy w0 wA hr (by omega) hw
    have fl := m_fails0 w0 (nI 3) (nI s)
    have ig2 := m_isGood (h := hp_s h M (mdT M mt (nI 3) (nI s) mu t tl s me mf mw)) (hp_gs _ _ _)
    rw [decide_eq_false n30'] at ig2
    have hn4 := hr.1.1
    have hn20 := hr.1.2.1
    have fneg := FI_neg (P := fun d => decide (phn p d = wP t tl s)) (n := pnh p) (by omega)
    unfold tkn at ct
    by_cases c1 : fa_first (fun d => decide (phn p d = wP t tl s)) (pnh p) < pnh p
    · rw [eq_false (fun z : ¬ _ => z c1)] at fneg
      simp (disch := first | assumption | exact zz_nl_i _ | exact zz_nl_r _ | exact zz_nl_n | exact okv_i _ | exact okv_j _ | exact okv_0 | exact okv_1 | exact okv_o _ _ | exact okv_a _ _ | exact bI_okr _ | omega | exact llt_0 | ((repeat apply llt_s) <;> exact llt_0) | fail) only [x232_p0, x232_p1, inm, bI_t, nI_01, if_false, ig, w0, hb, fneg, fl, ig2, bI_f, if_true, mo_k_v, mo_k_n, mo_v_e, mo_gf_e, mo_pf_e, mo_ia_e, mo_ba_e, mo_za_e, mo_la_e, mo_aa_e, mo_le_e, mo_is_e, mo_bs_e, mo_zs_0, mo_zs_1, mo_ls_e, mo_as_e, mo_na_e, mo_aci_e, mo_acb_e, mo_acj_e, hp_gs, hp_gn, hp_ss, List.getElem?_cons_zero, List.getElem?_cons_succ, List.set_cons_zero, List.set_cons_succ]
    · rw [decide_eq_false c1, Bool.false_or, decide_eq_true_iff] at ct
      have ct' : vnP p (wP t tl s) < pnv p := ct
      rw [eq_true c1] at fneg
      rw [if_pos ct'] at vb
      have c2 : ¬ nI (vnP p (wP t tl s)) < nI 0 := nI_nlt0 (by omega)
      simp (disch := first | assumption | exact zz_nl_i _ | exact zz_nl_r _ | exact zz_nl_n | exact okv_i _ | exact okv_j _ | exact okv_0 | exact okv_1 | exact okv_o _ _ | exact okv_a _ _ | exact bI_okr _ | omega | exact llt_0 | ((repeat apply llt_s) <;> exact llt_0) | fail) only [x232_p0, x232_p1, inm, bI_t, nI_01, if_false, ig, w0, hb, fneg, if_true, vb, c2, fl, ig2, bI_f, mo_k_v, mo_k_n, mo_v_e, mo_gf_e, mo_pf_e, mo_ia_e, mo_ba_e, mo_za_e, mo_la_e, mo_aa_e, mo_le_e, mo_is_e, mo_bs_e, mo_zs_0, mo_zs_1, mo_ls_e, mo_as_e, mo_na_e, mo_aci_e, mo_acb_e, mo_acj_e, hp_gs, hp_gn, hp_ss, List.getElem?_cons_zero, List.getElem?_cons_succ, List.set_cons_zero, List.set_cons_succ]
  · rw [if_pos c]
    rw [decide_eq_false c] at inm
    have fl := m_fails0 w0 (nI 1) (nI s)
    have ig2 := m_isGood (h := hp_s h M (mdT M mt (nI 1) (nI s) mu t tl s me mf mw)) (hp_gs _ _ _)
    rw [decide_eq_false n01] at ig2
    simp (disch := first | assumption | exact zz_nl_i _ | exact zz_nl_r _ | exact zz_nl_n | exact okv_i _ | exact okv_j _ | exact okv_0 | exact okv_1 | exact okv_o _ _ | exact okv_a _ _ | exact bI_okr _ | omega | exact llt_0 | ((repeat apply llt_s) <;> exact llt_0) | fail) only [x232_p0, x232_p1, inm, bI_f, if_true, w0, fl, ig2, mo_k_v, mo_k_n, mo_v_e, mo_gf_e, mo_pf_e, mo_ia_e, mo_ba_e, mo_za_e, mo_la_e, mo_aa_e, mo_le_e, mo_is_e, mo_bs_e, mo_zs_0, mo_zs_1, mo_ls_e, mo_as_e, mo_na_e, mo_aci_e, mo_acb_e, mo_acj_e, hp_gs, hp_gn, hp_ss, List.getElem?_cons_zero, List.getElem?_cons_succ, List.set_cons_zero, List.set_cons_succ]
theorem m_tells_0 (w0 : hp_g h M = some (mdT M mt (nI 0) mp mu t tl s me mf mw)) (wA : hp_g h (M + 1) = some (iA 12639 A)) (wT : hp_g h (M + 2) = some (iA 600 T)) (hT : tpR T t) (htl : tl ≤ 600) (hs : s ≤ tl) (hr : RS A 730 p rk tg ch ba) (hf : nmF p t tl s = 0) {a : Nat} (ha : a < 12600) : ∃ k B, zz_run 232 [.ref M, .int (nI a)] h = some (none, k) ∧ hp_g k M = some (mdT M mt (nI 0) mp mu t tl (advP t tl s) me mf mw) ∧ hp_g k (M + 1) = some (iA 12639 B) ∧ frm h k M (M + 2) ∧ nmR B a (wP t tl s) ∧ ∀ i, i < a ∨ a + 9 ≤ i → B i = A i := by
  have inm := t_isName w0
  have ig := m_isGood w0
  rw [decide_eq_true rfl] at ig
  obtain ⟨c, ct⟩ := nmF_0 hf
  rw [decide_eq_true c] at inm
  have hw : wtk t tl s := (kd_wtk t tl s).1.mp (Or.inl c)
  obtain ⟨w1, w2, w3, w4, w5, w6⟩ := wtk_kd hw
  have hb := t_headBy w0 wA hr (by omega) hw
  have vb := t_valueBy w0 wA hr (by omega) hw
  have hn4 := hr.1.1
  have hn20 := hr.1.2.1
  have fneg := FI_neg (P := fun d => decide (phn p d = wP t tl s)) (n := pnh p) (by omega)
  unfold tkn at ct
  rw [Bool.or_eq_false_iff, decide_eq_false_iff_not, decide_eq_false_iff_not] at ct
  obtain ⟨ct1, ct2⟩ := ct
  have ct2' : ¬ vnP p (wP t tl s) < pnv p := ct2
  rw [eq_true ct1] at fneg
  rw [if_neg ct2'] at vb
  have hlt := hw.1
  have en : nxP t tl s = s + tkL t tl s := by
    unfold nxP tkA
    rw [if_neg (fun z => z hlt), if_pos hw.2.1]
  have es : nI (nxP t tl s) - nI s = nI (tkL t tl s) := by rw [en, pk_sub (by omega), Nat.add_sub_cancel_left]
  have hLle : s + tkL t tl s ≤ tl := rn_le (p := fun i => letB (t i)) hs
  have step : ∀ i g, i < tkL t tl s → g a = nI (tkL t tl s) → zz_Y 232 (85, [some (.ref (M)), some (.int (nI (a))), some (.int (nI (i)))], [], hp_s h (M + 1) (iA 12639 g)) = zz_Y 232 (85, [some (.ref (M)), some (.int (nI (a))), some (.int (nI (i + 1)))], [], hp_s h (M + 1) (iA 12639 (upd g (a + 1 + i) (nI (t (s + i)))))) := by
    intro i g hi hga
    have w0' : hp_g (hp_s h (M + 1) (iA 12639 g)) M = some (mdT M mt (nI 0) mp mu t tl s me mf mw) := (hp_gn (by omega)).trans w0
    have by_ := m_byteAt (k := s + i) w0' ((hp_gn (by omega)).trans wT) hT htl (by omega)
    rw [x232_c85]
    simp (disch := first | assumption | exact zz_nl_i _ | exact zz_nl_r _ | exact zz_nl_n | exact okv_i _ | exact okv_j _ | exact okv_0 | exact okv_1 | exact okv_o _ _ | exact okv_a _ _ | exact bI_okr _ | omega | exact llt_0 | ((repeat apply llt_s) <;> exact llt_0) | fail) only [x232_p0, x232_p1, w0', hga, nI_ltI, hi, if_true, nI_add, by_, mo_k_v, mo_k_n, mo_v_e, mo_gf_e, mo_pf_e, mo_ia_e, mo_ba_e, mo_za_e, mo_la_e, mo_aa_e, mo_le_e, mo_is_e, mo_bs_e, mo_zs_0, mo_zs_1, mo_ls_e, mo_as_e, mo_na_e, mo_aci_e, mo_acb_e, mo_acj_e, hp_gs, hp_gn, hp_ss, List.getElem?_cons_zero, List.getElem?_cons_succ, List.set_cons_zero, List.set_cons_succ]
  obtain ⟨l1, l2⟩ := lp_inv (N := tkL t tl s) (P := fun i g => g a = nI (tkL t tl s)) (St := fun i g => zz_Y 232 (85, [some (.ref (M)), some (.int (nI (a))), some (.int (nI (i)))], [], hp_s h (M + 1) (iA 12639 g))) (f := fun i g => upd g (a + 1 + i) (nI (t (s + i)))) (s := upd A a (nI (tkL t tl s))) (upd_eq _ _ _) (fun i g hi hg => ⟨step i g hi hg, by rw [upd_ne (by omega)]; exact hg⟩)
  obtain ⟨s1, s2⟩ := lp_set (a + 1) (fun i => nI (t (s + i))) (upd A a (nI (tkL t tl s))) (tkL t tl s)
  generalize hB : lp_it (fun i g => upd g (a + 1 + i) (nI (t (s + i)))) (tkL t tl s) (upd A a (nI (tkL t tl s))) = B at *
  have w0'' : hp_g (hp_s h (M + 1) (iA 12639 B)) M = some (mdT M mt (nI 0) mp mu t tl s me mf mw) := (hp_gn (by omega)).trans w0
  have tk := t_takes w0'' ((hp_gn (by omega)).trans wT) hT htl hs
  refine ⟨hp_s (hp_s h (M + 1) (iA 12639 B)) M (mdT M mt (nI 0) mp mu t tl (advP t tl s) me mf mw), B, ?_, hp_gs _ _ _, (hp_gn (by omega)).trans (hp_gs _ _ _), frm_s ⟨by omega, by omega⟩ (frm_s ⟨by omega, by omega⟩ (frm_refl _ _ _)), ⟨tkL t tl s, ltr t s, w5, w6, l2, fun i hi => ?_, ?_⟩, fun i hi => ?_⟩
  · rw [en232 w0]
    simp (disch := first | assumption | exact zz_nl_i _ | exact zz_nl_r _ | exact zz_nl_n | exact okv_i _ | exact okv_j _ | exact okv_0 | exact okv_1 | exact okv_o _ _ | exact okv_a _ _ | exact bI_okr _ | omega | exact llt_0 | ((repeat apply llt_s) <;> exact llt_0) | fail) only [x232_p0, x232_p1, inm, bI_t, nI_01, if_false, ig, w0, wA, hb, fneg, if_true, vb, eq_true m1_lt0, es, mo_k_v, mo_k_n, mo_v_e, mo_gf_e, mo_pf_e, mo_ia_e, mo_ba_e, mo_za_e, mo_la_e, mo_aa_e, mo_le_e, mo_is_e, mo_bs_e, mo_zs_0, mo_zs_1, mo_ls_e, mo_as_e, mo_na_e, mo_aci_e, mo_acb_e, mo_acj_e, hp_gs, hp_gn, hp_ss, List.getElem?_cons_zero, List.getElem?_cons_succ, List.set_cons_zero, List.set_cons_succ]
    refine l1.trans ?_
    rw [x232_c85]
    simp (disch := first | assumption | exact zz_nl_i _ | exact zz_nl_r _ | exact zz_nl_n | exact okv_i _ | exact okv_j _ | exact okv_0 | exact okv_1 | exact okv_o _ _ | exact okv_a _ _ | exact bI_okr _ | omega | exact llt_0 | ((repeat apply llt_s) <;> exact llt_0) | fail) only [x232_p0, x232_p1, w0'', l2, nI_ltI, Nat.lt_irrefl, if_false, tk, mo_k_v, mo_k_n, mo_v_e, mo_gf_e, mo_pf_e, mo_ia_e, mo_ba_e, mo_za_e, mo_la_e, mo_aa_e, mo_le_e, mo_is_e, mo_bs_e, mo_zs_0, mo_zs_1, mo_ls_e, mo_as_e, mo_na_e, mo_aci_e, mo_acb_e, mo_acj_e, hp_gs, hp_gn, hp_ss, List.getElem?_cons_zero, List.getElem?_cons_succ, List.set_cons_zero, List.set_cons_succ]
  · obtain ⟨g1, g2, g3⟩ := ltr_in hi
    exact ⟨g1, g2, by rw [s1 i hi, g3]⟩
  · rw [w2]
    exact (W5_P5 w6 (fun i hi => (ltr_in hi).2.1)).symm
  · rw [s2 i (by omega), upd_ne (by omega)]
end
