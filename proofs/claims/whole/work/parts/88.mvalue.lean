/-! the reference: a line of a value -/
theorem RS_keep {A B : Nat → Int32} {o : Nat} {p : Pl} {rk tg ch ba : Nat → Int32} (hr : RS A o p rk tg ch ba) (hn : pnv p < 20) (he : ∀ i, i < 718 → (i < 54 + 12 * pnv p ∨ 54 + 12 * pnv p + 12 ≤ i) → B (o + i) = A (o + i)) : RS B o p rk tg ch ba := by
  obtain ⟨⟨r1, r2, r3, r4⟩, rH, rV, rT, rG⟩ := hr
  refine ⟨⟨r1, r2, (he 0 (by omega) (by omega)).trans r3, (he 1 (by omega) (by omega)).trans r4⟩, fun d hd => ?_, fun v hv => ?_, fun q hq => ?_, fun v hv q hq => ?_⟩
  · obtain ⟨a1, a2, a3⟩ := rH d hd
    refine ⟨(he _ (by omega) (by omega)).trans a1, ?_, nmR_cong a3 (fun i hi => ?_)⟩
    · rw [Nat.add_assoc, he _ (by omega) (by omega), ← Nat.add_assoc]; exact a2
    · rw [Nat.add_assoc, Nat.add_assoc, he _ (by omega) (by omega), ← Nat.add_assoc, ← Nat.add_assoc]
  · obtain ⟨a1, a2, a3, a4⟩ := rV v hv
    refine ⟨(he _ (by omega) (by omega)).trans a1, ?_, ?_, nmR_cong a4 (fun i hi => ?_)⟩
    · rw [Nat.add_assoc, he _ (by omega) (by omega), ← Nat.add_assoc]; exact a2
    · rw [Nat.add_assoc, he _ (by omega) (by omega), ← Nat.add_assoc]; exact a3
    · rw [Nat.add_assoc, Nat.add_assoc, he _ (by omega) (by omega), ← Nat.add_assoc, ← Nat.add_assoc]
  · obtain ⟨a1, a2⟩ := rT q hq
    refine ⟨?_, ?_⟩
    · rw [Nat.add_assoc, he _ (by omega) (by omega), ← Nat.add_assoc]; exact a1
    · rw [Nat.add_assoc, he _ (by omega) (by omega), ← Nat.add_assoc]; exact a2
  · rw [Nat.add_assoc, Nat.add_assoc, he _ (by omega) (by omega), ← Nat.add_assoc, ← Nat.add_assoc]
    exact rG v hv q hq
section
variable {h : zz_H} {M : Nat} {A : Nat → Int32} {mt mk mp mu ms mn mo ml : Int32} {mv : Int64} {me mf mw : Int32} {p : Pl} {rk tg f ch ba : Nat → Int32} {T : Nat → Int32} {t : Nat → Nat} {tl s : Nat}
/-- any value may be asked for -/
theorem m_valueByX (w0 : hp_g h M = some (mdO M mt mk mp mu ms mn mo ml mv me mf mw)) (wA : hp_g h (M + 1) = some (iA 12639 A)) {o : Nat} (hr : RS A o p rk tg ch ba) (ho : o ≤ 11000) (x : Int64) : ∃ r, (r = -1 ∨ ∃ v, v < pnv p ∧ r = nI v) ∧ zz_run 237 [.ref M, .int (nI o), .long x] h = some (some (.int r), h) := by
  obtain ⟨r1, r2, r3, r4⟩ := hr.1
  have key : ∀ e d, d + e = pnv p → ∃ r, (r = -1 ∨ ∃ v, v < pnv p ∧ r = nI v) ∧ zz_Y 237 (3, [some (.ref M), some (.int (nI o)), some (.long x), none, some (.int (nI d))], [], h) = some (some (.int r), h) := by
    intro e
    induction e with
    | zero =>
      intro d hd
      have : d = pnv p := by omega
      subst this
      refine ⟨-1, Or.inl rfl, ?_⟩
      rw [x237_c3]
      simp (disch := first | assumption | exact zz_nl_i _ | exact zz_nl_r _ | exact zz_nl_n | exact okv_i _ | exact okv_j _ | exact okv_0 | exact okv_1 | exact okv_o _ _ | exact okv_a _ _ | exact bI_okr _ | omega | exact llt_0 | ((repeat apply llt_s) <;> exact llt_0) | fail) only [x237, w0, wA, nI_add, r4, nI_ltI, Nat.lt_irrefl, if_false, mo_k_v, mo_k_n, mo_v_e, mo_gf_e, mo_pf_e, mo_ia_e, mo_ba_e, mo_za_e, mo_la_e, mo_aa_e, mo_le_e, mo_is_e, mo_bs_e, mo_zs_0, mo_zs_1, mo_ls_e, mo_as_e, mo_na_e, mo_aci_e, mo_acb_e, mo_acj_e, hp_gs, hp_gn, hp_ss, List.getElem?_cons_zero, List.getElem?_cons_succ, List.set_cons_zero, List.set_cons_succ]
    | succ e ih =>
      intro d hd
      have hdv : d < pnv p := by omega
      obtain ⟨n, l, h1, h2, h3, h4, h5⟩ := (hr.2.2.1 d hdv).2.2.2
      have nm := m_nameOf w0 wA (show o + (54 + 12 * d) + 3 < 12600 by omega) h2 h3 h4
      rw [x237_c3]
      by_cases c : lN (B27 l n) = x
      · refine ⟨nI d, Or.inr ⟨d, hdv, rfl⟩, ?_⟩
        simp (disch := first | assumption | exact zz_nl_i _ | exact zz_nl_r _ | exact zz_nl_n | exact okv_i _ | exact okv_j _ | exact okv_0 | exact okv_1 | exact okv_o _ _ | exact okv_a _ _ | exact bI_okr _ | omega | exact llt_0 | ((repeat apply llt_s) <;> exact llt_0) | fail) only [x237, w0, wA, nI_add, r4, nI_ltI, hdv, if_true, m_valueAt, nm, cmp_0, eq_true c, mo_k_v, mo_k_n, mo_v_e, mo_gf_e, mo_pf_e, mo_ia_e, mo_ba_e, mo_za_e, mo_la_e, mo_aa_e, mo_le_e, mo_is_e, mo_bs_e, mo_zs_0, mo_zs_1, mo_ls_e, mo_as_e, mo_na_e, mo_aci_e, mo_acb_e, mo_acj_e, hp_gs, hp_gn, hp_ss, List.getElem?_cons_zero, List.getElem?_cons_succ, List.set_cons_zero, List.set_cons_succ]
      · obtain ⟨r, q1, q2⟩ := ih (d + 1) (by omega)
        refine ⟨r, q1, ?_⟩
        simp (disch := first | assumption | exact zz_nl_i _ | exact zz_nl_r _ | exact zz_nl_n | exact okv_i _ | exact okv_j _ | exact okv_0 | exact okv_1 | exact okv_o _ _ | exact okv_a _ _ | exact bI_okr _ | omega | exact llt_0 | ((repeat apply llt_s) <;> exact llt_0) | fail) only [x237, w0, wA, nI_add, r4, nI_ltI, hdv, if_true, m_valueAt, nm, cmp_0, c, if_false, mo_k_v, mo_k_n, mo_v_e, mo_gf_e, mo_pf_e, mo_ia_e, mo_ba_e, mo_za_e, mo_la_e, mo_aa_e, mo_le_e, mo_is_e, mo_bs_e, mo_zs_0, mo_zs_1, mo_ls_e, mo_as_e, mo_na_e, mo_aci_e, mo_acb_e, mo_acj_e, hp_gs, hp_gn, hp_ss, List.getElem?_cons_zero, List.getElem?_cons_succ, List.set_cons_zero, List.set_cons_succ]
        exact q2
  obtain ⟨r, q1, q2⟩ := key (pnv p) 0 (by omega)
  refine ⟨r, q1, ?_⟩
  rw [en237 w0]
  simp (disch := first | assumption | exact zz_nl_i _ | exact zz_nl_r _ | exact zz_nl_n | exact okv_i _ | exact okv_j _ | exact okv_0 | exact okv_1 | exact okv_o _ _ | exact okv_a _ _ | exact bI_okr _ | omega | exact llt_0 | ((repeat apply llt_s) <;> exact llt_0) | fail) only [x237, mo_k_v, mo_k_n, mo_v_e, mo_gf_e, mo_pf_e, mo_ia_e, mo_ba_e, mo_za_e, mo_la_e, mo_aa_e, mo_le_e, mo_is_e, mo_bs_e, mo_zs_0, mo_zs_1, mo_ls_e, mo_as_e, mo_na_e, mo_aci_e, mo_acb_e, mo_acj_e, hp_gs, hp_gn, hp_ss, List.getElem?_cons_zero, List.getElem?_cons_succ, List.set_cons_zero, List.set_cons_succ]
  exact q2
theorem m_readsValue (w0 : hp_g h M = some (mdT M mt (nI 0) (-1) mu t tl s me mf mw)) (wA : hp_g h (M + 1) = some (iA 12639 A)) (wT : hp_g h (M + 2) = some (iA 600 T)) (hT : tpR T t) (htl : tl ≤ 600) (hs : s ≤ tl) (hr : RS A 730 p rk tg z0 z0) (hz : ZR A p) (hlow : ∀ q, q < 256 → bt (tg q) (pnv p) = false) : mdQ h M 238 [.ref M] mt mu t tl me mf mw A (valueP t tl s (p, rk, tg, f)) := by
  obtain ⟨r1, r2, r3, r4⟩ := hr.1
  have ig := m_isGood w0
  rw [decide_eq_true rfl] at ig
  unfold valueP
  dsimp only
  have n1f : ((1 : Nat) = 0) = False := eq_false (by omega)
  by_cases c1 : 0 < pnh p ∧ pnv p < 20
  · rw [if_neg (fun q => q c1)]
    have c1n : ¬ pnv p = 20 := by omega
    have eh : nI (pnh p) - nI 1 = nI (pnh p - 1) := pk_sub (by omega)
    have c1m : ¬ nI (pnh p - 1) < nI 0 := nI_nlt0 (by omega)
    have a1 := adv_le (t := t) hs
    have tk := t_takes w0 wT hT htl hs
    have v0 : hp_g (hp_s h M (mdT M mt (nI 0) (-1) mu t tl (advP t tl s) me mf mw)) M = some (mdT M mt (nI 0) (-1) mu t tl (advP t tl s) me mf mw) := hp_gs _ _ _
    have vA : hp_g (hp_s h M (mdT M mt (nI 0) (-1) mu t tl (advP t tl s) me mf mw)) (M + 1) = some (iA 12639 A) := (hp_gn (by omega)).trans wA
    have vT : hp_g (hp_s h M (mdT M mt (nI 0) (-1) mu t tl (advP t tl s) me mf mw)) (M + 2) = some (iA 600 T) := (hp_gn (by omega)).trans wT
    by_cases c2 : nmF p t tl (advP t tl s) = 0
    · rw [if_neg (fun q => q c2)]
      obtain ⟨k, B, e, u0, uA, uf, un, uo⟩ := m_tells_0 v0 vA vT hT htl a1.2.1 hr c2 (a := 730 + (54 + 12 * pnv p) + 3) (by omega)
      have uT := (uf.2.2.2 (M + 2) (by omega)).trans vT
      have a2 := adv_le (t := t) a1.2.1
      have F : frm h k M (M + 2) := frm_trans (frm_s (b := M) ⟨by omega, by omega⟩ (frm_refl _ _ _)) uf
      generalize hB1 : upd (upd B (730 + (54 + 12 * pnv p)) (nI (pnh p - 1))) (730 + (54 + 12 * pnv p) + 1) (-1) = B1
      have b1o : ∀ i, i < 730 + (54 + 12 * pnv p) ∨ 730 + (54 + 12 * pnv p) + 12 ≤ i → B1 i = A i := fun i hi => by
        rw [← hB1, upd_ne (by omega), upd_ne (by omega), uo i (by omega)]
      have hoff1 : offR A B1 := fun i hi => b1o i (by omega)
      have hr1 : RS B1 730 p rk tg z0 z0 := RS_keep hr c1.2 (fun i h1 h2 => b1o _ (by omega))
      have y0 : hp_g (hp_s k (M + 1) (iA 12639 B1)) M = some (mdT M mt (nI 0) (-1) mu t tl (advP t tl (advP t tl s)) me mf mw) := (hp_gn (by omega)).trans u0
      have yT : hp_g (hp_s k (M + 1) (iA 12639 B1)) (M + 2) = some (iA 600 T) := (hp_gn (by omega)).trans uT
      have hw := t_hasWord y0 yT hT htl a2.2.1 (kw_11 t tl (advP t tl (advP t tl s)))
      have b731 : B1 731 = nI (pnv p) := hr1.1.2.2.2
      have b1x : B1 (730 + (54 + 12 * pnv p)) = nI (pnh p - 1) := by rw [← hB1, upd_ne (by omega), upd_eq]
      have b1y : B1 (730 + (54 + 12 * pnv p) + 1) = -1 := by rw [← hB1, upd_eq]
      have un1 : nmR B1 (730 + (54 + 12 * pnv p) + 3) (wP t tl (advP t tl s)) := nmR_cong un (fun i hi => by rw [← hB1, upd_ne (by omega), upd_ne (by omega)])
      by_cases c3 : kdP t tl (advP t tl (advP t tl s)) = 11
      · rw [if_pos c3]
        rw [if_pos c3] at hw
        have a3 := adv_le (t := t) a2.2.1
        generalize advP t tl (advP t tl (advP t tl s)) = s3 at *
        have x0 : hp_g (hp_s (hp_s k (M + 1) (iA 12639 B1)) M (mdT M mt (nI 0) (-1) mu t tl s3 me mf mw)) M = some (mdT M mt (nI 0) (-1) mu t tl s3 me mf mw) := hp_gs _ _ _
        have xA : hp_g (hp_s (hp_s k (M + 1) (iA 12639 B1)) M (mdT M mt (nI 0) (-1) mu t tl s3 me mf mw)) (M + 1) = some (iA 12639 B1) := (hp_gn (by omega)).trans (hp_gs _ _ _)
        have inm := t_isName x0
        by_cases c4 : ltF p t tl s3 = 0
        · rw [if_neg (fun q => q c4)]
          obtain ⟨l1, l2, l3⟩ := ltF_0 c4
          rw [decide_eq_true l1] at inm
          have vb := t_valueBy x0 xA hr1 (by omega) ((kd_wtk t tl s3).1.mp (Or.inl l1))
          rw [if_pos l2] at vb
          have q1 := (hr1.2.2.1 _ l2).1
          rw [l3] at q1
          have c5 : ¬ nI (vnP p (wP t tl s3)) < nI 0 := nI_nlt0 (by omega)
          generalize hv : vnP p (wP t tl s3) = v at *
          have ig2 := m_isGood (h := hp_s (hp_s k (M + 1) (iA 12639 (upd B1 (730 + (54 + 12 * pnv p) + 1) (nI v)))) M (mdT M mt (nI 0) (-1) mu t tl s3 me mf mw)) (hp_gs _ _ _)
          rw [decide_eq_true rfl] at ig2
          have tk2 := t_takes (h := hp_s (hp_s k (M + 1) (iA 12639 (upd B1 (730 + (54 + 12 * pnv p) + 1) (nI v)))) M (mdT M mt (nI 0) (-1) mu t tl s3 me mf mw)) (hp_gs _ _ _) ((hp_gn (by omega)).trans ((hp_gn (by omega)).trans uT)) hT htl a3.2.1
          rw [hp_ss] at tk2
          have ig3 := m_isGood (h := hp_s (hp_s k (M + 1) (iA 12639 (upd B1 (730 + (54 + 12 * pnv p) + 1) (nI v)))) M (mdT M mt (nI 0) (-1) mu t tl (advP t tl s3) me mf mw)) (hp_gs _ _ _)
          rw [decide_eq_true rfl] at ig3
          have b731' : upd B1 (730 + (54 + 12 * pnv p) + 1) (nI v) 731 = nI (pnv p) := (upd_ne (by omega)).trans b731
          obtain ⟨rr, rz⟩ := RS_addV (B := upd (upd B1 (730 + (54 + 12 * pnv p) + 1) (nI v)) 731 (nI (pnv p + 1))) hr hz hlow c1.2 (w := wP t tl (advP t tl s)) (par := nI v) (upd_eq _ _ _) ((upd_ne (by omega)).trans ((upd_ne (by omega)).trans b1x)) ((upd_ne (by omega)).trans (upd_eq _ _ _)) (nmR_cong un1 (fun i hi => (upd_ne (by omega)).trans (upd_ne (by omega)))) (fun i h1 h2 => (upd_ne h1).trans ((upd_ne (by omega)).trans (by
            by_cases z : i = 730 + (54 + 12 * pnv p) + 2
            · subst z
              rw [← hB1, upd_ne (by omega), upd_ne (by omega)]
              exact uo _ (by omega)
            · exact b1o i (by omega))))
          refine ⟨hp_s (hp_s k (M + 1) (iA 12639 (upd (upd B1 (730 + (54 + 12 * pnv p) + 1) (nI v)) 731 (nI (pnv p + 1))))) M (mdT M mt (nI 0) (-1) mu t tl (advP t tl s3) me mf mw), _, ?_, hp_gs _ _ _, (hp_gn (by omega)).trans (hp_gs _ _ _), rr, rz, fun i hi => (upd_ne (by omega)).trans ((upd_ne (by omega)).trans (hoff1 i hi)), frm_s ⟨by omega, by omega⟩ (frm_s ⟨by omega, by omega⟩ F)⟩
          rw [en238 w0]
          simp (disch := first | assumption | exact zz_nl_i _ | exact zz_nl_r _ | exact zz_nl_n | exact okv_i _ | exact okv_j _ | exact okv_0 | exact okv_1 | exact okv_o _ _ | exact okv_a _ _ | exact bI_okr _ | omega | exact llt_0 | ((repeat apply llt_s) <;> exact llt_0) | fail) only [x238_p0, x238_p1, w0, wA, r3, r4, eh, nI_eq, c1n, if_false, c1m, ig, bI_t, n1f, tk, m_valueAt, nI_add, e, u0, uA, Nat.add_zero, hB1, hw, inm, vb, c5, q1, if_true, mo_k_v, mo_k_n, mo_v_e, mo_gf_e, mo_pf_e, mo_ia_e, mo_ba_e, mo_za_e, mo_la_e, mo_aa_e, mo_le_e, mo_is_e, mo_bs_e, mo_zs_0, mo_zs_1, mo_ls_e, mo_as_e, mo_na_e, mo_aci_e, mo_acb_e, mo_acj_e, hp_gs, hp_gn, hp_ss, List.getElem?_cons_zero, List.getElem?_cons_succ, List.set_cons_zero, List.set_cons_succ]
          rw [hp_comm (show M ≠ M + 1 by omega), hp_ss]
          simp (disch := first | assumption | exact zz_nl_i _ | exact zz_nl_r _ | exact zz_nl_n | exact okv_i _ | exact okv_j _ | exact okv_0 | exact okv_1 | exact okv_o _ _ | exact okv_a _ _ | exact bI_okr _ | omega | exact llt_0 | ((repeat apply llt_s) <;> exact llt_0) | fail) only [x238_p0, x238_p1, ig2, bI_t, nI_01, if_false, tk2, ig3, b731', nI_add, mo_k_v, mo_k_n, mo_v_e, mo_gf_e, mo_pf_e, mo_ia_e, mo_ba_e, mo_za_e, mo_la_e, mo_aa_e, mo_le_e, mo_is_e, mo_bs_e, mo_zs_0, mo_zs_1, mo_ls_e, mo_as_e, mo_na_e, mo_aci_e, mo_acb_e, mo_acj_e, hp_gs, hp_gn, hp_ss, List.getElem?_cons_zero, List.getElem?_cons_succ, List.set_cons_zero, List.set_cons_succ]
          rw [hp_comm (show M ≠ M + 1 by omega), hp_ss]
        · rw [if_pos c4]
          have hlf := ltF_le p t tl s3
          unfold ltF at c4 hlf ⊢
          by_cases l1 : kdP t tl s3 = 2
          · rw [if_neg (fun q => q l1)] at c4 hlf ⊢
            rw [decide_eq_true l1] at inm
            have c4' : ¬ (vnP p (wP t tl s3) < pnv p ∧ pho p (vnP p (wP t tl s3)) = nI (pnh p - 1)) := fun z => c4 (if_pos z)
            rw [show (if fa_first (fun v => decide (pvn p v = wP t tl s3)) (pnv p) < pnv p ∧ pho p (fa_first (fun v => decide (pvn p v = wP t tl s3)) (pnv p)) = nI (pnh p - 1) then 0 else 3) = 3 from if_neg c4']
            have vb := t_valueBy x0 xA hr1 (by omega) ((kd_wtk t tl s3).1.mp (Or.inl l1))
            have fl := m_fails0 x0 (nI 3) (nI s3)
            rw [hp_ss] at fl
            have ig2 : ∀ z, zz_run 227 [.ref M] (hp_s (hp_s k (M + 1) (iA 12639 (upd B1 (730 + (54 + 12 * pnv p) + 1) z))) M (mdT M mt (nI 3) (nI s3) mu t tl s3 me mf mw)) = some (some (.int (nI 0)), hp_s (hp_s k (M + 1) (iA 12639 (upd B1 (730 + (54 + 12 * pnv p) + 1) z))) M (mdT M mt (nI 3) (nI s3) mu t tl s3 me mf mw)) := fun z => by
              rw [m_isGood (hp_gs _ _ _), decide_eq_false n30']
              rfl
            have hcm : ∀ z, hp_s (hp_s (hp_s k (M + 1) (iA 12639 B1)) M (mdT M mt (nI 3) (nI s3) mu t tl s3 me mf mw)) (M + 1) (iA 12639 z) = hp_s (hp_s k (M + 1) (iA 12639 z)) M (mdT M mt (nI 3) (nI s3) mu t tl s3 me mf mw) := fun z => by
              rw [hp_comm (show M ≠ M + 1 by omega), hp_ss]
            have fin : ∀ r, zz_Y 238 (158, [some (.ref M), some (.int (nI (pnv p))), some (.int (nI (pnh p - 1))), some (.int (nI (730 + (54 + 12 * pnv p)))), some (.int r)], [], hp_s (hp_s k (M + 1) (iA 12639 B1)) M (mdT M mt (nI 3) (nI s3) mu t tl s3 me mf mw)) = some (none, hp_s (hp_s k (M + 1) (iA 12639 (upd B1 (730 + (54 + 12 * pnv p) + 1) r))) M (mdT M mt (nI 3) (nI s3) mu t tl s3 me mf mw)) := fun r => by
              simp (disch := first | assumption | exact zz_nl_i _ | exact zz_nl_r _ | exact zz_nl_n | exact okv_i _ | exact okv_j _ | exact okv_0 | exact okv_1 | exact okv_o _ _ | exact okv_a _ _ | exact bI_okr _ | omega | exact llt_0 | ((repeat apply llt_s) <;> exact llt_0) | fail) only [x238_p0, x238_p1, nI_add, mo_k_v, mo_k_n, mo_v_e, mo_gf_e, mo_pf_e, mo_ia_e, mo_ba_e, mo_za_e, mo_la_e, mo_aa_e, mo_le_e, mo_is_e, mo_bs_e, mo_zs_0, mo_zs_1, mo_ls_e, mo_as_e, mo_na_e, mo_aci_e, mo_acb_e, mo_acj_e, hp_gs, hp_gn, hp_ss, List.getElem?_cons_zero, List.getElem?_cons_succ, List.set_cons_zero, List.set_cons_succ]
              have h1 := hcm (upd B1 (730 + (54 + 12 * pnv p) + 1) r)
              have h2 := ig2 r
              rw [h1]
              simp (disch := first | assumption | exact zz_nl_i _ | exact zz_nl_r _ | exact zz_nl_n | exact okv_i _ | exact okv_j _ | exact okv_0 | exact okv_1 | exact okv_o _ _ | exact okv_a _ _ | exact bI_okr _ | omega | exact llt_0 | ((repeat apply llt_s) <;> exact llt_0) | fail) only [x238_p0, x238_p1, h2, if_true, mo_k_v, mo_k_n, mo_v_e, mo_gf_e, mo_pf_e, mo_ia_e, mo_ba_e, mo_za_e, mo_la_e, mo_aa_e, mo_le_e, mo_is_e, mo_bs_e, mo_zs_0, mo_zs_1, mo_ls_e, mo_as_e, mo_na_e, mo_aci_e, mo_acb_e, mo_acj_e, hp_gs, hp_gn, hp_ss, List.getElem?_cons_zero, List.getElem?_cons_succ, List.set_cons_zero, List.set_cons_succ]
            by_cases l2 : vnP p (wP t tl s3) < pnv p
            · rw [if_pos l2] at vb
              have l3 : ¬ pho p (vnP p (wP t tl s3)) = nI (pnh p - 1) := fun z => c4' ⟨l2, z⟩
              have q1 := (hr1.2.2.1 _ l2).1
              have c5 : ¬ nI (vnP p (wP t tl s3)) < nI 0 := nI_nlt0 (by omega)
              generalize hv : vnP p (wP t tl s3) = v at *
              refine ⟨_, upd B1 (730 + (54 + 12 * pnv p) + 1) (nI v), s3, ?_, hp_gs _ _ _, (hp_gn (by omega)).trans (hp_gs _ _ _), fun i hi => (upd_ne (by omega)).trans (hoff1 i hi), frm_s ⟨by omega, by omega⟩ (frm_s ⟨by omega, by omega⟩ F), by omega, by omega⟩
              rw [← fin (nI v), en238 w0]
              simp (disch := first | assumption | exact zz_nl_i _ | exact zz_nl_r _ | exact zz_nl_n | exact okv_i _ | exact okv_j _ | exact okv_0 | exact okv_1 | exact okv_o _ _ | exact okv_a _ _ | exact bI_okr _ | omega | exact llt_0 | ((repeat apply llt_s) <;> exact llt_0) | fail) only [x238_p0, x238_p1, w0, wA, r3, r4, eh, nI_eq, c1n, if_false, c1m, ig, bI_t, n1f, tk, m_valueAt, nI_add, e, u0, uA, Nat.add_zero, hB1, hw, inm, vb, c5, q1, l3, fl, mo_k_v, mo_k_n, mo_v_e, mo_gf_e, mo_pf_e, mo_ia_e, mo_ba_e, mo_za_e, mo_la_e, mo_aa_e, mo_le_e, mo_is_e, mo_bs_e, mo_zs_0, mo_zs_1, mo_ls_e, mo_as_e, mo_na_e, mo_aci_e, mo_acb_e, mo_acj_e, hp_gs, hp_gn, hp_ss, List.getElem?_cons_zero, List.getElem?_cons_succ, List.set_cons_zero, List.set_cons_succ]
            · rw [if_neg l2] at vb
              refine ⟨_, upd B1 (730 + (54 + 12 * pnv p) + 1) (-1), s3, ?_, hp_gs _ _ _, (hp_gn (by omega)).trans (hp_gs _ _ _), fun i hi => (upd_ne (by omega)).trans (hoff1 i hi), frm_s ⟨by omega, by omega⟩ (frm_s ⟨by omega, by omega⟩ F), by omega, by omega⟩
              rw [← fin (-1), en238 w0]
              simp (disch := first | assumption | exact zz_nl_i _ | exact zz_nl_r _ | exact zz_nl_n | exact okv_i _ | exact okv_j _ | exact okv_0 | exact okv_1 | exact okv_o _ _ | exact okv_a _ _ | exact bI_okr _ | omega | exact llt_0 | ((repeat apply llt_s) <;> exact llt_0) | fail) only [x238_p0, x238_p1, w0, wA, r3, r4, eh, nI_eq, c1n, if_false, c1m, ig, bI_t, n1f, tk, m_valueAt, nI_add, e, u0, uA, Nat.add_zero, hB1, hw, inm, vb, eq_true m1_lt0, if_true, fl, mo_k_v, mo_k_n, mo_v_e, mo_gf_e, mo_pf_e, mo_ia_e, mo_ba_e, mo_za_e, mo_la_e, mo_aa_e, mo_le_e, mo_is_e, mo_bs_e, mo_zs_0, mo_zs_1, mo_ls_e, mo_as_e, mo_na_e, mo_aci_e, mo_acb_e, mo_acj_e, hp_gs, hp_gn, hp_ss, List.getElem?_cons_zero, List.getElem?_cons_succ, List.set_cons_zero, List.set_cons_succ]
          · rw [if_pos l1]
            rw [decide_eq_false l1] at inm
            have fl := m_fails0 x0 (nI 1) (nI s3)
            rw [hp_ss] at fl
            have x1 : hp_g (hp_s (hp_s k (M + 1) (iA 12639 B1)) M (mdT M mt (nI 1) (nI s3) mu t tl s3 me mf mw)) M = some (mdT M mt (nI 1) (nI s3) mu t tl s3 me mf mw) := hp_gs _ _ _
            have x1A : hp_g (hp_s (hp_s k (M + 1) (iA 12639 B1)) M (mdT M mt (nI 1) (nI s3) mu t tl s3 me mf mw)) (M + 1) = some (iA 12639 B1) := (hp_gn (by omega)).trans (hp_gs _ _ _)
            obtain ⟨r, hrr, vb⟩ := m_valueByX x1 x1A hr1 (by omega) (mvP t tl s3)
            have fl2 := m_fails1 x1 (nz (show 0 < 1 by omega) (by omega)).2 (nI 3) (nI s3)
            have hcm : ∀ z, hp_s (hp_s (hp_s k (M + 1) (iA 12639 B1)) M (mdT M mt (nI 1) (nI s3) mu t tl s3 me mf mw)) (M + 1) (iA 12639 z) = hp_s (hp_s k (M + 1) (iA 12639 z)) M (mdT M mt (nI 1) (nI s3) mu t tl s3 me mf mw) := fun z => by
              rw [hp_comm (show M ≠ M + 1 by omega), hp_ss]
            have ig2 : zz_run 227 [.ref M] (hp_s (hp_s k (M + 1) (iA 12639 (upd B1 (730 + (54 + 12 * pnv p) + 1) r))) M (mdT M mt (nI 1) (nI s3) mu t tl s3 me mf mw)) = some (some (.int (nI 0)), hp_s (hp_s k (M + 1) (iA 12639 (upd B1 (730 + (54 + 12 * pnv p) + 1) r))) M (mdT M mt (nI 1) (nI s3) mu t tl s3 me mf mw)) := by
              rw [m_isGood (hp_gs _ _ _), decide_eq_false n01]
              rfl
            have fin : zz_Y 238 (158, [some (.ref M), some (.int (nI (pnv p))), some (.int (nI (pnh p - 1))), some (.int (nI (730 + (54 + 12 * pnv p)))), some (.int r)], [], hp_s (hp_s k (M + 1) (iA 12639 B1)) M (mdT M mt (nI 1) (nI s3) mu t tl s3 me mf mw)) = some (none, hp_s (hp_s k (M + 1) (iA 12639 (upd B1 (730 + (54 + 12 * pnv p) + 1) r))) M (mdT M mt (nI 1) (nI s3) mu t tl s3 me mf mw)) := by
              simp (disch := first | assumption | exact zz_nl_i _ | exact zz_nl_r _ | exact zz_nl_n | exact okv_i _ | exact okv_j _ | exact okv_0 | exact okv_1 | exact okv_o _ _ | exact okv_a _ _ | exact bI_okr _ | omega | exact llt_0 | ((repeat apply llt_s) <;> exact llt_0) | fail) only [x238_p0, x238_p1, nI_add, mo_k_v, mo_k_n, mo_v_e, mo_gf_e, mo_pf_e, mo_ia_e, mo_ba_e, mo_za_e, mo_la_e, mo_aa_e, mo_le_e, mo_is_e, mo_bs_e, mo_zs_0, mo_zs_1, mo_ls_e, mo_as_e, mo_na_e, mo_aci_e, mo_acb_e, mo_acj_e, hp_gs, hp_gn, hp_ss, List.getElem?_cons_zero, List.getElem?_cons_succ, List.set_cons_zero, List.set_cons_succ]
              rw [hcm]
              simp (disch := first | assumption | exact zz_nl_i _ | exact zz_nl_r _ | exact zz_nl_n | exact okv_i _ | exact okv_j _ | exact okv_0 | exact okv_1 | exact okv_o _ _ | exact okv_a _ _ | exact bI_okr _ | omega | exact llt_0 | ((repeat apply llt_s) <;> exact llt_0) | fail) only [x238_p0, x238_p1, ig2, if_true, mo_k_v, mo_k_n, mo_v_e, mo_gf_e, mo_pf_e, mo_ia_e, mo_ba_e, mo_za_e, mo_la_e, mo_aa_e, mo_le_e, mo_is_e, mo_bs_e, mo_zs_0, mo_zs_1, mo_ls_e, mo_as_e, mo_na_e, mo_aci_e, mo_acb_e, mo_acj_e, hp_gs, hp_gn, hp_ss, List.getElem?_cons_zero, List.getElem?_cons_succ, List.set_cons_zero, List.set_cons_succ]
            refine ⟨_, upd B1 (730 + (54 + 12 * pnv p) + 1) r, s3, ?_, hp_gs _ _ _, (hp_gn (by omega)).trans (hp_gs _ _ _), fun i hi => (upd_ne (by omega)).trans (hoff1 i hi), frm_s ⟨by omega, by omega⟩ (frm_s ⟨by omega, by omega⟩ F), by omega, by omega⟩
            rw [← fin, en238 w0]
            rcases hrr with hrr | ⟨v, hv, hrr⟩
            · subst hrr
              simp (disch := first | assumption | exact zz_nl_i _ | exact zz_nl_r _ | exact zz_nl_n | exact okv_i _ | exact okv_j _ | exact okv_0 | exact okv_1 | exact okv_o _ _ | exact okv_a _ _ | exact bI_okr _ | omega | exact llt_0 | ((repeat apply llt_s) <;> exact llt_0) | fail) only [x238_p0, x238_p1, w0, wA, r3, r4, eh, nI_eq, c1n, if_false, c1m, ig, bI_t, bI_f, n1f, tk, m_valueAt, nI_add, e, u0, uA, Nat.add_zero, hB1, hw, inm, if_true, fl, vb, eq_true m1_lt0, fl2, mo_k_v, mo_k_n, mo_v_e, mo_gf_e, mo_pf_e, mo_ia_e, mo_ba_e, mo_za_e, mo_la_e, mo_aa_e, mo_le_e, mo_is_e, mo_bs_e, mo_zs_0, mo_zs_1, mo_ls_e, mo_as_e, mo_na_e, mo_aci_e, mo_acb_e, mo_acj_e, hp_gs, hp_gn, hp_ss, List.getElem?_cons_zero, List.getElem?_cons_succ, List.set_cons_zero, List.set_cons_succ]
            · subst hrr
              have c5 : ¬ nI v < nI 0 := nI_nlt0 (by omega)
              have q1 := (hr1.2.2.1 _ hv).1
              by_cases l3 : pho p v = nI (pnh p - 1)
              · simp (disch := first | assumption | exact zz_nl_i _ | exact zz_nl_r _ | exact zz_nl_n | exact okv_i _ | exact okv_j _ | exact okv_0 | exact okv_1 | exact okv_o _ _ | exact okv_a _ _ | exact bI_okr _ | omega | exact llt_0 | ((repeat apply llt_s) <;> exact llt_0) | fail) only [x238_p0, x238_p1, w0, wA, r3, r4, eh, nI_eq, c1n, if_false, c1m, ig, bI_t, bI_f, n1f, tk, m_valueAt, nI_add, e, u0, uA, Nat.add_zero, hB1, hw, inm, if_true, fl, vb, c5, q1, eq_true l3, mo_k_v, mo_k_n, mo_v_e, mo_gf_e, mo_pf_e, mo_ia_e, mo_ba_e, mo_za_e, mo_la_e, mo_aa_e, mo_le_e, mo_is_e, mo_bs_e, mo_zs_0, mo_zs_1, mo_ls_e, mo_as_e, mo_na_e, mo_aci_e, mo_acb_e, mo_acj_e, hp_gs, hp_gn, hp_ss, List.getElem?_cons_zero, List.getElem?_cons_succ, List.set_cons_zero, List.set_cons_succ]
              · simp (disch := first | assumption | exact zz_nl_i _ | exact zz_nl_r _ | exact zz_nl_n | exact okv_i _ | exact okv_j _ | exact okv_0 | exact okv_1 | exact okv_o _ _ | exact okv_a _ _ | exact bI_okr _ | omega | exact llt_0 | ((repeat apply llt_s) <;> exact llt_0) | fail) only [x238_p0, x238_p1, w0, wA, r3, r4, eh, nI_eq, c1n, if_false, c1m, ig, bI_t, bI_f, n1f, tk, m_valueAt, nI_add, e, u0, uA, Nat.add_zero, hB1, hw, inm, if_true, fl, vb, c5, q1, l3, fl2, mo_k_v, mo_k_n, mo_v_e, mo_gf_e, mo_pf_e, mo_ia_e, mo_ba_e, mo_za_e, mo_la_e, mo_aa_e, mo_le_e, mo_is_e, mo_bs_e, mo_zs_0, mo_zs_1, mo_ls_e, mo_as_e, mo_na_e, mo_aci_e, mo_acb_e, mo_acj_e, hp_gs, hp_gn, hp_ss, List.getElem?_cons_zero, List.getElem?_cons_succ, List.set_cons_zero, List.set_cons_succ]
      · rw [if_neg c3]
        rw [if_neg c3] at hw
        have ig2 := m_isGood y0
        rw [decide_eq_true rfl] at ig2
        obtain ⟨rr, rz⟩ := RS_addV (B := upd B1 731 (nI (pnv p + 1))) hr hz hlow c1.2 (w := wP t tl (advP t tl s)) (par := -1) (upd_eq _ _ _) ((upd_ne (by omega)).trans b1x) ((upd_ne (by omega)).trans b1y) (nmR_cong un1 (fun i hi => upd_ne (by omega))) (fun i h1 h2 => (upd_ne h1).trans (by
          by_cases z : i = 730 + (54 + 12 * pnv p) + 2
          · subst z
            rw [← hB1, upd_ne (by omega), upd_ne (by omega)]
            exact uo _ (by omega)
          · exact b1o i (by omega)))
        refine ⟨hp_s k (M + 1) (iA 12639 (upd B1 731 (nI (pnv p + 1)))), _, ?_, (hp_gn (by omega)).trans u0, hp_gs _ _ _, rr, rz, fun i hi => (upd_ne (by omega)).trans (hoff1 i hi), frm_s ⟨by omega, by omega⟩ F⟩
        rw [en238 w0]
        simp (disch := first | assumption | exact zz_nl_i _ | exact zz_nl_r _ | exact zz_nl_n | exact okv_i _ | exact okv_j _ | exact okv_0 | exact okv_1 | exact okv_o _ _ | exact okv_a _ _ | exact bI_okr _ | omega | exact llt_0 | ((repeat apply llt_s) <;> exact llt_0) | fail) only [x238_p0, x238_p1, w0, wA, r3, r4, eh, nI_eq, c1n, if_false, c1m, ig, bI_t, n1f, tk, m_valueAt, nI_add, e, u0, uA, Nat.add_zero, hB1, hw, if_true, ig2, b731, mo_k_v, mo_k_n, mo_v_e, mo_gf_e, mo_pf_e, mo_ia_e, mo_ba_e, mo_za_e, mo_la_e, mo_aa_e, mo_le_e, mo_is_e, mo_bs_e, mo_zs_0, mo_zs_1, mo_ls_e, mo_as_e, mo_na_e, mo_aci_e, mo_acb_e, mo_acj_e, hp_gs, hp_gn, hp_ss, List.getElem?_cons_zero, List.getElem?_cons_succ, List.set_cons_zero, List.set_cons_succ]
    · rw [if_pos c2]
      have hle := nmF_le p t tl (advP t tl s)
      obtain ⟨z1, z2⟩ := nz (a := nmF p t tl (advP t tl s)) (by omega) (by omega)
      have e := m_tells_f v0 vA hr c2 (nI (730 + (54 + 12 * pnv p) + 3))
      rw [hp_ss] at e
      generalize hB1 : upd (upd A (730 + (54 + 12 * pnv p)) (nI (pnh p - 1))) (730 + (54 + 12 * pnv p) + 1) (-1) = B1
      have hcm : hp_s (hp_s h M (mdT M mt (nI (nmF p t tl (advP t tl s))) (nI (advP t tl s)) mu t tl (advP t tl s) me mf mw)) (M + 1) (iA 12639 B1) = hp_s (hp_s h (M + 1) (iA 12639 B1)) M (mdT M mt (nI (nmF p t tl (advP t tl s))) (nI (advP t tl s)) mu t tl (advP t tl s) me mf mw) := by
        rw [hp_comm (show M ≠ M + 1 by omega)]
      have x0 : hp_g (hp_s (hp_s h M (mdT M mt (nI (nmF p t tl (advP t tl s))) (nI (advP t tl s)) mu t tl (advP t tl s) me mf mw)) (M + 1) (iA 12639 B1)) M = some (mdT M mt (nI (nmF p t tl (advP t tl s))) (nI (advP t tl s)) mu t tl (advP t tl s) me mf mw) := (hp_gn (by omega)).trans (hp_gs _ _ _)
      have ig2 := m_isGood x0
      rw [decide_eq_false z1] at ig2
      have hw := m_hasWord_bad x0 z1 (lN 257)
      refine ⟨_, B1, _, ?_, x0, hp_gs _ _ _, fun i hi => by rw [← hB1, upd_ne (by omega), upd_ne (by omega)], frm_s ⟨by omega, by omega⟩ (frm_s ⟨by omega, by omega⟩ (frm_refl _ _ _)), by omega, by omega⟩
      rw [en238 w0]
      simp (disch := first | assumption | exact zz_nl_i _ | exact zz_nl_r _ | exact zz_nl_n | exact okv_i _ | exact okv_j _ | exact okv_0 | exact okv_1 | exact okv_o _ _ | exact okv_a _ _ | exact bI_okr _ | omega | exact llt_0 | ((repeat apply llt_s) <;> exact llt_0) | fail) only [x238_p0, x238_p1, w0, wA, r3, r4, eh, nI_eq, c1n, if_false, c1m, ig, bI_t, n1f, tk, m_valueAt, nI_add, e, Nat.add_zero, hB1, hw, if_true, ig2, bI_f, mo_k_v, mo_k_n, mo_v_e, mo_gf_e, mo_pf_e, mo_ia_e, mo_ba_e, mo_za_e, mo_la_e, mo_aa_e, mo_le_e, mo_is_e, mo_bs_e, mo_zs_0, mo_zs_1, mo_ls_e, mo_as_e, mo_na_e, mo_aci_e, mo_acb_e, mo_acj_e, hp_gs, hp_gn, hp_ss, List.getElem?_cons_zero, List.getElem?_cons_succ, List.set_cons_zero, List.set_cons_succ]
  · rw [if_pos c1]
    have fl := m_fails0 w0 (nI 4) (nI s)
    have ig2 := m_isGood (h := hp_s h M (mdT M mt (nI 4) (nI s) mu t tl s me mf mw)) (hp_gs _ _ _)
    rw [decide_eq_false (nz (show 0 < 4 by omega) (by omega)).1] at ig2
    refine ⟨_, A, s, ?_, hp_gs _ _ _, (hp_gn (by omega)).trans wA, fun i hi => rfl, frm_s ⟨by omega, by omega⟩ (frm_refl _ _ _), by omega, by omega⟩
    rw [en238 w0]
    by_cases c20 : pnv p = 20
    · simp (disch := first | assumption | exact zz_nl_i _ | exact zz_nl_r _ | exact zz_nl_n | exact okv_i _ | exact okv_j _ | exact okv_0 | exact okv_1 | exact okv_o _ _ | exact okv_a _ _ | exact bI_okr _ | omega | exact llt_0 | ((repeat apply llt_s) <;> exact llt_0) | fail) only [x238_p0, x238_p1, w0, wA, r3, r4, nI_eq, eq_true c20, if_true, fl, ig2, bI_f, mo_k_v, mo_k_n, mo_v_e, mo_gf_e, mo_pf_e, mo_ia_e, mo_ba_e, mo_za_e, mo_la_e, mo_aa_e, mo_le_e, mo_is_e, mo_bs_e, mo_zs_0, mo_zs_1, mo_ls_e, mo_as_e, mo_na_e, mo_aci_e, mo_acb_e, mo_acj_e, hp_gs, hp_gn, hp_ss, List.getElem?_cons_zero, List.getElem?_cons_succ, List.set_cons_zero, List.set_cons_succ]
    · have c0 : pnh p = 0 := by omega
      have eh : nI (pnh p) - nI 1 = -1 := by rw [c0]; exact n_m1
      simp (disch := first | assumption | exact zz_nl_i _ | exact zz_nl_r _ | exact zz_nl_n | exact okv_i _ | exact okv_j _ | exact okv_0 | exact okv_1 | exact okv_o _ _ | exact okv_a _ _ | exact bI_okr _ | omega | exact llt_0 | ((repeat apply llt_s) <;> exact llt_0) | fail) only [x238_p0, x238_p1, w0, wA, r3, r4, eh, nI_eq, c20, if_false, eq_true m1_lt0, if_true, fl, ig2, bI_f, mo_k_v, mo_k_n, mo_v_e, mo_gf_e, mo_pf_e, mo_ia_e, mo_ba_e, mo_za_e, mo_la_e, mo_aa_e, mo_le_e, mo_is_e, mo_bs_e, mo_zs_0, mo_zs_1, mo_ls_e, mo_as_e, mo_na_e, mo_aci_e, mo_acb_e, mo_acj_e, hp_gs, hp_gn, hp_ss, List.getElem?_cons_zero, List.getElem?_cons_succ, List.set_cons_zero, List.set_cons_succ]
end
