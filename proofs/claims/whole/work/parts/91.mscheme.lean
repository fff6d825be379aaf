/-! the reference: records, lines, the scheme -/
section
variable {h : zz_H} {M : Nat} {A : Nat → Int32} {mt mk mp mu : Int32} {me mf mw : Int32} {p : Pl} {rk tg f : Nat → Int32} {T : Nat → Int32} {t : Nat → Nat} {tl s : Nat}
theorem m_readsRecord (w0 : hp_g h M = some (mdT M mt (nI 0) (-1) mu t tl s me mf mw)) (wA : hp_g h (M + 1) = some (iA 12639 A)) (wT : hp_g h (M + 2) = some (iA 600 T)) (hT : tpR T t) (htl : tl ≤ 600) (hs : s ≤ tl) (hr : RS A 730 p rk tg z0 z0) (hz : ZR A p) (hd : DI (p, rk, tg, f)) : mdQ h M 240 [.ref M] mt mu t tl me mf mw A (recordP t tl s (p, rk, tg, f)) := by
  have a1 := adv_le (t := t) hs
  have a2 := adv_le (t := t) a1.2.1
  have a3 := adv_le (t := t) a2.2.1
  have tk := t_takes w0 wT hT htl hs
  unfold recordP
  dsimp only
  generalize hs1 : advP t tl s = s1 at *
  generalize hs2 : advP t tl s1 = s2 at *
  have v0 : hp_g (hp_s h M (mdT M mt (nI 0) (-1) mu t tl s1 me mf mw)) M = some (mdT M mt (nI 0) (-1) mu t tl s1 me mf mw) := hp_gs _ _ _
  have vA : hp_g (hp_s h M (mdT M mt (nI 0) (-1) mu t tl s1 me mf mw)) (M + 1) = some (iA 12639 A) := (hp_gn (by omega)).trans wA
  have vT : hp_g (hp_s h M (mdT M mt (nI 0) (-1) mu t tl s1 me mf mw)) (M + 2) = some (iA 600 T) := (hp_gn (by omega)).trans wT
  have ig1 := m_isGood v0
  rw [decide_eq_true rfl] at ig1
  -- what is left after a fault
  have badEnd : ∀ a b r, 0 < a → a < 10 → zz_Y 240 (51, [some (.ref M), some (.int r), none], [], hp_s h M (mdT M mt (nI a) (nI b) mu t tl s1 me mf mw)) = some (none, hp_s h M (mdT M mt (nI a) (nI b) mu t tl s1 me mf mw)) := by
    intro a b r h1 h2
    have z := (nz h1 h2).1
    have e1 := m_num_bad (h := hp_s h M (mdT M mt (nI a) (nI b) mu t tl s1 me mf mw)) (hp_gs _ _ _) z (nI 999)
    have e2 := m_isGood (h := hp_s h M (mdT M mt (nI a) (nI b) mu t tl s1 me mf mw)) (hp_gs _ _ _)
    rw [decide_eq_false z] at e2
    simp (disch := first | assumption | exact zz_nl_i _ | exact zz_nl_r _ | exact zz_nl_n | exact okv_i _ | exact okv_j _ | exact okv_0 | exact okv_1 | exact okv_o _ _ | exact okv_a _ _ | exact bI_okr _ | omega | exact llt_0 | ((repeat apply llt_s) <;> exact llt_0) | fail) only [x240, e1, e2, bI_f, if_true, mo_k_v, mo_k_n, mo_v_e, mo_gf_e, mo_pf_e, mo_ia_e, mo_ba_e, mo_za_e, mo_la_e, mo_aa_e, mo_le_e, mo_is_e, mo_bs_e, mo_zs_0, mo_zs_1, mo_ls_e, mo_as_e, mo_na_e, mo_aci_e, mo_acb_e, mo_acj_e, hp_gs, hp_gn, hp_ss, List.getElem?_cons_zero, List.getElem?_cons_succ, List.set_cons_zero, List.set_cons_succ]
  by_cases c1 : nuF t tl 255 s1 = 0
  · rw [if_neg (fun q => q c1)]
    have e1 := m_num_0 v0 (by omega) c1
    obtain ⟨ck, cn⟩ := nuF_0 c1
    have hl1 := nuN_lt t tl s1
    rw [nP_nI, nI_ltI (by omega) (by omega)] at cn
    generalize hq0 : nuN t tl s1 = q at *
    have hq : q < 256 := by omega
    have ib := m_isBit v0 vA (at_ := 730 + 294) hq (by omega)
    rw [(hr.2.2.2.1 q hq).1] at ib
    have hthr : thrC rk (nI q) = !decide (rk q = -1) := by
      unfold thrC
      rw [isV_nI (by omega) hq, nI_clamp (by omega), Bool.true_and]
    by_cases c2 : thrC rk (nI q) = true
    · rw [if_pos c2]
      rw [← hthr, c2] at ib
      have fl := m_fails0 v0 (nI 5) (nI s1)
      rw [hp_ss] at fl
      have ig2 := m_isGood (h := hp_s h M (mdT M mt (nI 5) (nI s1) mu t tl s1 me mf mw)) (hp_gs _ _ _)
      rw [decide_eq_false (nz (show 0 < 5 by omega) (by omega)).1] at ig2
      have be := badEnd 5 s1 (nI q) (by omega) (by omega)
      refine ⟨_, A, s1, ?_, hp_gs _ _ _, (hp_gn (by omega)).trans wA, fun i hi => rfl, frm_s ⟨by omega, by omega⟩ (frm_refl _ _ _), by omega, by omega⟩
      rw [← be, en240 w0]
      simp (disch := first | assumption | exact zz_nl_i _ | exact zz_nl_r _ | exact zz_nl_n | exact okv_i _ | exact okv_j _ | exact okv_0 | exact okv_1 | exact okv_o _ _ | exact okv_a _ _ | exact bI_okr _ | omega | exact llt_0 | ((repeat apply llt_s) <;> exact llt_0) | fail) only [x240, tk, e1, ig1, bI_t, nI_01, if_false, Nat.reduceAdd, ib, v0, fl, ig2, bI_f, if_true, mo_k_v, mo_k_n, mo_v_e, mo_gf_e, mo_pf_e, mo_ia_e, mo_ba_e, mo_za_e, mo_la_e, mo_aa_e, mo_le_e, mo_is_e, mo_bs_e, mo_zs_0, mo_zs_1, mo_ls_e, mo_as_e, mo_na_e, mo_aci_e, mo_acb_e, mo_acj_e, hp_gs, hp_gn, hp_ss, List.getElem?_cons_zero, List.getElem?_cons_succ, List.set_cons_zero, List.set_cons_succ]
    · rw [if_neg c2]
      rw [← hthr, Bool.eq_false_iff.mpr c2] at ib
      have hrk : rk q = -1 := by
        rw [hthr, Bool.not_eq_true', decide_eq_false_iff_not, Classical.not_not] at c2
        exact c2
      have tk2 := t_takes v0 vT hT htl a1.2.1
      rw [hs2, hp_ss] at tk2
      have u0 : hp_g (hp_s h M (mdT M mt (nI 0) (-1) mu t tl s2 me mf mw)) M = some (mdT M mt (nI 0) (-1) mu t tl s2 me mf mw) := hp_gs _ _ _
      have uA : hp_g (hp_s h M (mdT M mt (nI 0) (-1) mu t tl s2 me mf mw)) (M + 1) = some (iA 12639 A) := (hp_gn (by omega)).trans wA
      have uT : hp_g (hp_s h M (mdT M mt (nI 0) (-1) mu t tl s2 me mf mw)) (M + 2) = some (iA 600 T) := (hp_gn (by omega)).trans wT
      by_cases c3 : nuF t tl 999 s2 = 0
      · rw [if_neg (fun q => q c3)]
        have e2 := m_num_0 u0 (by omega) c3
        have ig2 := m_isGood u0
        rw [decide_eq_true rfl] at ig2
        have hl2 := nuN_lt t tl s2
        have tk3 := t_takes u0 uT hT htl a2.2.1
        rw [hp_ss] at tk3
        generalize hs3 : advP t tl s2 = s3 at *
        generalize hx0 : nuN t tl s2 = x at *
        have x0 : hp_g (hp_s h M (mdT M mt (nI 0) (-1) mu t tl s3 me mf mw)) M = some (mdT M mt (nI 0) (-1) mu t tl s3 me mf mw) := hp_gs _ _ _
        have xA : hp_g (hp_s h M (mdT M mt (nI 0) (-1) mu t tl s3 me mf mw)) (M + 1) = some (iA 12639 A) := (hp_gn (by omega)).trans wA
        have tn := m_turns x0 xA (a := 730 + 294) hq (by omega)
        have tn' : zz_run 208 [.ref M, .int (nI (730 + 294)), .int (nI q)] (hp_s h M (mdT M mt (nI 0) (-1) mu t tl s3 me mf mw)) = some (none, hp_s (hp_s h M (mdT M mt (nI 0) (-1) mu t tl s3 me mf mw)) (M + 1) (iA 12639 (togA A (730 + 294) q))) := tn
        have hm1 : ¬ nI x = -1 := nI_m1 (by omega)
        have htg : tg q = nI 0 := by
          rcases (hd.2.2.1.2.2.2.1 q hq).2 with ⟨_, z⟩ | ⟨a, h3, h4⟩
          · exact z
          · rw [hrk] at h4
            exact absurd h4 (m1_nI (by omega))
        have hr2 : RS (upd (togA A (730 + 294) q) (730 + 462 + q) (nI x)) 730 p (upd rk q (nI x)) (upd tg q (nI 0)) z0 z0 := by
          refine RS_put' hr (nI x) (nI 0) (fun i hi => ?_) (fun r hr1 => ?_) (fun v hv r hr1 => ?_) (fun r hr1 hrq => ?_) (Or.inr (upd_eq _ _ _))
          · rw [upd_ne (by omega), tog_out hq (by omega)]
          · rw [upd_ne (by omega), tog_bit A (730 + 294) hq hr1]
            have a := (hr.2.2.2.1 q hq).1
            rw [hrk, decide_eq_true rfl] at a
            rw [a, decide_eq_false hm1]
            rfl
          · have hv20 := hr.1.2.1
            rw [upd_ne (by omega), tog_out hq (by omega)]
            by_cases c : r = q
            · subst c
              have a := hr.2.2.2.2 v hv r hr1
              rw [htg] at a
              rw [if_pos rfl, a]
            · rw [if_neg c]
          · rw [upd_ne (by omega), tog_out hq (by omega)]
        have hz2 : ZR (upd (togA A (730 + 294) q) (730 + 462 + q) (nI x)) p := ⟨fun d h1 h2 => by rw [upd_ne (by omega), tog_out hq (by omega)]; exact hz.1 d h1 h2, fun w h1 h2 => ⟨by rw [upd_ne (by omega), tog_out hq (by omega)]; exact (hz.2 w h1 h2).1, fun b hb => by rw [upd_ne (by omega), tog_out hq (by omega)]; exact (hz.2 w h1 h2).2 b hb⟩⟩
        have r := m_tagsLoop (M := M) (mt := mt) (mu := mu) (me := me) (mf := mf) (mw := mw) (f := f) hT htl hd.2.2.1.1 hq (nI x) (some (.int (nI x))) 601 (hp_s (hp_s h M (mdT M mt (nI 0) (-1) mu t tl s3 me mf mw)) (M + 1) (iA 12639 (upd (togA A (730 + 294) q) (730 + 462 + q) (nI x)))) s3 (nI 0) _ ((hp_gn (by omega)).trans (hp_gs _ _ _)) (hp_gs _ _ _) ((hp_gn (by omega)).trans ((hp_gn (by omega)).trans wT)) a3.2.1 hr2 hz2 (by omega)
        have r := mdY_frm r (h0 := h) (A0 := A) (frm_s (b := M + 1) ⟨by omega, by omega⟩ (frm_s (b := M) ⟨by omega, by omega⟩ (frm_refl _ _ _))) (fun i hi => (upd_ne (by omega)).trans (tog_out hq (by omega)))
        have e : zz_run 240 [.ref M] h = zz_Y 240 (91, [some (.ref (M)), some (.int (nI (q))), some (.int (nI (x)))], [], hp_s (hp_s h M (mdT M mt (nI 0) (-1) mu t tl s3 me mf mw)) (M + 1) (iA 12639 (upd (togA A (730 + 294) q) (730 + 462 + q) (nI x)))) := by
          rw [en240 w0]
          rw [show 730 + 294 = 1024 from rfl] at ib tn' ⊢
          rw [show 730 + 462 = 1192 from rfl]
          simp (disch := first | assumption | exact zz_nl_i _ | exact zz_nl_r _ | exact zz_nl_n | exact okv_i _ | exact okv_j _ | exact okv_0 | exact okv_1 | exact okv_o _ _ | exact okv_a _ _ | exact bI_okr _ | omega | exact llt_0 | ((repeat apply llt_s) <;> exact llt_0) | fail) only [x240, tk, e1, ig1, bI_t, nI_01, if_false, ib, bI_f, if_true, tk2, e2, ig2, tk3, tn', x0, nI_add, mo_k_v, mo_k_n, mo_v_e, mo_gf_e, mo_pf_e, mo_ia_e, mo_ba_e, mo_za_e, mo_la_e, mo_aa_e, mo_le_e, mo_is_e, mo_bs_e, mo_zs_0, mo_zs_1, mo_ls_e, mo_as_e, mo_na_e, mo_aci_e, mo_acb_e, mo_acj_e, hp_gs, hp_gn, hp_ss, List.getElem?_cons_zero, List.getElem?_cons_succ, List.set_cons_zero, List.set_cons_succ]
        rw [mdQ_Y, e]
        exact r
      · rw [if_pos c3]
        have hle := nuF_le t tl 999 s2
        obtain ⟨z1, z2⟩ := nz (a := nuF t tl 999 s2) (by omega) (by omega)
        have e2 := m_num_f u0 (by omega) c3
        rw [hp_ss] at e2
        have ig2 := m_isGood (h := hp_s h M (mdT M mt (nI (nuF t tl 999 s2)) (nI s2) mu t tl s2 me mf mw)) (hp_gs _ _ _)
        rw [decide_eq_false z1] at ig2
        refine ⟨_, A, s2, ?_, hp_gs _ _ _, (hp_gn (by omega)).trans wA, fun i hi => rfl, frm_s ⟨by omega, by omega⟩ (frm_refl _ _ _), by omega, by omega⟩
        rw [en240 w0]
        simp (disch := first | assumption | exact zz_nl_i _ | exact zz_nl_r _ | exact zz_nl_n | exact okv_i _ | exact okv_j _ | exact okv_0 | exact okv_1 | exact okv_o _ _ | exact okv_a _ _ | exact bI_okr _ | omega | exact llt_0 | ((repeat apply llt_s) <;> exact llt_0) | fail) only [x240, tk, e1, ig1, bI_t, nI_01, if_false, Nat.reduceAdd, ib, bI_f, if_true, tk2, e2, ig2, mo_k_v, mo_k_n, mo_v_e, mo_gf_e, mo_pf_e, mo_ia_e, mo_ba_e, mo_za_e, mo_la_e, mo_aa_e, mo_le_e, mo_is_e, mo_bs_e, mo_zs_0, mo_zs_1, mo_ls_e, mo_as_e, mo_na_e, mo_aci_e, mo_acb_e, mo_acj_e, hp_gs, hp_gn, hp_ss, List.getElem?_cons_zero, List.getElem?_cons_succ, List.set_cons_zero, List.set_cons_succ]
  · rw [if_pos c1]
    have hle := nuF_le t tl 255 s1
    obtain ⟨z1, z2⟩ := nz (a := nuF t tl 255 s1) (by omega) (by omega)
    have e1 := m_num_f v0 (by omega) c1
    rw [hp_ss] at e1
    have ig2 := m_isGood (h := hp_s h M (mdT M mt (nI (nuF t tl 255 s1)) (nI s1) mu t tl s1 me mf mw)) (hp_gs _ _ _)
    rw [decide_eq_false z1] at ig2
    have be := badEnd (nuF t tl 255 s1) s1 (nI 0) (by omega) (by omega)
    refine ⟨_, A, s1, ?_, hp_gs _ _ _, (hp_gn (by omega)).trans wA, fun i hi => rfl, frm_s ⟨by omega, by omega⟩ (frm_refl _ _ _), by omega, by omega⟩
    rw [← be, en240 w0]
    simp (disch := first | assumption | exact zz_nl_i _ | exact zz_nl_r _ | exact zz_nl_n | exact okv_i _ | exact okv_j _ | exact okv_0 | exact okv_1 | exact okv_o _ _ | exact okv_a _ _ | exact bI_okr _ | omega | exact llt_0 | ((repeat apply llt_s) <;> exact llt_0) | fail) only [x240, tk, e1, ig2, bI_f, if_true, mo_k_v, mo_k_n, mo_v_e, mo_gf_e, mo_pf_e, mo_ia_e, mo_ba_e, mo_za_e, mo_la_e, mo_aa_e, mo_le_e, mo_is_e, mo_bs_e, mo_zs_0, mo_zs_1, mo_ls_e, mo_as_e, mo_na_e, mo_aci_e, mo_acb_e, mo_acj_e, hp_gs, hp_gn, hp_ss, List.getElem?_cons_zero, List.getElem?_cons_succ, List.set_cons_zero, List.set_cons_succ]
theorem m_readsLine (w0 : hp_g h M = some (mdT M mt (nI 0) (-1) mu t tl s me mf mw)) (wA : hp_g h (M + 1) = some (iA 12639 A)) (wT : hp_g h (M + 2) = some (iA 600 T)) (hT : tpR T t) (htl : tl ≤ 600) (hs : s ≤ tl) (hr : RS A 730 p rk tg z0 z0) (hz : ZR A p) (hd : DI (p, rk, tg, f)) (hprog : ∀ o : Out, o = headP t tl s (p, rk, tg, f) ∨ o = valueP t tl s (p, rk, tg, f) ∨ o = recordP t tl s (p, rk, tg, f) → ∀ s' D', o = .inr (s', D') → s' ≤ tl) : mdQ h M 228 [.ref M] mt mu t tl me mf mw A (lineP t tl s (p, rk, tg, f)) := by
  have i7 := t_isWord w0 (kw_7 t tl s)
  have i10 := t_isWord w0 (kw_10 t tl s)
  have i12 := t_isWord w0 (kw_12 t tl s)
  have t256 : ∀ s', s' < tl → t s' < 256 := fun s' hs' => (hT s' (by omega)).2
  have tail : ∀ (o : Out) (m : Nat), (∀ s' D', o = .inr (s', D') → s' ≤ tl) → mdQ h M m [.ref M] mt mu t tl me mf mw A o → (∀ k, zz_run m [.ref M] h = some (none, k) → zz_run 228 [.ref M] h = zz_Y 228 (60, [some (.ref M)], [], k)) → mdQ h M 228 [.ref M] mt mu t tl me mf mw A (semP t tl o) := by
    intro o m hle hq hrun
    match o, hq with
    | .inl (a, b), ⟨k, B, s', e, u0, uA, uo, uf, ua, ub⟩ =>
      have ig := m_isGood u0
      rw [decide_eq_false (nz ua ub).1] at ig
      refine ⟨k, B, s', ?_, u0, uA, uo, uf, ua, ub⟩
      rw [hrun k e]
      simp (disch := first | assumption | exact zz_nl_i _ | exact zz_nl_r _ | exact zz_nl_n | exact okv_i _ | exact okv_j _ | exact okv_0 | exact okv_1 | exact okv_o _ _ | exact okv_a _ _ | exact bI_okr _ | omega | exact llt_0 | ((repeat apply llt_s) <;> exact llt_0) | fail) only [x228, ig, bI_f, if_true, mo_k_v, mo_k_n, mo_v_e, mo_gf_e, mo_pf_e, mo_ia_e, mo_ba_e, mo_za_e, mo_la_e, mo_aa_e, mo_le_e, mo_is_e, mo_bs_e, mo_zs_0, mo_zs_1, mo_ls_e, mo_as_e, mo_na_e, mo_aci_e, mo_acb_e, mo_acj_e, hp_gs, hp_gn, hp_ss, List.getElem?_cons_zero, List.getElem?_cons_succ, List.set_cons_zero, List.set_cons_succ]
    | .inr (s', p', rk', tg', f'), ⟨k, B, e, u0, uA, ur, uz, uo, uf⟩ =>
      have hs' := hle s' _ rfl
      have ig := m_isGood u0
      rw [decide_eq_true rfl] at ig
      have uT := (uf.2.2.2 (M + 2) (by omega)).trans wT
      have hg := t_hasSign u0 uT hT htl hs' (k := 4) (b := 59) (by omega) (kw_s (t256 s') (Or.inl ⟨rfl, rfl⟩))
      unfold semP
      dsimp only
      by_cases c : kdP t tl s' = 4
      · rw [if_neg (fun q => q c)]
        rw [if_pos c] at hg
        refine ⟨_, B, ?_, hp_gs _ _ _, (hp_gn (by omega)).trans uA, ur, uz, uo, frm_s ⟨by omega, by omega⟩ uf⟩
        rw [hrun k e]
        simp (disch := first | assumption | exact zz_nl_i _ | exact zz_nl_r _ | exact zz_nl_n | exact okv_i _ | exact okv_j _ | exact okv_0 | exact okv_1 | exact okv_o _ _ | exact okv_a _ _ | exact bI_okr _ | omega | exact llt_0 | ((repeat apply llt_s) <;> exact llt_0) | fail) only [x228, ig, bI_t, nI_01, if_false, hg, mo_k_v, mo_k_n, mo_v_e, mo_gf_e, mo_pf_e, mo_ia_e, mo_ba_e, mo_za_e, mo_la_e, mo_aa_e, mo_le_e, mo_is_e, mo_bs_e, mo_zs_0, mo_zs_1, mo_ls_e, mo_as_e, mo_na_e, mo_aci_e, mo_acb_e, mo_acj_e, hp_gs, hp_gn, hp_ss, List.getElem?_cons_zero, List.getElem?_cons_succ, List.set_cons_zero, List.set_cons_succ]
      · rw [if_pos c]
        rw [if_neg c] at hg
        have fl := m_fails0 u0 (nI 1) (nI s')
        refine ⟨_, B, s', ?_, hp_gs _ _ _, (hp_gn (by omega)).trans uA, uo, frm_s ⟨by omega, by omega⟩ uf, by omega, by omega⟩
        rw [hrun k e]
        simp (disch := first | assumption | exact zz_nl_i _ | exact zz_nl_r _ | exact zz_nl_n | exact okv_i _ | exact okv_j _ | exact okv_0 | exact okv_1 | exact okv_o _ _ | exact okv_a _ _ | exact bI_okr _ | omega | exact llt_0 | ((repeat apply llt_s) <;> exact llt_0) | fail) only [x228, ig, bI_t, nI_01, if_false, hg, if_true, u0, fl, mo_k_v, mo_k_n, mo_v_e, mo_gf_e, mo_pf_e, mo_ia_e, mo_ba_e, mo_za_e, mo_la_e, mo_aa_e, mo_le_e, mo_is_e, mo_bs_e, mo_zs_0, mo_zs_1, mo_ls_e, mo_as_e, mo_na_e, mo_aci_e, mo_acb_e, mo_acj_e, hp_gs, hp_gn, hp_ss, List.getElem?_cons_zero, List.getElem?_cons_succ, List.set_cons_zero, List.set_cons_succ]
  unfold lineP
  by_cases c7 : kdP t tl s = 7
  · rw [if_pos c7]
    rw [decide_eq_true c7] at i7
    refine tail _ 230 (hprog _ (Or.inl rfl)) (m_readsHead w0 wA wT hT htl hs hr hz) (fun k e => ?_)
    rw [en228 w0]
    simp (disch := first | assumption | exact zz_nl_i _ | exact zz_nl_r _ | exact zz_nl_n | exact okv_i _ | exact okv_j _ | exact okv_0 | exact okv_1 | exact okv_o _ _ | exact okv_a _ _ | exact bI_okr _ | omega | exact llt_0 | ((repeat apply llt_s) <;> exact llt_0) | fail) only [x228, i7, bI_t, nI_01, if_false, e, mo_k_v, mo_k_n, mo_v_e, mo_gf_e, mo_pf_e, mo_ia_e, mo_ba_e, mo_za_e, mo_la_e, mo_aa_e, mo_le_e, mo_is_e, mo_bs_e, mo_zs_0, mo_zs_1, mo_ls_e, mo_as_e, mo_na_e, mo_aci_e, mo_acb_e, mo_acj_e, hp_gs, hp_gn, hp_ss, List.getElem?_cons_zero, List.getElem?_cons_succ, List.set_cons_zero, List.set_cons_succ]
  · rw [if_neg c7]
    rw [decide_eq_false c7] at i7
    by_cases c10 : kdP t tl s = 10
    · rw [if_pos c10]
      rw [decide_eq_true c10] at i10
      refine tail _ 238 (hprog _ (Or.inr (Or.inl rfl))) (m_readsValue w0 wA wT hT htl hs hr hz (fun q hq => (hd.2.2.1.2.2.2.1 q hq).1 _ (Nat.le_refl _) (by have := hd.2.1; omega))) (fun k e => ?_)
      rw [en228 w0]
      simp (disch := first | assumption | exact zz_nl_i _ | exact zz_nl_r _ | exact zz_nl_n | exact okv_i _ | exact okv_j _ | exact okv_0 | exact okv_1 | exact okv_o _ _ | exact okv_a _ _ | exact bI_okr _ | omega | exact llt_0 | ((repeat apply llt_s) <;> exact llt_0) | fail) only [x228, i7, bI_f, if_true, i10, bI_t, nI_01, if_false, e, mo_k_v, mo_k_n, mo_v_e, mo_gf_e, mo_pf_e, mo_ia_e, mo_ba_e, mo_za_e, mo_la_e, mo_aa_e, mo_le_e, mo_is_e, mo_bs_e, mo_zs_0, mo_zs_1, mo_ls_e, mo_as_e, mo_na_e, mo_aci_e, mo_acb_e, mo_acj_e, hp_gs, hp_gn, hp_ss, List.getElem?_cons_zero, List.getElem?_cons_succ, List.set_cons_zero, List.set_cons_succ]
    · rw [if_neg c10]
      rw [decide_eq_false c10] at i10
      by_cases c12 : kdP t tl s = 12
      · rw [if_pos c12]
        rw [decide_eq_true c12] at i12
        refine tail _ 240 (hprog _ (Or.inr (Or.inr rfl))) (m_readsRecord w0 wA wT hT htl hs hr hz hd) (fun k e => ?_)
        rw [en228 w0]
        simp (disch := first | assumption | exact zz_nl_i _ | exact zz_nl_r _ | exact zz_nl_n | exact okv_i _ | exact okv_j _ | exact okv_0 | exact okv_1 | exact okv_o _ _ | exact okv_a _ _ | exact bI_okr _ | omega | exact llt_0 | ((repeat apply llt_s) <;> exact llt_0) | fail) only [x228, i7, bI_f, if_true, i10, i12, bI_t, nI_01, if_false, e, mo_k_v, mo_k_n, mo_v_e, mo_gf_e, mo_pf_e, mo_ia_e, mo_ba_e, mo_za_e, mo_la_e, mo_aa_e, mo_le_e, mo_is_e, mo_bs_e, mo_zs_0, mo_zs_1, mo_ls_e, mo_as_e, mo_na_e, mo_aci_e, mo_acb_e, mo_acj_e, hp_gs, hp_gn, hp_ss, List.getElem?_cons_zero, List.getElem?_cons_succ, List.set_cons_zero, List.set_cons_succ]
      · rw [if_neg c12]
        rw [decide_eq_false c12] at i12
        have fl := m_fails0 w0 (nI 1) (nI s)
        have ig2 := m_isGood (h := hp_s h M (mdT M mt (nI 1) (nI s) mu t tl s me mf mw)) (hp_gs _ _ _)
        rw [decide_eq_false n01] at ig2
        refine ⟨_, A, s, ?_, hp_gs _ _ _, (hp_gn (by omega)).trans wA, fun i hi => rfl, frm_s ⟨by omega, by omega⟩ (frm_refl _ _ _), by omega, by omega⟩
        rw [en228 w0]
        simp (disch := first | assumption | exact zz_nl_i _ | exact zz_nl_r _ | exact zz_nl_n | exact okv_i _ | exact okv_j _ | exact okv_0 | exact okv_1 | exact okv_o _ _ | exact okv_a _ _ | exact bI_okr _ | omega | exact llt_0 | ((repeat apply llt_s) <;> exact llt_0) | fail) only [x228, i7, bI_f, if_true, i10, i12, w0, fl, ig2, mo_k_v, mo_k_n, mo_v_e, mo_gf_e, mo_pf_e, mo_ia_e, mo_ba_e, mo_za_e, mo_la_e, mo_aa_e, mo_le_e, mo_is_e, mo_bs_e, mo_zs_0, mo_zs_1, mo_ls_e, mo_as_e, mo_na_e, mo_aci_e, mo_acb_e, mo_acj_e, hp_gs, hp_gn, hp_ss, List.getElem?_cons_zero, List.getElem?_cons_succ, List.set_cons_zero, List.set_cons_succ]
end
