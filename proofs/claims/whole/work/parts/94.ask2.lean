/-! the class: facts and parts -/
theorem wj_cong {j : Nat} {W W' V V' : Nat → Int32} (h1 : ∀ b, b < 8 → W b = W' b) (h2 : ∀ b, b < 8 → V b = V' b) : wj8 j W V = wj8 j W' V' := by
  unfold wj8
  exact sm_cong (fun b hb => by rw [h1 b hb, h2 b hb])
/-- the cells of a question change alone: not its tokens -/
def frB (h k : zz_H) (X : Nat) : Prop := frm h k (X + 47) (X + 55) ∧ sam h k (X + 48) (X + 51)
theorem frB_refl (h : zz_H) (X : Nat) : frB h h X := ⟨frm_refl _ _ _, fun _ _ _ => rfl⟩
theorem frB_s {h k : zz_H} {X b : Nat} {e : zz_E} (hb : b = X + 47 ∨ (X + 51 ≤ b ∧ b < X + 55)) (hf : frB h k X) : frB h (hp_s k b e) X := ⟨frm_s (by omega) hf.1, fun c g1 g2 => (hp_gn (by omega)).trans (hf.2 c g1 g2)⟩
theorem frB_trans {h k l : zz_H} {X : Nat} (h1 : frB h k X) (h2 : frB k l X) : frB h l X := ⟨frm_trans h1.1 h2.1, fun b g1 g2 => (h2.2 b g1 g2).trans (h1.2 b g1 g2)⟩
theorem frB_j {h k : zz_H} {X : Nat} (hf : frm h k (X + 47) (X + 53) ∧ sam h k (X + 48) (X + 51)) : frB h k X := ⟨frm_mono hf.1 (by omega) (by omega), hf.2⟩
section
variable {h : zz_H} {X : Nat} {dep fc wk : Nat} {L : Nat → Le} {sf jn wt x : Nat → Int32}
theorem c_joinFact (w0 : hp_g h (X + 47) = some (qrO X (nI (bs L (dep + 1) + 1)) (nI dep) false (nI fc) (nI wk))) (hs : isSets h (X + 51) 15 sf) (hj : hp_g h (X + 53) = some (iA 7 jn)) (hw : hp_g h (X + 54) = some (iA 7 wt)) (hd : dep ≤ 6) (hlow : ∀ d, d < dep → lvC L sf jn wt d True) (htop : lvC L sf jn wt dep True) (hx : ∀ b, b < 8 → sf (8 * bs L (dep + 1) + b) = x b) : ∃ k, zz_run 72 [.ref (X + 47)] h = some (none, k) ∧ cQ k X dep false fc (wk + (comeL (L dep) x).2) (upL L dep (comeL (L dep) x).1) ∧ frB h k X := by
  have w0' := w0
  unfold qrO at w0'
  have hble := bs_le L dep
  have hbs := bs_s L dep
  have hb1 := b2n_le (L dep).1
  obtain ⟨a1, a2, a3, a4, a5⟩ := htop
  cases hp : (L dep).2.2.1 with
  | true =>
    rw [hp] at a2 hbs
    rw [if_pos ⟨rfl, trivial⟩] at a2
    rw [b2n_t] at hbs
    have hjn := a5 hp trivial
    obtain ⟨hh, ehh⟩ : ∃ hh, hh = bs L dep + b2n (L dep).1 := ⟨_, rfl⟩
    have e1 : bs L (dep + 1) + 1 = hh + 2 := by omega
    rw [e1] at w0
    have hj3 : (L dep).2.2.2.2 < 3 := by omega
    obtain ⟨k, r, k0, ks, kf⟩ := c_joinTop w0 hs (by omega) hj3
    have kj := (kf.1.2.2.2 (X + 53) (by omega)).trans hj
    have kw := (kf.1.2.2.2 (X + 54) (by omega)).trans hw
    have k0' := k0
    unfold qrO at k0'
    have cm : ¬ nI (L dep).2.2.2.2 = -1 := nI_m1 (by omega)
    have ec : comeL (L dep) x = (((L dep).1, (L dep).2.1, true, fun b => jnd (L dep).2.2.2.2 ((L dep).2.2.2.1 b) (x b), (L dep).2.2.2.2), wj8 (L dep).2.2.2.2 (L dep).2.2.2.1 x) := by
      unfold comeL
      rw [if_pos hp]
    have ew : wj8 (L dep).2.2.2.2 (rw8 sf hh) (rw8 sf (hh + 1)) = wj8 (L dep).2.2.2.2 (L dep).2.2.2.1 x := wj_cong (fun b hb => by rw [ehh]; exact a4 hp b hb) (fun b hb => by
      have := hx b hb
      rw [show bs L (dep + 1) = hh + 1 by omega] at this
      exact this)
    rw [ew] at k0 k0'
    rw [ec]
    dsimp only
    refine ⟨hp_s k (X + 53) (iA 7 (upd jn dep (-1))), ?_, ⟨_, upd jn dep (-1), wt, ?_, isSets_s ks (by omega), ?_, ?_, hd, fun d hdd => ?_, ?_, fun _ => ?_⟩, ?_⟩
    · rw [en72 w0']
      simp (disch := first | assumption | exact zz_nl_i _ | exact zz_nl_r _ | exact zz_nl_n | exact okv_i _ | exact okv_j _ | exact okv_0 | exact okv_1 | exact okv_o _ _ | exact okv_a _ _ | exact bI_okr _ | omega | exact llt_0 | ((repeat apply llt_s) <;> exact llt_0) | fail) only [x72, w0', hj, a2, cm, if_false, r, k0', kj, mo_k_v, mo_k_n, mo_v_e, mo_gf_e, mo_pf_e, mo_ia_e, mo_ba_e, mo_za_e, mo_la_e, mo_aa_e, mo_le_e, mo_is_e, mo_bs_e, mo_zs_0, mo_zs_1, mo_ls_e, mo_as_e, mo_na_e, mo_aci_e, mo_acb_e, mo_acj_e, hp_gs, hp_gn, hp_ss, List.getElem?_cons_zero, List.getElem?_cons_succ, List.set_cons_zero, List.set_cons_succ]
    · rw [hp_gn (by omega), bs_s, bs_up (Nat.le_refl _), upL_eq]
      rw [show bs L dep + b2n (L dep).1 + b2n true = hh + 1 by rw [b2n_t, ehh]]
      exact k0
    · rw [hp_gs]
    · rw [hp_gn (by omega)]
      exact kw
    · refine lv_keep (hlow d hdd) (fun i hi => upL_ne (by omega)) (upd_ne (by omega)) rfl (fun i hi => lay_out (Or.inl ?_))
      have := bs_mono L (show d + 1 ≤ dep by omega)
      omega
    · unfold lvC
      rw [upL_eq, bs_up (Nat.le_refl _)]
      refine ⟨a1, ?_, fun c b hb => ?_, fun _ b hb => ?_, fun _ c => by cases c⟩
      · rw [upd_eq, if_neg (fun z => by cases z.2)]
      · rw [lay_out (Or.inl (by rw [ehh, c, b2n_t]; omega))]
        exact a3 c b hb
      · rw [← ehh, lay_in hb]
        have q1 := a4 hp b hb
        have q2 := hx b hb
        rw [← ehh] at q1
        rw [show bs L (dep + 1) = hh + 1 by omega] at q2
        rw [q1, q2]
    · rw [upL_eq]
    · exact frB_s (by omega) (frB_j kf)
  | false =>
    rw [hp] at a2 hbs
    rw [if_neg (fun z => by cases z.1)] at a2
    rw [b2n_f] at hbs
    replace hbs : bs L (dep + 1) = bs L dep + b2n (L dep).1 := hbs
    have ec : comeL (L dep) x = (((L dep).1, (L dep).2.1, true, x, (L dep).2.2.2.2), 0) := by
      unfold comeL
      rw [if_neg (by rw [hp]; decide)]
    rw [ec]
    dsimp only
    rw [Nat.add_zero]
    refine ⟨h, ?_, ⟨sf, jn, wt, ?_, hs, hj, hw, hd, fun d hdd => ?_, ?_, fun _ => ?_⟩, frB_refl _ _⟩
    · rw [en72 w0']
      simp (disch := first | assumption | exact zz_nl_i _ | exact zz_nl_r _ | exact zz_nl_n | exact okv_i _ | exact okv_j _ | exact okv_0 | exact okv_1 | exact okv_o _ _ | exact okv_a _ _ | exact bI_okr _ | omega | exact llt_0 | ((repeat apply llt_s) <;> exact llt_0) | fail) only [x72, w0', hj, eq_true a2, if_true, mo_k_v, mo_k_n, mo_v_e, mo_gf_e, mo_pf_e, mo_ia_e, mo_ba_e, mo_za_e, mo_la_e, mo_aa_e, mo_le_e, mo_is_e, mo_bs_e, mo_zs_0, mo_zs_1, mo_ls_e, mo_as_e, mo_na_e, mo_aci_e, mo_acb_e, mo_acj_e, hp_gs, hp_gn, hp_ss, List.getElem?_cons_zero, List.getElem?_cons_succ, List.set_cons_zero, List.set_cons_succ]
    · rw [bs_s (upL L dep _), bs_up (Nat.le_refl _), upL_eq]
      rw [hbs] at w0
      exact w0
    · exact lv_keep (hlow d hdd) (fun i hi => upL_ne (by omega)) rfl rfl (fun i hi => rfl)
    · unfold lvC
      rw [upL_eq, bs_up (Nat.le_refl _)]
      refine ⟨a1, ?_, a3, fun _ b hb => ?_, fun _ c => by cases c⟩
      · rw [a2, if_neg (fun z => by cases z.2)]
      · have := hx b hb
        rw [hbs] at this
        exact this
    · rw [upL_eq]
theorem c_endPart (hq : cQ h X dep false fc wk L) : ∃ k sf' jn' wt', zz_run 78 [.ref (X + 47)] h = some (none, k) ∧ hp_g k (X + 47) = some (qrO X (nI (bs L dep + 1)) (nI dep) false (nI fc) (nI (wk + (endL (L dep)).2))) ∧ isSets k (X + 51) 15 sf' ∧ hp_g k (X + 53) = some (iA 7 jn') ∧ hp_g k (X + 54) = some (iA 7 wt') ∧ jn' dep = -1 ∧ wt' dep = nI 1 ∧ (∀ d, d < dep → lvC L sf' jn' wt' d True) ∧ (∀ b, b < 8 → sf' (8 * bs L dep + b) = (endL (L dep)).1 b) ∧ frB h k X := by
  obtain ⟨sf, jn, wt, w0, hs, hj, hw, hd, hlow, ⟨a1, a2, a3, a4, a5⟩, hpb⟩ := hq
  have hp := hpb rfl
  rw [if_neg (fun z => by cases z.2)] at a2
  have w0' := w0
  unfold qrO at w0'
  have hble := bs_le L dep
  have hbs := bs_s L dep
  rw [hp, b2n_t] at hbs
  cases ho : (L dep).1 with
  | true =>
    rw [ho, b2n_t] at hbs
    rw [ho, bI_t] at a1
    rw [hbs] at w0
    obtain ⟨k, r, k0, ks, kf⟩ := c_joinTop (hh := bs L dep) w0 hs (by omega) (j := 1) (by omega)
    have kj := (kf.1.2.2.2 (X + 53) (by omega)).trans hj
    have kw := (kf.1.2.2.2 (X + 54) (by omega)).trans hw
    have k0' := k0
    unfold qrO at k0'
    have ee : endL (L dep) = (fun b => jnd 1 ((L dep).2.1 b) ((L dep).2.2.2.1 b), wj8 1 (L dep).2.1 (L dep).2.2.2.1) := by
      unfold endL
      rw [if_pos ho]
    have q1 : ∀ b, b < 8 → sf (8 * bs L dep + b) = (L dep).2.1 b := fun b hb => a3 ho b hb
    have q2 : ∀ b, b < 8 → sf (8 * (bs L dep + 1) + b) = (L dep).2.2.2.1 b := fun b hb => by
      have := a4 hp b hb
      rw [ho, b2n_t] at this
      exact this
    have ew : wj8 1 (rw8 sf (bs L dep)) (rw8 sf (bs L dep + 1)) = wj8 1 (L dep).2.1 (L dep).2.2.2.1 := wj_cong q1 q2
    rw [ew] at k0
    rw [ee]
    dsimp only
    refine ⟨hp_s k (X + 54) (iA 7 (upd wt dep (nI 1))), _, jn, upd wt dep (nI 1), ?_, (hp_gn (by omega)).trans k0, isSets_s ks (by omega), (hp_gn (by omega)).trans kj, hp_gs _ _ _, a2, upd_eq _ _ _, fun d hdd => ?_, fun b hb => ?_, frB_s (by omega) (frB_j kf)⟩
    · rw [en78 w0']
      simp (disch := first | assumption | exact zz_nl_i _ | exact zz_nl_r _ | exact zz_nl_n | exact okv_i _ | exact okv_j _ | exact okv_0 | exact okv_1 | exact okv_o _ _ | exact okv_a _ _ | exact bI_okr _ | omega | exact llt_0 | ((repeat apply llt_s) <;> exact llt_0) | fail) only [x78, w0', hw, eq_true a1, if_true, r, k0', kw, mo_k_v, mo_k_n, mo_v_e, mo_gf_e, mo_pf_e, mo_ia_e, mo_ba_e, mo_za_e, mo_la_e, mo_aa_e, mo_le_e, mo_is_e, mo_bs_e, mo_zs_0, mo_zs_1, mo_ls_e, mo_as_e, mo_na_e, mo_aci_e, mo_acb_e, mo_acj_e, hp_gs, hp_gn, hp_ss, List.getElem?_cons_zero, List.getElem?_cons_succ, List.set_cons_zero, List.set_cons_succ]
    · refine lv_keep (hlow d hdd) (fun i hi => rfl) rfl (upd_ne (by omega)) (fun i hi => lay_out (Or.inl ?_))
      have := bs_mono L (show d + 1 ≤ dep by omega)
      omega
    · rw [lay_in hb, q1 b hb, q2 b hb]
  | false =>
    rw [ho, b2n_f, Nat.add_zero] at hbs
    rw [ho, bI_f] at a1
    have a1n : ¬ wt dep = nI 1 := fun z => by rw [a1] at z; exact nI_01 z.symm
    have ee : endL (L dep) = ((L dep).2.2.2.1, 0) := by
      unfold endL
      rw [if_neg (by rw [ho]; decide)]
    rw [ee]
    dsimp only
    rw [Nat.add_zero, ← hbs]
    refine ⟨hp_s h (X + 54) (iA 7 (upd wt dep (nI 1))), sf, jn, upd wt dep (nI 1), ?_, (hp_gn (by omega)).trans w0, isSets_s hs (by omega), (hp_gn (by omega)).trans hj, hp_gs _ _ _, a2, upd_eq _ _ _, fun d hdd => lv_keep (hlow d hdd) (fun i hi => rfl) rfl (upd_ne (by omega)) (fun i hi => rfl), fun b hb => ?_, frB_s (by omega) (frB_refl _ _)⟩
    · rw [en78 w0']
      simp (disch := first | assumption | exact zz_nl_i _ | exact zz_nl_r _ | exact zz_nl_n | exact okv_i _ | exact okv_j _ | exact okv_0 | exact okv_1 | exact okv_o _ _ | exact okv_a _ _ | exact bI_okr _ | omega | exact llt_0 | ((repeat apply llt_s) <;> exact llt_0) | fail) only [x78, w0', hw, a1n, if_false, mo_k_v, mo_k_n, mo_v_e, mo_gf_e, mo_pf_e, mo_ia_e, mo_ba_e, mo_za_e, mo_la_e, mo_aa_e, mo_le_e, mo_is_e, mo_bs_e, mo_zs_0, mo_zs_1, mo_ls_e, mo_as_e, mo_na_e, mo_aci_e, mo_acb_e, mo_acj_e, hp_gs, hp_gn, hp_ss, List.getElem?_cons_zero, List.getElem?_cons_succ, List.set_cons_zero, List.set_cons_succ]
    · have := a4 hp b hb
      rw [ho, b2n_f, Nat.add_zero] at this
      exact this
end
