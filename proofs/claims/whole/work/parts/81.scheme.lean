/-! the class: the scheme -/
section
variable {X : Nat} {tb : Nat → Int32} {tl : Nat} {t : Nat → Nat} {fk fp : Int32}
/-- the end of the reading, as the class sees it -/
def schQ (h : zz_H) (X : Nat) (t : Nat → Nat) (tl : Nat) (y : Option (Option Value × zz_H)) (fk fp : Int32) (o : Out) : Prop := match o with
  | .inl (a, b) => ∃ k, y = some (some (.int (nI 0)), k) ∧ (∃ s', isTk k (X + 30) t tl s' (nI a) (nI b)) ∧ (∃ p rk tg f, isStock k (X + 33) p rk tg f) ∧ frR h k X
  | .inr (_, p, rk, tg, f) => ∃ k, y = some (some (.int (nI 1)), k) ∧ (∃ s', isTk k (X + 30) t tl s' fk fp) ∧ isStock k (X + 33) p rk tg f ∧ DI (p, rk, tg, f) ∧ frR h k X
theorem c_schLoop (htl : tl ≤ 600) (hb : byt tb t) (h0 : zz_H) : ∀ n (h : zz_H) (s i : Nat) (D : Sk), hp_g h (X + 29) = some (shO X) → isTape h (X + 30 + 1) tb tl → isTk h (X + 30) t tl s fk fp → isStock h (X + 33) D.1 D.2.1 D.2.2.1 D.2.2.2 → DI D → frR h0 h X → tl - s < n → i ≤ s → schQ h0 X t tl (zz_Y 18 (19, [some (.ref (X + 29)), some (.ref (X + 1 + 1)), some (.int (nI (1))), some (.int (nI (i)))], [], h)) fk fp (schP t tl n s D) := by
  intro n
  induction n with
  | zero => intro h s i D w0 ht hk hs hd hf hn; omega
  | succ n ih =>
    intro h s i D w0 ht hk hs hd hf hn hi
    obtain ⟨p, rk, tg, f⟩ := D
    dsimp only at hs
    have hle := kd_le t tl s
    have hk0 := hk
    obtain ⟨nu, wd, h1, h2, h3, h4⟩ := hk
    unfold tokO at h1
    unfold schP
    rw [x18_c19]
    by_cases c : kdP t tl s = 0
    · rw [if_pos c]
      refine ⟨h, ?_, ⟨s, hk0⟩, hs, hd, hf⟩
      simp (disch := first | assumption | exact zz_nl_i _ | exact zz_nl_r _ | exact zz_nl_n | exact okv_i _ | exact okv_j _ | exact okv_0 | exact okv_1 | exact okv_o _ _ | exact okv_a _ _ | exact bI_okr _ | omega | exact llt_0 | ((repeat apply llt_s) <;> exact llt_0) | fail) only [x18, xb18, nI_01, if_false, w0, h1, nI_eq, eq_true c, if_true, show ((1 : Nat) = 0) = False from eq_false (by omega), mo_k_v, mo_k_n, mo_v_e, mo_gf_e, mo_pf_e, mo_ia_e, mo_ba_e, mo_za_e, mo_la_e, mo_aa_e, mo_le_e, mo_is_e, mo_bs_e, mo_zs_0, mo_zs_1, mo_ls_e, mo_as_e, mo_na_e, mo_aci_e, mo_acb_e, mo_acj_e, hp_gs, hp_gn, hp_ss, List.getElem?_cons_zero, List.getElem?_cons_succ, List.set_cons_zero, List.set_cons_succ]
    · rw [if_neg c]
      have hst : s < tl := by
        by_cases z : s = tl
        · exact absurd ((kd_stop h4).mpr z) c
        · omega
      have ci : i < 600 := by omega
      have q := c_readLine hd.2.2.1.1 htl w0 ht hb hk0 hs
      cases e : lineP t tl s (p, rk, tg, f) with
      | inl x =>
        obtain ⟨a, b⟩ := x
        rw [e] at q
        obtain ⟨k, e1, r1, r2, r3⟩ := q
        refine ⟨k, ?_, r1, r2, frR_trans hf r3⟩
        simp (disch := first | assumption | exact zz_nl_i _ | exact zz_nl_r _ | exact zz_nl_n | exact okv_i _ | exact okv_j _ | exact okv_0 | exact okv_1 | exact okv_o _ _ | exact okv_a _ _ | exact bI_okr _ | omega | exact llt_0 | ((repeat apply llt_s) <;> exact llt_0) | fail) only [x18, xb18, nI_01, if_false, w0, h1, nI_eq, c, nI_ltI, ci, if_true, e1, nI_add, show ((1 : Nat) = 0) = False from eq_false (by omega), mo_k_v, mo_k_n, mo_v_e, mo_gf_e, mo_pf_e, mo_ia_e, mo_ba_e, mo_za_e, mo_la_e, mo_aa_e, mo_le_e, mo_is_e, mo_bs_e, mo_zs_0, mo_zs_1, mo_ls_e, mo_as_e, mo_na_e, mo_aci_e, mo_acb_e, mo_acj_e, hp_gs, hp_gn, hp_ss, List.getElem?_cons_zero, List.getElem?_cons_succ, List.set_cons_zero, List.set_cons_succ]
        rw [x18_c19]
        simp (disch := first | assumption | exact zz_nl_i _ | exact zz_nl_r _ | exact zz_nl_n | exact okv_i _ | exact okv_j _ | exact okv_0 | exact okv_1 | exact okv_o _ _ | exact okv_a _ _ | exact bI_okr _ | omega | exact llt_0 | ((repeat apply llt_s) <;> exact llt_0) | fail) only [x18, xb18, if_true, mo_k_v, mo_k_n, mo_v_e, mo_gf_e, mo_pf_e, mo_ia_e, mo_ba_e, mo_za_e, mo_la_e, mo_aa_e, mo_le_e, mo_is_e, mo_bs_e, mo_zs_0, mo_zs_1, mo_ls_e, mo_as_e, mo_na_e, mo_aci_e, mo_acb_e, mo_acj_e, hp_gs, hp_gn, hp_ss, List.getElem?_cons_zero, List.getElem?_cons_succ, List.set_cons_zero, List.set_cons_succ]
      | inr x =>
        obtain ⟨s', D'⟩ := x
        obtain ⟨d1, d2, d3⟩ := DI_line hd h4 c e
        rw [e] at q
        obtain ⟨p', rk', tg', f'⟩ := D'
        obtain ⟨k, e1, r1, r2, r3⟩ := q
        have r := ih k s' (i + 1) (p', rk', tg', f') ((r3.1.2.2.2 _ (by omega)).trans w0) (isTape_sam ht r3.2) r1 r2 d1 (frR_trans hf r3) (by omega) (by omega)
        simp (disch := first | assumption | exact zz_nl_i _ | exact zz_nl_r _ | exact zz_nl_n | exact okv_i _ | exact okv_j _ | exact okv_0 | exact okv_1 | exact okv_o _ _ | exact okv_a _ _ | exact bI_okr _ | omega | exact llt_0 | ((repeat apply llt_s) <;> exact llt_0) | fail) only [x18, xb18, nI_01, if_false, w0, h1, nI_eq, c, nI_ltI, ci, if_true, e1, nI_add, show ((1 : Nat) = 0) = False from eq_false (by omega), mo_k_v, mo_k_n, mo_v_e, mo_gf_e, mo_pf_e, mo_ia_e, mo_ba_e, mo_za_e, mo_la_e, mo_aa_e, mo_le_e, mo_is_e, mo_bs_e, mo_zs_0, mo_zs_1, mo_ls_e, mo_as_e, mo_na_e, mo_aci_e, mo_acb_e, mo_acj_e, hp_gs, hp_gn, hp_ss, List.getElem?_cons_zero, List.getElem?_cons_succ, List.set_cons_zero, List.set_cons_succ]
        exact r
end
/-- an empty draft -/
def emD (D : Sk) : Prop := pnh D.1 = 0 ∧ pnv D.1 = 0 ∧ eqN 256 D.2.1 (fun _ => -1) ∧ eqN 256 D.2.2.1 (fun _ => nI 0) ∧ eqN 168 D.2.2.2 (fun _ => nI 0)
theorem DI_em {D : Sk} (he : emD D) : DI D := by
  obtain ⟨p, rk, tg, f⟩ := D
  obtain ⟨e1, e2, e3, e4, e5⟩ := he
  dsimp only at e1 e2 e3 e4 e5
  refine ⟨by omega, by omega, ⟨⟨fun d hd => by omega, fun v hv => by omega⟩, fun d hd => by omega, fun v hv => by omega, fun q hq => ⟨fun v _ _ => ?_, Or.inl ⟨e3 q hq, e4 q hq⟩⟩, fun q hq => ?_, fun v hv => by omega⟩, fun h => by omega, fun v h1 h2 b hb => e5 _ (by omega)⟩
  · rw [e4 q hq, nI_0, b_0]
  · rw [e5 _ (by omega), nI_0, b_0, e3 q hq, decide_eq_true rfl]
    rfl
section
variable {h : zz_H} {X : Nat} {J : Jn} {im : Nat → Option Nat} {tb : Nat → Int32} {tl : Nat} {p : Pl} {rk tg f ch ba : Nat → Int32} {fk fp : Int32} {an : Bool} {aw : Int32} {af : Nat → Int32} {rs hd : Int32} {kn pl bf jt : Nat → Int32} {nx am : Nat} {t : Nat → Nat}
theorem cW_rd {k : zz_H} (hw : cW h X ((tb, tl), (p, rk, tg, f), (ch, ba), (fk, fp), (an, aw, af), (rs, hd)) J im) (hf : frm h k (X + 30) (X + 47)) {t : Nat → Nat} {tl' s : Nat} {a b : Int32} (h1 : isTk k (X + 30) t tl' s a b) (h2 : ∃ p rk tg f, isStock k (X + 33) p rk tg f) (h3 : ∃ tb tl, isTape k (X + 30 + 1) tb tl) : cW k X ((tb, tl), (p, rk, tg, f), (ch, ba), (fk, fp), (an, aw, af), (rs, hd)) J im := by
  obtain ⟨w0, w1, w2, w3, ⟨r1, r1'⟩, r2, r3, r4, ⟨x5, r5⟩, r6, r7, ⟨x8, r8⟩⟩ := hw
  obtain ⟨nu, wd, g1, _⟩ := h1
  refine ⟨(hf.2.2.2 _ (by omega)).trans w0, isEv_sam w1 (frm_sam hf (by omega)), (hf.2.2.2 _ (by omega)).trans w2, isJn_sam w3 (frm_sam hf (by omega)), ⟨⟨⟨_, _, _, nu, wd, _, _, g1⟩, h3⟩, tkX_sam r1' (frm_sam hf (by omega))⟩, (hf.2.2.2 _ (by omega)).trans r2, h2, ?_, ⟨x5, isSets_sam r5 (frm_sam hf (by omega))⟩, ?_, ?_, ⟨x8, isSets_sam r8 (frm_sam hf (by omega))⟩⟩
  · rw [hf.2.2.2 _ (by omega)]; exact r4
  · rw [hf.2.2.2 _ (by omega)]; exact r6
  · rw [hf.2.2.2 _ (by omega)]; exact r7
/-- the fault is noted -/
theorem c_noteFault (hw : cW h X ((tb, tl), (p, rk, tg, f), (ch, ba), (fk, fp), (an, aw, af), (rs, hd)) J im) {c s : Nat} {a b : Int32} {t : Nat → Nat} {tl' : Nat} (hk : isTk h c t tl' s a b) (hc : X + 3 ≤ c) : ∃ k, zz_run 56 [.ref (X + 1), .ref c] h = some (none, k) ∧ cW k X ((tb, tl), (p, rk, tg, f), (ch, ba), (a, b), (an, aw, af), (rs, hd)) J im ∧ frm h k (X + 1) (X + 2) := by
  obtain ⟨nu, wd, h1, h2, h3, h4⟩ := hk
  have h1' := h1
  unfold tokO at h1'
  obtain ⟨w0, ⟨e0, e1, e2, e3, e4⟩, w2, w3, w4⟩ := hw
  have e0' := e0
  unfold evO at e0'
  rw [en56 e0']
  simp (disch := first | assumption | exact zz_nl_i _ | exact zz_nl_r _ | exact zz_nl_n | exact okv_i _ | exact okv_j _ | exact okv_0 | exact okv_1 | exact okv_o _ _ | exact okv_a _ _ | exact bI_okr _ | omega | exact llt_0 | ((repeat apply llt_s) <;> exact llt_0) | fail) only [x56, e0', h1', mo_k_v, mo_k_n, mo_v_e, mo_gf_e, mo_pf_e, mo_ia_e, mo_ba_e, mo_za_e, mo_la_e, mo_aa_e, mo_le_e, mo_is_e, mo_bs_e, mo_zs_0, mo_zs_1, mo_ls_e, mo_as_e, mo_na_e, mo_aci_e, mo_acb_e, mo_acj_e, hp_gs, hp_gn, hp_ss, List.getElem?_cons_zero, List.getElem?_cons_succ, List.set_cons_zero, List.set_cons_succ]
  refine ⟨_, rfl, ⟨?_, ⟨?_, isTape_s e1 (by omega), isStock_s e2 (by omega), isChoice_s e3 (by omega), isSets_s e4 (by omega)⟩, ?_, ?_, ?_⟩, ?_⟩
  · simp (disch := first | assumption | exact zz_nl_i _ | exact zz_nl_r _ | exact zz_nl_n | exact okv_i _ | exact okv_j _ | exact okv_0 | exact okv_1 | exact okv_o _ _ | exact okv_a _ _ | exact bI_okr _ | omega | exact llt_0 | ((repeat apply llt_s) <;> exact llt_0) | fail) only [w0, mo_k_v, mo_k_n, mo_v_e, mo_gf_e, mo_pf_e, mo_ia_e, mo_ba_e, mo_za_e, mo_la_e, mo_aa_e, mo_le_e, mo_is_e, mo_bs_e, mo_zs_0, mo_zs_1, mo_ls_e, mo_as_e, mo_na_e, mo_aci_e, mo_acb_e, mo_acj_e, hp_gs, hp_gn, hp_ss, List.getElem?_cons_zero, List.getElem?_cons_succ, List.set_cons_zero, List.set_cons_succ]
  · unfold evO
    simp (disch := first | assumption | exact zz_nl_i _ | exact zz_nl_r _ | exact zz_nl_n | exact okv_i _ | exact okv_j _ | exact okv_0 | exact okv_1 | exact okv_o _ _ | exact okv_a _ _ | exact bI_okr _ | omega | exact llt_0 | ((repeat apply llt_s) <;> exact llt_0) | fail) only [mo_k_v, mo_k_n, mo_v_e, mo_gf_e, mo_pf_e, mo_ia_e, mo_ba_e, mo_za_e, mo_la_e, mo_aa_e, mo_le_e, mo_is_e, mo_bs_e, mo_zs_0, mo_zs_1, mo_ls_e, mo_as_e, mo_na_e, mo_aci_e, mo_acb_e, mo_acj_e, hp_gs, hp_gn, hp_ss, List.getElem?_cons_zero, List.getElem?_cons_succ, List.set_cons_zero, List.set_cons_succ]
  · simp (disch := first | assumption | exact zz_nl_i _ | exact zz_nl_r _ | exact zz_nl_n | exact okv_i _ | exact okv_j _ | exact okv_0 | exact okv_1 | exact okv_o _ _ | exact okv_a _ _ | exact bI_okr _ | omega | exact llt_0 | ((repeat apply llt_s) <;> exact llt_0) | fail) only [w2, mo_k_v, mo_k_n, mo_v_e, mo_gf_e, mo_pf_e, mo_ia_e, mo_ba_e, mo_za_e, mo_la_e, mo_aa_e, mo_le_e, mo_is_e, mo_bs_e, mo_zs_0, mo_zs_1, mo_ls_e, mo_as_e, mo_na_e, mo_aci_e, mo_acb_e, mo_acj_e, hp_gs, hp_gn, hp_ss, List.getElem?_cons_zero, List.getElem?_cons_succ, List.set_cons_zero, List.set_cons_succ]
  · exact isJn_sam w3 (fun b h1 h2 => by simp (disch := first | assumption | exact zz_nl_i _ | exact zz_nl_r _ | exact zz_nl_n | exact okv_i _ | exact okv_j _ | exact okv_0 | exact okv_1 | exact okv_o _ _ | exact okv_a _ _ | exact bI_okr _ | omega | exact llt_0 | ((repeat apply llt_s) <;> exact llt_0) | fail) only [mo_k_v, mo_k_n, mo_v_e, mo_gf_e, mo_pf_e, mo_ia_e, mo_ba_e, mo_za_e, mo_la_e, mo_aa_e, mo_le_e, mo_is_e, mo_bs_e, mo_zs_0, mo_zs_1, mo_ls_e, mo_as_e, mo_na_e, mo_aci_e, mo_acb_e, mo_acj_e, hp_gs, hp_gn, hp_ss, List.getElem?_cons_zero, List.getElem?_cons_succ, List.set_cons_zero, List.set_cons_succ])
  · exact rst_sam w4 (fun b h1 h2 => by simp (disch := first | assumption | exact zz_nl_i _ | exact zz_nl_r _ | exact zz_nl_n | exact okv_i _ | exact okv_j _ | exact okv_0 | exact okv_1 | exact okv_o _ _ | exact okv_a _ _ | exact bI_okr _ | omega | exact llt_0 | ((repeat apply llt_s) <;> exact llt_0) | fail) only [mo_k_v, mo_k_n, mo_v_e, mo_gf_e, mo_pf_e, mo_ia_e, mo_ba_e, mo_za_e, mo_la_e, mo_aa_e, mo_le_e, mo_is_e, mo_bs_e, mo_zs_0, mo_zs_1, mo_ls_e, mo_as_e, mo_na_e, mo_aci_e, mo_acb_e, mo_acj_e, hp_gs, hp_gn, hp_ss, List.getElem?_cons_zero, List.getElem?_cons_succ, List.set_cons_zero, List.set_cons_succ])
  · repeat (first | exact frm_refl _ _ _ | refine frm_s (by omega) ?_)
end
