/-! the class: ask, all of it -/
section
variable {h : zz_H} {X : Nat} {J : Jn} {im : Nat → Option Nat} {tb : Nat → Int32} {tl : Nat} {p : Pl} {rk tg f ch ba : Nat → Int32} {fk fp : Int32} {an : Bool} {aw : Int32} {af : Nat → Int32} {rs hd : Int32} {t : Nat → Nat}
theorem cW_q {k : zz_H} (hw : cW h X ((tb, tl), (p, rk, tg, f), (ch, ba), (fk, fp), (an, aw, af), (rs, hd)) J im) (hf : frm h k (X + 47) (X + 55)) {t : Nat → Nat} {tl' s : Nat} {a b : Int32} (h1 : isTk k (X + 48) t tl' s a b) (h1t : ∃ tb tl, isTape k (X + 48 + 1) tb tl) (h2 : ∃ hh dd fd fc wk, hp_g k (X + 47) = some (qrO X hh dd fd fc wk)) (h3 : ∃ sf, isSets k (X + 51) 15 sf) (h4 : ∃ jn, hp_g k (X + 53) = some (.inl (.int, 7, .inl jn))) (h5 : ∃ wt, hp_g k (X + 54) = some (.inl (.int, 7, .inl wt))) : cW k X ((tb, tl), (p, rk, tg, f), (ch, ba), (fk, fp), (an, aw, af), (rs, hd)) J im := by
  obtain ⟨w0, w1, w2, w3, ⟨r1, _⟩, r2, ⟨y1, y2, y3, y4, r3⟩, r4, r5, r6, r7, ⟨x8, r8⟩⟩ := hw
  obtain ⟨nu, wd, g1, _⟩ := h1
  exact ⟨(hf.2.2.2 _ (by omega)).trans w0, isEv_sam w1 (frm_sam hf (by omega)), (hf.2.2.2 _ (by omega)).trans w2, isJn_sam w3 (frm_sam hf (by omega)), ⟨tkX_sam r1 (frm_sam hf (by omega)), ⟨_, _, _, nu, wd, _, _, g1⟩, h1t⟩, (hf.2.2.2 _ (by omega)).trans r2, ⟨y1, y2, y3, y4, isStock_sam r3 (frm_sam hf (by omega))⟩, h2, h3, h4, h5, ⟨x8, isSets_sam r8 (frm_sam hf (by omega))⟩⟩
theorem c_ask (hw : cW h X ((tb, tl), (p, rk, tg, f), (ch, ba), (fk, fp), (an, aw, af), (rs, hd)) J im) (hb : byt tb t) : match askP t tl p f 601 (tkS t tl 0) 0 true 0 0 (fun _ => newL) with
    | .inl (a, b) => ∃ k, zz_run 65 [.ref X] h = some (some (.int (-1)), k) ∧ cW k X ((tb, 0), (p, rk, tg, f), (ch, ba), (nI a, nI b), (an, aw, af), (rs, hd)) J im ∧ frm h k X (X + 57)
    | .inr (W, w) => ∃ k af', zz_run 65 [.ref X] h = some (some (.int (nI (amt W))), k) ∧ cW k X ((tb, 0), (p, rk, tg, f), (ch, ba), (nI 0, -1), (true, nI w, af'), (rs, hd)) J im ∧ (∀ b, b < 8 → af' b = W b) ∧ frm h k X (X + 57) := by
  obtain ⟨k0, tb', fr0, tp0, q⟩ := c_readWhole hw hb
  obtain ⟨hw0, fr1⟩ := cW_tl hw (show 0 ≤ 600 by omega)
  have w0' := hw.1
  have ev0' := hw.2.1.1
  unfold fsO at w0'
  unfold evO at ev0'
  cases e : askP t tl p f 601 (tkS t tl 0) 0 true 0 0 (fun _ => newL) with
  | inl x =>
    obtain ⟨a, b⟩ := x
    rw [e] at q
    obtain ⟨k, s', e1, r1, ⟨dep, fd, fc, wk, L, sf, jn, wt, r2, r3, r4, r5, _⟩, r6⟩ := q
    have hw1 := cW_q hw0 (frm_trans fr0 r6.1) r1 ⟨_, _, isTape_sam tp0 r6.2⟩ ⟨_, _, _, _, _, r2⟩ ⟨_, r3⟩ ⟨_, r4⟩ ⟨_, r5⟩
    have w1' := hw1.1
    have w1e := hw1.2.1.1
    have w1q := r2
    unfold fsO at w1'
    unfold evO at w1e
    unfold qrO at w1q
    obtain ⟨k2, e2, hw2, f2⟩ := c_noteFault hw1 r1 (by omega)
    refine ⟨k2, ?_, hw2, frm_trans fr1 (frm_trans (frm_mono (frm_trans fr0 r6.1) (by omega) (by omega)) (frm_mono f2 (by omega) (by omega)))⟩
    rw [en65 w0']
    simp (disch := first | assumption | exact zz_nl_i _ | exact zz_nl_r _ | exact zz_nl_n | exact okv_i _ | exact okv_j _ | exact okv_0 | exact okv_1 | exact okv_o _ _ | exact okv_a _ _ | exact bI_okr _ | omega | exact llt_0 | ((repeat apply llt_s) <;> exact llt_0) | fail) only [x65, w0', ev0', e1, w1', w1e, w1q, e2, if_true, mo_k_v, mo_k_n, mo_v_e, mo_gf_e, mo_pf_e, mo_ia_e, mo_ba_e, mo_za_e, mo_la_e, mo_aa_e, mo_le_e, mo_is_e, mo_bs_e, mo_zs_0, mo_zs_1, mo_ls_e, mo_as_e, mo_na_e, mo_aci_e, mo_acb_e, mo_acj_e, hp_gs, hp_gn, hp_ss, List.getElem?_cons_zero, List.getElem?_cons_succ, List.set_cons_zero, List.set_cons_succ]
  | inr x =>
    obtain ⟨W, w⟩ := x
    rw [e] at q
    obtain ⟨k, s', hh, dp, fd, fc, sf, jn, wt, e1, r1, r2, r3, r4, r5, hsf, r6⟩ := q
    have hw1 := cW_q hw0 (frm_trans fr0 r6.1) r1 ⟨_, _, isTape_sam tp0 r6.2⟩ ⟨_, _, _, _, _, r2⟩ ⟨_, r3⟩ ⟨_, r4⟩ ⟨_, r5⟩
    have w1' := hw1.1
    have w1e := hw1.2.1.1
    have w1q := r2
    unfold fsO at w1'
    unfold evO at w1e
    unfold qrO at w1q
    obtain ⟨k2, e2, hw2, f2⟩ := c_noteFault hw1 r1 (by omega)
    have r2' := (f2.2.2.2 (X + 47) (by omega)).trans r2
    have r3' : isSets k2 (X + 51) 15 sf := isSets_sam r3 (frm_sam f2 (by omega))
    obtain ⟨v0, ⟨u0, u1, u2, u3, u4⟩, v2, v3, v4⟩ := hw2
    have v0' := v0
    have u0' := u0
    unfold fsO at v0'
    unfold evO at u0'
    have r2q := r2'
    unfold qrO at r2q
    have u4' : isSets k2 (X + 1 + 20) 1 af := u4
    have cr := c_copyRow (h := hp_s k2 (X + 1) (evO (X + 1) (nI 0) (-1) true (nI w) rs hd)) (isSets_s u4' (by omega)) (isSets_s r3' (by omega)) (by omega) (by omega) (by omega) (row := 0) (o := 0) (by omega) (by omega)
    have k3s : isSets (hp_s (hp_s k2 (X + 1) (evO (X + 1) (nI 0) (-1) true (nI w) rs hd)) (X + 1 + 20 + 1) (.inl (.int, 8 * 1, .inl (lay8 af 0 (rw8 sf 0) 8)))) (X + 1 + 20) 1 (lay8 af 0 (rw8 sf 0) 8) := isSets_set (isSets_s u4' (by omega))
    have am := c_amount k3s (row := 0) (by omega)
    have ea : amt (rw8 (lay8 af 0 (rw8 sf 0) 8) 0) = amt W := amt_cong (fun b hb => by
      unfold rw8
      rw [lay_in hb, Nat.mul_zero, Nat.zero_add]
      exact hsf b hb)
    rw [ea] at am
    refine ⟨_, lay8 af 0 (rw8 sf 0) 8, ?_, ⟨?_, ⟨?_, ?_, ?_, ?_, k3s⟩, ?_, ?_, ?_⟩, fun b hb => ?_, ?_⟩
    · rw [en65 w0']
      unfold evO at cr am ⊢
      rw [bI_t] at cr am
      simp (disch := first | assumption | exact zz_nl_i _ | exact zz_nl_r _ | exact zz_nl_n | exact okv_i _ | exact okv_j _ | exact okv_0 | exact okv_1 | exact okv_o _ _ | exact okv_a _ _ | exact bI_okr _ | omega | exact llt_0 | ((repeat apply llt_s) <;> exact llt_0) | fail) only [x65, w0', ev0', e1, w1', w1e, w1q, e2, nI_01, if_false, v0', u0', r2q, cr, am, bI_t, mo_k_v, mo_k_n, mo_v_e, mo_gf_e, mo_pf_e, mo_ia_e, mo_ba_e, mo_za_e, mo_la_e, mo_aa_e, mo_le_e, mo_is_e, mo_bs_e, mo_zs_0, mo_zs_1, mo_ls_e, mo_as_e, mo_na_e, mo_aci_e, mo_acb_e, mo_acj_e, hp_gs, hp_gn, hp_ss, List.getElem?_cons_zero, List.getElem?_cons_succ, List.set_cons_zero, List.set_cons_succ]
    · rw [hp_gn (by omega), hp_gn (by omega)]; exact v0
    · rw [hp_gn (by omega), hp_gs]
    · exact isTape_s (isTape_s u1 (by omega)) (by omega)
    · exact isStock_s (isStock_s u2 (by omega)) (by omega)
    · exact isChoice_s (isChoice_s u3 (by omega)) (by omega)
    · rw [hp_gn (by omega), hp_gn (by omega)]; exact v2
    · exact isJn_sam v3 (fun b h1 h2 => by rw [hp_gn (by omega), hp_gn (by omega)])
    · exact rst_sam v4 (fun b h1 h2 => by rw [hp_gn (by omega), hp_gn (by omega)])
    · have := lay_in (sf := af) (W := rw8 sf 0) (r := 0) hb
      rw [Nat.mul_zero, Nat.zero_add] at this
      rw [this]
      unfold rw8
      rw [Nat.mul_zero, Nat.zero_add]
      exact hsf b hb
    · exact frm_trans fr1 (frm_trans (frm_mono (frm_trans fr0 r6.1) (by omega) (by omega)) (frm_trans (frm_mono f2 (by omega) (by omega)) (frm_s ⟨by omega, by omega⟩ (frm_s ⟨by omega, by omega⟩ (frm_refl _ _ _)))))
end
