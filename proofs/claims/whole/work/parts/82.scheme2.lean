/-! the class: scheme, all of it -/
section
variable {h : zz_H} {X : Nat} {J : Jn} {im : Nat → Option Nat} {tb : Nat → Int32} {tl : Nat} {p : Pl} {rk tg f ch ba : Nat → Int32} {fk fp : Int32} {an : Bool} {aw : Int32} {af : Nat → Int32} {rs hd : Int32} {kn pl bf jt : Nat → Int32} {nx am : Nat} {t : Nat → Nat}
theorem c_readScheme (hw : cW h X ((tb, tl), (p, rk, tg, f), (ch, ba), (fk, fp), (an, aw, af), (rs, hd)) J im) (hb : byt tb t) : ∃ D k2 tb', emD D ∧ frm (hp_s h (X + 1 + 1) (emT (X + 1 + 1))) k2 (X + 30) (X + 47) ∧ isTape k2 (X + 30 + 1) tb' tl ∧ schQ k2 X t tl (zz_run 18 [.ref (X + 29), .ref (X + 1 + 1)] h) (nI 0) (-1) (schP t tl 601 (tkS t tl 0) D) := by
  obtain ⟨w0, ⟨e0, e1, e2, e3, e4⟩, w2, w3, ⟨⟨⟨x1, x2, x3, x4, x5, x6, x7, r1⟩, tb0, tl0, r1t⟩, _⟩, r2, ⟨y1, y2, y3, y4, r3⟩, _⟩ := hw
  have htl := e1.2.2
  obtain ⟨k1, rk', tg', f', c1, s1, q1, q2, q3, f1⟩ := c_clearStock r3
  have r1' := (f1.2.2.2 (X + 30) (by omega)).trans r1
  have r1t' : isTape k1 (X + 30 + 1) tb0 tl0 := isTape_sam r1t (frm_sam f1 (by omega))
  have ht1 : isTape k1 (X + 1 + 1) tb tl := isTape_sam e1 (frm_sam f1 (by omega))
  obtain ⟨k2, tb', c2, i2, tp2, hb2, f2⟩ := s_take r1' r1t' ht1 hb (by omega)
  have em : emD ((0, 0, y1.2.2), rk', tg', f') := ⟨rfl, rfl, q1, q2, q3⟩
  have f1s : frm (hp_s h (X + 1 + 1) (emT (X + 1 + 1))) (hp_s k1 (X + 1 + 1) (emT (X + 1 + 1))) (X + 33) (X + 33 + 14) := frm_ss f1
  have s1s : isStock (hp_s k1 (X + 1 + 1) (emT (X + 1 + 1))) (X + 33) (0, 0, y1.2.2) rk' tg' f' := isStock_s s1 (by omega)
  have w30 : hp_g k1 (X + 29) = some (shO X) := (f1.2.2.2 (X + 29) (by omega)).trans r2
  have w30' : hp_g k2 (X + 29) = some (shO X) := (f2.2.2.2 (X + 29) (by omega)).trans ((hp_gn (by omega)).trans w30)
  refine ⟨((0, 0, y1.2.2), rk', tg', f'), k2, tb', em, frm_trans (frm_mono f1s (by omega) (by omega)) (frm_mono f2 (by omega) (by omega)), tp2, ?_⟩
  have r := c_schLoop (X := X) htl hb2 k2 601 k2 (tkS t tl 0) 0 ((0, 0, y1.2.2), rk', tg', f') w30' tp2 i2 (isStock_sam s1s (frm_sam f2 (by omega))) (DI_em em) ⟨frm_refl _ _ _, fun b _ _ => rfl⟩ (by omega) (by omega)
  have e : zz_run 18 [.ref (X + 29), .ref (X + 1 + 1)] h = zz_Y 18 (19, [some (.ref (X + 29)), some (.ref (X + 1 + 1)), some (.int (nI (1))), some (.int (nI (0)))], [], k2) := by
    rw [en18 r2]
    simp (disch := first | assumption | exact zz_nl_i _ | exact zz_nl_r _ | exact zz_nl_n | exact okv_i _ | exact okv_j _ | exact okv_0 | exact okv_1 | exact okv_o _ _ | exact okv_a _ _ | exact bI_okr _ | omega | exact llt_0 | ((repeat apply llt_s) <;> exact llt_0) | fail) only [x18, xb18, r2, c1, w30, c2, mo_k_v, mo_k_n, mo_v_e, mo_gf_e, mo_pf_e, mo_ia_e, mo_ba_e, mo_za_e, mo_la_e, mo_aa_e, mo_le_e, mo_is_e, mo_bs_e, mo_zs_0, mo_zs_1, mo_ls_e, mo_as_e, mo_na_e, mo_aci_e, mo_acb_e, mo_acj_e, hp_gs, hp_gn, hp_ss, List.getElem?_cons_zero, List.getElem?_cons_succ, List.set_cons_zero, List.set_cons_succ]
  rw [e]
  exact r
theorem c_scheme (hw : cW h X ((tb, tl), (p, rk, tg, f), (ch, ba), (fk, fp), (an, aw, af), (rs, hd)) (kn, pl, bf, jt, nx, am) im) (hb : byt tb t) : ∃ D, emD D ∧ (match schP t tl 601 (tkS t tl 0) D with
    | .inl (a, b) => ∃ k, zz_run 17 [.ref X] h = some (some (.int (-1)), k) ∧ cW k X ((tb, 0), (p, rk, tg, f), (ch, ba), (nI a, nI b), (an, aw, af), (rs, hd)) (kn, pl, bf, jt, nx, am) im ∧ frm h k X (X + 57)
    | .inr (_, p', rk', tg', f') => ∃ k p2 rk2 tg2 f2 ch2 ba2, zz_run 17 [.ref X] h = some (some (.int (nI (amt (rw8 f2 20)))), k) ∧ cW k X ((tb, 0), (p2, rk2, tg2, f2), (ch2, ba2), (nI 0, -1), (an, aw, af), (rs, hd)) (kn, pl, bf, jt, 0, 0) im ∧ DI (p', rk', tg', f') ∧ plE p2 p' ∧ eqN 256 rk2 rk' ∧ eqN 256 tg2 tg' ∧ eqN 168 f2 f' ∧ eqN 20 ch2 z0 ∧ eqN 4 ba2 z0 ∧ frm h k X (X + 57)) := by
  obtain ⟨D, k0, tb', em, fr0, tp0, q⟩ := c_readScheme hw hb
  refine ⟨D, em, ?_⟩
  obtain ⟨hw0, fr1⟩ := cW_tl hw (show 0 ≤ 600 by omega)
  have w0' := hw.1
  have ev0' := hw.2.1.1
  unfold fsO at w0'
  unfold evO at ev0'
  cases e : schP t tl 601 (tkS t tl 0) D with
  | inl x =>
    obtain ⟨a, b⟩ := x
    rw [e] at q
    obtain ⟨k, e1, ⟨s', r1⟩, r2, r3⟩ := q
    have hw1 := cW_rd hw0 (frm_trans fr0 r3.1) r1 r2 ⟨_, _, isTape_sam tp0 r3.2⟩
    have w1' := hw1.1
    have w1e := hw1.2.1.1
    have w1s := hw1.2.2.2.2.2.1
    unfold fsO at w1'
    unfold evO at w1e
    obtain ⟨k2, e2, hw2, f2⟩ := c_noteFault hw1 r1 (by omega)
    refine ⟨k2, ?_, hw2, frm_trans fr1 (frm_trans (frm_mono (frm_trans fr0 r3.1) (by omega) (by omega)) (frm_mono f2 (by omega) (by omega)))⟩
    rw [en17 w0']
    simp (disch := first | assumption | exact zz_nl_i _ | exact zz_nl_r _ | exact zz_nl_n | exact okv_i _ | exact okv_j _ | exact okv_0 | exact okv_1 | exact okv_o _ _ | exact okv_a _ _ | exact bI_okr _ | omega | exact llt_0 | ((repeat apply llt_s) <;> exact llt_0) | fail) only [x17, w0', ev0', e1, w1', w1e, w1s, e2, if_true, mo_k_v, mo_k_n, mo_v_e, mo_gf_e, mo_pf_e, mo_ia_e, mo_ba_e, mo_za_e, mo_la_e, mo_aa_e, mo_le_e, mo_is_e, mo_bs_e, mo_zs_0, mo_zs_1, mo_ls_e, mo_as_e, mo_na_e, mo_aci_e, mo_acb_e, mo_acj_e, hp_gs, hp_gn, hp_ss, List.getElem?_cons_zero, List.getElem?_cons_succ, List.set_cons_zero, List.set_cons_succ]
  | inr x =>
    obtain ⟨s0, p', rk', tg', f'⟩ := x
    rw [e] at q
    obtain ⟨k, e1, ⟨s', r1⟩, r2, rd, r3⟩ := q
    have hw1 := cW_rd hw0 (frm_trans fr0 r3.1) r1 ⟨_, _, _, _, r2⟩ ⟨_, _, isTape_sam tp0 r3.2⟩
    have w1' := hw1.1
    have w1e := hw1.2.1.1
    have w1s := hw1.2.2.2.2.2.1
    unfold fsO at w1'
    unfold evO at w1e
    obtain ⟨k2, e2, hw2, f2⟩ := c_noteFault hw1 r1 (by omega)
    have r2' := isStock_sam r2 (frm_sam f2 (by omega))
    have hw2' := hw2
    obtain ⟨v0, ⟨u0, u1, u2, u3, u4⟩, v2, v3, z1, z2, z3, z4⟩ := hw2
    obtain ⟨k3, p2, rk2, tg2, fx, e3, s3, q1, q2, q3, q4, f3⟩ := c_copyStock u2 r2' (by omega)
    have u3' : isChoice k3 (X + 18) ch ba := isChoice_sam u3 (frm_sam f3 (by omega))
    obtain ⟨k4, ch2, ba2, e4, s4, q5, q6, f4⟩ := c_clearChoice u3'
    have v3' : isJr k4 (X + 24) kn pl bf jt nx am := isJr_sam (isJr_sam v3 (frm_sam f3 (by omega))) (frm_sam f4 (by omega))
    obtain ⟨k5, e5, s5, f5⟩ := c_clearJr v3'
    have G : frm k2 k5 X (X + 57) := frm_trans (frm_mono f3 (by omega) (by omega)) (frm_trans (frm_mono f4 (by omega) (by omega)) (frm_mono f5 (by omega) (by omega)))
    have s3' : isStock k5 (X + 4) p2 rk2 tg2 fx := isStock_sam (isStock_sam s3 (frm_sam f4 (by omega))) (frm_sam f5 (by omega))
    have w3 : hp_g k2 (X + 29) = some (shO X) := z2
    have j0 : ∀ b, (b = X ∨ b = X + 1 ∨ (X + 29 ≤ b ∧ b < X + 57)) → hp_g k3 b = hp_g k2 b := fun b hb => f3.2.2.2 b (by omega)
    have j1 : ∀ b, (b = X ∨ b = X + 1 ∨ (X + 29 ≤ b ∧ b < X + 57)) → hp_g k4 b = hp_g k2 b := fun b hb => (f4.2.2.2 b (by omega)).trans (j0 b hb)
    have j2 : ∀ b, (b = X ∨ b = X + 1 ∨ (X + 29 ≤ b ∧ b < X + 57)) → hp_g k5 b = hp_g k2 b := fun b hb => (f5.2.2.2 b (by omega)).trans (j1 b hb)
    refine ⟨k5, p2, rk2, tg2, fx, ch2, ba2, ?_, ?_, rd, q1, q2, q3, q4, q5, q6, frm_trans fr1 (frm_trans (frm_mono (frm_trans fr0 r3.1) (by omega) (by omega)) (frm_trans (frm_mono f2 (by omega) (by omega)) G))⟩
    · have v0' := v0
      have u0' := u0
      unfold fsO at v0'
      unfold evO at u0'
      have a3 := (j0 X (Or.inl rfl)).trans v0'
      have b3 := (j0 (X + 1) (Or.inr (Or.inl rfl))).trans u0'
      have a4 := (j1 X (Or.inl rfl)).trans v0'
      have a5 := (j2 X (Or.inl rfl)).trans v0'
      have b5 := (j2 (X + 1) (Or.inr (Or.inl rfl))).trans u0'
      have t0 := s3'.1
      have am := c_amount s3'.2.2.2.2 (row := 20) (by omega)
      rw [en17 w0']
      simp (disch := first | assumption | exact zz_nl_i _ | exact zz_nl_r _ | exact zz_nl_n | exact okv_i _ | exact okv_j _ | exact okv_0 | exact okv_1 | exact okv_o _ _ | exact okv_a _ _ | exact bI_okr _ | omega | exact llt_0 | ((repeat apply llt_s) <;> exact llt_0) | fail) only [x17, w0', ev0', e1, w1', w1e, w1s, e2, nI_01, if_false, v0', u0', w3, e3, a3, b3, e4, a4, e5, a5, b5, t0, am, mo_k_v, mo_k_n, mo_v_e, mo_gf_e, mo_pf_e, mo_ia_e, mo_ba_e, mo_za_e, mo_la_e, mo_aa_e, mo_le_e, mo_is_e, mo_bs_e, mo_zs_0, mo_zs_1, mo_ls_e, mo_as_e, mo_na_e, mo_aci_e, mo_acb_e, mo_acj_e, hp_gs, hp_gn, hp_ss, List.getElem?_cons_zero, List.getElem?_cons_succ, List.set_cons_zero, List.set_cons_succ]
    · refine ⟨(j2 X (Or.inl rfl)).trans v0, ⟨(j2 _ (Or.inr (Or.inl rfl))).trans u0, isTape_sam (isTape_sam (isTape_sam u1 (frm_sam f3 (by omega))) (frm_sam f4 (by omega))) (frm_sam f5 (by omega)), s3', isChoice_sam s4 (frm_sam f5 (by omega)), isSets_sam (isSets_sam (isSets_sam u4 (frm_sam f3 (by omega))) (frm_sam f4 (by omega))) (frm_sam f5 (by omega))⟩, (f5.2.2.2 _ (by omega)).trans ((f4.2.2.2 _ (by omega)).trans ((f3.2.2.2 _ (by omega)).trans v2)), s5, rst_sam ⟨z1, z2, z3, z4⟩ (fun b h1 h2 => j2 b (Or.inr (Or.inr ⟨h1, h2⟩)))⟩
end
