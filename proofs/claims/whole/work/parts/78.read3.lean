/-! the class: values, records -/
def vnP (p : Pl) (w : Int64) : Nat := fa_first (fun v => decide (pvn p v = w)) (pnv p)
theorem c_vn {h : zz_H} {a : Nat} {p : Pl} (hp : isPlan h a p) (w : Int64) : zz_run 38 [.ref a, .long w] h = some (some (.int (if vnP p w < pnv p then nI (vnP p w) else -1)), h) := c_valueNamed hp w
def valueP (t : Nat → Nat) (tl s : Nat) (D : Sk) : Out :=
  if ¬ (0 < pnh D.1 ∧ pnv D.1 < 20) then .inl (4, s) else
  if ¬ nmF D.1 t tl (advP t tl s) = 0 then .inl (nmF D.1 t tl (advP t tl s), advP t tl s) else
  if kdP t tl (advP t tl (advP t tl s)) = 11 then
    (if ¬ ltF D.1 t tl (advP t tl (advP t tl (advP t tl s))) = 0 then .inl (ltF D.1 t tl (advP t tl (advP t tl (advP t tl s))), advP t tl (advP t tl (advP t tl s))) else
    .inr (advP t tl (advP t tl (advP t tl (advP t tl s))), addV D.1 (wP t tl (advP t tl s)) (nI (vnP D.1 (wP t tl (advP t tl (advP t tl (advP t tl s)))))), D.2))
  else .inr (advP t tl (advP t tl s), addV D.1 (wP t tl (advP t tl s)) (-1), D.2)
theorem ltF_0 {p : Pl} {t : Nat → Nat} {tl s : Nat} (h : ltF p t tl s = 0) : kdP t tl s = 2 ∧ vnP p (wP t tl s) < pnv p ∧ pho p (vnP p (wP t tl s)) = nI (pnh p - 1) := by
  unfold ltF at h
  split at h
  · omega
  · next c =>
    split at h
    · next c2 => exact ⟨Classical.not_not.mp c, c2.1, c2.2⟩
    · omega
section
variable {h : zz_H} {X : Nat} {tb : Nat → Int32} {tl s : Nat} {t : Nat → Nat} {fk fp : Int32} {p : Pl} {rk tg f : Nat → Int32}
theorem c_readValue (w0 : hp_g h (X + 29) = some (shO X)) (ht : isTape h (X + 30 + 1) tb tl) (hb : byt tb t) (hk : isTk h (X + 30) t tl s fk fp) (hs : isStock h (X + 33) p rk tg f) : rdQ h X t tl 40 [.ref (X + 29)] fk fp (valueP t tl s (p, rk, tg, f)) := by
  unfold valueP
  dsimp only
  have hs0 := hs
  obtain ⟨t0, t1, t2, t3, t4⟩ := hs
  have rm := c_roomValue t1
  have n1f : ((1 : Nat) = 0) = False := eq_false (by omega)
  by_cases c1 : 0 < pnh p ∧ pnv p < 20
  · rw [if_neg (fun q => q c1)]
    rw [decide_eq_true c1] at rm
    obtain ⟨k1, e1, i1, f1⟩ := s_step ht hb hk
    have w01 := (f1.2.2.2 (X + 29) (by omega)).trans w0
    have s1 := isStock_sam hs0 (frm_sam f1 (by omega))
    have tp1 := isTape_sam ht (frm_sam f1 (by omega))
    have n1 := c_isNew w01 i1 s1
    have F1 : frR h k1 X := frR_of f1 (by omega) (by omega) (by omega)
    by_cases c2 : nmF p t tl (advP t tl s) = 0
    · rw [if_neg (fun q => q c2)]
      have e2 := n1.1 c2
      obtain ⟨ck, _⟩ := nmF_0 c2
      have i1' := i1
      obtain ⟨nu, wd, h1, h2, h3, h4⟩ := i1
      have hwd := h3 (Or.inl ck)
      unfold tokO at h1
      obtain ⟨k2, e3, i2, f2⟩ := s_step tp1 hb i1'
      have w02 := (f2.2.2.2 (X + 29) (by omega)).trans w01
      have s2 := isStock_sam s1 (frm_sam f2 (by omega))
      have tp2 := isTape_sam tp1 (frm_sam f2 (by omega))
      have i2' := i2
      obtain ⟨nu2, wd2, g1, g2, g3, g4⟩ := i2
      unfold tokO at g1
      have hle := kd_le t tl (advP t tl (advP t tl s))
      have F2 : frR h k2 X := frR_trans F1 (frR_of f2 (by omega) (by omega) (by omega))
      subst hwd
      by_cases c3 : kdP t tl (advP t tl (advP t tl s)) = 11
      · rw [if_pos c3]
        obtain ⟨k3, e4, i3, f3⟩ := s_step tp2 hb i2'
        have w03 := (f3.2.2.2 (X + 29) (by omega)).trans w02
        have s3 := isStock_sam s2 (frm_sam f3 (by omega))
        have tp3 := isTape_sam tp2 (frm_sam f3 (by omega))
        have F3 : frR h k3 X := frR_trans F2 (frR_of f3 (by omega) (by omega) (by omega))
        have n2 := c_isLate w03 i3 s3 c1.1
        by_cases c4 : ltF p t tl (advP t tl (advP t tl (advP t tl s))) = 0
        · rw [if_neg (fun q => q c4)]
          have e5 := n2.1 c4
          obtain ⟨cl1, cl2, cl3⟩ := ltF_0 c4
          have i3' := i3
          obtain ⟨nu3, wd3, j1, j2, j3, j4⟩ := i3
          have hwd3 := j3 (Or.inl cl1)
          unfold tokO at j1
          subst hwd3
          obtain ⟨u0, u1, u2, u3, u4⟩ := s3
          have vn := c_vn u1 (wP t tl (advP t tl (advP t tl (advP t tl s))))
          rw [if_pos cl2] at vn
          obtain ⟨k4, e6, i4, f4⟩ := s_step tp3 hb i3'
          have w04 := (f4.2.2.2 (X + 29) (by omega)).trans w03
          have v0 := (f4.2.2.2 (X + 33) (by omega)).trans u0
          obtain ⟨k5, e7, p5, f5⟩ := c_addValue (isPlan_sam u1 (frm_sam f4 (by omega))) (wP t tl (advP t tl s)) (nI (vnP p (wP t tl (advP t tl (advP t tl (advP t tl s)))))) c1.1 c1.2
          refine ⟨k5, ?_, isTk_sam i4 (f5.2.2.2 _ (by omega)), ?_, frR_trans F3 (frR_trans (frR_of f4 (by omega) (by omega) (by omega)) (frR_of f5 (by omega) (by omega) (by omega)))⟩
          · rw [en40 w0]
            have vn' : zz_run 38 [.ref (X + 33 + 1), .long (wP t tl (advP t tl (advP t tl (advP t tl s))))] k3 = some (some (.int (nI (vnP p (wP t tl (advP t tl (advP t tl (advP t tl s))))))), k3) := vn
            simp (disch := first | assumption | exact zz_nl_i _ | exact zz_nl_r _ | exact zz_nl_n | exact okv_i _ | exact okv_j _ | exact okv_0 | exact okv_1 | exact okv_o _ _ | exact okv_a _ _ | exact bI_okr _ | omega | exact llt_0 | ((repeat apply llt_s) <;> exact llt_0) | fail) only [x40, xb40, w0, t0, rm, bI_t, nI_01, if_false, e1, e2, w01, h1, e3, w02, g1, nI_eq, n1f, eq_true c3, if_true, e4, e5, w03, u0, j1, vn', e6, w04, v0, e7, mo_k_v, mo_k_n, mo_v_e, mo_gf_e, mo_pf_e, mo_ia_e, mo_ba_e, mo_za_e, mo_la_e, mo_aa_e, mo_le_e, mo_is_e, mo_bs_e, mo_zs_0, mo_zs_1, mo_ls_e, mo_as_e, mo_na_e, mo_aci_e, mo_acb_e, mo_acj_e, hp_gs, hp_gn, hp_ss, List.getElem?_cons_zero, List.getElem?_cons_succ, List.set_cons_zero, List.set_cons_succ]
          · exact ⟨(f5.2.2.2 _ (by omega)).trans v0, p5, (f5.2.2.2 _ (by omega)).trans ((f4.2.2.2 _ (by omega)).trans u2), (f5.2.2.2 _ (by omega)).trans ((f4.2.2.2 _ (by omega)).trans u3), isSets_sam (isSets_sam u4 (frm_sam f4 (by omega))) (frm_sam f5 (by omega))⟩
        · rw [if_pos c4]
          refine fOut_of (n2.2 c4) F3 (fun l e => ?_)
          rw [en40 w0]
          simp (disch := first | assumption | exact zz_nl_i _ | exact zz_nl_r _ | exact zz_nl_n | exact okv_i _ | exact okv_j _ | exact okv_0 | exact okv_1 | exact okv_o _ _ | exact okv_a _ _ | exact bI_okr _ | omega | exact llt_0 | ((repeat apply llt_s) <;> exact llt_0) | fail) only [x40, xb40, w0, t0, rm, bI_t, nI_01, if_false, e1, e2, w01, h1, e3, w02, g1, nI_eq, n1f, eq_true c3, if_true, e4, e, mo_k_v, mo_k_n, mo_v_e, mo_gf_e, mo_pf_e, mo_ia_e, mo_ba_e, mo_za_e, mo_la_e, mo_aa_e, mo_le_e, mo_is_e, mo_bs_e, mo_zs_0, mo_zs_1, mo_ls_e, mo_as_e, mo_na_e, mo_aci_e, mo_acb_e, mo_acj_e, hp_gs, hp_gn, hp_ss, List.getElem?_cons_zero, List.getElem?_cons_succ, List.set_cons_zero, List.set_cons_succ]
      · rw [if_neg c3]
        obtain ⟨u0, u1, u2, u3, u4⟩ := s2
        obtain ⟨k5, e7, p5, f5⟩ := c_addValue u1 (wP t tl (advP t tl s)) (-1) c1.1 c1.2
        refine ⟨k5, ?_, isTk_sam i2' (f5.2.2.2 _ (by omega)), ?_, frR_trans F2 (frR_of f5 (by omega) (by omega) (by omega))⟩
        · rw [en40 w0]
          simp (disch := first | assumption | exact zz_nl_i _ | exact zz_nl_r _ | exact zz_nl_n | exact okv_i _ | exact okv_j _ | exact okv_0 | exact okv_1 | exact okv_o _ _ | exact okv_a _ _ | exact bI_okr _ | omega | exact llt_0 | ((repeat apply llt_s) <;> exact llt_0) | fail) only [x40, xb40, w0, t0, rm, bI_t, nI_01, if_false, e1, e2, w01, h1, e3, w02, g1, nI_eq, n1f, c3, u0, e7, mo_k_v, mo_k_n, mo_v_e, mo_gf_e, mo_pf_e, mo_ia_e, mo_ba_e, mo_za_e, mo_la_e, mo_aa_e, mo_le_e, mo_is_e, mo_bs_e, mo_zs_0, mo_zs_1, mo_ls_e, mo_as_e, mo_na_e, mo_aci_e, mo_acb_e, mo_acj_e, hp_gs, hp_gn, hp_ss, List.getElem?_cons_zero, List.getElem?_cons_succ, List.set_cons_zero, List.set_cons_succ]
        · exact ⟨(f5.2.2.2 _ (by omega)).trans u0, p5, (f5.2.2.2 _ (by omega)).trans u2, (f5.2.2.2 _ (by omega)).trans u3, isSets_sam u4 (frm_sam f5 (by omega))⟩
    · rw [if_pos c2]
      refine fOut_of (n1.2 c2) F1 (fun l e => ?_)
      rw [en40 w0]
      simp (disch := first | assumption | exact zz_nl_i _ | exact zz_nl_r _ | exact zz_nl_n | exact okv_i _ | exact okv_j _ | exact okv_0 | exact okv_1 | exact okv_o _ _ | exact okv_a _ _ | exact bI_okr _ | omega | exact llt_0 | ((repeat apply llt_s) <;> exact llt_0) | fail) only [x40, xb40, w0, t0, rm, bI_t, nI_01, if_false, e1, e, if_true, mo_k_v, mo_k_n, mo_v_e, mo_gf_e, mo_pf_e, mo_ia_e, mo_ba_e, mo_za_e, mo_la_e, mo_aa_e, mo_le_e, mo_is_e, mo_bs_e, mo_zs_0, mo_zs_1, mo_ls_e, mo_as_e, mo_na_e, mo_aci_e, mo_acb_e, mo_acj_e, hp_gs, hp_gn, hp_ss, List.getElem?_cons_zero, List.getElem?_cons_succ, List.set_cons_zero, List.set_cons_succ]
  · rw [if_pos c1]
    rw [decide_eq_false c1] at rm
    obtain ⟨k, e, k1, k2⟩ := s_fail hk (nI 4)
    refine ⟨k, ?_, ⟨s, k1⟩, ⟨p, rk, tg, f, isStock_sam hs0 (frm_sam k2 (by omega))⟩, frR_of k2 (by omega) (by omega) (by omega)⟩
    rw [en40 w0]
    simp (disch := first | assumption | exact zz_nl_i _ | exact zz_nl_r _ | exact zz_nl_n | exact okv_i _ | exact okv_j _ | exact okv_0 | exact okv_1 | exact okv_o _ _ | exact okv_a _ _ | exact bI_okr _ | omega | exact llt_0 | ((repeat apply llt_s) <;> exact llt_0) | fail) only [x40, xb40, w0, t0, rm, bI_f, if_true, e, mo_k_v, mo_k_n, mo_v_e, mo_gf_e, mo_pf_e, mo_ia_e, mo_ba_e, mo_za_e, mo_la_e, mo_aa_e, mo_le_e, mo_is_e, mo_bs_e, mo_zs_0, mo_zs_1, mo_ls_e, mo_as_e, mo_na_e, mo_aci_e, mo_acb_e, mo_acj_e, hp_gs, hp_gn, hp_ss, List.getElem?_cons_zero, List.getElem?_cons_succ, List.set_cons_zero, List.set_cons_succ]
end
def tagsP (t : Nat → Nat) (tl : Nat) (p : Pl) : Nat → Nat → Int32 → (Nat × Nat) ⊕ (Nat × Int32)
  | 0, s, g => .inr (s, g)
  | n + 1, s, g => if ¬ kdP t tl s = 2 then .inr (s, g) else
    if ¬ vnP p (wP t tl s) < pnv p then .inl (3, s) else
    if bt g (vnP p (wP t tl s)) = true ∨ ¬ hldC p g (vnP p (wP t tl s)) = -1 then .inl (6, s) else
    tagsP t tl p n (advP t tl s) (g ||| sh1 (vnP p (wP t tl s)))
def putP (D : Sk) (q : Nat) (x g : Int32) : Sk := (D.1, upd D.2.1 q x, upd D.2.2.1 q g, putF D.2.2.2 (pnv D.1) q (!decide (x = -1)) (linOf D.1 g (pnv D.1)))
def tagsO (D : Sk) (q : Nat) (x : Int32) (o : (Nat × Nat) ⊕ (Nat × Int32)) : Out := match o with
  | .inl e => .inl e
  | .inr (s, g) => .inr (s, putP D q x g)
section
variable {h : zz_H} {X : Nat} {tb : Nat → Int32} {tl s : Nat} {t : Nat → Nat} {fk fp : Int32} {p : Pl} {rk tg f : Nat → Int32}
/-- the rest of a run -/
def rdY (h : zz_H) (X : Nat) (t : Nat → Nat) (tl : Nat) (y : Option (Option Value × zz_H)) (fk fp : Int32) (o : Out) : Prop := match o with
  | .inl (a, b) => ∃ k, y = some (some (.int (nI 0)), k) ∧ (∃ s', isTk k (X + 30) t tl s' (nI a) (nI b)) ∧ (∃ p rk tg f, isStock k (X + 33) p rk tg f) ∧ frR h k X
  | .inr (s', p, rk, tg, f) => ∃ k, y = some (some (.int (nI 1)), k) ∧ isTk k (X + 30) t tl s' fk fp ∧ isStock k (X + 33) p rk tg f ∧ frR h k X
theorem rdY_frm {h0 : zz_H} {y : Option (Option Value × zz_H)} {o : Out} (hq : rdY h X t tl y fk fp o) (hf : frR h0 h X) : rdY h0 X t tl y fk fp o := by
  match o with
  | .inl (a, b) =>
    obtain ⟨k, e, h1, h2, h3⟩ := hq
    exact ⟨k, e, h1, h2, frR_trans hf h3⟩
  | .inr (s', p, rk, tg, f) =>
    obtain ⟨k, e, h1, h2, h3⟩ := hq
    exact ⟨k, e, h1, h2, frR_trans hf h3⟩
theorem c_tagsLoop (hwf : wfP p) (htl : tl ≤ 600) {q : Nat} (hq : q < 256) (x : Int32) (hb : byt tb t) : ∀ n (h : zz_H) (s i : Nat) (g : Int32) (o : Option Value), hp_g h (X + 29) = some (shO X) → isTape h (X + 30 + 1) tb tl → isTk h (X + 30) t tl s fk fp → isStock h (X + 33) p rk tg f → tl - s < n → i ≤ s → zz_nl o = true → rdY h X t tl (zz_Y 49 (5, [some (.ref (X + 29)), some (.int (nI (q))), some (.int (x)), some (.int (g)), some (.int (nI (i))), o], [], h)) fk fp (tagsO (p, rk, tg, f) q x (tagsP t tl p n s g)) := by
  intro n
  induction n with
  | zero => intro h s i g o w0 ht hk hs hn; omega
  | succ n ih =>
    intro h s i g o w0 ht hk hs hn hi ho
    have hle := kd_le t tl s
    have hk0 := hk
    obtain ⟨nu, wd, h1, h2, h3, h4⟩ := hk
    unfold tokO at h1
    have hs0 := hs
    obtain ⟨t0, t1, t2, t3, t4⟩ := hs
    have hn20 : pnv p ≤ 20 := t1.2.2.2.2.2.2.2.2.2.2
    have hn4 : pnh p ≤ 4 := t1.2.2.2.2.2.2.2.2.2.1
    unfold tagsP
    rw [x49_c5]
    by_cases c : kdP t tl s = 2
    · rw [if_neg (fun z => z c)]
      have hst : s < tl := by
        by_cases z : s = tl
        · rw [(kd_stop h4).mpr z] at c; omega
        · omega
      have ci : i < 600 := by omega
      have ct := eq_true c
      have hwd := h3 (Or.inl c)
      subst hwd
      have vn := c_vn t1 (wP t tl s)
      by_cases c1 : vnP p (wP t tl s) < pnv p
      · rw [if_neg (fun z => z c1)]
        rw [if_pos c1] at vn
        have vn' : zz_run 38 [.ref (X + 33 + 1), .long (wP t tl s)] h = some (some (.int (nI (vnP p (wP t tl s)))), h) := vn
        have c1m : ¬ nI (vnP p (wP t tl s)) = -1 := nI_m1 (by omega)
        obtain ⟨⟨d, hd, hod⟩, _⟩ := hwf.2 _ c1
        obtain ⟨fi, si, e2, e3, e4, _⟩ := hwf.1 d hd
        have hold := c_holder t1 (show vnP p (wP t tl s) < 20 by omega) hod (by omega) e2 e3 (by omega) g
        have hbit := c_hasBit (x := g) (show vnP p (wP t tl s) < 32 by omega) h
        by_cases c2 : bt g (vnP p (wP t tl s)) = true ∨ ¬ hldC p g (vnP p (wP t tl s)) = -1
        · rw [if_pos c2]
          obtain ⟨k, e, k1, k2⟩ := s_fail hk0 (nI 6)
          refine ⟨k, ?_, ⟨s, k1⟩, ⟨p, rk, tg, f, isStock_sam hs0 (frm_sam k2 (by omega))⟩, frR_of k2 (by omega) (by omega) (by omega)⟩
          cases cb : bt g (vnP p (wP t tl s)) with
          | true =>
            rw [cb, if_pos rfl] at hbit
            simp (disch := first | assumption | exact zz_nl_i _ | exact zz_nl_r _ | exact zz_nl_n | exact okv_i _ | exact okv_j _ | exact okv_0 | exact okv_1 | exact okv_o _ _ | exact okv_a _ _ | exact bI_okr _ | omega | exact llt_0 | ((repeat apply llt_s) <;> exact llt_0) | fail) only [x49_p0, x49_p1, xb49, w0, h1, nI_eq, ct, if_true, nI_ltI, ci, t0, vn', c1m, if_false, hbit, nI_01, e, show ((1 : Nat) = 0) = False from eq_false (by omega), mo_k_v, mo_k_n, mo_v_e, mo_gf_e, mo_pf_e, mo_ia_e, mo_ba_e, mo_za_e, mo_la_e, mo_aa_e, mo_le_e, mo_is_e, mo_bs_e, mo_zs_0, mo_zs_1, mo_ls_e, mo_as_e, mo_na_e, mo_aci_e, mo_acb_e, mo_acj_e, hp_gs, hp_gn, hp_ss, List.getElem?_cons_zero, List.getElem?_cons_succ, List.set_cons_zero, List.set_cons_succ]
          | false =>
            rw [cb, if_neg (by decide)] at hbit
            have c3 : ¬ hldC p g (vnP p (wP t tl s)) = -1 := c2.resolve_left (by rw [cb]; decide)
            simp (disch := first | assumption | exact zz_nl_i _ | exact zz_nl_r _ | exact zz_nl_n | exact okv_i _ | exact okv_j _ | exact okv_0 | exact okv_1 | exact okv_o _ _ | exact okv_a _ _ | exact bI_okr _ | omega | exact llt_0 | ((repeat apply llt_s) <;> exact llt_0) | fail) only [x49_p0, x49_p1, xb49, w0, h1, nI_eq, ct, if_true, nI_ltI, ci, t0, vn', c1m, if_false, hbit, hold, c3, e, mo_k_v, mo_k_n, mo_v_e, mo_gf_e, mo_pf_e, mo_ia_e, mo_ba_e, mo_za_e, mo_la_e, mo_aa_e, mo_le_e, mo_is_e, mo_bs_e, mo_zs_0, mo_zs_1, mo_ls_e, mo_as_e, mo_na_e, mo_aci_e, mo_acb_e, mo_acj_e, hp_gs, hp_gn, hp_ss, List.getElem?_cons_zero, List.getElem?_cons_succ, List.set_cons_zero, List.set_cons_succ]
        · rw [if_neg c2]
          have cb : bt g (vnP p (wP t tl s)) = false := Bool.eq_false_iff.mpr (fun z => c2 (Or.inl z))
          have c3 : hldC p g (vnP p (wP t tl s)) = -1 := Classical.not_not.mp (fun z => c2 (Or.inr z))
          rw [cb, if_neg (by decide)] at hbit
          obtain ⟨k1, e1, i1, f1⟩ := s_step ht hb hk0
          have w01 := (f1.2.2.2 (X + 29) (by omega)).trans w0
          have s1 := isStock_sam hs0 (frm_sam f1 (by omega))
          have tp1 := isTape_sam ht (frm_sam f1 (by omega))
          have hadv := (adv_le (t := t) h4).2.2 hst
          have r := ih k1 (advP t tl s) (i + 1) (g ||| sh1 (vnP p (wP t tl s))) (some (.int (nI (vnP p (wP t tl s))))) w01 tp1 i1 s1 (by omega) (by omega) (zz_nl_i _)
          have r := rdY_frm r (frR_of f1 (by omega) (by omega) (by omega))
          simp (disch := first | assumption | exact zz_nl_i _ | exact zz_nl_r _ | exact zz_nl_n | exact okv_i _ | exact okv_j _ | exact okv_0 | exact okv_1 | exact okv_o _ _ | exact okv_a _ _ | exact bI_okr _ | omega | exact llt_0 | ((repeat apply llt_s) <;> exact llt_0) | fail) only [x49_p0, x49_p1, xb49, w0, h1, nI_eq, ct, if_true, nI_ltI, ci, t0, vn', c1m, if_false, hbit, hold, eq_true c3, e1, nI_add, mo_k_v, mo_k_n, mo_v_e, mo_gf_e, mo_pf_e, mo_ia_e, mo_ba_e, mo_za_e, mo_la_e, mo_aa_e, mo_le_e, mo_is_e, mo_bs_e, mo_zs_0, mo_zs_1, mo_ls_e, mo_as_e, mo_na_e, mo_aci_e, mo_acb_e, mo_acj_e, hp_gs, hp_gn, hp_ss, List.getElem?_cons_zero, List.getElem?_cons_succ, List.set_cons_zero, List.set_cons_succ]
          exact r
      · rw [if_pos c1]
        rw [if_neg c1] at vn
        obtain ⟨k, e, k1, k2⟩ := s_fail hk0 (nI 3)
        refine ⟨k, ?_, ⟨s, k1⟩, ⟨p, rk, tg, f, isStock_sam hs0 (frm_sam k2 (by omega))⟩, frR_of k2 (by omega) (by omega) (by omega)⟩
        simp (disch := first | assumption | exact zz_nl_i _ | exact zz_nl_r _ | exact zz_nl_n | exact okv_i _ | exact okv_j _ | exact okv_0 | exact okv_1 | exact okv_o _ _ | exact okv_a _ _ | exact bI_okr _ | omega | exact llt_0 | ((repeat apply llt_s) <;> exact llt_0) | fail) only [x49_p0, x49_p1, xb49, w0, h1, nI_eq, ct, if_true, nI_ltI, ci, t0, vn, e, mo_k_v, mo_k_n, mo_v_e, mo_gf_e, mo_pf_e, mo_ia_e, mo_ba_e, mo_za_e, mo_la_e, mo_aa_e, mo_le_e, mo_is_e, mo_bs_e, mo_zs_0, mo_zs_1, mo_ls_e, mo_as_e, mo_na_e, mo_aci_e, mo_acb_e, mo_acj_e, hp_gs, hp_gn, hp_ss, List.getElem?_cons_zero, List.getElem?_cons_succ, List.set_cons_zero, List.set_cons_succ]
    · rw [if_pos c]
      obtain ⟨k, e, s1, f1⟩ := c_put' hs0 hq x g
      refine ⟨k, ?_, isTk_sam hk0 (f1.2.2.2 _ (by omega)), s1, frR_of f1 (by omega) (by omega) (by omega)⟩
      simp (disch := first | assumption | exact zz_nl_i _ | exact zz_nl_r _ | exact zz_nl_n | exact okv_i _ | exact okv_j _ | exact okv_0 | exact okv_1 | exact okv_o _ _ | exact okv_a _ _ | exact bI_okr _ | omega | exact llt_0 | ((repeat apply llt_s) <;> exact llt_0) | fail) only [x49_p0, x49_p1, xb49, w0, h1, nI_eq, c, if_false, e, mo_k_v, mo_k_n, mo_v_e, mo_gf_e, mo_pf_e, mo_ia_e, mo_ba_e, mo_za_e, mo_la_e, mo_aa_e, mo_le_e, mo_is_e, mo_bs_e, mo_zs_0, mo_zs_1, mo_ls_e, mo_as_e, mo_na_e, mo_aci_e, mo_acb_e, mo_acj_e, hp_gs, hp_gn, hp_ss, List.getElem?_cons_zero, List.getElem?_cons_succ, List.set_cons_zero, List.set_cons_succ]
end
