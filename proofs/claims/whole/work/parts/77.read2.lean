/-! the class: lines of a scheme -/
abbrev Out : Type := (Nat × Nat) ⊕ (Nat × Sk)
def rdQ (h : zz_H) (X : Nat) (t : Nat → Nat) (tl m : Nat) (as : List Value) (fk fp : Int32) (o : Out) : Prop := match o with
  | .inl (a, b) => fOut h X t tl m as a b
  | .inr (s', p, rk, tg, f) => ∃ k, zz_run m as h = some (some (.int (nI 1)), k) ∧ isTk k (X + 30) t tl s' fk fp ∧ isStock k (X + 33) p rk tg f ∧ frR h k X
/-- what a fault later is, earlier -/
theorem fOut_of {h k : zz_H} {X : Nat} {t : Nat → Nat} {tl m m2 : Nat} {as as2 : List Value} {a b : Nat} (hf : fOut k X t tl m as a b) (hk : frR h k X) (he : ∀ l, zz_run m as k = some (some (.int (nI 0)), l) → zz_run m2 as2 h = some (some (.int (nI 0)), l)) : fOut h X t tl m2 as2 a b := by
  obtain ⟨l, e, h1, h2, h3⟩ := hf
  exact ⟨l, he l e, h1, h2, frR_trans hk h3⟩
def headP (t : Nat → Nat) (tl s : Nat) (D : Sk) : Out :=
  if ¬ pnh D.1 < 4 then .inl (4, s) else
  if ¬ nmF D.1 t tl (advP t tl s) = 0 then .inl (nmF D.1 t tl (advP t tl s), advP t tl s) else
  if ¬ (kdP t tl (advP t tl (advP t tl s)) = 8 ∨ kdP t tl (advP t tl (advP t tl s)) = 9) then .inl (1, advP t tl (advP t tl s)) else
  .inr (advP t tl (advP t tl (advP t tl s)), addH D.1 (wP t tl (advP t tl s)) (decide (kdP t tl (advP t tl (advP t tl s)) = 9)), D.2)
theorem nmF_0 {p : Pl} {t : Nat → Nat} {tl s : Nat} (h : nmF p t tl s = 0) : kdP t tl s = 2 ∧ tkn p (wP t tl s) = false := by
  unfold nmF at h
  split at h
  · omega
  · next c =>
    split at h
    · omega
    · next c2 => exact ⟨Classical.not_not.mp c, Bool.eq_false_iff.mpr c2⟩
section
variable {h : zz_H} {X : Nat} {tb : Nat → Int32} {tl s : Nat} {t : Nat → Nat} {fk fp : Int32} {p : Pl} {rk tg f : Nat → Int32}
theorem c_readHead (w0 : hp_g h (X + 29) = some (shO X)) (ht : isTape h (X + 30 + 1) tb tl) (hb : byt tb t) (hk : isTk h (X + 30) t tl s fk fp) (hs : isStock h (X + 33) p rk tg f) : rdQ h X t tl 33 [.ref (X + 29)] fk fp (headP t tl s (p, rk, tg, f)) := by
  unfold headP
  dsimp only
  have hs0 := hs
  obtain ⟨t0, t1, t2, t3, t4⟩ := hs
  have rm := c_roomHead t1
  by_cases c1 : pnh p < 4
  · rw [if_neg (fun q => q c1)]
    rw [decide_eq_true c1] at rm
    obtain ⟨k1, e1, i1, f1⟩ := s_step ht hb hk
    have w01 := (f1.2.2.2 (X + 29) (by omega)).trans w0
    have s1 := isStock_sam hs0 (frm_sam f1 (by omega))
    have n1 := c_isNew w01 i1 s1
    have F1 : frR h k1 X := frR_of f1 (by omega) (by omega) (by omega)
    have run1 : ∀ r k, zz_run 36 [.ref (X + 29)] k1 = some (some (.int r), k) → r = nI 0 → zz_run 33 [.ref (X + 29)] h = some (some (.int (nI 0)), k) := by
      intro r k e er
      subst er
      rw [en33 w0]
      simp (disch := first | assumption | exact zz_nl_i _ | exact zz_nl_r _ | exact zz_nl_n | exact okv_i _ | exact okv_j _ | exact okv_0 | exact okv_1 | exact okv_o _ _ | exact okv_a _ _ | exact bI_okr _ | omega | exact llt_0 | ((repeat apply llt_s) <;> exact llt_0) | fail) only [x33, xb33, w0, t0, rm, bI_t, nI_01, if_false, e1, e, if_true, mo_k_v, mo_k_n, mo_v_e, mo_gf_e, mo_pf_e, mo_ia_e, mo_ba_e, mo_za_e, mo_la_e, mo_aa_e, mo_le_e, mo_is_e, mo_bs_e, mo_zs_0, mo_zs_1, mo_ls_e, mo_as_e, mo_na_e, mo_aci_e, mo_acb_e, mo_acj_e, hp_gs, hp_gn, hp_ss, List.getElem?_cons_zero, List.getElem?_cons_succ, List.set_cons_zero, List.set_cons_succ]
    by_cases c2 : nmF p t tl (advP t tl s) = 0
    · rw [if_neg (fun q => q c2)]
      have e2 := n1.1 c2
      obtain ⟨ck, _⟩ := nmF_0 c2
      obtain ⟨nu, wd, h1, h2, h3, h4⟩ := i1
      have hwd := h3 (Or.inl ck)
      have i1' : isTk k1 (X + 30) t tl (advP t tl s) fk fp := ⟨nu, wd, h1, h2, h3, h4⟩
      unfold tokO at h1
      obtain ⟨k2, e3, i2, f2⟩ := s_step (isTape_sam ht (frm_sam f1 (by omega))) hb i1'
      have w02 := (f2.2.2.2 (X + 29) (by omega)).trans w01
      have s2 := isStock_sam s1 (frm_sam f2 (by omega))
      have i2' := i2
      obtain ⟨nu2, wd2, g1, g2, g3, g4⟩ := i2
      unfold tokO at g1
      have hle := kd_le t tl (advP t tl (advP t tl s))
      have F2 : frR h k2 X := frR_trans F1 (frR_of f2 (by omega) (by omega) (by omega))
      subst hwd
      obtain ⟨u0, u1, u2, u3, u4⟩ := s2
      by_cases c3 : kdP t tl (advP t tl (advP t tl s)) = 8 ∨ kdP t tl (advP t tl (advP t tl s)) = 9
      · rw [if_neg (fun q => q c3)]
        obtain ⟨k3, e4, p3, f3⟩ := c_addHead u1 (wP t tl (advP t tl s)) (decide (kdP t tl (advP t tl (advP t tl s)) = 9)) c1
        have w03 := (f3.2.2.2 (X + 29) (by omega)).trans w02
        have i3 := isTk_sam i2' (f3.2.2.2 (X + 30) (by omega))
        have tp3 := isTape_sam (isTape_sam (isTape_sam ht (frm_sam f1 (by omega))) (frm_sam f2 (by omega))) (frm_sam f3 (by omega))
        obtain ⟨k4, e5, i4, f4⟩ := s_step tp3 hb i3
        have F3 : frR h k3 X := frR_trans F2 (frR_of f3 (by omega) (by omega) (by omega))
        refine ⟨k4, ?_, i4, ?_, frR_trans F3 (frR_of f4 (by omega) (by omega) (by omega))⟩
        · rw [en33 w0]
          rcases c3 with c3 | c3
          · have c9 : ¬ kdP t tl (advP t tl (advP t tl s)) = 9 := by omega
            rw [decide_eq_false c9, bI_f] at e4
            simp (disch := first | assumption | exact zz_nl_i _ | exact zz_nl_r _ | exact zz_nl_n | exact okv_i _ | exact okv_j _ | exact okv_0 | exact okv_1 | exact okv_o _ _ | exact okv_a _ _ | exact bI_okr _ | omega | exact llt_0 | ((repeat apply llt_s) <;> exact llt_0) | fail) only [x33, xb33, w0, t0, rm, bI_t, nI_01, if_false, e1, e2, w01, h1, e3, w02, g1, nI_eq, eq_true c3, if_true, u0, c9, e4, w03, e5, show ((1 : Nat) = 0) = False from eq_false (by omega), mo_k_v, mo_k_n, mo_v_e, mo_gf_e, mo_pf_e, mo_ia_e, mo_ba_e, mo_za_e, mo_la_e, mo_aa_e, mo_le_e, mo_is_e, mo_bs_e, mo_zs_0, mo_zs_1, mo_ls_e, mo_as_e, mo_na_e, mo_aci_e, mo_acb_e, mo_acj_e, hp_gs, hp_gn, hp_ss, List.getElem?_cons_zero, List.getElem?_cons_succ, List.set_cons_zero, List.set_cons_succ]
          · have c8 : ¬ kdP t tl (advP t tl (advP t tl s)) = 8 := by omega
            rw [decide_eq_true c3, bI_t] at e4
            simp (disch := first | assumption | exact zz_nl_i _ | exact zz_nl_r _ | exact zz_nl_n | exact okv_i _ | exact okv_j _ | exact okv_0 | exact okv_1 | exact okv_o _ _ | exact okv_a _ _ | exact bI_okr _ | omega | exact llt_0 | ((repeat apply llt_s) <;> exact llt_0) | fail) only [x33, xb33, w0, t0, rm, bI_t, nI_01, if_false, e1, e2, w01, h1, e3, w02, g1, nI_eq, c8, eq_true c3, if_true, u0, e4, w03, e5, show ((1 : Nat) = 0) = False from eq_false (by omega), mo_k_v, mo_k_n, mo_v_e, mo_gf_e, mo_pf_e, mo_ia_e, mo_ba_e, mo_za_e, mo_la_e, mo_aa_e, mo_le_e, mo_is_e, mo_bs_e, mo_zs_0, mo_zs_1, mo_ls_e, mo_as_e, mo_na_e, mo_aci_e, mo_acb_e, mo_acj_e, hp_gs, hp_gn, hp_ss, List.getElem?_cons_zero, List.getElem?_cons_succ, List.set_cons_zero, List.set_cons_succ]
        · refine ⟨(f4.2.2.2 _ (by omega)).trans ((f3.2.2.2 _ (by omega)).trans u0), isPlan_sam p3 (frm_sam f4 (by omega)), (f4.2.2.2 _ (by omega)).trans ((f3.2.2.2 _ (by omega)).trans u2), (f4.2.2.2 _ (by omega)).trans ((f3.2.2.2 _ (by omega)).trans u3), isSets_sam (isSets_sam u4 (frm_sam f3 (by omega))) (frm_sam f4 (by omega))⟩
      · rw [if_pos c3]
        obtain ⟨k3, e4, i3, f3⟩ := s_fail i2' (nI 1)
        refine ⟨k3, ?_, ⟨_, i3⟩, ⟨p, rk, tg, f, isStock_sam ⟨u0, u1, u2, u3, u4⟩ (frm_sam f3 (by omega))⟩, frR_trans F2 (frR_of f3 (by omega) (by omega) (by omega))⟩
        have c8 : ¬ kdP t tl (advP t tl (advP t tl s)) = 8 := fun q => c3 (Or.inl q)
        have c9 : ¬ kdP t tl (advP t tl (advP t tl s)) = 9 := fun q => c3 (Or.inr q)
        rw [en33 w0]
        simp (disch := first | assumption | exact zz_nl_i _ | exact zz_nl_r _ | exact zz_nl_n | exact okv_i _ | exact okv_j _ | exact okv_0 | exact okv_1 | exact okv_o _ _ | exact okv_a _ _ | exact bI_okr _ | omega | exact llt_0 | ((repeat apply llt_s) <;> exact llt_0) | fail) only [x33, xb33, w0, t0, rm, bI_t, nI_01, if_false, e1, e2, w01, h1, e3, w02, g1, nI_eq, c8, c9, if_true, e4, show ((1 : Nat) = 0) = False from eq_false (by omega), mo_k_v, mo_k_n, mo_v_e, mo_gf_e, mo_pf_e, mo_ia_e, mo_ba_e, mo_za_e, mo_la_e, mo_aa_e, mo_le_e, mo_is_e, mo_bs_e, mo_zs_0, mo_zs_1, mo_ls_e, mo_as_e, mo_na_e, mo_aci_e, mo_acb_e, mo_acj_e, hp_gs, hp_gn, hp_ss, List.getElem?_cons_zero, List.getElem?_cons_succ, List.set_cons_zero, List.set_cons_succ]
    · rw [if_pos c2]
      exact fOut_of (n1.2 c2) F1 (fun l e => run1 _ _ e rfl)
  · rw [if_pos c1]
    rw [decide_eq_false c1] at rm
    obtain ⟨k, e, k1, k2⟩ := s_fail hk (nI 4)
    refine ⟨k, ?_, ⟨s, k1⟩, ⟨p, rk, tg, f, isStock_sam hs0 (frm_sam k2 (by omega))⟩, frR_of k2 (by omega) (by omega) (by omega)⟩
    rw [en33 w0]
    simp (disch := first | assumption | exact zz_nl_i _ | exact zz_nl_r _ | exact zz_nl_n | exact okv_i _ | exact okv_j _ | exact okv_0 | exact okv_1 | exact okv_o _ _ | exact okv_a _ _ | exact bI_okr _ | omega | exact llt_0 | ((repeat apply llt_s) <;> exact llt_0) | fail) only [x33, xb33, w0, t0, rm, bI_f, if_true, e, mo_k_v, mo_k_n, mo_v_e, mo_gf_e, mo_pf_e, mo_ia_e, mo_ba_e, mo_za_e, mo_la_e, mo_aa_e, mo_le_e, mo_is_e, mo_bs_e, mo_zs_0, mo_zs_1, mo_ls_e, mo_as_e, mo_na_e, mo_aci_e, mo_acb_e, mo_acj_e, hp_gs, hp_gn, hp_ss, List.getElem?_cons_zero, List.getElem?_cons_succ, List.set_cons_zero, List.set_cons_succ]
end
