/-! the class: questions -/
def frQ (h k : zz_H) (X : Nat) : Prop := frm h k (X + 47) (X + 55) ∧ sam h k (X + 49) (X + 51)
theorem frQ_t {h k : zz_H} {X : Nat} (hf : frm h k (X + 48) (X + 48 + 1)) : frQ h k X := ⟨frm_mono hf (by omega) (by omega), frm_sam hf (by omega)⟩
theorem frQ_q {h k : zz_H} {X : Nat} (hf : frB h k X) : frQ h k X := ⟨hf.1, sam_sub hf.2 (by omega) (by omega)⟩
theorem frQ_trans {h k l : zz_H} {X : Nat} (h1 : frQ h k X) (h2 : frQ k l X) : frQ h l X := ⟨frm_trans h1.1 h2.1, fun b h3 h4 => (h2.2 b h3 h4).trans (h1.2 b h3 h4)⟩
theorem cQ_sam {h k : zz_H} {X dep fc wk : Nat} {fd : Bool} {L : Nat → Le} (hq : cQ h X dep fd fc wk L) (h0 : hp_g k (X + 47) = hp_g h (X + 47)) (hs : sam h k (X + 51) (X + 55)) : cQ k X dep fd fc wk L := by
  obtain ⟨sf, jn, wt, w0, w1, w2, w3, w4⟩ := hq
  exact ⟨sf, jn, wt, h0.trans w0, isSets_sam w1 (sam_sub hs (by omega) (by omega)), (hs _ (by omega) (by omega)).trans w2, (hs _ (by omega) (by omega)).trans w3, w4⟩
theorem cQ_o {h : zz_H} {X dep fc wk : Nat} {fd : Bool} {L : Nat → Le} (hq : cQ h X dep fd fc wk L) : ∃ a b c d, hp_g h (X + 47) = some (qrO X a b fd c d) := by
  obtain ⟨_, _, _, w0, _⟩ := hq
  exact ⟨_, _, _, _, w0⟩
section
variable {h : zz_H} {X : Nat} {tb : Nat → Int32} {tl s : Nat} {t : Nat → Nat} {fk fp : Int32} {p : Pl} {rk tg f : Nat → Int32} {dep fc wk : Nat} {fd : Bool} {L : Nat → Le}
/-- what a step of the class is: a fact that is whole is joined behind it -/
def stQ (h : zz_H) (X : Nat) (t : Nat → Nat) (tl s m : Nat) (as : List Value) (fk fp : Int32) (dep : Nat) (fd : Bool) (fc wk : Nat) (L : Nat → Le) (o : (Nat × Nat) ⊕ Qst) : Prop := match o with
  | .inl (a, b) => ∃ k, zz_run m (.ref (X + 47) :: as) h = some (some (.int (nI 0)), k) ∧ isTk k (X + 48) t tl s (nI a) (nI b) ∧ cQ k X dep fd fc wk L ∧ frQ h k X
  | .inr (dep', fd', fc', wk', L') => ∃ k k2, zz_run m (.ref (X + 47) :: as) h = some (some (.int (nI 1)), k) ∧ (∃ a b c d, hp_g k (X + 47) = some (qrO X a b fd' c d)) ∧ (fd' = true → k2 = k) ∧ (fd' = false → zz_run 72 [.ref (X + 47)] k = some (none, k2)) ∧ isTk k2 (X + 48) t tl s fk fp ∧ cQ k2 X dep' fd' fc' wk' L' ∧ frQ h k2 X
theorem q_fail (hk : isTk h (X + 48) t tl s fk fp) (hq : cQ h X dep fd fc wk L) (a : Nat) : ∃ k, zz_run 35 [.ref (X + 48), .int (nI a)] h = some (some (.int (nI 0)), k) ∧ isTk k (X + 48) t tl s (nI a) (nI s) ∧ cQ k X dep fd fc wk L ∧ frQ h k X := by
  obtain ⟨k, e, k1, k2⟩ := s_fail hk (nI a)
  exact ⟨k, e, k1, cQ_sam hq (k2.2.2.2 _ (by omega)) (frm_sam k2 (by omega)), frQ_t k2⟩
/-- a set is read -/
theorem c_readSet_ok (hst : isStock h (X + 1 + 3) p rk tg f) (hq : cQ h X dep true fc wk L) (hfc : fc < 30) {r : Nat} (hr : r < 21) : ∃ k k2, zz_run 69 [.ref (X + 47), .ref (X + 1 + 3 + 12), .int (nI r)] h = some (some (.int (nI 1)), k) ∧ (∃ a b c d, hp_g k (X + 47) = some (qrO X a b false c d)) ∧ zz_run 72 [.ref (X + 47)] k = some (none, k2) ∧ cQ k2 X dep false (fc + 1) (wk + (comeL (L dep) (rw8 f r)).2) (upL L dep (comeL (L dep) (rw8 f r)).1) ∧ frB h k2 X := by
  obtain ⟨sf, jn, wt, w0, hs, hj, hw, hd, hlow, htop, _⟩ := hq
  have hble := bs_le L (dep + 1)
  have w0' := w0
  unfold qrO at w0'
  have t0 := hst.1
  have t4 : isSets h (X + 1 + 3 + 12) 21 f := hst.2.2.2.2
  have s0 : isSets (hp_s h (X + 47) (qrO X (nI (bs L (dep + 1))) (nI dep) true (nI (fc + 1)) (nI wk))) (X + 51) 15 sf := isSets_s hs (by omega)
  have cr := c_copyRow s0 (isSets_s t4 (by omega)) (by omega) (by omega) (by omega) (row := bs L (dep + 1)) (o := r) (by omega) hr
  have lvk : ∀ d, (d < dep ∨ d = dep) → lvC L sf jn wt d True → lvC L (lay8 sf (bs L (dep + 1)) (rw8 f r) 8) jn wt d True := fun d hdd hl => lv_keep hl (fun i hi => rfl) rfl rfl (fun i hi => lay_out (Or.inl (by
    have := bs_mono L (show d + 1 ≤ dep + 1 by omega)
    omega)))
  have htop' : lvC L sf jn wt dep True := by
    obtain ⟨a1, a2, a3, a4, a5⟩ := htop
    refine ⟨a1, ?_, a3, a4, fun c _ => a5 c rfl⟩
    rw [a2]
    by_cases c : (L dep).2.2.1 = true
    · rw [if_pos ⟨c, rfl⟩, if_pos ⟨c, trivial⟩]
    · rw [if_neg (fun z => c z.1), if_neg (fun z => c z.1)]
  have k1s : isSets (hp_s (hp_s h (X + 47) (qrO X (nI (bs L (dep + 1) + 1)) (nI dep) false (nI (fc + 1)) (nI wk))) (X + 51 + 1) (.inl (.int, 8 * 15, .inl (lay8 sf (bs L (dep + 1)) (rw8 f r) 8)))) (X + 51) 15 (lay8 sf (bs L (dep + 1)) (rw8 f r) 8) := isSets_set (isSets_s hs (by omega))
  obtain ⟨k, e, q, fr⟩ := c_joinFact (h := hp_s (hp_s h (X + 47) (qrO X (nI (bs L (dep + 1) + 1)) (nI dep) false (nI (fc + 1)) (nI wk))) (X + 51 + 1) (.inl (.int, 8 * 15, .inl (lay8 sf (bs L (dep + 1)) (rw8 f r) 8)))) (L := L) (x := rw8 f r) ((hp_gn (by omega)).trans (hp_gs _ _ _)) k1s ((hp_gn (by omega)).trans ((hp_gn (by omega)).trans hj)) ((hp_gn (by omega)).trans ((hp_gn (by omega)).trans hw)) hd (fun d hdd => lvk d (Or.inl hdd) (hlow d hdd)) (lvk dep (Or.inr rfl) htop') (fun b hb => lay_in hb)
  refine ⟨_, k, ?_, ⟨_, _, _, _, (hp_gn (by omega)).trans (hp_gs _ _ _)⟩, e, q, frB_trans (frB_s (by omega) (frB_s (by omega) (frB_refl _ _))) fr⟩
  have rm : ¬ nI r = -1 := nI_m1 (by omega)
  have hf2 : nI fc < nI 30 := (nI_ltI (by omega) (by omega)).mpr hfc
  rw [en69 w0']
  unfold qrO at cr ⊢
  simp (disch := first | assumption | exact zz_nl_i _ | exact zz_nl_r _ | exact zz_nl_n | exact okv_i _ | exact okv_j _ | exact okv_0 | exact okv_1 | exact okv_o _ _ | exact okv_a _ _ | exact bI_okr _ | omega | exact llt_0 | ((repeat apply llt_s) <;> exact llt_0) | fail) only [x69, xb69, rm, if_false, w0', hf2, if_true, nI_add, t0, cr, bI_f, mo_k_v, mo_k_n, mo_v_e, mo_gf_e, mo_pf_e, mo_ia_e, mo_ba_e, mo_za_e, mo_la_e, mo_aa_e, mo_le_e, mo_is_e, mo_bs_e, mo_zs_0, mo_zs_1, mo_ls_e, mo_as_e, mo_na_e, mo_aci_e, mo_acb_e, mo_acj_e, hp_gs, hp_gn, hp_ss, List.getElem?_cons_zero, List.getElem?_cons_succ, List.set_cons_zero, List.set_cons_succ]
  rw [hp_comm (h := hp_s h (X + 47) _) (show X + 51 + 1 ≠ X + 47 by omega), hp_ss]
theorem c_startDepth {hh dp : Int32} {jn wt : Nat → Int32} {nd : Nat} (w0 : hp_g h (X + 47) = some (qrO X hh dp fd (nI fc) (nI wk))) (hj : hp_g h (X + 53) = some (iA 7 jn)) (hw : hp_g h (X + 54) = some (iA 7 wt)) (hn : nd ≤ 6) : zz_run 67 [.ref (X + 47), .int (nI nd)] h = some (none, hp_s (hp_s (hp_s h (X + 53) (iA 7 (upd jn nd (-1)))) (X + 54) (iA 7 (upd wt nd (nI 0)))) (X + 47) (qrO X hh (nI nd) true (nI fc) (nI wk))) := by
  unfold qrO at w0 ⊢
  rw [en67 w0]
  simp (disch := first | assumption | exact zz_nl_i _ | exact zz_nl_r _ | exact zz_nl_n | exact okv_i _ | exact okv_j _ | exact okv_0 | exact okv_1 | exact okv_o _ _ | exact okv_a _ _ | exact bI_okr _ | omega | exact llt_0 | ((repeat apply llt_s) <;> exact llt_0) | fail) only [x67, w0, hj, hw, bI_t, mo_k_v, mo_k_n, mo_v_e, mo_gf_e, mo_pf_e, mo_ia_e, mo_ba_e, mo_za_e, mo_la_e, mo_aa_e, mo_le_e, mo_is_e, mo_bs_e, mo_zs_0, mo_zs_1, mo_ls_e, mo_as_e, mo_na_e, mo_aci_e, mo_acb_e, mo_acj_e, hp_gs, hp_gn, hp_ss, List.getElem?_cons_zero, List.getElem?_cons_succ, List.set_cons_zero, List.set_cons_succ]
  rw [hp_comm (h := h) (show X + 47 ≠ X + 53 by omega), hp_comm (h := hp_s h (X + 53) _) (show X + 47 ≠ X + 54 by omega), hp_ss]
theorem c_open (hq : cQ h X dep true fc wk L) (hd6 : dep < 6) : ∃ k, zz_run 67 [.ref (X + 47), .int (nI (dep + 1))] h = some (none, k) ∧ cQ k X (dep + 1) true fc wk (upL L (dep + 1) newL) ∧ frB h k X := by
  obtain ⟨sf, jn, wt, w0, hs, hj, hw, hd, hlow, htop, _⟩ := hq
  have htop' : lvC L sf jn wt dep True := by
    obtain ⟨a1, a2, a3, a4, a5⟩ := htop
    refine ⟨a1, ?_, a3, a4, fun c _ => a5 c rfl⟩
    rw [a2]
    by_cases c : (L dep).2.2.1 = true
    · rw [if_pos ⟨c, rfl⟩, if_pos ⟨c, trivial⟩]
    · rw [if_neg (fun z => c z.1), if_neg (fun z => c z.1)]
  refine ⟨_, c_startDepth (fd := true) w0 hj hw (show dep + 1 ≤ 6 by omega), ⟨sf, upd jn (dep + 1) (-1), upd wt (dep + 1) (nI 0), ?_, isSets_s (isSets_s (isSets_s hs (by omega)) (by omega)) (by omega), ?_, ?_, by omega, fun d hdd => ?_, ?_, fun c => by cases c⟩, frB_s (by omega) (frB_s (by omega) (frB_s (by omega) (frB_refl _ _)))⟩
  · rw [hp_gs, bs_s (upL L (dep + 1) newL), bs_up (Nat.le_refl _), upL_eq]
    rfl
  · rw [hp_gn (by omega), hp_gn (by omega), hp_gs]
  · rw [hp_gn (by omega), hp_gs]
  · by_cases c : d = dep
    · subst c
      exact lv_keep htop' (fun i hi => upL_ne (by omega)) (upd_ne (by omega)) (upd_ne (by omega)) (fun i hi => rfl)
    · exact lv_keep (hlow d (by omega)) (fun i hi => upL_ne (by omega)) (upd_ne (by omega)) (upd_ne (by omega)) (fun i hi => rfl)
  · unfold lvC
    rw [upL_eq]
    refine ⟨upd_eq _ _ _, ?_, fun c => (by cases c), fun c => (by cases c), fun c => by cases c⟩
    rw [upd_eq, if_neg (fun z => by cases z.1)]
theorem c_readFact (hk : isTk h (X + 48) t tl s fk fp) (hst : isStock h (X + 1 + 3) p rk tg f) (hq : cQ h X dep true fc wk L) (hfc30 : fc ≤ 30) : stQ h X t tl s 68 [.ref (X + 1 + 3)] fk fp dep true fc wk L (stepP t tl p f s dep true fc wk L) := by
  have hle := kd_le t tl s
  have hk0 := hk
  obtain ⟨nu, wd, h1, h2, h3, h4⟩ := hk
  have h1' := h1
  unfold tokO at h1'
  have hq0 := hq
  obtain ⟨sf, jn, wt, w0, hs, hj, hw, hd, hlow, htop, _⟩ := hq
  have w0' := w0
  unfold qrO at w0'
  have t0 := hst.1
  have t1 := hst.2.1
  have hn20 : pnv p ≤ 20 := t1.2.2.2.2.2.2.2.2.2.2
  have sw2 : kdP t tl s = 2 → zz_sw [(nI 2, 40), (nI 5, 74), (nI 16, 63)] 105 (nI (kdP t tl s)) = 40 := fun c => by rw [c]; decide +kernel
  have sw5 : kdP t tl s = 5 → zz_sw [(nI 2, 40), (nI 5, 74), (nI 16, 63)] 105 (nI (kdP t tl s)) = 74 := fun c => by rw [c]; decide +kernel
  have sw16 : kdP t tl s = 16 → zz_sw [(nI 2, 40), (nI 5, 74), (nI 16, 63)] 105 (nI (kdP t tl s)) = 63 := fun c => by rw [c]; decide +kernel
  have swx : ¬ kdP t tl s = 2 → ¬ kdP t tl s = 5 → ¬ kdP t tl s = 16 → zz_sw [(nI 2, 40), (nI 5, 74), (nI 16, 63)] 105 (nI (kdP t tl s)) = 105 := fun c1 c2 c3 => by
    have : ∀ k, k ≤ 16 → ¬ k = 2 → ¬ k = 5 → ¬ k = 16 → zz_sw [(nI 2, 40), (nI 5, 74), (nI 16, 63)] 105 (nI k) = 105 := by decide +kernel
    exact this _ hle c1 c2 c3
  have long : ∀ r : Nat, r < 21 → ¬ fc < 30 → ∃ k, zz_run 69 [.ref (X + 47), .ref (X + 1 + 3 + 12), .int (nI r)] h = some (some (.int (nI 0)), k) ∧ isTk k (X + 48) t tl s (nI 7) (nI s) ∧ cQ k X dep true fc wk L ∧ frQ h k X := by
    intro r hr hfc
    obtain ⟨k, e, q1, q2, q3⟩ := q_fail hk0 hq0 7
    refine ⟨k, ?_, q1, q2, q3⟩
    have rm : ¬ nI r = -1 := nI_m1 (by omega)
    have hf2 : ¬ nI fc < nI 30 := fun z => hfc ((nI_ltI (by omega) (by omega)).mp z)
    rw [en69 w0']
    simp (disch := first | assumption | exact zz_nl_i _ | exact zz_nl_r _ | exact zz_nl_n | exact okv_i _ | exact okv_j _ | exact okv_0 | exact okv_1 | exact okv_o _ _ | exact okv_a _ _ | exact bI_okr _ | omega | exact llt_0 | ((repeat apply llt_s) <;> exact llt_0) | fail) only [x69, xb69, rm, if_false, w0', hf2, e, mo_k_v, mo_k_n, mo_v_e, mo_gf_e, mo_pf_e, mo_ia_e, mo_ba_e, mo_za_e, mo_la_e, mo_aa_e, mo_le_e, mo_is_e, mo_bs_e, mo_zs_0, mo_zs_1, mo_ls_e, mo_as_e, mo_na_e, mo_aci_e, mo_acb_e, mo_acj_e, hp_gs, hp_gn, hp_ss, List.getElem?_cons_zero, List.getElem?_cons_succ, List.set_cons_zero, List.set_cons_succ]
  unfold stepP
  rw [if_pos rfl]
  by_cases c2 : kdP t tl s = 2
  · rw [if_pos c2]
    have hwd := h3 (Or.inl c2)
    subst hwd
    have vn := c_vn t1 (wP t tl s)
    by_cases c3 : vnP p (wP t tl s) < pnv p
    · rw [if_neg (fun z => z c3)]
      rw [if_pos c3] at vn
      by_cases c4 : fc < 30
      · rw [if_neg (fun z => z c4)]
        obtain ⟨k, k2, e, zo, ej, q, fr⟩ := c_readSet_ok hst hq0 c4 (show vnP p (wP t tl s) < 21 by omega)
        refine ⟨k, k2, ?_, zo, fun z => (by cases z), fun _ => ej, isTk_sam hk0 (fr.2 _ (by omega) (by omega)), q, frQ_q fr⟩
        rw [en68 w0']
        simp (disch := first | assumption | exact zz_nl_i _ | exact zz_nl_r _ | exact zz_nl_n | exact okv_i _ | exact okv_j _ | exact okv_0 | exact okv_1 | exact okv_o _ _ | exact okv_a _ _ | exact bI_okr _ | omega | exact llt_0 | ((repeat apply llt_s) <;> exact llt_0) | fail) only [x68, xb68, w0', h1', sw2 c2, t0, vn, e, mo_k_v, mo_k_n, mo_v_e, mo_gf_e, mo_pf_e, mo_ia_e, mo_ba_e, mo_za_e, mo_la_e, mo_aa_e, mo_le_e, mo_is_e, mo_bs_e, mo_zs_0, mo_zs_1, mo_ls_e, mo_as_e, mo_na_e, mo_aci_e, mo_acb_e, mo_acj_e, hp_gs, hp_gn, hp_ss, List.getElem?_cons_zero, List.getElem?_cons_succ, List.set_cons_zero, List.set_cons_succ]
      · rw [if_pos c4]
        obtain ⟨k, e, q1, q2, q3⟩ := long (vnP p (wP t tl s)) (by omega) c4
        refine ⟨k, ?_, q1, q2, q3⟩
        rw [en68 w0']
        simp (disch := first | assumption | exact zz_nl_i _ | exact zz_nl_r _ | exact zz_nl_n | exact okv_i _ | exact okv_j _ | exact okv_0 | exact okv_1 | exact okv_o _ _ | exact okv_a _ _ | exact bI_okr _ | omega | exact llt_0 | ((repeat apply llt_s) <;> exact llt_0) | fail) only [x68, xb68, w0', h1', sw2 c2, t0, vn, e, mo_k_v, mo_k_n, mo_v_e, mo_gf_e, mo_pf_e, mo_ia_e, mo_ba_e, mo_za_e, mo_la_e, mo_aa_e, mo_le_e, mo_is_e, mo_bs_e, mo_zs_0, mo_zs_1, mo_ls_e, mo_as_e, mo_na_e, mo_aci_e, mo_acb_e, mo_acj_e, hp_gs, hp_gn, hp_ss, List.getElem?_cons_zero, List.getElem?_cons_succ, List.set_cons_zero, List.set_cons_succ]
    · rw [if_pos c3]
      rw [if_neg c3] at vn
      obtain ⟨k, e, q1, q2, q3⟩ := q_fail hk0 hq0 3
      refine ⟨k, ?_, q1, q2, q3⟩
      have rs : zz_run 69 [.ref (X + 47), .ref (X + 1 + 3 + 12), .int (-1)] h = some (some (.int (nI 0)), k) := by
        rw [en69 w0']
        simp (disch := first | assumption | exact zz_nl_i _ | exact zz_nl_r _ | exact zz_nl_n | exact okv_i _ | exact okv_j _ | exact okv_0 | exact okv_1 | exact okv_o _ _ | exact okv_a _ _ | exact bI_okr _ | omega | exact llt_0 | ((repeat apply llt_s) <;> exact llt_0) | fail) only [x69, xb69, if_true, w0', e, mo_k_v, mo_k_n, mo_v_e, mo_gf_e, mo_pf_e, mo_ia_e, mo_ba_e, mo_za_e, mo_la_e, mo_aa_e, mo_le_e, mo_is_e, mo_bs_e, mo_zs_0, mo_zs_1, mo_ls_e, mo_as_e, mo_na_e, mo_aci_e, mo_acb_e, mo_acj_e, hp_gs, hp_gn, hp_ss, List.getElem?_cons_zero, List.getElem?_cons_succ, List.set_cons_zero, List.set_cons_succ]
      rw [en68 w0']
      simp (disch := first | assumption | exact zz_nl_i _ | exact zz_nl_r _ | exact zz_nl_n | exact okv_i _ | exact okv_j _ | exact okv_0 | exact okv_1 | exact okv_o _ _ | exact okv_a _ _ | exact bI_okr _ | omega | exact llt_0 | ((repeat apply llt_s) <;> exact llt_0) | fail) only [x68, xb68, w0', h1', sw2 c2, t0, vn, rs, mo_k_v, mo_k_n, mo_v_e, mo_gf_e, mo_pf_e, mo_ia_e, mo_ba_e, mo_za_e, mo_la_e, mo_aa_e, mo_le_e, mo_is_e, mo_bs_e, mo_zs_0, mo_zs_1, mo_ls_e, mo_as_e, mo_na_e, mo_aci_e, mo_acb_e, mo_acj_e, hp_gs, hp_gn, hp_ss, List.getElem?_cons_zero, List.getElem?_cons_succ, List.set_cons_zero, List.set_cons_succ]
  · rw [if_neg c2]
    by_cases c16 : kdP t tl s = 16
    · rw [if_pos c16]
      by_cases c4 : fc < 30
      · rw [if_neg (fun z => z c4)]
        obtain ⟨k, k2, e, zo, ej, q, fr⟩ := c_readSet_ok hst hq0 c4 (show 20 < 21 by omega)
        refine ⟨k, k2, ?_, zo, fun z => (by cases z), fun _ => ej, isTk_sam hk0 (fr.2 _ (by omega) (by omega)), q, frQ_q fr⟩
        rw [en68 w0']
        simp (disch := first | assumption | exact zz_nl_i _ | exact zz_nl_r _ | exact zz_nl_n | exact okv_i _ | exact okv_j _ | exact okv_0 | exact okv_1 | exact okv_o _ _ | exact okv_a _ _ | exact bI_okr _ | omega | exact llt_0 | ((repeat apply llt_s) <;> exact llt_0) | fail) only [x68, xb68, w0', h1', sw16 c16, t0, e, mo_k_v, mo_k_n, mo_v_e, mo_gf_e, mo_pf_e, mo_ia_e, mo_ba_e, mo_za_e, mo_la_e, mo_aa_e, mo_le_e, mo_is_e, mo_bs_e, mo_zs_0, mo_zs_1, mo_ls_e, mo_as_e, mo_na_e, mo_aci_e, mo_acb_e, mo_acj_e, hp_gs, hp_gn, hp_ss, List.getElem?_cons_zero, List.getElem?_cons_succ, List.set_cons_zero, List.set_cons_succ]
      · rw [if_pos c4]
        obtain ⟨k, e, q1, q2, q3⟩ := long 20 (by omega) c4
        refine ⟨k, ?_, q1, q2, q3⟩
        rw [en68 w0']
        simp (disch := first | assumption | exact zz_nl_i _ | exact zz_nl_r _ | exact zz_nl_n | exact okv_i _ | exact okv_j _ | exact okv_0 | exact okv_1 | exact okv_o _ _ | exact okv_a _ _ | exact bI_okr _ | omega | exact llt_0 | ((repeat apply llt_s) <;> exact llt_0) | fail) only [x68, xb68, w0', h1', sw16 c16, t0, e, mo_k_v, mo_k_n, mo_v_e, mo_gf_e, mo_pf_e, mo_ia_e, mo_ba_e, mo_za_e, mo_la_e, mo_aa_e, mo_le_e, mo_is_e, mo_bs_e, mo_zs_0, mo_zs_1, mo_ls_e, mo_as_e, mo_na_e, mo_aci_e, mo_acb_e, mo_acj_e, hp_gs, hp_gn, hp_ss, List.getElem?_cons_zero, List.getElem?_cons_succ, List.set_cons_zero, List.set_cons_succ]
    · rw [if_neg c16]
      by_cases c5 : kdP t tl s = 5
      · rw [if_pos c5]
        by_cases c6 : dep < 6
        · rw [if_neg (fun z => z c6)]
          obtain ⟨k, e, q, fr⟩ := c_open hq0 c6
          refine ⟨k, k, ?_, cQ_o q, fun _ => rfl, fun z => (by cases z), isTk_sam hk0 (fr.2 _ (by omega) (by omega)), q, frQ_q fr⟩
          rw [en68 w0']
          simp (disch := first | assumption | exact zz_nl_i _ | exact zz_nl_r _ | exact zz_nl_n | exact okv_i _ | exact okv_j _ | exact okv_0 | exact okv_1 | exact okv_o _ _ | exact okv_a _ _ | exact bI_okr _ | omega | exact llt_0 | ((repeat apply llt_s) <;> exact llt_0) | fail) only [x68, xb68, w0', h1', sw5 c5, nI_ltI, c6, if_true, nI_add, e, mo_k_v, mo_k_n, mo_v_e, mo_gf_e, mo_pf_e, mo_ia_e, mo_ba_e, mo_za_e, mo_la_e, mo_aa_e, mo_le_e, mo_is_e, mo_bs_e, mo_zs_0, mo_zs_1, mo_ls_e, mo_as_e, mo_na_e, mo_aci_e, mo_acb_e, mo_acj_e, hp_gs, hp_gn, hp_ss, List.getElem?_cons_zero, List.getElem?_cons_succ, List.set_cons_zero, List.set_cons_succ]
        · rw [if_pos c6]
          obtain ⟨k, e, q1, q2, q3⟩ := q_fail hk0 hq0 8
          refine ⟨k, ?_, q1, q2, q3⟩
          rw [en68 w0']
          simp (disch := first | assumption | exact zz_nl_i _ | exact zz_nl_r _ | exact zz_nl_n | exact okv_i _ | exact okv_j _ | exact okv_0 | exact okv_1 | exact okv_o _ _ | exact okv_a _ _ | exact bI_okr _ | omega | exact llt_0 | ((repeat apply llt_s) <;> exact llt_0) | fail) only [x68, xb68, w0', h1', sw5 c5, nI_ltI, c6, if_false, e, mo_k_v, mo_k_n, mo_v_e, mo_gf_e, mo_pf_e, mo_ia_e, mo_ba_e, mo_za_e, mo_la_e, mo_aa_e, mo_le_e, mo_is_e, mo_bs_e, mo_zs_0, mo_zs_1, mo_ls_e, mo_as_e, mo_na_e, mo_aci_e, mo_acb_e, mo_acj_e, hp_gs, hp_gn, hp_ss, List.getElem?_cons_zero, List.getElem?_cons_succ, List.set_cons_zero, List.set_cons_succ]
      · rw [if_neg c5]
        obtain ⟨k, e, q1, q2, q3⟩ := q_fail hk0 hq0 1
        refine ⟨k, ?_, q1, q2, q3⟩
        rw [en68 w0']
        simp (disch := first | assumption | exact zz_nl_i _ | exact zz_nl_r _ | exact zz_nl_n | exact okv_i _ | exact okv_j _ | exact okv_0 | exact okv_1 | exact okv_o _ _ | exact okv_a _ _ | exact bI_okr _ | omega | exact llt_0 | ((repeat apply llt_s) <;> exact llt_0) | fail) only [x68, xb68, w0', h1', swx c2 c5 c16, e, mo_k_v, mo_k_n, mo_v_e, mo_gf_e, mo_pf_e, mo_ia_e, mo_ba_e, mo_za_e, mo_la_e, mo_aa_e, mo_le_e, mo_is_e, mo_bs_e, mo_zs_0, mo_zs_1, mo_ls_e, mo_as_e, mo_na_e, mo_aci_e, mo_acb_e, mo_acj_e, hp_gs, hp_gn, hp_ss, List.getElem?_cons_zero, List.getElem?_cons_succ, List.set_cons_zero, List.set_cons_succ]
theorem c_readJoin (hk : isTk h (X + 48) t tl s fk fp) (hq : cQ h X dep false fc wk L) : stQ h X t tl s 77 [] fk fp dep false fc wk L (stepP t tl p f s dep false fc wk L) := by
  have hle := kd_le t tl s
  have hk0 := hk
  obtain ⟨nu, wd, h1, h2, h3, h4⟩ := hk
  have h1' := h1
  unfold tokO at h1'
  have hq0 := hq
  have ep := c_endPart hq
  obtain ⟨sf, jn, wt, w0, hs, hj, hw, hd, hlow, htop, hpb⟩ := hq
  have hp := hpb rfl
  have w0' := w0
  unfold qrO at w0'
  have sw14 : kdP t tl s = 14 → zz_sw [(nI 6, 93), (nI 7, 125), (nI 8, 125), (nI 9, 125), (nI 10, 125), (nI 11, 125), (nI 12, 125), (nI 13, 86), (nI 14, 60), (nI 15, 73)] 125 (nI (kdP t tl s)) = 60 := fun c => by rw [c]; decide +kernel
  have sw15 : kdP t tl s = 15 → zz_sw [(nI 6, 93), (nI 7, 125), (nI 8, 125), (nI 9, 125), (nI 10, 125), (nI 11, 125), (nI 12, 125), (nI 13, 86), (nI 14, 60), (nI 15, 73)] 125 (nI (kdP t tl s)) = 73 := fun c => by rw [c]; decide +kernel
  have sw13 : kdP t tl s = 13 → zz_sw [(nI 6, 93), (nI 7, 125), (nI 8, 125), (nI 9, 125), (nI 10, 125), (nI 11, 125), (nI 12, 125), (nI 13, 86), (nI 14, 60), (nI 15, 73)] 125 (nI (kdP t tl s)) = 86 := fun c => by rw [c]; decide +kernel
  have sw6 : kdP t tl s = 6 → zz_sw [(nI 6, 93), (nI 7, 125), (nI 8, 125), (nI 9, 125), (nI 10, 125), (nI 11, 125), (nI 12, 125), (nI 13, 86), (nI 14, 60), (nI 15, 73)] 125 (nI (kdP t tl s)) = 93 := fun c => by rw [c]; decide +kernel
  have swx : ¬ kdP t tl s = 14 → ¬ kdP t tl s = 15 → ¬ kdP t tl s = 13 → ¬ kdP t tl s = 6 → zz_sw [(nI 6, 93), (nI 7, 125), (nI 8, 125), (nI 9, 125), (nI 10, 125), (nI 11, 125), (nI 12, 125), (nI 13, 86), (nI 14, 60), (nI 15, 73)] 125 (nI (kdP t tl s)) = 125 := fun c1 c2 c3 c4 => by
    have : ∀ k, k ≤ 16 → ¬ k = 14 → ¬ k = 15 → ¬ k = 13 → ¬ k = 6 → zz_sw [(nI 6, 93), (nI 7, 125), (nI 8, 125), (nI 9, 125), (nI 10, 125), (nI 11, 125), (nI 12, 125), (nI 13, 86), (nI 14, 60), (nI 15, 73)] 125 (nI k) = 125 := by decide +kernel
    exact this _ hle c1 c2 c3 c4
  have setj : ∀ j, (j = 0 ∨ j = 2) → cQ (hp_s (hp_s h (X + 53) (iA 7 (upd jn dep (nI j)))) (X + 47) (qrO X (nI (bs L (dep + 1))) (nI dep) true (nI fc) (nI wk))) X dep true fc wk (upL L dep (setJ (L dep) j)) := by
    intro j hj2
    obtain ⟨a1, a2, a3, a4, a5⟩ := htop
    refine ⟨sf, upd jn dep (nI j), wt, ?_, isSets_s (isSets_s hs (by omega)) (by omega), ?_, ?_, hd, fun d hdd => ?_, ?_, fun c => by cases c⟩
    · rw [hp_gs, bs_s (upL L dep _), bs_up (Nat.le_refl _), upL_eq]
      rfl
    · rw [hp_gn (by omega), hp_gs]
    · rw [hp_gn (by omega), hp_gn (by omega)]; exact hw
    · exact lv_keep (hlow d hdd) (fun i hi => upL_ne (by omega)) (upd_ne (by omega)) rfl (fun i hi => rfl)
    · unfold lvC
      rw [upL_eq, bs_up (Nat.le_refl _)]
      refine ⟨a1, ?_, a3, a4, fun _ _ => hj2⟩
      rw [upd_eq, if_pos ⟨hp, rfl⟩]
      rfl
  unfold stepP
  rw [if_neg (by decide)]
  by_cases c14 : kdP t tl s = 14
  · rw [if_pos c14]
    refine ⟨_, _, ?_, cQ_o (setj 0 (Or.inl rfl)), fun _ => rfl, fun z => (by cases z), isTk_sam hk0 ((hp_gn (by omega)).trans (hp_gn (by omega))), setj 0 (Or.inl rfl), frQ_q (frB_s (by omega) (frB_s (by omega) (frB_refl _ _)))⟩
    rw [en77 w0']
    unfold qrO
    simp (disch := first | assumption | exact zz_nl_i _ | exact zz_nl_r _ | exact zz_nl_n | exact okv_i _ | exact okv_j _ | exact okv_0 | exact okv_1 | exact okv_o _ _ | exact okv_a _ _ | exact bI_okr _ | omega | exact llt_0 | ((repeat apply llt_s) <;> exact llt_0) | fail) only [x77, xb77, w0', h1', sw14 c14, hj, bI_t, mo_k_v, mo_k_n, mo_v_e, mo_gf_e, mo_pf_e, mo_ia_e, mo_ba_e, mo_za_e, mo_la_e, mo_aa_e, mo_le_e, mo_is_e, mo_bs_e, mo_zs_0, mo_zs_1, mo_ls_e, mo_as_e, mo_na_e, mo_aci_e, mo_acb_e, mo_acj_e, hp_gs, hp_gn, hp_ss, List.getElem?_cons_zero, List.getElem?_cons_succ, List.set_cons_zero, List.set_cons_succ]
  · rw [if_neg c14]
    by_cases c15 : kdP t tl s = 15
    · rw [if_pos c15]
      refine ⟨_, _, ?_, cQ_o (setj 2 (Or.inr rfl)), fun _ => rfl, fun z => (by cases z), isTk_sam hk0 ((hp_gn (by omega)).trans (hp_gn (by omega))), setj 2 (Or.inr rfl), frQ_q (frB_s (by omega) (frB_s (by omega) (frB_refl _ _)))⟩
      rw [en77 w0']
      unfold qrO
      simp (disch := first | assumption | exact zz_nl_i _ | exact zz_nl_r _ | exact zz_nl_n | exact okv_i _ | exact okv_j _ | exact okv_0 | exact okv_1 | exact okv_o _ _ | exact okv_a _ _ | exact bI_okr _ | omega | exact llt_0 | ((repeat apply llt_s) <;> exact llt_0) | fail) only [x77, xb77, w0', h1', sw15 c15, hj, bI_t, mo_k_v, mo_k_n, mo_v_e, mo_gf_e, mo_pf_e, mo_ia_e, mo_ba_e, mo_za_e, mo_la_e, mo_aa_e, mo_le_e, mo_is_e, mo_bs_e, mo_zs_0, mo_zs_1, mo_ls_e, mo_as_e, mo_na_e, mo_aci_e, mo_acb_e, mo_acj_e, hp_gs, hp_gn, hp_ss, List.getElem?_cons_zero, List.getElem?_cons_succ, List.set_cons_zero, List.set_cons_succ]
    · rw [if_neg c15]
      by_cases c13 : kdP t tl s = 13
      · rw [if_pos c13]
        obtain ⟨k, sf', jn', wt', e, k0, ks, kj, kw, kj1, kw1, klow, kx, kf⟩ := ep
        have k0' := k0
        unfold qrO at k0'
        refine ⟨hp_s k (X + 47) (qrO X (nI (bs L dep + 1)) (nI dep) true (nI fc) (nI (wk + (endL (L dep)).2))), hp_s k (X + 47) (qrO X (nI (bs L dep + 1)) (nI dep) true (nI fc) (nI (wk + (endL (L dep)).2))), ?_, ⟨_, _, _, _, hp_gs _ _ _⟩, fun _ => rfl, fun z => (by cases z), isTk_sam hk0 ((hp_gn (by omega)).trans (kf.2 _ (by omega) (by omega))), ⟨sf', jn', wt', ?_, isSets_s ks (by omega), ?_, ?_, hd, fun d hdd => ?_, ?_, fun c => by cases c⟩, frQ_q (frB_s (by omega) kf)⟩
        · rw [en77 w0']
          unfold qrO
          simp (disch := first | assumption | exact zz_nl_i _ | exact zz_nl_r _ | exact zz_nl_n | exact okv_i _ | exact okv_j _ | exact okv_0 | exact okv_1 | exact okv_o _ _ | exact okv_a _ _ | exact bI_okr _ | omega | exact llt_0 | ((repeat apply llt_s) <;> exact llt_0) | fail) only [x77, xb77, w0', h1', sw13 c13, e, k0', bI_t, mo_k_v, mo_k_n, mo_v_e, mo_gf_e, mo_pf_e, mo_ia_e, mo_ba_e, mo_za_e, mo_la_e, mo_aa_e, mo_le_e, mo_is_e, mo_bs_e, mo_zs_0, mo_zs_1, mo_ls_e, mo_as_e, mo_na_e, mo_aci_e, mo_acb_e, mo_acj_e, hp_gs, hp_gn, hp_ss, List.getElem?_cons_zero, List.getElem?_cons_succ, List.set_cons_zero, List.set_cons_succ]
        · rw [hp_gs, bs_s (upL L dep _), bs_up (Nat.le_refl _), upL_eq]
          rfl
        · rw [hp_gn (by omega)]; exact kj
        · rw [hp_gn (by omega)]; exact kw
        · exact lv_keep (klow d hdd) (fun i hi => upL_ne (by omega)) rfl rfl (fun i hi => rfl)
        · unfold lvC
          rw [upL_eq, bs_up (Nat.le_refl _)]
          refine ⟨kw1, ?_, fun _ b hb => kx b hb, fun c => (by cases c), fun c => by cases c⟩
          rw [kj1, if_neg (fun z => by cases z.1)]
      · rw [if_neg c13]
        by_cases c6 : kdP t tl s = 6
        · rw [if_pos c6]
          by_cases c0 : dep = 0
          · rw [if_pos c0]
            obtain ⟨k, e, q1, q2, q3⟩ := q_fail hk0 hq0 1
            refine ⟨k, ?_, q1, q2, q3⟩
            rw [en77 w0']
            simp (disch := first | assumption | exact zz_nl_i _ | exact zz_nl_r _ | exact zz_nl_n | exact okv_i _ | exact okv_j _ | exact okv_0 | exact okv_1 | exact okv_o _ _ | exact okv_a _ _ | exact bI_okr _ | omega | exact llt_0 | ((repeat apply llt_s) <;> exact llt_0) | fail) only [x77, xb77, w0', h1', sw6 c6, nI_eq, eq_true c0, if_true, e, mo_k_v, mo_k_n, mo_v_e, mo_gf_e, mo_pf_e, mo_ia_e, mo_ba_e, mo_za_e, mo_la_e, mo_aa_e, mo_le_e, mo_is_e, mo_bs_e, mo_zs_0, mo_zs_1, mo_ls_e, mo_as_e, mo_na_e, mo_aci_e, mo_acb_e, mo_acj_e, hp_gs, hp_gn, hp_ss, List.getElem?_cons_zero, List.getElem?_cons_succ, List.set_cons_zero, List.set_cons_succ]
          · rw [if_neg c0]
            obtain ⟨k, sf', jn', wt', e, k0, ks, kj, kw, kj1, kw1, klow, kx, kf⟩ := ep
            have k0' := k0
            unfold qrO at k0'
            have s1 : nI dep - nI 1 = nI (dep - 1) := pk_sub (by omega)
            have ed : dep - 1 + 1 = dep := by omega
            obtain ⟨k2, e2, q2, fr2⟩ := c_joinFact (h := hp_s k (X + 47) (qrO X (nI (bs L dep + 1)) (nI (dep - 1)) false (nI fc) (nI (wk + (endL (L dep)).2)))) (L := L) (dep := dep - 1) (x := (endL (L dep)).1) (by rw [ed]; exact hp_gs _ _ _) (isSets_s ks (by omega)) ((hp_gn (by omega)).trans kj) ((hp_gn (by omega)).trans kw) (by omega) (fun d hdd => klow d (by omega)) (klow (dep - 1) (by omega)) (fun b hb => by rw [ed]; exact kx b hb)
            refine ⟨_, k2, ?_, ⟨_, _, _, _, hp_gs _ _ _⟩, fun z => (by cases z), fun _ => e2, isTk_sam hk0 ((fr2.2 _ (by omega) (by omega)).trans ((hp_gn (by omega)).trans (kf.2 _ (by omega) (by omega)))), q2, frQ_q (frB_trans (frB_s (by omega) kf) fr2)⟩
            rw [en77 w0']
            unfold qrO
            simp (disch := first | assumption | exact zz_nl_i _ | exact zz_nl_r _ | exact zz_nl_n | exact okv_i _ | exact okv_j _ | exact okv_0 | exact okv_1 | exact okv_o _ _ | exact okv_a _ _ | exact bI_okr _ | omega | exact llt_0 | ((repeat apply llt_s) <;> exact llt_0) | fail) only [x77, xb77, w0', h1', sw6 c6, nI_eq, c0, if_false, e, k0', s1, mo_k_v, mo_k_n, mo_v_e, mo_gf_e, mo_pf_e, mo_ia_e, mo_ba_e, mo_za_e, mo_la_e, mo_aa_e, mo_le_e, mo_is_e, mo_bs_e, mo_zs_0, mo_zs_1, mo_ls_e, mo_as_e, mo_na_e, mo_aci_e, mo_acb_e, mo_acj_e, hp_gs, hp_gn, hp_ss, List.getElem?_cons_zero, List.getElem?_cons_succ, List.set_cons_zero, List.set_cons_succ]
        · rw [if_neg c6]
          obtain ⟨k, e, q1, q2, q3⟩ := q_fail hk0 hq0 1
          refine ⟨k, ?_, q1, q2, q3⟩
          rw [en77 w0']
          simp (disch := first | assumption | exact zz_nl_i _ | exact zz_nl_r _ | exact zz_nl_n | exact okv_i _ | exact okv_j _ | exact okv_0 | exact okv_1 | exact okv_o _ _ | exact okv_a _ _ | exact bI_okr _ | omega | exact llt_0 | ((repeat apply llt_s) <;> exact llt_0) | fail) only [x77, xb77, w0', h1', swx c14 c15 c13 c6, e, mo_k_v, mo_k_n, mo_v_e, mo_gf_e, mo_pf_e, mo_ia_e, mo_ba_e, mo_za_e, mo_la_e, mo_aa_e, mo_le_e, mo_is_e, mo_bs_e, mo_zs_0, mo_zs_1, mo_ls_e, mo_as_e, mo_na_e, mo_aci_e, mo_acb_e, mo_acj_e, hp_gs, hp_gn, hp_ss, List.getElem?_cons_zero, List.getElem?_cons_succ, List.set_cons_zero, List.set_cons_succ]
end
