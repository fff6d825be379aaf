/-! the class: ask -/
theorem step_fc {t : Nat → Nat} {tl : Nat} {p : Pl} {f : Nat → Int32} {s dep : Nat} {fd : Bool} {fc wk : Nat} {L : Nat → Le} (h30 : fc ≤ 30) {dep' : Nat} {fd' : Bool} {fc' wk' : Nat} {L' : Nat → Le} (e : stepP t tl p f s dep fd fc wk L = .inr (dep', fd', fc', wk', L')) : fc' ≤ 30 := by
  unfold stepP at e
  split at e
  · split at e
    · split at e
      · cases e
      · split at e
        · cases e
        · cases e; omega
    · split at e
      · split at e
        · cases e
        · cases e; omega
      · split at e
        · split at e
          · cases e
          · cases e; omega
        · cases e
  · split at e
    · cases e; omega
    · split at e
      · cases e; omega
      · split at e
        · cases e; omega
        · split at e
          · split at e
            · cases e
            · cases e; omega
          · cases e
section
variable {X : Nat} {tb : Nat → Int32} {tl : Nat} {t : Nat → Nat} {fk fp : Int32} {p : Pl} {rk tg f : Nat → Int32}
/-- the end of a question, as the class sees it -/
def asQ (h : zz_H) (X : Nat) (t : Nat → Nat) (tl : Nat) (y : Option (Option Value × zz_H)) (fk fp : Int32) (o : Ans) : Prop := match o with
  | .inl (a, b) => ∃ k s', y = some (some (.int (nI 0)), k) ∧ isTk k (X + 48) t tl s' (nI a) (nI b) ∧ (∃ dep fd fc wk L, cQ k X dep fd fc wk L) ∧ frQ h k X
  | .inr (W, w) => ∃ k s' hh dp fd fc sf jn wt, y = some (some (.int (nI 1)), k) ∧ isTk k (X + 48) t tl s' fk fp ∧ hp_g k (X + 47) = some (qrO X hh dp fd fc (nI w)) ∧ isSets k (X + 51) 15 sf ∧ hp_g k (X + 53) = some (iA 7 jn) ∧ hp_g k (X + 54) = some (iA 7 wt) ∧ (∀ b, b < 8 → sf b = W b) ∧ frQ h k X
theorem c_askLoop (htl : tl ≤ 600) (hb : byt tb t) (h0 : zz_H) : ∀ n (h : zz_H) (s i dep : Nat) (fd : Bool) (fc wk : Nat) (L : Nat → Le), isTape h (X + 48 + 1) tb tl → isTk h (X + 48) t tl s fk fp → isStock h (X + 1 + 3) p rk tg f → cQ h X dep fd fc wk L → fc ≤ 30 → frQ h0 h X → tl - s < n → i ≤ s → asQ h0 X t tl (zz_Y 66 (33, [some (.ref (X + 47)), some (.ref (X + 1 + 1)), some (.ref (X + 1 + 3)), some (.int (nI (1))), some (.int (nI (i)))], [], h)) fk fp (askP t tl p f n s dep fd fc wk L) := by
  intro n
  induction n with
  | zero => intro h s i dep fd fc wk L ht hk hst hq h30 hf hn; omega
  | succ n ih =>
    intro h s i dep fd fc wk L ht hk hst hq h30 hf hn hi
    have hle := kd_le t tl s
    have hk0 := hk
    obtain ⟨nu, wd, h1, h2, h3, h4⟩ := hk
    unfold tokO at h1
    have hq0 := hq
    obtain ⟨sf, jn, wt, w0, hs, hj, hw, hd, _⟩ := hq
    have w0' := w0
    unfold qrO at w0'
    have n1f : ((1 : Nat) = 0) = False := eq_false (by omega)
    unfold askP
    by_cases c : kdP t tl s = 0
    · rw [if_pos c]
      by_cases c1 : fd = true ∨ 0 < dep
      · rw [if_pos c1]
        obtain ⟨k, e, q1, q2, q3⟩ := q_fail hk0 hq0 1
        refine ⟨k, s, ?_, q1, ⟨_, _, _, _, _, q2⟩, frQ_trans hf q3⟩
        rw [x66_c33]
        cases fd with
        | true => simp (disch := first | assumption | exact zz_nl_i _ | exact zz_nl_r _ | exact zz_nl_n | exact okv_i _ | exact okv_j _ | exact okv_0 | exact okv_1 | exact okv_o _ _ | exact okv_a _ _ | exact bI_okr _ | omega | exact llt_0 | ((repeat apply llt_s) <;> exact llt_0) | fail) only [x66_p0, x66_p1, xb66, nI_01, if_false, w0', h1, nI_eq, eq_true c, if_true, bI_t, n1f, e, mo_k_v, mo_k_n, mo_v_e, mo_gf_e, mo_pf_e, mo_ia_e, mo_ba_e, mo_za_e, mo_la_e, mo_aa_e, mo_le_e, mo_is_e, mo_bs_e, mo_zs_0, mo_zs_1, mo_ls_e, mo_as_e, mo_na_e, mo_aci_e, mo_acb_e, mo_acj_e, hp_gs, hp_gn, hp_ss, List.getElem?_cons_zero, List.getElem?_cons_succ, List.set_cons_zero, List.set_cons_succ]
        | false =>
          have cd : 0 < dep := c1.resolve_left (by decide)
          simp (disch := first | assumption | exact zz_nl_i _ | exact zz_nl_r _ | exact zz_nl_n | exact okv_i _ | exact okv_j _ | exact okv_0 | exact okv_1 | exact okv_o _ _ | exact okv_a _ _ | exact bI_okr _ | omega | exact llt_0 | ((repeat apply llt_s) <;> exact llt_0) | fail) only [x66_p0, x66_p1, xb66, nI_01, if_false, w0', h1, nI_eq, eq_true c, if_true, bI_f, n1f, nI_ltI, cd, e, mo_k_v, mo_k_n, mo_v_e, mo_gf_e, mo_pf_e, mo_ia_e, mo_ba_e, mo_za_e, mo_la_e, mo_aa_e, mo_le_e, mo_is_e, mo_bs_e, mo_zs_0, mo_zs_1, mo_ls_e, mo_as_e, mo_na_e, mo_aci_e, mo_acb_e, mo_acj_e, hp_gs, hp_gn, hp_ss, List.getElem?_cons_zero, List.getElem?_cons_succ, List.set_cons_zero, List.set_cons_succ]
      · rw [if_neg c1]
        have cf : fd = false := Bool.eq_false_iff.mpr (fun z => c1 (Or.inl z))
        have cd : dep = 0 := by
          by_cases z : 0 < dep
          · exact absurd (Or.inr z) c1
          · omega
        subst cf cd
        obtain ⟨k, sf', jn', wt', e, k0, ks, kj, kw, kj1, kw1, klow, kx, kf⟩ := c_endPart hq0
        refine ⟨k, s, _, _, _, _, sf', jn', wt', ?_, isTk_sam hk0 (kf.2 _ (by omega) (by omega)), k0, ks, kj, kw, fun b hb => ?_, frQ_trans hf (frQ_q kf)⟩
        · rw [x66_c33]
          simp (disch := first | assumption | exact zz_nl_i _ | exact zz_nl_r _ | exact zz_nl_n | exact okv_i _ | exact okv_j _ | exact okv_0 | exact okv_1 | exact okv_o _ _ | exact okv_a _ _ | exact bI_okr _ | omega | exact llt_0 | ((repeat apply llt_s) <;> exact llt_0) | fail) only [x66_p0, x66_p1, xb66, nI_01, if_false, w0', h1, nI_eq, eq_true c, if_true, bI_f, n1f, nI_ltI, Nat.lt_irrefl, e, mo_k_v, mo_k_n, mo_v_e, mo_gf_e, mo_pf_e, mo_ia_e, mo_ba_e, mo_za_e, mo_la_e, mo_aa_e, mo_le_e, mo_is_e, mo_bs_e, mo_zs_0, mo_zs_1, mo_ls_e, mo_as_e, mo_na_e, mo_aci_e, mo_acb_e, mo_acj_e, hp_gs, hp_gn, hp_ss, List.getElem?_cons_zero, List.getElem?_cons_succ, List.set_cons_zero, List.set_cons_succ]
        · have := kx b hb
          rw [show bs L 0 = 0 from rfl, Nat.mul_zero, Nat.zero_add] at this
          exact this
    · rw [if_neg c]
      have hst2 : s < tl := by
        by_cases z : s = tl
        · exact absurd ((kd_stop h4).mpr z) c
        · omega
      have ci : i < 600 := by omega
      have hadv := (adv_le (t := t) h4).2.2 hst2
      have q : stQ h X t tl s (if fd = true then 68 else 77) (if fd = true then [.ref (X + 1 + 3)] else []) fk fp dep fd fc wk L (stepP t tl p f s dep fd fc wk L) := by
        cases fd with
        | true => exact c_readFact hk0 hst hq0 h30
        | false => exact c_readJoin hk0 hq0
      cases e : stepP t tl p f s dep fd fc wk L with
      | inl x =>
        obtain ⟨a, b⟩ := x
        rw [e] at q
        obtain ⟨k, e1, r1, r2, r3⟩ := q
        refine ⟨k, s, ?_, r1, ⟨_, _, _, _, _, r2⟩, frQ_trans hf r3⟩
        rw [x66_c33]
        cases fd with
        | true =>
          rw [if_pos rfl, if_pos rfl] at e1
          simp (disch := first | assumption | exact zz_nl_i _ | exact zz_nl_r _ | exact zz_nl_n | exact okv_i _ | exact okv_j _ | exact okv_0 | exact okv_1 | exact okv_o _ _ | exact okv_a _ _ | exact bI_okr _ | omega | exact llt_0 | ((repeat apply llt_s) <;> exact llt_0) | fail) only [x66_p0, x66_p1, xb66, nI_01, if_false, w0', h1, nI_eq, c, n1f, nI_ltI, ci, if_true, bI_t, e1, nI_add, mo_k_v, mo_k_n, mo_v_e, mo_gf_e, mo_pf_e, mo_ia_e, mo_ba_e, mo_za_e, mo_la_e, mo_aa_e, mo_le_e, mo_is_e, mo_bs_e, mo_zs_0, mo_zs_1, mo_ls_e, mo_as_e, mo_na_e, mo_aci_e, mo_acb_e, mo_acj_e, hp_gs, hp_gn, hp_ss, List.getElem?_cons_zero, List.getElem?_cons_succ, List.set_cons_zero, List.set_cons_succ]
          rw [x66_c33]
          simp (disch := first | assumption | exact zz_nl_i _ | exact zz_nl_r _ | exact zz_nl_n | exact okv_i _ | exact okv_j _ | exact okv_0 | exact okv_1 | exact okv_o _ _ | exact okv_a _ _ | exact bI_okr _ | omega | exact llt_0 | ((repeat apply llt_s) <;> exact llt_0) | fail) only [x66_p0, x66_p1, xb66, if_true, mo_k_v, mo_k_n, mo_v_e, mo_gf_e, mo_pf_e, mo_ia_e, mo_ba_e, mo_za_e, mo_la_e, mo_aa_e, mo_le_e, mo_is_e, mo_bs_e, mo_zs_0, mo_zs_1, mo_ls_e, mo_as_e, mo_na_e, mo_aci_e, mo_acb_e, mo_acj_e, hp_gs, hp_gn, hp_ss, List.getElem?_cons_zero, List.getElem?_cons_succ, List.set_cons_zero, List.set_cons_succ]
        | false =>
          rw [if_neg (by decide), if_neg (by decide)] at e1
          simp (disch := first | assumption | exact zz_nl_i _ | exact zz_nl_r _ | exact zz_nl_n | exact okv_i _ | exact okv_j _ | exact okv_0 | exact okv_1 | exact okv_o _ _ | exact okv_a _ _ | exact bI_okr _ | omega | exact llt_0 | ((repeat apply llt_s) <;> exact llt_0) | fail) only [x66_p0, x66_p1, xb66, nI_01, if_false, w0', h1, nI_eq, c, n1f, nI_ltI, ci, if_true, bI_f, e1, nI_add, mo_k_v, mo_k_n, mo_v_e, mo_gf_e, mo_pf_e, mo_ia_e, mo_ba_e, mo_za_e, mo_la_e, mo_aa_e, mo_le_e, mo_is_e, mo_bs_e, mo_zs_0, mo_zs_1, mo_ls_e, mo_as_e, mo_na_e, mo_aci_e, mo_acb_e, mo_acj_e, hp_gs, hp_gn, hp_ss, List.getElem?_cons_zero, List.getElem?_cons_succ, List.set_cons_zero, List.set_cons_succ]
          rw [x66_c33]
          simp (disch := first | assumption | exact zz_nl_i _ | exact zz_nl_r _ | exact zz_nl_n | exact okv_i _ | exact okv_j _ | exact okv_0 | exact okv_1 | exact okv_o _ _ | exact okv_a _ _ | exact bI_okr _ | omega | exact llt_0 | ((repeat apply llt_s) <;> exact llt_0) | fail) only [x66_p0, x66_p1, xb66, if_true, mo_k_v, mo_k_n, mo_v_e, mo_gf_e, mo_pf_e, mo_ia_e, mo_ba_e, mo_za_e, mo_la_e, mo_aa_e, mo_le_e, mo_is_e, mo_bs_e, mo_zs_0, mo_zs_1, mo_ls_e, mo_as_e, mo_na_e, mo_aci_e, mo_acb_e, mo_acj_e, hp_gs, hp_gn, hp_ss, List.getElem?_cons_zero, List.getElem?_cons_succ, List.set_cons_zero, List.set_cons_succ]
      | inr x =>
        obtain ⟨dep', fd', fc', wk', L'⟩ := x
        have h30' := step_fc h30 e
        rw [e] at q
        obtain ⟨k, kj, e1, ⟨za, zb, zc, zd, zo⟩, jt, jf, r1, r2, r3⟩ := q
        obtain ⟨k2, e2, i2, f2⟩ := s_step (isTape_sam ht r3.2) hb r1
        obtain ⟨ya, yb, yc, yd, yo⟩ := cQ_o r2
        unfold qrO at zo yo
        have r := ih k2 (advP t tl s) (i + 1) dep' fd' fc' wk' L' (isTape_sam (isTape_sam ht r3.2) (frm_sam f2 (by omega))) i2 (isStock_sam (isStock_sam hst (frm_sam r3.1 (by omega))) (frm_sam f2 (by omega))) (cQ_sam r2 (f2.2.2.2 _ (by omega)) (frm_sam f2 (by omega))) h30' (frQ_trans hf (frQ_trans r3 (frQ_t f2))) (by omega) (by omega)
        have st : zz_Y 66 (33, [some (.ref (X + 47)), some (.ref (X + 1 + 1)), some (.ref (X + 1 + 3)), some (.int (nI (1))), some (.int (nI (i)))], [], h) = zz_Y 66 (33, [some (.ref (X + 47)), some (.ref (X + 1 + 1)), some (.ref (X + 1 + 3)), some (.int (nI (1))), some (.int (nI (i + 1)))], [], k2) := by
          rw [x66_c33]
          cases fd' with
          | true =>
            have ek := jt rfl
            rw [ek] at e2
            cases fd with
            | true =>
              rw [if_pos rfl, if_pos rfl] at e1
              simp (disch := first | assumption | exact zz_nl_i _ | exact zz_nl_r _ | exact zz_nl_n | exact okv_i _ | exact okv_j _ | exact okv_0 | exact okv_1 | exact okv_o _ _ | exact okv_a _ _ | exact bI_okr _ | omega | exact llt_0 | ((repeat apply llt_s) <;> exact llt_0) | fail) only [x66_p0, x66_p1, xb66, nI_01, if_false, w0', h1, nI_eq, c, n1f, nI_ltI, ci, if_true, bI_t, e1, nI_add, zo, e2, mo_k_v, mo_k_n, mo_v_e, mo_gf_e, mo_pf_e, mo_ia_e, mo_ba_e, mo_za_e, mo_la_e, mo_aa_e, mo_le_e, mo_is_e, mo_bs_e, mo_zs_0, mo_zs_1, mo_ls_e, mo_as_e, mo_na_e, mo_aci_e, mo_acb_e, mo_acj_e, hp_gs, hp_gn, hp_ss, List.getElem?_cons_zero, List.getElem?_cons_succ, List.set_cons_zero, List.set_cons_succ]
            | false =>
              rw [if_neg (by decide), if_neg (by decide)] at e1
              simp (disch := first | assumption | exact zz_nl_i _ | exact zz_nl_r _ | exact zz_nl_n | exact okv_i _ | exact okv_j _ | exact okv_0 | exact okv_1 | exact okv_o _ _ | exact okv_a _ _ | exact bI_okr _ | omega | exact llt_0 | ((repeat apply llt_s) <;> exact llt_0) | fail) only [x66_p0, x66_p1, xb66, nI_01, if_false, w0', h1, nI_eq, c, n1f, nI_ltI, ci, if_true, bI_t, bI_f, e1, nI_add, zo, e2, mo_k_v, mo_k_n, mo_v_e, mo_gf_e, mo_pf_e, mo_ia_e, mo_ba_e, mo_za_e, mo_la_e, mo_aa_e, mo_le_e, mo_is_e, mo_bs_e, mo_zs_0, mo_zs_1, mo_ls_e, mo_as_e, mo_na_e, mo_aci_e, mo_acb_e, mo_acj_e, hp_gs, hp_gn, hp_ss, List.getElem?_cons_zero, List.getElem?_cons_succ, List.set_cons_zero, List.set_cons_succ]
          | false =>
            have ej := jf rfl
            cases fd with
            | true =>
              rw [if_pos rfl, if_pos rfl] at e1
              simp (disch := first | assumption | exact zz_nl_i _ | exact zz_nl_r _ | exact zz_nl_n | exact okv_i _ | exact okv_j _ | exact okv_0 | exact okv_1 | exact okv_o _ _ | exact okv_a _ _ | exact bI_okr _ | omega | exact llt_0 | ((repeat apply llt_s) <;> exact llt_0) | fail) only [x66_p0, x66_p1, xb66, nI_01, if_false, w0', h1, nI_eq, c, n1f, nI_ltI, ci, if_true, bI_t, bI_f, e1, nI_add, zo, ej, yo, e2, mo_k_v, mo_k_n, mo_v_e, mo_gf_e, mo_pf_e, mo_ia_e, mo_ba_e, mo_za_e, mo_la_e, mo_aa_e, mo_le_e, mo_is_e, mo_bs_e, mo_zs_0, mo_zs_1, mo_ls_e, mo_as_e, mo_na_e, mo_aci_e, mo_acb_e, mo_acj_e, hp_gs, hp_gn, hp_ss, List.getElem?_cons_zero, List.getElem?_cons_succ, List.set_cons_zero, List.set_cons_succ]
            | false =>
              rw [if_neg (by decide), if_neg (by decide)] at e1
              simp (disch := first | assumption | exact zz_nl_i _ | exact zz_nl_r _ | exact zz_nl_n | exact okv_i _ | exact okv_j _ | exact okv_0 | exact okv_1 | exact okv_o _ _ | exact okv_a _ _ | exact bI_okr _ | omega | exact llt_0 | ((repeat apply llt_s) <;> exact llt_0) | fail) only [x66_p0, x66_p1, xb66, nI_01, if_false, w0', h1, nI_eq, c, n1f, nI_ltI, ci, if_true, bI_f, e1, nI_add, zo, ej, yo, e2, mo_k_v, mo_k_n, mo_v_e, mo_gf_e, mo_pf_e, mo_ia_e, mo_ba_e, mo_za_e, mo_la_e, mo_aa_e, mo_le_e, mo_is_e, mo_bs_e, mo_zs_0, mo_zs_1, mo_ls_e, mo_as_e, mo_na_e, mo_aci_e, mo_acb_e, mo_acj_e, hp_gs, hp_gn, hp_ss, List.getElem?_cons_zero, List.getElem?_cons_succ, List.set_cons_zero, List.set_cons_succ]
        rw [st]
        exact r
end
section
variable {h : zz_H} {X : Nat} {J : Jn} {im : Nat → Option Nat} {tb : Nat → Int32} {tl : Nat} {p : Pl} {rk tg f ch ba : Nat → Int32} {fk fp : Int32} {an : Bool} {aw : Int32} {af : Nat → Int32} {rs hd : Int32} {t : Nat → Nat}
theorem c_readWhole (hw : cW h X ((tb, tl), (p, rk, tg, f), (ch, ba), (fk, fp), (an, aw, af), (rs, hd)) J im) (hb : byt tb t) : ∃ k2 tb', frm (hp_s h (X + 1 + 1) (emT (X + 1 + 1))) k2 (X + 47) (X + 55) ∧ isTape k2 (X + 48 + 1) tb' tl ∧ asQ k2 X t tl (zz_run 66 [.ref (X + 47), .ref (X + 1 + 1), .ref (X + 1 + 3)] h) (nI 0) (-1) (askP t tl p f 601 (tkS t tl 0) 0 true 0 0 (fun _ => newL)) := by
  obtain ⟨w0, ⟨e0, e1, e2, e3, e4⟩, w2, w3, ⟨_, ⟨y1, y2, y3, y4, y5, y6, y7, r1⟩, tb0, tl0, r1t⟩, r2, r3, ⟨v1, v2, v3, v4, v5, r4⟩, ⟨sf, r5⟩, ⟨jn, r6⟩, ⟨wt, r7⟩, r8⟩ := hw
  have htl := e1.2.2
  have r4' := r4
  unfold qrO at r4'
  have sd := c_startDepth (h := hp_s h (X + 47) (qrO X (nI 0) v2 v3 (nI 0) (nI 0))) (X := X) (fd := v3) (fc := 0) (wk := 0) (nd := 0) (hp_gs _ _ _) ((hp_gn (by omega)).trans r6) ((hp_gn (by omega)).trans r7) (by omega)
  generalize hk1 : hp_s (hp_s (hp_s (hp_s h (X + 47) (qrO X (nI 0) v2 v3 (nI 0) (nI 0))) (X + 53) (iA 7 (upd jn 0 (-1)))) (X + 54) (iA 7 (upd wt 0 (nI 0)))) (X + 47) (qrO X (nI 0) (nI 0) true (nI 0) (nI 0)) = k1 at *
  have f1 : frB h k1 X := by
    rw [← hk1]
    exact frB_s (by omega) (frB_s (by omega) (frB_s (by omega) (frB_s (by omega) (frB_refl _ _))))
  have q1 : cQ k1 X 0 true 0 0 (fun _ => newL) := by
    rw [← hk1]
    refine ⟨sf, upd jn 0 (-1), upd wt 0 (nI 0), hp_gs _ _ _, isSets_s (isSets_s (isSets_s (isSets_s r5 (by omega)) (by omega)) (by omega)) (by omega), ?_, ?_, by omega, fun d hd => by omega, ⟨upd_eq _ _ _, ?_, fun c => (by cases c), fun c => (by cases c), fun c => (by cases c)⟩, fun c => (by cases c)⟩
    · rw [hp_gn (by omega), hp_gn (by omega), hp_gs]
    · rw [hp_gn (by omega), hp_gs]
    · rw [upd_eq, if_neg (fun z => by cases z.1)]
  have k1o : hp_g k1 (X + 47) = some (qrO X (nI 0) (nI 0) true (nI 0) (nI 0)) := by rw [← hk1]; exact hp_gs _ _ _
  have r1' := (f1.2 (X + 48) (by omega) (by omega)).trans r1
  have r1t' : isTape k1 (X + 48 + 1) tb0 tl0 := isTape_sam r1t (sam_sub f1.2 (by omega) (by omega))
  have tp1 : isTape k1 (X + 1 + 1) tb tl := isTape_sam e1 (frm_sam f1.1 (by omega))
  obtain ⟨k2, tb', c2, i2, tp2, hb2, f2⟩ := s_take r1' r1t' tp1 hb (by omega)
  have st2 : isStock k2 (X + 1 + 3) p rk tg f := isStock_sam (isStock_s (b := X + 1 + 1) (e := emT (X + 1 + 1)) (isStock_sam e2 (frm_sam f1.1 (by omega))) (by omega)) (frm_sam f2 (by omega))
  have q2 : cQ k2 X 0 true 0 0 (fun _ => newL) := cQ_sam q1 ((f2.2.2.2 _ (by omega)).trans (hp_gn (by omega))) (fun b g1 g2 => (f2.2.2.2 b (by omega)).trans (hp_gn (by omega)))
  refine ⟨k2, tb', frm_trans (frm_ss f1.1) (frm_mono f2 (by omega) (by omega)), tp2, ?_⟩
  have r := c_askLoop (X := X) (fk := nI 0) (fp := -1) htl hb2 k2 601 k2 (tkS t tl 0) 0 0 true 0 0 (fun _ => newL) tp2 i2 st2 q2 (by omega) ⟨frm_refl _ _ _, fun b _ _ => rfl⟩ (by omega) (by omega)
  have e : zz_run 66 [.ref (X + 47), .ref (X + 1 + 1), .ref (X + 1 + 3)] h = zz_Y 66 (33, [some (.ref (X + 47)), some (.ref (X + 1 + 1)), some (.ref (X + 1 + 3)), some (.int (nI (1))), some (.int (nI (0)))], [], k2) := by
    rw [en66 r4']
    unfold qrO at sd k1o
    simp (disch := first | assumption | exact zz_nl_i _ | exact zz_nl_r _ | exact zz_nl_n | exact okv_i _ | exact okv_j _ | exact okv_0 | exact okv_1 | exact okv_o _ _ | exact okv_a _ _ | exact bI_okr _ | omega | exact llt_0 | ((repeat apply llt_s) <;> exact llt_0) | fail) only [x66_p0, x66_p1, xb66, r4', sd, k1o, c2, mo_k_v, mo_k_n, mo_v_e, mo_gf_e, mo_pf_e, mo_ia_e, mo_ba_e, mo_za_e, mo_la_e, mo_aa_e, mo_le_e, mo_is_e, mo_bs_e, mo_zs_0, mo_zs_1, mo_ls_e, mo_as_e, mo_na_e, mo_aci_e, mo_acb_e, mo_acj_e, hp_gs, hp_gn, hp_ss, List.getElem?_cons_zero, List.getElem?_cons_succ, List.set_cons_zero, List.set_cons_succ]
  rw [e]
  exact r
end
