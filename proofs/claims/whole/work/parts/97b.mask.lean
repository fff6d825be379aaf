/-! the reference: questions -/
def frX (h k : zz_H) (M : Nat) : Prop := frm h k M (M + 15) ∧ sam h k (M + 1) (M + 4) ∧ sam h k (M + 5) (M + 7) ∧ sam h k (M + 8) (M + 10)
theorem frX_refl (h : zz_H) (M : Nat) : frX h h M := ⟨frm_refl _ _ _, fun _ _ _ => rfl, fun _ _ _ => rfl, fun _ _ _ => rfl⟩
theorem frX_trans {h k l : zz_H} {M : Nat} (h1 : frX h k M) (h2 : frX k l M) : frX h l M := ⟨frm_trans h1.1 h2.1, fun b a c => (h2.2.1 b a c).trans (h1.2.1 b a c), fun b a c => (h2.2.2.1 b a c).trans (h1.2.2.1 b a c), fun b a c => (h2.2.2.2 b a c).trans (h1.2.2.2 b a c)⟩
theorem frX_s {h k : zz_H} {M b : Nat} {e : zz_E} (hf : frX h k M) (hb : b = M ∨ b = M + 4 ∨ b = M + 7 ∨ (M + 10 ≤ b ∧ b < M + 15)) : frX h (hp_s k b e) M := ⟨frm_s ⟨by omega, by omega⟩ hf.1, fun c h1 h2 => (hp_gn (by omega)).trans (hf.2.1 c h1 h2), fun c h1 h2 => (hp_gn (by omega)).trans (hf.2.2.1 c h1 h2), fun c h1 h2 => (hp_gn (by omega)).trans (hf.2.2.2 c h1 h2)⟩
/-- a level as it lies in the reference -/
def lvR (L : Nat → Le) (o pa go ho hq : Nat → Int32) (d : Nat) : Prop := ho d = bI (L d).1 ∧ hq d = bI (L d).2.2.1 ∧ go d = nI (L d).2.2.2.2 ∧ ((L d).1 = true → ∀ b, b < 8 → o (8 * d + b) = (L d).2.1 b) ∧ ((L d).2.2.1 = true → ∀ b, b < 8 → pa (8 * d + b) = (L d).2.2.2.1 b) ∧ ((L d).2.2.2.2 = 0 ∨ (L d).2.2.2.2 = 2)
def lvM (h : zz_H) (M dep : Nat) (L : Nat → Le) : Prop := ∃ o pa go ho hq, hp_g h (M + 10) = some (iA 56 o) ∧ hp_g h (M + 11) = some (iA 56 pa) ∧ hp_g h (M + 12) = some (iA 7 go) ∧ hp_g h (M + 13) = some (zA 7 ho) ∧ hp_g h (M + 14) = some (zA 7 hq) ∧ ∀ d, d ≤ dep → lvR L o pa go ho hq d
theorem lvM_sam {h k : zz_H} {M dep : Nat} {L : Nat → Le} (hl : lvM h M dep L) (hs : sam h k (M + 10) (M + 15)) : lvM k M dep L := by
  obtain ⟨o, pa, go, ho, hq, h1, h2, h3, h4, h5, h6⟩ := hl
  exact ⟨o, pa, go, ho, hq, (hs _ (by omega) (by omega)).trans h1, (hs _ (by omega) (by omega)).trans h2, (hs _ (by omega) (by omega)).trans h3, (hs _ (by omega) (by omega)).trans h4, (hs _ (by omega) (by omega)).trans h5, h6⟩
theorem lvR_keep {L L' : Nat → Le} {o pa go ho hq o' pa' go' ho' hq' : Nat → Int32} {d : Nat} (hl : lvR L o pa go ho hq d) (h0 : L' d = L d) (h1 : ∀ b, b < 8 → o' (8 * d + b) = o (8 * d + b)) (h2 : ∀ b, b < 8 → pa' (8 * d + b) = pa (8 * d + b)) (h3 : go' d = go d) (h4 : ho' d = ho d) (h5 : hq' d = hq d) : lvR L' o' pa' go' ho' hq' d := by
  obtain ⟨a1, a2, a3, a4, a5, a6⟩ := hl
  unfold lvR
  rw [h0, h3, h4, h5]
  exact ⟨a1, a2, a3, fun c b hb => (h1 b hb).trans (a4 c b hb), fun c b hb => (h2 b hb).trans (a5 c b hb), a6⟩
section
variable {h : zz_H} {M : Nat} {mt mk mp mu ms mn mo ml : Int32} {mv : Int64} {me mf mw : Int32} {dep wk : Nat} {L : Nat → Le}
theorem m_takesLevel (w0 : hp_g h M = some (mdO M mt mk mp mu ms mn mo ml mv (nI dep) mf mw)) (hd : dep ≤ 6) {c e : Nat} {g g2 : Nat → Int32} (hc : hp_g h c = some (iA 56 g)) (he : hp_g h e = some (iA 8 g2)) (h1 : e ≠ c) (h2 : e ≠ M) : zz_run 250 [.ref M, .ref c, .ref e] h = some (none, hp_s h e (iA 8 (mpa 8 (fun b _ => g (8 * dep + b)) g2))) := by
  have l := lp_arr (N := 8) (St := fun b k => zz_Y 250 (2, [some (.ref (M)), some (.ref (c)), some (.ref (e)), some (.int (nI (b)))], [], k)) (fun b _ => g (8 * dep + b)) he (fun b g hb => by
    rw [x250_c2]
    simp (disch := first | assumption | exact zz_nl_i _ | exact zz_nl_r _ | exact zz_nl_n | exact okv_i _ | exact okv_j _ | exact okv_0 | exact okv_1 | exact okv_o _ _ | exact okv_a _ _ | exact bI_okr _ | omega | exact llt_0 | ((repeat apply llt_s) <;> exact llt_0) | fail) only [x250, w0, hc, nI_ltI, hb, if_true, nI_add, pk_mul, mo_k_v, mo_k_n, mo_v_e, mo_gf_e, mo_pf_e, mo_ia_e, mo_ba_e, mo_za_e, mo_la_e, mo_aa_e, mo_le_e, mo_is_e, mo_bs_e, mo_zs_0, mo_zs_1, mo_ls_e, mo_as_e, mo_na_e, mo_aci_e, mo_acb_e, mo_acj_e, hp_gs, hp_gn, hp_ss, List.getElem?_cons_zero, List.getElem?_cons_succ, List.set_cons_zero, List.set_cons_succ])
  rw [en250 w0]
  simp (disch := first | assumption | exact zz_nl_i _ | exact zz_nl_r _ | exact zz_nl_n | exact okv_i _ | exact okv_j _ | exact okv_0 | exact okv_1 | exact okv_o _ _ | exact okv_a _ _ | exact bI_okr _ | omega | exact llt_0 | ((repeat apply llt_s) <;> exact llt_0) | fail) only [x250, mo_k_v, mo_k_n, mo_v_e, mo_gf_e, mo_pf_e, mo_ia_e, mo_ba_e, mo_za_e, mo_la_e, mo_aa_e, mo_le_e, mo_is_e, mo_bs_e, mo_zs_0, mo_zs_1, mo_ls_e, mo_as_e, mo_na_e, mo_aci_e, mo_acb_e, mo_acj_e, hp_gs, hp_gn, hp_ss, List.getElem?_cons_zero, List.getElem?_cons_succ, List.set_cons_zero, List.set_cons_succ]
  rw [l, x250_c2]
  simp (disch := first | assumption | exact zz_nl_i _ | exact zz_nl_r _ | exact zz_nl_n | exact okv_i _ | exact okv_j _ | exact okv_0 | exact okv_1 | exact okv_o _ _ | exact okv_a _ _ | exact bI_okr _ | omega | exact llt_0 | ((repeat apply llt_s) <;> exact llt_0) | fail) only [x250, nI_ltI, Nat.lt_irrefl, if_false, mo_k_v, mo_k_n, mo_v_e, mo_gf_e, mo_pf_e, mo_ia_e, mo_ba_e, mo_za_e, mo_la_e, mo_aa_e, mo_le_e, mo_is_e, mo_bs_e, mo_zs_0, mo_zs_1, mo_ls_e, mo_as_e, mo_na_e, mo_aci_e, mo_acb_e, mo_acj_e, hp_gs, hp_gn, hp_ss, List.getElem?_cons_zero, List.getElem?_cons_succ, List.set_cons_zero, List.set_cons_succ]
theorem m_laysLevel (w0 : hp_g h M = some (mdO M mt mk mp mu ms mn mo ml mv (nI dep) mf mw)) (hd : dep ≤ 6) {c e : Nat} {g g2 : Nat → Int32} (hc : hp_g h c = some (iA 56 g)) (he : hp_g h e = some (iA 8 g2)) (h1 : e ≠ c) (h2 : c ≠ M) : zz_run 249 [.ref M, .ref e, .ref c] h = some (none, hp_s h c (iA 56 (lay8 g dep g2 8))) := by
  have step : ∀ b k, b < 8 → zz_Y 249 (2, [some (.ref (M)), some (.ref (e)), some (.ref (c)), some (.int (nI (b)))], [], hp_s h c (iA 56 k)) = zz_Y 249 (2, [some (.ref (M)), some (.ref (e)), some (.ref (c)), some (.int (nI (b + 1)))], [], hp_s h c (iA 56 (upd k (8 * dep + b) (g2 b)))) := by
    intro b k hb
    rw [x249_c2]
    simp (disch := first | assumption | exact zz_nl_i _ | exact zz_nl_r _ | exact zz_nl_n | exact okv_i _ | exact okv_j _ | exact okv_0 | exact okv_1 | exact okv_o _ _ | exact okv_a _ _ | exact bI_okr _ | omega | exact llt_0 | ((repeat apply llt_s) <;> exact llt_0) | fail) only [x249, w0, he, nI_ltI, hb, if_true, nI_add, pk_mul, mo_k_v, mo_k_n, mo_v_e, mo_gf_e, mo_pf_e, mo_ia_e, mo_ba_e, mo_za_e, mo_la_e, mo_aa_e, mo_le_e, mo_is_e, mo_bs_e, mo_zs_0, mo_zs_1, mo_ls_e, mo_as_e, mo_na_e, mo_aci_e, mo_acb_e, mo_acj_e, hp_gs, hp_gn, hp_ss, List.getElem?_cons_zero, List.getElem?_cons_succ, List.set_cons_zero, List.set_cons_succ]
  have l := lp_fold (N := 8) (St := fun b k => zz_Y 249 (2, [some (.ref (M)), some (.ref (e)), some (.ref (c)), some (.int (nI (b)))], [], hp_s h c (iA 56 k))) (s := g) step
  rw [lp_lay, hp_same hc] at l
  rw [en249 w0]
  simp (disch := first | assumption | exact zz_nl_i _ | exact zz_nl_r _ | exact zz_nl_n | exact okv_i _ | exact okv_j _ | exact okv_0 | exact okv_1 | exact okv_o _ _ | exact okv_a _ _ | exact bI_okr _ | omega | exact llt_0 | ((repeat apply llt_s) <;> exact llt_0) | fail) only [x249, mo_k_v, mo_k_n, mo_v_e, mo_gf_e, mo_pf_e, mo_ia_e, mo_ba_e, mo_za_e, mo_la_e, mo_aa_e, mo_le_e, mo_is_e, mo_bs_e, mo_zs_0, mo_zs_1, mo_ls_e, mo_as_e, mo_na_e, mo_aci_e, mo_acb_e, mo_acj_e, hp_gs, hp_gn, hp_ss, List.getElem?_cons_zero, List.getElem?_cons_succ, List.set_cons_zero, List.set_cons_succ]
  refine l.trans ?_
  rw [x249_c2]
  simp (disch := first | assumption | exact zz_nl_i _ | exact zz_nl_r _ | exact zz_nl_n | exact okv_i _ | exact okv_j _ | exact okv_0 | exact okv_1 | exact okv_o _ _ | exact okv_a _ _ | exact bI_okr _ | omega | exact llt_0 | ((repeat apply llt_s) <;> exact llt_0) | fail) only [x249, nI_ltI, Nat.lt_irrefl, if_false, mo_k_v, mo_k_n, mo_v_e, mo_gf_e, mo_pf_e, mo_ia_e, mo_ba_e, mo_za_e, mo_la_e, mo_aa_e, mo_le_e, mo_is_e, mo_bs_e, mo_zs_0, mo_zs_1, mo_ls_e, mo_as_e, mo_na_e, mo_aci_e, mo_acb_e, mo_acj_e, hp_gs, hp_gn, hp_ss, List.getElem?_cons_zero, List.getElem?_cons_succ, List.set_cons_zero, List.set_cons_succ]
theorem m_comes (w0 : hp_g h M = some (mdO M mt mk mp mu ms mn mo ml mv (nI dep) mf (nI wk))) (hd : dep ≤ 6) (hl : lvM h M dep L) {x V : Nat → Int32} (a7 : ar8 h (M + 7) x) (a4 : ar8 h (M + 4) V) : ∃ k, zz_run 248 [.ref M] h = some (none, k) ∧ hp_g k M = some (mdO M mt mk mp mu ms mn mo ml mv (nI dep) mf (nI (wk + (comeL (L dep) x).2))) ∧ lvM k M dep (upL L dep (comeL (L dep) x).1) ∧ ar8 k (M + 7) x ∧ (∃ W, ar8 k (M + 4) W) ∧ frX h k M := by
  obtain ⟨o, pa, go, ho, hq, m10, m11, m12, m13, m14, hlv⟩ := hl
  obtain ⟨b1, b2, b3, b4, b5, b6⟩ := hlv dep (Nat.le_refl _)
  have a7' := a7
  obtain ⟨g7, hg7, e7⟩ := a7
  have d7 : dep < 7 := by omega
  cases hp : (L dep).2.2.1 with
  | false =>
    rw [hp, bI_f] at b2
    have ec : comeL (L dep) x = (((L dep).1, (L dep).2.1, true, x, (L dep).2.2.2.2), 0) := by
      unfold comeL
      rw [if_neg (by rw [hp]; decide)]
    have ll := m_laysLevel (h := hp_s h (M + 14) (zA 7 (upd hq dep (nI 1)))) ((hp_gn (by omega)).trans w0) hd (c := M + 11) (e := M + 7) ((hp_gn (by omega)).trans m11) ((hp_gn (by omega)).trans hg7) (by omega) (by omega)
    rw [ec]
    dsimp only
    rw [Nat.add_zero]
    refine ⟨hp_s (hp_s h (M + 14) (zA 7 (upd hq dep (nI 1)))) (M + 11) (iA 56 (lay8 pa dep g7 8)), ?_, ?_, ⟨o, lay8 pa dep g7 8, go, ho, upd hq dep (nI 1), ?_, hp_gs _ _ _, ?_, ?_, ?_, fun d hdd => ?_⟩, ar8_ne (ar8_ne a7' (by omega)) (by omega), ⟨V, ar8_ne (ar8_ne a4 (by omega)) (by omega)⟩, frX_s (frX_s (frX_refl _ _) (by omega)) (by omega)⟩
    · rw [en248 w0]
      simp (disch := first | assumption | exact zz_nl_i _ | exact zz_nl_r _ | exact zz_nl_n | exact okv_i _ | exact okv_j _ | exact okv_0 | exact okv_1 | exact okv_o _ _ | exact okv_a _ _ | exact bI_okr _ | omega | exact llt_0 | ((repeat apply llt_s) <;> exact llt_0) | fail) only [x248_p0, x248_p1, w0, m14, b2, if_true, ll, mo_k_v, mo_k_n, mo_v_e, mo_gf_e, mo_pf_e, mo_ia_e, mo_ba_e, mo_za_e, mo_la_e, mo_aa_e, mo_le_e, mo_is_e, mo_bs_e, mo_zs_0, mo_zs_1, mo_ls_e, mo_as_e, mo_na_e, mo_aci_e, mo_acb_e, mo_acj_e, hp_gs, hp_gn, hp_ss, List.getElem?_cons_zero, List.getElem?_cons_succ, List.set_cons_zero, List.set_cons_succ]
    · rw [hp_gn (by omega), hp_gn (by omega)]; exact w0
    · rw [hp_gn (by omega), hp_gn (by omega)]; exact m10
    · rw [hp_gn (by omega), hp_gn (by omega)]; exact m12
    · rw [hp_gn (by omega), hp_gn (by omega)]; exact m13
    · rw [hp_gn (by omega), hp_gs]
    · by_cases c : d = dep
      · subst c
        unfold lvR
        rw [upL_eq]
        exact ⟨b1, upd_eq _ _ _, b3, b4, fun _ b hb => (lay_in hb).trans (e7 b hb), b6⟩
      · exact lvR_keep (hlv d hdd) (upL_ne c) (fun b hb => rfl) (fun b hb => lay_out (by omega)) rfl rfl (upd_ne c)
  | true =>
    rw [hp, bI_t] at b2
    have ec : comeL (L dep) x = (((L dep).1, (L dep).2.1, true, fun b => jnd (L dep).2.2.2.2 ((L dep).2.2.2.1 b) (x b), (L dep).2.2.2.2), wj8 (L dep).2.2.2.2 (L dep).2.2.2.1 x) := by
      unfold comeL
      rw [if_pos hp]
    obtain ⟨g4, hg4, _⟩ := a4
    have tl := m_takesLevel w0 hd (c := M + 11) (e := M + 4) m11 hg4 (by omega) (by omega)
    have q4 : ar8 (hp_s h (M + 4) (iA 8 (mpa 8 (fun b _ => pa (8 * dep + b)) g4))) (M + 4) (L dep).2.2.2.1 := ⟨_, hp_gs _ _ _, fun b hb => (mpa_in hb).trans (b5 hp b hb)⟩
    have q7 : ar8 (hp_s h (M + 4) (iA 8 (mpa 8 (fun b _ => pa (8 * dep + b)) g4))) (M + 7) x := ar8_ne a7' (by omega)
    have hj3 : (L dep).2.2.2.2 < 3 := by omega
    have wkk := a_work q4 q7 hj3
    generalize hj : (L dep).2.2.2.2 = j at *
    generalize hW : wj8 j (L dep).2.2.2.1 x = w at *
    have n10 := nI_01
    have n20 : ¬ nI 2 = nI 0 := n20'
    have l := lp_arr (N := 8) (St := fun b k => zz_Y 248 (80, [some (.ref (M)), some (.int (nI (j))), some (.int (nI (b)))], [], k)) (h := hp_s (hp_s h (M + 4) (iA 8 (mpa 8 (fun b _ => pa (8 * dep + b)) g4))) M (mdO M mt mk mp mu ms mn mo ml mv (nI dep) mf (nI (wk + w)))) (c := M + 4) (n := 8) (g := mpa 8 (fun b _ => pa (8 * dep + b)) g4) (fun b y => if j = 0 then y &&& g7 b else y &&& (g7 b ^^^ (-1))) ((hp_gn (by omega)).trans (hp_gs _ _ _)) (fun b g hb => by
      rw [x248_c80]
      rcases b6 with c | c
      · subst c
        simp (disch := first | assumption | exact zz_nl_i _ | exact zz_nl_r _ | exact zz_nl_n | exact okv_i _ | exact okv_j _ | exact okv_0 | exact okv_1 | exact okv_o _ _ | exact okv_a _ _ | exact bI_okr _ | omega | exact llt_0 | ((repeat apply llt_s) <;> exact llt_0) | fail) only [x248_p0, x248_p1, hg7, nI_ltI, hb, if_true, nI_add, mo_k_v, mo_k_n, mo_v_e, mo_gf_e, mo_pf_e, mo_ia_e, mo_ba_e, mo_za_e, mo_la_e, mo_aa_e, mo_le_e, mo_is_e, mo_bs_e, mo_zs_0, mo_zs_1, mo_ls_e, mo_as_e, mo_na_e, mo_aci_e, mo_acb_e, mo_acj_e, hp_gs, hp_gn, hp_ss, List.getElem?_cons_zero, List.getElem?_cons_succ, List.set_cons_zero, List.set_cons_succ]
      · subst c
        simp (disch := first | assumption | exact zz_nl_i _ | exact zz_nl_r _ | exact zz_nl_n | exact okv_i _ | exact okv_j _ | exact okv_0 | exact okv_1 | exact okv_o _ _ | exact okv_a _ _ | exact bI_okr _ | omega | exact llt_0 | ((repeat apply llt_s) <;> exact llt_0) | fail) only [x248_p0, x248_p1, hg7, nI_ltI, hb, if_true, n20, if_false, nI_add, show ((2 : Nat) = 0) = False from eq_false (by omega), mo_k_v, mo_k_n, mo_v_e, mo_gf_e, mo_pf_e, mo_ia_e, mo_ba_e, mo_za_e, mo_la_e, mo_aa_e, mo_le_e, mo_is_e, mo_bs_e, mo_zs_0, mo_zs_1, mo_ls_e, mo_as_e, mo_na_e, mo_aci_e, mo_acb_e, mo_acj_e, hp_gs, hp_gn, hp_ss, List.getElem?_cons_zero, List.getElem?_cons_succ, List.set_cons_zero, List.set_cons_succ])
    rw [hp_comm (h := h) (show M + 4 ≠ M by omega), hp_ss] at l
    generalize hg : mpa 8 (fun b y => if j = 0 then y &&& g7 b else y &&& (g7 b ^^^ (-1))) (mpa 8 (fun b _ => pa (8 * dep + b)) g4) = gf at *
    have hgf : ∀ b, b < 8 → gf b = jnd j ((L dep).2.2.2.1 b) (x b) := fun b hb => by
      rw [← hg, mpa_in hb, mpa_in hb, b5 hp b hb, e7 b hb]
      unfold jnd
      rcases b6 with c | c
      · subst c; rw [if_pos rfl, if_pos rfl]
      · subst c; rw [if_neg (by omega), if_neg (by omega), if_neg (by omega)]
    have ll := m_laysLevel (h := hp_s (hp_s h M (mdO M mt mk mp mu ms mn mo ml mv (nI dep) mf (nI (wk + w)))) (M + 4) (iA 8 gf)) ((hp_gn (by omega)).trans (hp_gs _ _ _)) hd (c := M + 11) (e := M + 4) ((hp_gn (by omega)).trans ((hp_gn (by omega)).trans m11)) (hp_gs _ _ _) (by omega) (by omega)
    rw [ec]
    dsimp only
    refine ⟨hp_s (hp_s (hp_s h M (mdO M mt mk mp mu ms mn mo ml mv (nI dep) mf (nI (wk + w)))) (M + 4) (iA 8 gf)) (M + 11) (iA 56 (lay8 pa dep gf 8)), ?_, ?_, ⟨o, lay8 pa dep gf 8, go, ho, hq, ?_, hp_gs _ _ _, ?_, ?_, ?_, fun d hdd => ?_⟩, ar8_ne (ar8_ne (ar8_ne a7' (by omega)) (by omega)) (by omega), ⟨gf, ar8_ne ⟨gf, hp_gs _ _ _, fun _ _ => rfl⟩ (by omega)⟩, frX_s (frX_s (frX_s (frX_refl _ _) (by omega)) (by omega)) (by omega)⟩
    · rw [en248 w0]
      simp (disch := first | assumption | exact zz_nl_i _ | exact zz_nl_r _ | exact zz_nl_n | exact okv_i _ | exact okv_j _ | exact okv_0 | exact okv_1 | exact okv_o _ _ | exact okv_a _ _ | exact bI_okr _ | omega | exact llt_0 | ((repeat apply llt_s) <;> exact llt_0) | fail) only [x248_p0, x248_p1, w0, m14, b2, n10, if_false, tl, m12, b3, wkk, nI_add, mo_k_v, mo_k_n, mo_v_e, mo_gf_e, mo_pf_e, mo_ia_e, mo_ba_e, mo_za_e, mo_la_e, mo_aa_e, mo_le_e, mo_is_e, mo_bs_e, mo_zs_0, mo_zs_1, mo_ls_e, mo_as_e, mo_na_e, mo_aci_e, mo_acb_e, mo_acj_e, hp_gs, hp_gn, hp_ss, List.getElem?_cons_zero, List.getElem?_cons_succ, List.set_cons_zero, List.set_cons_succ]
      rw [hp_comm (h := h) (show M + 4 ≠ M by omega), l, x248_c80]
      simp (disch := first | assumption | exact zz_nl_i _ | exact zz_nl_r _ | exact zz_nl_n | exact okv_i _ | exact okv_j _ | exact okv_0 | exact okv_1 | exact okv_o _ _ | exact okv_a _ _ | exact bI_okr _ | omega | exact llt_0 | ((repeat apply llt_s) <;> exact llt_0) | fail) only [x248_p0, x248_p1, nI_ltI, Nat.lt_irrefl, if_false, ll, mo_k_v, mo_k_n, mo_v_e, mo_gf_e, mo_pf_e, mo_ia_e, mo_ba_e, mo_za_e, mo_la_e, mo_aa_e, mo_le_e, mo_is_e, mo_bs_e, mo_zs_0, mo_zs_1, mo_ls_e, mo_as_e, mo_na_e, mo_aci_e, mo_acb_e, mo_acj_e, hp_gs, hp_gn, hp_ss, List.getElem?_cons_zero, List.getElem?_cons_succ, List.set_cons_zero, List.set_cons_succ]
    · rw [hp_gn (by omega), hp_gn (by omega), hp_gs]
    · rw [hp_gn (by omega), hp_gn (by omega), hp_gn (by omega)]; exact m10
    · rw [hp_gn (by omega), hp_gn (by omega), hp_gn (by omega)]; exact m12
    · rw [hp_gn (by omega), hp_gn (by omega), hp_gn (by omega)]; exact m13
    · rw [hp_gn (by omega), hp_gn (by omega), hp_gn (by omega)]; exact m14
    · by_cases c : d = dep
      · subst c
        unfold lvR
        rw [upL_eq]
        exact ⟨b1, b2, b3, b4, fun _ b hb => (lay_in hb).trans (hgf b hb), b6⟩
      · exact lvR_keep (hlv d hdd) (upL_ne c) (fun b hb => rfl) (fun b hb => lay_out (by omega)) rfl rfl rfl
end
