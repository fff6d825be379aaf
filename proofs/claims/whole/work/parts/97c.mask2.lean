/-! the reference: parts, facts, joins -/
section
variable {h : zz_H} {M : Nat} {A : Nat → Int32} {mt mk mp mu ms mn mo ml : Int32} {mv : Int64} {me mf mw : Int32} {dep fc wk : Nat} {L : Nat → Le} {p : Pl} {rk tg f ch ba : Nat → Int32} {T : Nat → Int32} {t : Nat → Nat} {tl s : Nat}
theorem m_ends (w0 : hp_g h M = some (mdO M mt mk mp mu ms mn mo ml mv (nI dep) mf (nI wk))) (hd : dep ≤ 6) (hl : lvM h M dep L) (hp : (L dep).2.2.1 = true) {x V : Nat → Int32} (a7 : ar8 h (M + 7) x) (a4 : ar8 h (M + 4) V) : ∃ k, zz_run 252 [.ref M] h = some (none, k) ∧ hp_g k M = some (mdO M mt mk mp mu ms mn mo ml mv (nI dep) mf (nI (wk + (endL (L dep)).2))) ∧ lvM k M dep L ∧ ar8 k (M + 7) (endL (L dep)).1 ∧ (∃ W, ar8 k (M + 4) W) ∧ frX h k M := by
  have hl' := hl
  obtain ⟨o, pa, go, ho, hq, m10, m11, m12, m13, m14, hlv⟩ := hl
  obtain ⟨b1, b2, b3, b4, b5, b6⟩ := hlv dep (Nat.le_refl _)
  obtain ⟨g7, hg7, _⟩ := a7
  have d7 : dep < 7 := by omega
  have t1 := m_takesLevel w0 hd (c := M + 11) (e := M + 7) m11 hg7 (by omega) (by omega)
  have q7 : ar8 (hp_s h (M + 7) (iA 8 (mpa 8 (fun b _ => pa (8 * dep + b)) g7))) (M + 7) (L dep).2.2.2.1 := ⟨_, hp_gs _ _ _, fun b hb => (mpa_in hb).trans (b5 hp b hb)⟩
  have w1 : hp_g (hp_s h (M + 7) (iA 8 (mpa 8 (fun b _ => pa (8 * dep + b)) g7))) M = some (mdO M mt mk mp mu ms mn mo ml mv (nI dep) mf (nI wk)) := (hp_gn (by omega)).trans w0
  have m13' : hp_g (hp_s h (M + 7) (iA 8 (mpa 8 (fun b _ => pa (8 * dep + b)) g7))) (M + 13) = some (zA 7 ho) := (hp_gn (by omega)).trans m13
  cases hO : (L dep).1 with
  | false =>
    rw [hO, bI_f] at b1
    have ee : endL (L dep) = ((L dep).2.2.2.1, 0) := by
      unfold endL
      rw [if_neg (by rw [hO]; decide)]
    rw [ee]
    dsimp only
    rw [Nat.add_zero]
    refine ⟨_, ?_, w1, lvM_sam hl' (fun b h1 h2 => hp_gn (by omega)), q7, ⟨V, ar8_ne a4 (by omega)⟩, frX_s (frX_refl _ _) (by omega)⟩
    rw [en252 w0]
    simp (disch := first | assumption | exact zz_nl_i _ | exact zz_nl_r _ | exact zz_nl_n | exact okv_i _ | exact okv_j _ | exact okv_0 | exact okv_1 | exact okv_o _ _ | exact okv_a _ _ | exact bI_okr _ | omega | exact llt_0 | ((repeat apply llt_s) <;> exact llt_0) | fail) only [x252, w0, t1, m13', b1, if_true, mo_k_v, mo_k_n, mo_v_e, mo_gf_e, mo_pf_e, mo_ia_e, mo_ba_e, mo_za_e, mo_la_e, mo_aa_e, mo_le_e, mo_is_e, mo_bs_e, mo_zs_0, mo_zs_1, mo_ls_e, mo_as_e, mo_na_e, mo_aci_e, mo_acb_e, mo_acj_e, hp_gs, hp_gn, hp_ss, List.getElem?_cons_zero, List.getElem?_cons_succ, List.set_cons_zero, List.set_cons_succ]
  | true =>
    rw [hO, bI_t] at b1
    have ee : endL (L dep) = (fun b => jnd 1 ((L dep).2.1 b) ((L dep).2.2.2.1 b), wj8 1 (L dep).2.1 (L dep).2.2.2.1) := by
      unfold endL
      rw [if_pos hO]
    rw [ee]
    dsimp only
    generalize hG : mpa 8 (fun b _ => pa (8 * dep + b)) g7 = G at *
    obtain ⟨g4, hg4, _⟩ := a4
    have t2 := m_takesLevel w1 hd (c := M + 10) (e := M + 4) ((hp_gn (by omega)).trans m10) ((hp_gn (by omega)).trans hg4) (by omega) (by omega)
    have q4 : ar8 (hp_s (hp_s h (M + 7) (iA 8 G)) (M + 4) (iA 8 (mpa 8 (fun b _ => o (8 * dep + b)) g4))) (M + 4) (L dep).2.1 := ⟨_, hp_gs _ _ _, fun b hb => (mpa_in hb).trans (b4 hO b hb)⟩
    have q7' : ar8 (hp_s (hp_s h (M + 7) (iA 8 G)) (M + 4) (iA 8 (mpa 8 (fun b _ => o (8 * dep + b)) g4))) (M + 7) (L dep).2.2.2.1 := ar8_ne q7 (by omega)
    have wkk := a_work q4 q7' (show 1 < 3 by omega)
    generalize hW : wj8 1 (L dep).2.1 (L dep).2.2.2.1 = w at *
    generalize hG4 : mpa 8 (fun b _ => o (8 * dep + b)) g4 = G4 at *
    have eG : ∀ b, b < 8 → G b = (L dep).2.2.2.1 b := fun b hb => by rw [← hG, mpa_in hb]; exact b5 hp b hb
    have eG4 : ∀ b, b < 8 → G4 b = (L dep).2.1 b := fun b hb => by rw [← hG4, mpa_in hb]; exact b4 hO b hb
    have n10 := nI_01
    have l := lp_arr (N := 8) (St := fun b k => zz_Y 252 (59, [some (.ref (M)), some (.int (nI (b)))], [], k)) (h := hp_s (hp_s (hp_s h (M + 7) (iA 8 G)) (M + 4) (iA 8 G4)) M (mdO M mt mk mp mu ms mn mo ml mv (nI dep) mf (nI (wk + w)))) (c := M + 7) (n := 8) (g := G) (fun b y => y ||| G4 b) ((hp_gn (by omega)).trans ((hp_gn (by omega)).trans (hp_gs _ _ _))) (fun b g hb => by
      rw [x252_c59]
      simp (disch := first | assumption | exact zz_nl_i _ | exact zz_nl_r _ | exact zz_nl_n | exact okv_i _ | exact okv_j _ | exact okv_0 | exact okv_1 | exact okv_o _ _ | exact okv_a _ _ | exact bI_okr _ | omega | exact llt_0 | ((repeat apply llt_s) <;> exact llt_0) | fail) only [x252, nI_ltI, hb, if_true, nI_add, mo_k_v, mo_k_n, mo_v_e, mo_gf_e, mo_pf_e, mo_ia_e, mo_ba_e, mo_za_e, mo_la_e, mo_aa_e, mo_le_e, mo_is_e, mo_bs_e, mo_zs_0, mo_zs_1, mo_ls_e, mo_as_e, mo_na_e, mo_aci_e, mo_acb_e, mo_acj_e, hp_gs, hp_gn, hp_ss, List.getElem?_cons_zero, List.getElem?_cons_succ, List.set_cons_zero, List.set_cons_succ])
    refine ⟨hp_s (hp_s (hp_s (hp_s h (M + 7) (iA 8 G)) (M + 4) (iA 8 G4)) M (mdO M mt mk mp mu ms mn mo ml mv (nI dep) mf (nI (wk + w)))) (M + 7) (iA 8 (mpa 8 (fun b y => y ||| G4 b) G)), ?_, ?_, lvM_sam hl' (fun b h1 h2 => by rw [hp_gn (by omega), hp_gn (by omega), hp_gn (by omega), hp_gn (by omega)]), ⟨_, hp_gs _ _ _, fun b hb => ?_⟩, ⟨G4, ar8_ne (ar8_ne ⟨G4, hp_gs _ _ _, fun _ _ => rfl⟩ (by omega)) (by omega)⟩, frX_s (frX_s (frX_s (frX_s (frX_refl _ _) (by omega)) (by omega)) (by omega)) (by omega)⟩
    · rw [en252 w0]
      simp (disch := first | assumption | exact zz_nl_i _ | exact zz_nl_r _ | exact zz_nl_n | exact okv_i _ | exact okv_j _ | exact okv_0 | exact okv_1 | exact okv_o _ _ | exact okv_a _ _ | exact bI_okr _ | omega | exact llt_0 | ((repeat apply llt_s) <;> exact llt_0) | fail) only [x252, w0, t1, w1, m13', b1, n10, if_false, t2, wkk, nI_add, mo_k_v, mo_k_n, mo_v_e, mo_gf_e, mo_pf_e, mo_ia_e, mo_ba_e, mo_za_e, mo_la_e, mo_aa_e, mo_le_e, mo_is_e, mo_bs_e, mo_zs_0, mo_zs_1, mo_ls_e, mo_as_e, mo_na_e, mo_aci_e, mo_acb_e, mo_acj_e, hp_gs, hp_gn, hp_ss, List.getElem?_cons_zero, List.getElem?_cons_succ, List.set_cons_zero, List.set_cons_succ]
      rw [l, x252_c59]
      simp (disch := first | assumption | exact zz_nl_i _ | exact zz_nl_r _ | exact zz_nl_n | exact okv_i _ | exact okv_j _ | exact okv_0 | exact okv_1 | exact okv_o _ _ | exact okv_a _ _ | exact bI_okr _ | omega | exact llt_0 | ((repeat apply llt_s) <;> exact llt_0) | fail) only [x252, nI_ltI, Nat.lt_irrefl, if_false, mo_k_v, mo_k_n, mo_v_e, mo_gf_e, mo_pf_e, mo_ia_e, mo_ba_e, mo_za_e, mo_la_e, mo_aa_e, mo_le_e, mo_is_e, mo_bs_e, mo_zs_0, mo_zs_1, mo_ls_e, mo_as_e, mo_na_e, mo_aci_e, mo_acb_e, mo_acj_e, hp_gs, hp_gn, hp_ss, List.getElem?_cons_zero, List.getElem?_cons_succ, List.set_cons_zero, List.set_cons_succ]
    · rw [hp_gn (by omega), hp_gs]
    · rw [mpa_in hb, eG b hb, eG4 b hb, Int32.or_comm]
      rfl
theorem m_opens (w0 : hp_g h M = some (mdO M mt mk mp mu ms mn mo ml mv (nI dep) mf mw)) (hd : dep ≤ 6) {L : Nat → Le} (hl : ∃ o pa go ho hq, hp_g h (M + 10) = some (iA 56 o) ∧ hp_g h (M + 11) = some (iA 56 pa) ∧ hp_g h (M + 12) = some (iA 7 go) ∧ hp_g h (M + 13) = some (zA 7 ho) ∧ hp_g h (M + 14) = some (zA 7 hq) ∧ ∀ d, d < dep → lvR L o pa go ho hq d) : ∃ k, zz_run 246 [.ref M] h = some (none, k) ∧ hp_g k M = hp_g h M ∧ lvM k M dep (upL L dep newL) ∧ hp_g k (M + 4) = hp_g h (M + 4) ∧ hp_g k (M + 7) = hp_g h (M + 7) ∧ frX h k M := by
  obtain ⟨o, pa, go, ho, hq, m10, m11, m12, m13, m14, hlv⟩ := hl
  have d7 : dep < 7 := by omega
  refine ⟨hp_s (hp_s (hp_s h (M + 13) (zA 7 (upd ho dep (nI 0)))) (M + 14) (zA 7 (upd hq dep (nI 0)))) (M + 12) (iA 7 (upd go dep (nI 0))), ?_, ?_, ⟨o, pa, upd go dep (nI 0), upd ho dep (nI 0), upd hq dep (nI 0), ?_, ?_, hp_gs _ _ _, ?_, ?_, fun d hdd => ?_⟩, ?_, ?_, frX_s (frX_s (frX_s (frX_refl _ _) (by omega)) (by omega)) (by omega)⟩
  · rw [en246 w0]
    simp (disch := first | assumption | exact zz_nl_i _ | exact zz_nl_r _ | exact zz_nl_n | exact okv_i _ | exact okv_j _ | exact okv_0 | exact okv_1 | exact okv_o _ _ | exact okv_a _ _ | exact bI_okr _ | omega | exact llt_0 | ((repeat apply llt_s) <;> exact llt_0) | fail) only [x246, w0, m12, m13, m14, mo_k_v, mo_k_n, mo_v_e, mo_gf_e, mo_pf_e, mo_ia_e, mo_ba_e, mo_za_e, mo_la_e, mo_aa_e, mo_le_e, mo_is_e, mo_bs_e, mo_zs_0, mo_zs_1, mo_ls_e, mo_as_e, mo_na_e, mo_aci_e, mo_acb_e, mo_acj_e, hp_gs, hp_gn, hp_ss, List.getElem?_cons_zero, List.getElem?_cons_succ, List.set_cons_zero, List.set_cons_succ]
  · rw [hp_gn (by omega), hp_gn (by omega), hp_gn (by omega)]
  · rw [hp_gn (by omega), hp_gn (by omega), hp_gn (by omega)]; exact m10
  · rw [hp_gn (by omega), hp_gn (by omega), hp_gn (by omega)]; exact m11
  · rw [hp_gn (by omega), hp_gn (by omega), hp_gs]
  · rw [hp_gn (by omega), hp_gs]
  · by_cases c : d = dep
    · subst c
      unfold lvR
      rw [upL_eq]
      exact ⟨upd_eq _ _ _, upd_eq _ _ _, upd_eq _ _ _, fun z => (by cases z), fun z => (by cases z), Or.inl rfl⟩
    · exact lvR_keep (hlv d (by omega)) (upL_ne c) (fun _ _ => rfl) (fun _ _ => rfl) (upd_ne c) (upd_ne c) (upd_ne c)
  · rw [hp_gn (by omega), hp_gn (by omega), hp_gn (by omega)]
  · rw [hp_gn (by omega), hp_gn (by omega), hp_gn (by omega)]
/-- the reference amid a question -/
def mQ (h : zz_H) (M : Nat) (mt mu : Int32) (t : Nat → Nat) (tl : Nat) (T A : Nat → Int32) (s dep : Nat) (fd : Bool) (fc wk : Nat) (L : Nat → Le) : Prop := hp_g h M = some (mdT M mt (nI 0) (-1) mu t tl s (nI dep) (nI fc) (nI wk)) ∧ hp_g h (M + 1) = some (iA 12639 A) ∧ hp_g h (M + 2) = some (iA 600 T) ∧ lvM h M dep L ∧ (∃ V, ar8 h (M + 4) V) ∧ (∃ V, ar8 h (M + 7) V) ∧ s ≤ tl ∧ dep ≤ 6 ∧ fc ≤ 30 ∧ (fd = false → (L dep).2.2.1 = true)
/-- the room for a question is there -/
def scL (h : zz_H) (M : Nat) : Prop := (∃ V, ar8 h (M + 4) V) ∧ (∃ V, ar8 h (M + 7) V) ∧ ∃ dep L, lvM h M dep L
theorem scL_s {h : zz_H} {M : Nat} {e : zz_E} (hs : scL h M) : scL (hp_s h M e) M := by
  obtain ⟨⟨V, a4⟩, ⟨W, a7⟩, dep, L, hl⟩ := hs
  exact ⟨⟨V, ar8_ne a4 (by omega)⟩, ⟨W, ar8_ne a7 (by omega)⟩, dep, L, lvM_sam hl (fun b h1 h2 => hp_gn (by omega))⟩
theorem scL_1 {h : zz_H} {M : Nat} {e : zz_E} (hs : scL h M) : scL (hp_s h (M + 1) e) M := by
  obtain ⟨⟨V, a4⟩, ⟨W, a7⟩, dep, L, hl⟩ := hs
  exact ⟨⟨V, ar8_ne a4 (by omega)⟩, ⟨W, ar8_ne a7 (by omega)⟩, dep, L, lvM_sam hl (fun b h1 h2 => hp_gn (by omega))⟩
/-- a fault stands there -/
def mF (k : zz_H) (M : Nat) (mt mu : Int32) (t : Nat → Nat) (tl : Nat) (a b : Nat) : Prop := 0 < a ∧ a < 10 ∧ scL k M ∧ ∃ s me mf mw, hp_g k M = some (mdT M mt (nI a) (nI b) mu t tl s me mf mw)
theorem m_fact (hq : mQ h M mt mu t tl T A s dep true fc wk L) (hT : tpR T t) (htl : tl ≤ 600) (hr : RS A 0 p rk tg ch ba) (hc : CI p rk tg f ch ba) : match stepP t tl p f s dep true fc wk L with
    | .inl (a, b) => ∃ k, zz_run 247 [.ref M] h = some (some (.int (nI 1)), k) ∧ mF k M mt mu t tl a b ∧ frX h k M
    | .inr (dep', fd', fc', wk', L') => ∃ k, zz_run 247 [.ref M] h = some (some (.int (bI (!fd'))), k) ∧ mQ k M mt mu t tl T A (advP t tl s) dep' fd' fc' wk' L' ∧ frX h k M := by
  obtain ⟨w0, wA, wT, hl, ⟨V4, a4⟩, ⟨V7, a7⟩, hs, hd, h30, _⟩ := hq
  have n1f : ((1 : Nat) = 0) = False := eq_false (by omega)
  have iA_ := t_isWord w0 (kw_16 t tl s)
  have iN := t_isName w0
  have ig := m_isGood w0
  rw [decide_eq_true rfl] at ig
  have a1 := adv_le (t := t) hs
  have t256 : s < tl → t s < 256 := fun hs' => (hT s (by omega)).2
  -- a fact that came
  have fin : ∀ (k1 : zz_H) (x : Nat → Int32) (l1 l2 l3 : Option Value), hp_g k1 M = some (mdT M mt (nI 0) (-1) mu t tl s (nI dep) (nI (fc + 1)) (nI wk)) → hp_g k1 (M + 1) = some (iA 12639 A) → hp_g k1 (M + 2) = some (iA 600 T) → lvM k1 M dep L → ar8 k1 (M + 4) V4 → ar8 k1 (M + 7) x → frX h k1 M → fc < 30 → ∃ k, zz_Y 247 (138, [some (.ref M), l1, l2, l3], [], k1) = some (some (.int (nI 1)), k) ∧ mQ k M mt mu t tl T A (advP t tl s) dep false (fc + 1) (wk + (comeL (L dep) x).2) (upL L dep (comeL (L dep) x).1) ∧ frX h k M := by
    intro k1 x l1 l2 l3 v0 vA vT vl v4 v7 vf hfc
    have tk := t_takes v0 vT hT htl hs
    obtain ⟨k, e, u0, ul, u7, u4, uf⟩ := m_comes (h := hp_s k1 M (mdT M mt (nI 0) (-1) mu t tl (advP t tl s) (nI dep) (nI (fc + 1)) (nI wk))) (L := L) (hp_gs _ _ _) hd (lvM_sam vl (fun b h1 h2 => hp_gn (by omega))) (ar8_ne v7 (by omega)) (ar8_ne v4 (by omega))
    refine ⟨k, ?_, ⟨u0, ?_, ?_, ul, u4, ⟨_, u7⟩, a1.2.1, hd, by omega, fun _ => ?_⟩, frX_trans vf (frX_trans (frX_s (frX_refl _ _) (Or.inl rfl)) uf)⟩
    · simp (disch := first | assumption | exact zz_nl_i _ | exact zz_nl_r _ | exact zz_nl_n | exact okv_i _ | exact okv_j _ | exact okv_0 | exact okv_1 | exact okv_o _ _ | exact okv_a _ _ | exact bI_okr _ | omega | exact llt_0 | ((repeat apply llt_s) <;> exact llt_0) | fail) only [x247_p0, x247_p1, xb247, tk, e, mo_k_v, mo_k_n, mo_v_e, mo_gf_e, mo_pf_e, mo_ia_e, mo_ba_e, mo_za_e, mo_la_e, mo_aa_e, mo_le_e, mo_is_e, mo_bs_e, mo_zs_0, mo_zs_1, mo_ls_e, mo_as_e, mo_na_e, mo_aci_e, mo_acb_e, mo_acj_e, hp_gs, hp_gn, hp_ss, List.getElem?_cons_zero, List.getElem?_cons_succ, List.set_cons_zero, List.set_cons_succ]
    · exact (uf.2.1 _ (by omega) (by omega)).trans ((hp_gn (by omega)).trans vA)
    · exact (uf.2.1 _ (by omega) (by omega)).trans ((hp_gn (by omega)).trans vT)
    · rw [upL_eq]
      unfold comeL
      split <;> rfl
  unfold stepP
  rw [if_pos rfl]
  by_cases c2 : kdP t tl s = 2
  · rw [if_pos c2]
    have c16 : ¬ kdP t tl s = 16 := by omega
    rw [decide_eq_false c16] at iA_
    rw [decide_eq_true c2] at iN
    have vb := t_valueBy w0 wA hr (by omega) ((kd_wtk t tl s).1.mp (Or.inl c2))
    by_cases c3 : vnP p (wP t tl s) < pnv p
    · rw [if_neg (fun z => z c3)]
      rw [if_pos c3] at vb
      have cn : ¬ nI (vnP p (wP t tl s)) < nI 0 := nI_nlt0 (by have := hr.1.2.1; omega)
      by_cases c4 : fc < 30
      · rw [if_neg (fun z => z c4)]
        have c4n : ¬ fc = 30 := by omega
        have v0 : hp_g (hp_s h M (mdT M mt (nI 0) (-1) mu t tl s (nI dep) (nI (fc + 1)) (nI wk))) M = some (mdT M mt (nI 0) (-1) mu t tl s (nI dep) (nI (fc + 1)) (nI wk)) := hp_gs _ _ _
        have vA : hp_g (hp_s h M (mdT M mt (nI 0) (-1) mu t tl s (nI dep) (nI (fc + 1)) (nI wk))) (M + 1) = some (iA 12639 A) := (hp_gn (by omega)).trans wA
        obtain ⟨k1, e1, s1, f1⟩ := m_laysSet v0 vA hr hc (ar8_ne a7 (by omega)) (by omega) (by omega) c3
        obtain ⟨k, e, q, fr⟩ := fin k1 (rw8 f (vnP p (wP t tl s))) (some (.int (nI 0))) (some (.int (nI (vnP p (wP t tl s))))) none ((f1.2.2.2 _ (by omega)).trans v0) ((f1.2.2.2 _ (by omega)).trans vA) ((f1.2.2.2 _ (by omega)).trans ((hp_gn (by omega)).trans wT)) (lvM_sam (lvM_sam hl (fun b h1 h2 => hp_gn (by omega))) (frm_sam f1 (by omega))) (ar8_sam (ar8_ne a4 (by omega)) (f1.2.2.2 _ (by omega))) s1 ⟨frm_trans (frm_s ⟨by omega, by omega⟩ (frm_refl _ _ _)) (frm_mono f1 (by omega) (by omega)), fun b h1 h2 => (f1.2.2.2 b (by omega)).trans (hp_gn (by omega)), fun b h1 h2 => (f1.2.2.2 b (by omega)).trans (hp_gn (by omega)), fun b h1 h2 => (f1.2.2.2 b (by omega)).trans (hp_gn (by omega))⟩ c4
        refine ⟨k, ?_, q, fr⟩
        rw [show bI (!false) = nI 1 from rfl, ← e, en247 w0]
        simp (disch := first | assumption | exact zz_nl_i _ | exact zz_nl_r _ | exact zz_nl_n | exact okv_i _ | exact okv_j _ | exact okv_0 | exact okv_1 | exact okv_o _ _ | exact okv_a _ _ | exact bI_okr _ | omega | exact llt_0 | ((repeat apply llt_s) <;> exact llt_0) | fail) only [x247_p0, x247_p1, xb247, iA_, bI_f, if_true, iN, bI_t, nI_eq, n1f, if_false, w0, vb, cn, c4n, ig, nI_add, e1, mo_k_v, mo_k_n, mo_v_e, mo_gf_e, mo_pf_e, mo_ia_e, mo_ba_e, mo_za_e, mo_la_e, mo_aa_e, mo_le_e, mo_is_e, mo_bs_e, mo_zs_0, mo_zs_1, mo_ls_e, mo_as_e, mo_na_e, mo_aci_e, mo_acb_e, mo_acj_e, hp_gs, hp_gn, hp_ss, List.getElem?_cons_zero, List.getElem?_cons_succ, List.set_cons_zero, List.set_cons_succ]
      · rw [if_pos c4]
        have c4n : fc = 30 := by omega
        have fl := m_fails0 w0 (nI 7) (nI s)
        have ig2 := m_isGood (h := hp_s h M (mdT M mt (nI 7) (nI s) mu t tl s (nI dep) (nI fc) (nI wk))) (hp_gs _ _ _)
        rw [decide_eq_false (nz (show 0 < 7 by omega) (by omega)).1] at ig2
        refine ⟨_, ?_, ⟨by omega, by omega, scL_s ⟨⟨V4, a4⟩, ⟨V7, a7⟩, dep, L, hl⟩, s, nI dep, nI fc, nI wk, hp_gs _ _ _⟩, frX_s (frX_refl _ _) (Or.inl rfl)⟩
        rw [en247 w0]
        simp (disch := first | assumption | exact zz_nl_i _ | exact zz_nl_r _ | exact zz_nl_n | exact okv_i _ | exact okv_j _ | exact okv_0 | exact okv_1 | exact okv_o _ _ | exact okv_a _ _ | exact bI_okr _ | omega | exact llt_0 | ((repeat apply llt_s) <;> exact llt_0) | fail) only [x247_p0, x247_p1, xb247, iA_, bI_f, if_true, iN, bI_t, nI_eq, n1f, if_false, w0, vb, cn, eq_true c4n, fl, ig2, mo_k_v, mo_k_n, mo_v_e, mo_gf_e, mo_pf_e, mo_ia_e, mo_ba_e, mo_za_e, mo_la_e, mo_aa_e, mo_le_e, mo_is_e, mo_bs_e, mo_zs_0, mo_zs_1, mo_ls_e, mo_as_e, mo_na_e, mo_aci_e, mo_acb_e, mo_acj_e, hp_gs, hp_gn, hp_ss, List.getElem?_cons_zero, List.getElem?_cons_succ, List.set_cons_zero, List.set_cons_succ]
    · rw [if_pos c3]
      rw [if_neg c3] at vb
      have fl := m_fails0 w0 (nI 3) (nI s)
      have z3 := nz (show 0 < 3 by omega) (by omega)
      have v0 : hp_g (hp_s h M (mdT M mt (nI 3) (nI s) mu t tl s (nI dep) (nI fc) (nI wk))) M = some (mdT M mt (nI 3) (nI s) mu t tl s (nI dep) (nI fc) (nI wk)) := hp_gs _ _ _
      have fl2 := m_fails1 v0 z3.2 (nI 7) (nI s)
      have ig2 := m_isGood v0
      rw [decide_eq_false z3.1] at ig2
      refine ⟨_, ?_, ⟨by omega, by omega, scL_s ⟨⟨V4, a4⟩, ⟨V7, a7⟩, dep, L, hl⟩, s, nI dep, nI fc, nI wk, v0⟩, frX_s (frX_refl _ _) (Or.inl rfl)⟩
      rw [en247 w0]
      by_cases c4n : fc = 30
      · simp (disch := first | assumption | exact zz_nl_i _ | exact zz_nl_r _ | exact zz_nl_n | exact okv_i _ | exact okv_j _ | exact okv_0 | exact okv_1 | exact okv_o _ _ | exact okv_a _ _ | exact bI_okr _ | omega | exact llt_0 | ((repeat apply llt_s) <;> exact llt_0) | fail) only [x247_p0, x247_p1, xb247, iA_, bI_f, if_true, iN, bI_t, nI_eq, n1f, if_false, w0, vb, eq_true m1_lt0, fl, eq_true c4n, fl2, ig2, mo_k_v, mo_k_n, mo_v_e, mo_gf_e, mo_pf_e, mo_ia_e, mo_ba_e, mo_za_e, mo_la_e, mo_aa_e, mo_le_e, mo_is_e, mo_bs_e, mo_zs_0, mo_zs_1, mo_ls_e, mo_as_e, mo_na_e, mo_aci_e, mo_acb_e, mo_acj_e, hp_gs, hp_gn, hp_ss, List.getElem?_cons_zero, List.getElem?_cons_succ, List.set_cons_zero, List.set_cons_succ]
      · simp (disch := first | assumption | exact zz_nl_i _ | exact zz_nl_r _ | exact zz_nl_n | exact okv_i _ | exact okv_j _ | exact okv_0 | exact okv_1 | exact okv_o _ _ | exact okv_a _ _ | exact bI_okr _ | omega | exact llt_0 | ((repeat apply llt_s) <;> exact llt_0) | fail) only [x247_p0, x247_p1, xb247, iA_, bI_f, if_true, iN, bI_t, nI_eq, n1f, if_false, w0, vb, eq_true m1_lt0, fl, c4n, ig2, mo_k_v, mo_k_n, mo_v_e, mo_gf_e, mo_pf_e, mo_ia_e, mo_ba_e, mo_za_e, mo_la_e, mo_aa_e, mo_le_e, mo_is_e, mo_bs_e, mo_zs_0, mo_zs_1, mo_ls_e, mo_as_e, mo_na_e, mo_aci_e, mo_acb_e, mo_acj_e, hp_gs, hp_gn, hp_ss, List.getElem?_cons_zero, List.getElem?_cons_succ, List.set_cons_zero, List.set_cons_succ]
  · rw [if_neg c2]
    rw [decide_eq_false c2] at iN
    by_cases c16 : kdP t tl s = 16
    · rw [if_pos c16]
      rw [decide_eq_true c16] at iA_
      by_cases c4 : fc < 30
      · rw [if_neg (fun z => z c4)]
        have c4n : ¬ fc = 30 := by omega
        obtain ⟨g7, hg7, _⟩ := a7
        have l := lp_arr (N := 8) (St := fun b k => zz_Y 247 (98, [some (.ref (M)), some (.int (nI (1))), some (.int (-1)), some (.int (nI (b)))], [], k)) (h := hp_s h M (mdT M mt (nI 0) (-1) mu t tl s (nI dep) (nI (fc + 1)) (nI wk))) (c := M + 7) (n := 8) (g := g7) (fun b _ => A (294 + b)) ((hp_gn (by omega)).trans hg7) (fun b g hb => by
          rw [x247_c98]
          simp (disch := first | assumption | exact zz_nl_i _ | exact zz_nl_r _ | exact zz_nl_n | exact okv_i _ | exact okv_j _ | exact okv_0 | exact okv_1 | exact okv_o _ _ | exact okv_a _ _ | exact bI_okr _ | omega | exact llt_0 | ((repeat apply llt_s) <;> exact llt_0) | fail) only [x247_p0, x247_p1, xb247, nI_ltI, hb, if_true, nI_add, wA, mo_k_v, mo_k_n, mo_v_e, mo_gf_e, mo_pf_e, mo_ia_e, mo_ba_e, mo_za_e, mo_la_e, mo_aa_e, mo_le_e, mo_is_e, mo_bs_e, mo_zs_0, mo_zs_1, mo_ls_e, mo_as_e, mo_na_e, mo_aci_e, mo_acb_e, mo_acj_e, hp_gs, hp_gn, hp_ss, List.getElem?_cons_zero, List.getElem?_cons_succ, List.set_cons_zero, List.set_cons_succ])
        obtain ⟨k, e, q, fr⟩ := fin (hp_s (hp_s h M (mdT M mt (nI 0) (-1) mu t tl s (nI dep) (nI (fc + 1)) (nI wk))) (M + 7) (iA 8 (mpa 8 (fun b _ => A (294 + b)) g7))) (rw8 f 20) (some (.int (nI 1))) (some (.int (-1))) (some (.int (nI 8))) ((hp_gn (by omega)).trans (hp_gs _ _ _)) ((hp_gn (by omega)).trans ((hp_gn (by omega)).trans wA)) ((hp_gn (by omega)).trans ((hp_gn (by omega)).trans wT)) (lvM_sam hl (fun b h1 h2 => (hp_gn (by omega)).trans (hp_gn (by omega)))) (ar8_ne (ar8_ne a4 (by omega)) (by omega)) ⟨_, hp_gs _ _ _, fun b hb => (mpa_in hb).trans (there_eq hr hc hb)⟩ (frX_s (frX_s (frX_refl _ _) (Or.inl rfl)) (by omega)) c4
        refine ⟨k, ?_, q, fr⟩
        rw [show bI (!false) = nI 1 from rfl, ← e, en247 w0]
        simp (disch := first | assumption | exact zz_nl_i _ | exact zz_nl_r _ | exact zz_nl_n | exact okv_i _ | exact okv_j _ | exact okv_0 | exact okv_1 | exact okv_o _ _ | exact okv_a _ _ | exact bI_okr _ | omega | exact llt_0 | ((repeat apply llt_s) <;> exact llt_0) | fail) only [x247_p0, x247_p1, xb247, iA_, bI_t, nI_eq, n1f, if_false, w0, c4n, ig, nI_add, mo_k_v, mo_k_n, mo_v_e, mo_gf_e, mo_pf_e, mo_ia_e, mo_ba_e, mo_za_e, mo_la_e, mo_aa_e, mo_le_e, mo_is_e, mo_bs_e, mo_zs_0, mo_zs_1, mo_ls_e, mo_as_e, mo_na_e, mo_aci_e, mo_acb_e, mo_acj_e, hp_gs, hp_gn, hp_ss, List.getElem?_cons_zero, List.getElem?_cons_succ, List.set_cons_zero, List.set_cons_succ]
        rw [l, x247_c98]
        simp (disch := first | assumption | exact zz_nl_i _ | exact zz_nl_r _ | exact zz_nl_n | exact okv_i _ | exact okv_j _ | exact okv_0 | exact okv_1 | exact okv_o _ _ | exact okv_a _ _ | exact bI_okr _ | omega | exact llt_0 | ((repeat apply llt_s) <;> exact llt_0) | fail) only [x247_p0, x247_p1, xb247, nI_ltI, Nat.lt_irrefl, if_false, mo_k_v, mo_k_n, mo_v_e, mo_gf_e, mo_pf_e, mo_ia_e, mo_ba_e, mo_za_e, mo_la_e, mo_aa_e, mo_le_e, mo_is_e, mo_bs_e, mo_zs_0, mo_zs_1, mo_ls_e, mo_as_e, mo_na_e, mo_aci_e, mo_acb_e, mo_acj_e, hp_gs, hp_gn, hp_ss, List.getElem?_cons_zero, List.getElem?_cons_succ, List.set_cons_zero, List.set_cons_succ]
      · rw [if_pos c4]
        have c4n : fc = 30 := by omega
        have fl := m_fails0 w0 (nI 7) (nI s)
        have ig2 := m_isGood (h := hp_s h M (mdT M mt (nI 7) (nI s) mu t tl s (nI dep) (nI fc) (nI wk))) (hp_gs _ _ _)
        rw [decide_eq_false (nz (show 0 < 7 by omega) (by omega)).1] at ig2
        refine ⟨_, ?_, ⟨by omega, by omega, scL_s ⟨⟨V4, a4⟩, ⟨V7, a7⟩, dep, L, hl⟩, s, nI dep, nI fc, nI wk, hp_gs _ _ _⟩, frX_s (frX_refl _ _) (Or.inl rfl)⟩
        rw [en247 w0]
        simp (disch := first | assumption | exact zz_nl_i _ | exact zz_nl_r _ | exact zz_nl_n | exact okv_i _ | exact okv_j _ | exact okv_0 | exact okv_1 | exact okv_o _ _ | exact okv_a _ _ | exact bI_okr _ | omega | exact llt_0 | ((repeat apply llt_s) <;> exact llt_0) | fail) only [x247_p0, x247_p1, xb247, iA_, bI_t, nI_eq, n1f, if_false, w0, eq_true c4n, if_true, fl, ig2, bI_f, mo_k_v, mo_k_n, mo_v_e, mo_gf_e, mo_pf_e, mo_ia_e, mo_ba_e, mo_za_e, mo_la_e, mo_aa_e, mo_le_e, mo_is_e, mo_bs_e, mo_zs_0, mo_zs_1, mo_ls_e, mo_as_e, mo_na_e, mo_aci_e, mo_acb_e, mo_acj_e, hp_gs, hp_gn, hp_ss, List.getElem?_cons_zero, List.getElem?_cons_succ, List.set_cons_zero, List.set_cons_succ]
    · rw [if_neg c16]
      rw [decide_eq_false c16] at iA_
      have iS := t_isSign w0 (k := 5) (b := 91) (by omega) (kw_s t256 (Or.inr (Or.inl ⟨rfl, rfl⟩)))
      by_cases c5 : kdP t tl s = 5
      · rw [if_pos c5]
        rw [decide_eq_true c5] at iS
        by_cases c6 : dep < 6
        · rw [if_neg (fun z => z c6)]
          have c6n : ¬ dep = 6 := by omega
          have tk := t_takes w0 wT hT htl hs
          obtain ⟨o, pa, go, ho, hqq, m10, m11, m12, m13, m14, hlv⟩ := hl
          obtain ⟨k, e, u0, ul, u4, u7, uf⟩ := m_opens (h := hp_s h M (mdT M mt (nI 0) (-1) mu t tl (advP t tl s) (nI (dep + 1)) (nI fc) (nI wk))) (dep := dep + 1) (L := L) (hp_gs _ _ _) (by omega) ⟨o, pa, go, ho, hqq, (hp_gn (by omega)).trans m10, (hp_gn (by omega)).trans m11, (hp_gn (by omega)).trans m12, (hp_gn (by omega)).trans m13, (hp_gn (by omega)).trans m14, fun d hdd => hlv d (by omega)⟩
          refine ⟨k, ?_, ⟨u0.trans (hp_gs _ _ _), ?_, ?_, ul, ⟨V4, ar8_sam (ar8_ne a4 (by omega)) u4⟩, ⟨V7, ar8_sam (ar8_ne a7 (by omega)) u7⟩, a1.2.1, by omega, h30, fun z => by cases z⟩, frX_trans (frX_s (frX_refl _ _) (Or.inl rfl)) uf⟩
          · rw [show bI (!true) = nI 0 from rfl, en247 w0]
            simp (disch := first | assumption | exact zz_nl_i _ | exact zz_nl_r _ | exact zz_nl_n | exact okv_i _ | exact okv_j _ | exact okv_0 | exact okv_1 | exact okv_o _ _ | exact okv_a _ _ | exact bI_okr _ | omega | exact llt_0 | ((repeat apply llt_s) <;> exact llt_0) | fail) only [x247_p0, x247_p1, xb247, iA_, bI_f, if_true, iN, iS, bI_t, nI_eq, n1f, if_false, w0, c6n, ig, tk, nI_add, e, mo_k_v, mo_k_n, mo_v_e, mo_gf_e, mo_pf_e, mo_ia_e, mo_ba_e, mo_za_e, mo_la_e, mo_aa_e, mo_le_e, mo_is_e, mo_bs_e, mo_zs_0, mo_zs_1, mo_ls_e, mo_as_e, mo_na_e, mo_aci_e, mo_acb_e, mo_acj_e, hp_gs, hp_gn, hp_ss, List.getElem?_cons_zero, List.getElem?_cons_succ, List.set_cons_zero, List.set_cons_succ]
          · exact (uf.2.1 _ (by omega) (by omega)).trans ((hp_gn (by omega)).trans wA)
          · exact (uf.2.1 _ (by omega) (by omega)).trans ((hp_gn (by omega)).trans wT)
        · rw [if_pos c6]
          have c6n : dep = 6 := by omega
          have fl := m_fails0 w0 (nI 8) (nI s)
          have ig2 := m_isGood (h := hp_s h M (mdT M mt (nI 8) (nI s) mu t tl s (nI dep) (nI fc) (nI wk))) (hp_gs _ _ _)
          rw [decide_eq_false (nz (show 0 < 8 by omega) (by omega)).1] at ig2
          refine ⟨_, ?_, ⟨by omega, by omega, scL_s ⟨⟨V4, a4⟩, ⟨V7, a7⟩, dep, L, hl⟩, s, nI dep, nI fc, nI wk, hp_gs _ _ _⟩, frX_s (frX_refl _ _) (Or.inl rfl)⟩
          rw [en247 w0]
          simp (disch := first | assumption | exact zz_nl_i _ | exact zz_nl_r _ | exact zz_nl_n | exact okv_i _ | exact okv_j _ | exact okv_0 | exact okv_1 | exact okv_o _ _ | exact okv_a _ _ | exact bI_okr _ | omega | exact llt_0 | ((repeat apply llt_s) <;> exact llt_0) | fail) only [x247_p0, x247_p1, xb247, iA_, bI_f, if_true, iN, iS, bI_t, nI_eq, n1f, if_false, w0, eq_true c6n, fl, ig2, mo_k_v, mo_k_n, mo_v_e, mo_gf_e, mo_pf_e, mo_ia_e, mo_ba_e, mo_za_e, mo_la_e, mo_aa_e, mo_le_e, mo_is_e, mo_bs_e, mo_zs_0, mo_zs_1, mo_ls_e, mo_as_e, mo_na_e, mo_aci_e, mo_acb_e, mo_acj_e, hp_gs, hp_gn, hp_ss, List.getElem?_cons_zero, List.getElem?_cons_succ, List.set_cons_zero, List.set_cons_succ]
      · rw [if_neg c5]
        rw [decide_eq_false c5] at iS
        have fl := m_fails0 w0 (nI 1) (nI s)
        refine ⟨_, ?_, ⟨by omega, by omega, scL_s ⟨⟨V4, a4⟩, ⟨V7, a7⟩, dep, L, hl⟩, s, nI dep, nI fc, nI wk, hp_gs _ _ _⟩, frX_s (frX_refl _ _) (Or.inl rfl)⟩
        rw [en247 w0]
        simp (disch := first | assumption | exact zz_nl_i _ | exact zz_nl_r _ | exact zz_nl_n | exact okv_i _ | exact okv_j _ | exact okv_0 | exact okv_1 | exact okv_o _ _ | exact okv_a _ _ | exact bI_okr _ | omega | exact llt_0 | ((repeat apply llt_s) <;> exact llt_0) | fail) only [x247_p0, x247_p1, xb247, iA_, bI_f, if_true, iN, iS, w0, fl, mo_k_v, mo_k_n, mo_v_e, mo_gf_e, mo_pf_e, mo_ia_e, mo_ba_e, mo_za_e, mo_la_e, mo_aa_e, mo_le_e, mo_is_e, mo_bs_e, mo_zs_0, mo_zs_1, mo_ls_e, mo_as_e, mo_na_e, mo_aci_e, mo_acb_e, mo_acj_e, hp_gs, hp_gn, hp_ss, List.getElem?_cons_zero, List.getElem?_cons_succ, List.set_cons_zero, List.set_cons_succ]
end
