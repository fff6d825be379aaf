/-! the reference: what is left -/
section
variable {h : zz_H} {M : Nat} {A : Nat → Int32} {mt mk mp mu ms mn mo ml : Int32} {mv : Int64} {me mf mw : Int32} {p : Pl} {rk tg f ch ba : Nat → Int32}
def wnt (p : Pl) (ch : Nat → Int32) (d v : Nat) : Prop := pho p v = nI d ∧ ch v = nI 1
def oneB (p : Pl) (fb : Nat → Bool) (ch : Nat → Int32) (d : Nat) (an : Bool) (n : Nat) : Prop := if an = true then ∃ v, v < n ∧ wnt p ch d v ∧ fb v = true else ∀ v, v < n → wnt p ch d v → fb v = true
theorem oneB_no {p : Pl} {fb : Nat → Bool} {ch : Nat → Int32} {d n : Nat} {an : Bool} (hn : ¬ wnt p ch d n) : oneB p fb ch d an (n + 1) ↔ oneB p fb ch d an n := by
  unfold oneB
  cases an
  · rw [if_neg (by decide), if_neg (by decide)]
    exact ⟨fun a v h1 h2 => a v (by omega) h2, fun a v h1 h2 => a v (by (have : v ≠ n := fun e => hn (e ▸ h2)); omega) h2⟩
  · rw [if_pos rfl, if_pos rfl]
    exact ⟨fun ⟨v, h1, h2⟩ => ⟨v, by (have : v ≠ n := fun e => hn (e ▸ h2.1)); omega, h2⟩, fun ⟨v, h1, h2⟩ => ⟨v, by omega, h2⟩⟩
theorem oneB_yes {p : Pl} {fb : Nat → Bool} {ch : Nat → Int32} {d n : Nat} {an : Bool} (hn : wnt p ch d n) : oneB p fb ch d an (n + 1) ↔ if an = true then (oneB p fb ch d an n ∨ fb n = true) else (oneB p fb ch d an n ∧ fb n = true) := by
  unfold oneB
  cases an
  · rw [if_neg (by decide), if_neg (by decide), if_neg (by decide)]
    constructor
    · exact fun a => ⟨fun v h1 h2 => a v (by omega) h2, a n (by omega) hn⟩
    · rintro ⟨a, b⟩ v h1 h2
      by_cases e : v = n
      · subst e; exact b
      · exact a v (by omega) h2
  · rw [if_pos rfl, if_pos rfl, if_pos rfl]
    constructor
    · rintro ⟨v, h1, h2, h3⟩
      by_cases e : v = n
      · subst e; exact Or.inr h3
      · exact Or.inl ⟨v, by omega, h2, h3⟩
    · rintro (⟨v, h1, h2⟩ | a)
      · exact ⟨v, by omega, h2⟩
      · exact ⟨n, by omega, hn, a⟩
theorem m_goesBy (w0 : hp_g h M = some (mdO M mt mk mp mu ms mn mo ml mv me mf mw)) (wA : hp_g h (M + 1) = some (iA 12639 A)) (hr : RS A 0 p rk tg ch ba) (hc : CI p rk tg f ch ba) {d : Nat} (hd : d < pnh p) {R V1 V2 : Nat → Int32} (a4 : ar8 h (M + 4) V1) (a5 : ar8 h (M + 5) V2) (a6 : ar8 h (M + 6) R) : ∃ k R', zz_run 168 [.ref M, .int (nI d)] h = some (none, k) ∧ ar8 k (M + 6) R' ∧ (∀ b, b < 8 → ∀ i, i < 32 → (bt (R' b) i = true ↔ bt (R b) i = true ∧ okH p (fun v => bt (f (8 * v + b)) i) ch ba d)) ∧ (∃ W, ar8 k (M + 4) W) ∧ (∃ W, ar8 k (M + 5) W) ∧ frm h k (M + 4) (M + 7) := by
  have n10 := nI_01
  have rV := hr.2.2.1
  obtain ⟨r1, r2, r3, r4⟩ := hr.1
  rw [Nat.zero_add] at r4
  have rB := (hr.2.1 d hd).2.1
  rw [Nat.zero_add] at rB
  obtain ⟨an, han, st⟩ : ∃ an : Bool, (an = true ↔ ¬ ba d = nI 1) ∧ zz_run 168 [.ref M, .int (nI d)] h = zz_Y 168 (25, [some (.ref (M)), some (.int (nI (d))), some (.int (bI (an))), some (.int (bI (false))), some (.int (nI (0))), none], [], h) := by
    rcases (hc.2.1 d hd).2 with e | e
    · refine ⟨true, ⟨fun _ c => n10 (c.symm.trans e), fun _ => rfl⟩, ?_⟩
      rw [en168 w0]
      simp (disch := first | assumption | exact zz_nl_i _ | exact zz_nl_r _ | exact zz_nl_n | exact okv_i _ | exact okv_j _ | exact okv_0 | exact okv_1 | exact okv_o _ _ | exact okv_a _ _ | exact bI_okr _ | omega | exact llt_0 | ((repeat apply llt_s) <;> exact llt_0) | fail) only [x168_p0, x168_p1, w0, wA, m_headAt, nI_add, rB, e, if_true, bI_t, bI_f, mo_k_v, mo_k_n, mo_v_e, mo_gf_e, mo_pf_e, mo_ia_e, mo_ba_e, mo_za_e, mo_la_e, mo_aa_e, mo_le_e, mo_is_e, mo_bs_e, mo_zs_0, mo_zs_1, mo_ls_e, mo_as_e, mo_na_e, mo_aci_e, mo_acb_e, mo_acj_e, hp_gs, hp_gn, hp_ss, List.getElem?_cons_zero, List.getElem?_cons_succ, List.set_cons_zero, List.set_cons_succ]
    · refine ⟨false, ⟨fun c => (by cases c), fun c => absurd e c⟩, ?_⟩
      rw [en168 w0]
      simp (disch := first | assumption | exact zz_nl_i _ | exact zz_nl_r _ | exact zz_nl_n | exact okv_i _ | exact okv_j _ | exact okv_0 | exact okv_1 | exact okv_o _ _ | exact okv_a _ _ | exact bI_okr _ | omega | exact llt_0 | ((repeat apply llt_s) <;> exact llt_0) | fail) only [x168_p0, x168_p1, w0, wA, m_headAt, nI_add, rB, e, n10, if_false, bI_f, mo_k_v, mo_k_n, mo_v_e, mo_gf_e, mo_pf_e, mo_ia_e, mo_ba_e, mo_za_e, mo_la_e, mo_aa_e, mo_le_e, mo_is_e, mo_bs_e, mo_zs_0, mo_zs_1, mo_ls_e, mo_as_e, mo_na_e, mo_aci_e, mo_acb_e, mo_acj_e, hp_gs, hp_gn, hp_ss, List.getElem?_cons_zero, List.getElem?_cons_succ, List.set_cons_zero, List.set_cons_succ]
  obtain ⟨g4, hg4, _⟩ := a4
  have l1 := lp_arr (N := 8) (St := fun b k => zz_Y 168 (25, [some (.ref (M)), some (.int (nI (d))), some (.int (bI (an))), some (.int (bI (false))), some (.int (nI (b))), none], [], k)) (fun _ _ => if an = true then nI 0 else -1) hg4 (fun b g hb => by
    rw [x168_c25]
    cases an
    · simp (disch := first | assumption | exact zz_nl_i _ | exact zz_nl_r _ | exact zz_nl_n | exact okv_i _ | exact okv_j _ | exact okv_0 | exact okv_1 | exact okv_o _ _ | exact okv_a _ _ | exact bI_okr _ | omega | exact llt_0 | ((repeat apply llt_s) <;> exact llt_0) | fail) only [x168_p0, x168_p1, w0, nI_ltI, hb, if_true, bI_f, nI_add, Bool.false_eq_true, if_false, mo_k_v, mo_k_n, mo_v_e, mo_gf_e, mo_pf_e, mo_ia_e, mo_ba_e, mo_za_e, mo_la_e, mo_aa_e, mo_le_e, mo_is_e, mo_bs_e, mo_zs_0, mo_zs_1, mo_ls_e, mo_as_e, mo_na_e, mo_aci_e, mo_acb_e, mo_acj_e, hp_gs, hp_gn, hp_ss, List.getElem?_cons_zero, List.getElem?_cons_succ, List.set_cons_zero, List.set_cons_succ]
    · simp (disch := first | assumption | exact zz_nl_i _ | exact zz_nl_r _ | exact zz_nl_n | exact okv_i _ | exact okv_j _ | exact okv_0 | exact okv_1 | exact okv_o _ _ | exact okv_a _ _ | exact bI_okr _ | omega | exact llt_0 | ((repeat apply llt_s) <;> exact llt_0) | fail) only [x168_p0, x168_p1, w0, nI_ltI, hb, if_true, bI_t, n10, if_false, nI_add, mo_k_v, mo_k_n, mo_v_e, mo_gf_e, mo_pf_e, mo_ia_e, mo_ba_e, mo_za_e, mo_la_e, mo_aa_e, mo_le_e, mo_is_e, mo_bs_e, mo_zs_0, mo_zs_1, mo_ls_e, mo_as_e, mo_na_e, mo_aci_e, mo_acb_e, mo_acj_e, hp_gs, hp_gn, hp_ss, List.getElem?_cons_zero, List.getElem?_cons_succ, List.set_cons_zero, List.set_cons_succ])
  rw [st, l1, x168_c25]
  simp (disch := first | assumption | exact zz_nl_i _ | exact zz_nl_r _ | exact zz_nl_n | exact okv_i _ | exact okv_j _ | exact okv_0 | exact okv_1 | exact okv_o _ _ | exact okv_a _ _ | exact bI_okr _ | omega | exact llt_0 | ((repeat apply llt_s) <;> exact llt_0) | fail) only [x168_p0, x168_p1, nI_ltI, Nat.lt_irrefl, if_false, mo_k_v, mo_k_n, mo_v_e, mo_gf_e, mo_pf_e, mo_ia_e, mo_ba_e, mo_za_e, mo_la_e, mo_aa_e, mo_le_e, mo_is_e, mo_bs_e, mo_zs_0, mo_zs_1, mo_ls_e, mo_as_e, mo_na_e, mo_aci_e, mo_acb_e, mo_acj_e, hp_gs, hp_gn, hp_ss, List.getElem?_cons_zero, List.getElem?_cons_succ, List.set_cons_zero, List.set_cons_succ]
  have step : ∀ v (s : zz_H × Bool × Option Value), v < pnv p → ((∃ O, ar8 s.1 (M + 4) O ∧ ∀ b, b < 8 → ∀ i, i < 32 → (bt (O b) i = true ↔ oneB p (fun v => bt (f (8 * v + b)) i) ch d an v)) ∧ (∃ W, ar8 s.1 (M + 5) W) ∧ (s.2.1 = true ↔ ∃ u, u < v ∧ wnt p ch d u) ∧ frm h s.1 (M + 4) (M + 6) ∧ zz_nl s.2.2 = true) → ∃ s' : zz_H × Bool × Option Value, ((∃ O, ar8 s'.1 (M + 4) O ∧ ∀ b, b < 8 → ∀ i, i < 32 → (bt (O b) i = true ↔ oneB p (fun v => bt (f (8 * v + b)) i) ch d an (v + 1))) ∧ (∃ W, ar8 s'.1 (M + 5) W) ∧ (s'.2.1 = true ↔ ∃ u, u < v + 1 ∧ wnt p ch d u) ∧ frm h s'.1 (M + 4) (M + 6) ∧ zz_nl s'.2.2 = true) ∧ zz_Y 168 (57, [some (.ref (M)), some (.int (nI (d))), some (.int (bI (an))), some (.int (bI (s.2.1))), some (.int (nI (v))), s.2.2], [], s.1) = zz_Y 168 (57, [some (.ref (M)), some (.int (nI (d))), some (.int (bI (an))), some (.int (bI (s'.2.1))), some (.int (nI (v + 1))), s'.2.2], [], s'.1) := by
    rintro v ⟨k, is, o⟩ hv ⟨⟨O, hO, hOb⟩, ⟨W, hW⟩, his, hf, ho⟩
    dsimp only at hO hOb hW his hf ho ⊢
    have w0' := (hf.2.2.2 M (by omega)).trans w0
    have wA' := (hf.2.2.2 (M + 1) (by omega)).trans wA
    obtain ⟨q1, q2, q3, _⟩ := rV v hv
    rw [Nat.zero_add] at q1 q3
    rw [x168_c57]
    by_cases c : wnt p ch d v
    · obtain ⟨c1, c2⟩ := c
      have c1t := eq_true c1
      have c2t := eq_true c2
      obtain ⟨k2, e2, s2, f2⟩ := m_laysSet w0' wA' hr hc hW (by omega) (by omega) hv
      have w0'' := (f2.2.2.2 M (by omega)).trans w0'
      obtain ⟨gO, hgO, eO⟩ := ar8_sam hO (f2.2.2.2 (M + 4) (by omega))
      have s2' := s2
      obtain ⟨g5, hg5, e5⟩ := s2
      refine ⟨(hp_s k2 (M + 4) (iA 8 (mpa 8 (fun b x => if an = true then x ||| g5 b else x &&& g5 b) gO)), true, some (.int (nI 8))), ⟨⟨_, ⟨_, hp_gs _ _ _, fun _ _ => rfl⟩, fun b hb i hi => ?_⟩, ⟨_, ar8_ne s2' (by omega)⟩, ⟨fun _ => ⟨v, by omega, c1, c2⟩, fun _ => rfl⟩, frm_s ⟨by omega, by omega⟩ (frm_trans hf (frm_mono f2 (by omega) (by omega))), zz_nl_i _⟩, ?_⟩
      · rw [oneB_yes ⟨c1, c2⟩, mpa_in hb, eO b hb, ← hOb b hb i hi, e5 b hb]
        cases an
        · rw [if_neg (by decide), if_neg (by decide), b_and, Bool.and_eq_true]
          rfl
        · rw [if_pos rfl, if_pos rfl, b_or, Bool.or_eq_true]
          rfl
      · simp (disch := first | assumption | exact zz_nl_i _ | exact zz_nl_r _ | exact zz_nl_n | exact okv_i _ | exact okv_j _ | exact okv_0 | exact okv_1 | exact okv_o _ _ | exact okv_a _ _ | exact bI_okr _ | omega | exact llt_0 | ((repeat apply llt_s) <;> exact llt_0) | fail) only [x168_p0, x168_p1, w0', wA', r4, nI_ltI, hv, if_true, m_ofHead w0' wA' (show v < 20 by omega), q1, c1t, m_chosen w0' wA' (show v < 20 by omega), q3, c2t, e2, mo_k_v, mo_k_n, mo_v_e, mo_gf_e, mo_pf_e, mo_ia_e, mo_ba_e, mo_za_e, mo_la_e, mo_aa_e, mo_le_e, mo_is_e, mo_bs_e, mo_zs_0, mo_zs_1, mo_ls_e, mo_as_e, mo_na_e, mo_aci_e, mo_acb_e, mo_acj_e, hp_gs, hp_gn, hp_ss, List.getElem?_cons_zero, List.getElem?_cons_succ, List.set_cons_zero, List.set_cons_succ]
        have l2 := lp_arr (N := 8) (St := fun b k => zz_Y 168 (106, [some (.ref (M)), some (.int (nI (d))), some (.int (bI (an))), some (.int (nI (1))), some (.int (nI (v))), some (.int (nI (b)))], [], k)) (fun b x => if an = true then x ||| g5 b else x &&& g5 b) hgO (fun b g hb => by
          rw [x168_c106]
          cases an
          · simp (disch := first | assumption | exact zz_nl_i _ | exact zz_nl_r _ | exact zz_nl_n | exact okv_i _ | exact okv_j _ | exact okv_0 | exact okv_1 | exact okv_o _ _ | exact okv_a _ _ | exact bI_okr _ | omega | exact llt_0 | ((repeat apply llt_s) <;> exact llt_0) | fail) only [x168_p0, x168_p1, w0'', hg5, nI_ltI, hb, if_true, bI_f, nI_add, Bool.false_eq_true, if_false, mo_k_v, mo_k_n, mo_v_e, mo_gf_e, mo_pf_e, mo_ia_e, mo_ba_e, mo_za_e, mo_la_e, mo_aa_e, mo_le_e, mo_is_e, mo_bs_e, mo_zs_0, mo_zs_1, mo_ls_e, mo_as_e, mo_na_e, mo_aci_e, mo_acb_e, mo_acj_e, hp_gs, hp_gn, hp_ss, List.getElem?_cons_zero, List.getElem?_cons_succ, List.set_cons_zero, List.set_cons_succ]
          · simp (disch := first | assumption | exact zz_nl_i _ | exact zz_nl_r _ | exact zz_nl_n | exact okv_i _ | exact okv_j _ | exact okv_0 | exact okv_1 | exact okv_o _ _ | exact okv_a _ _ | exact bI_okr _ | omega | exact llt_0 | ((repeat apply llt_s) <;> exact llt_0) | fail) only [x168_p0, x168_p1, w0'', hg5, nI_ltI, hb, if_true, bI_t, n10, if_false, nI_add, mo_k_v, mo_k_n, mo_v_e, mo_gf_e, mo_pf_e, mo_ia_e, mo_ba_e, mo_za_e, mo_la_e, mo_aa_e, mo_le_e, mo_is_e, mo_bs_e, mo_zs_0, mo_zs_1, mo_ls_e, mo_as_e, mo_na_e, mo_aci_e, mo_acb_e, mo_acj_e, hp_gs, hp_gn, hp_ss, List.getElem?_cons_zero, List.getElem?_cons_succ, List.set_cons_zero, List.set_cons_succ])
        rw [l2, x168_c106]
        simp (disch := first | assumption | exact zz_nl_i _ | exact zz_nl_r _ | exact zz_nl_n | exact okv_i _ | exact okv_j _ | exact okv_0 | exact okv_1 | exact okv_o _ _ | exact okv_a _ _ | exact bI_okr _ | omega | exact llt_0 | ((repeat apply llt_s) <;> exact llt_0) | fail) only [x168_p0, x168_p1, nI_ltI, Nat.lt_irrefl, if_false, nI_add, bI_t, mo_k_v, mo_k_n, mo_v_e, mo_gf_e, mo_pf_e, mo_ia_e, mo_ba_e, mo_za_e, mo_la_e, mo_aa_e, mo_le_e, mo_is_e, mo_bs_e, mo_zs_0, mo_zs_1, mo_ls_e, mo_as_e, mo_na_e, mo_aci_e, mo_acb_e, mo_acj_e, hp_gs, hp_gn, hp_ss, List.getElem?_cons_zero, List.getElem?_cons_succ, List.set_cons_zero, List.set_cons_succ]
    · refine ⟨(k, is, o), ⟨⟨O, hO, fun b hb i hi => by rw [oneB_no c]; exact hOb b hb i hi⟩, ⟨W, hW⟩, ?_, hf, ho⟩, ?_⟩
      · dsimp only
        rw [his]
        exact ⟨fun ⟨u, h1, h2⟩ => ⟨u, by omega, h2⟩, fun ⟨u, h1, h2⟩ => ⟨u, by (have : u ≠ v := fun e => c (e ▸ h2)); omega, h2⟩⟩
      · by_cases c1 : pho p v = nI d
        · have c1t := eq_true c1
          have c2 : ¬ ch v = nI 1 := fun e => c ⟨c1, e⟩
          simp (disch := first | assumption | exact zz_nl_i _ | exact zz_nl_r _ | exact zz_nl_n | exact okv_i _ | exact okv_j _ | exact okv_0 | exact okv_1 | exact okv_o _ _ | exact okv_a _ _ | exact bI_okr _ | omega | exact llt_0 | ((repeat apply llt_s) <;> exact llt_0) | fail) only [x168_p0, x168_p1, w0', wA', r4, nI_ltI, hv, if_true, m_ofHead w0' wA' (show v < 20 by omega), q1, c1t, m_chosen w0' wA' (show v < 20 by omega), q3, c2, if_false, nI_add, mo_k_v, mo_k_n, mo_v_e, mo_gf_e, mo_pf_e, mo_ia_e, mo_ba_e, mo_za_e, mo_la_e, mo_aa_e, mo_le_e, mo_is_e, mo_bs_e, mo_zs_0, mo_zs_1, mo_ls_e, mo_as_e, mo_na_e, mo_aci_e, mo_acb_e, mo_acj_e, hp_gs, hp_gn, hp_ss, List.getElem?_cons_zero, List.getElem?_cons_succ, List.set_cons_zero, List.set_cons_succ]
        · simp (disch := first | assumption | exact zz_nl_i _ | exact zz_nl_r _ | exact zz_nl_n | exact okv_i _ | exact okv_j _ | exact okv_0 | exact okv_1 | exact okv_o _ _ | exact okv_a _ _ | exact bI_okr _ | omega | exact llt_0 | ((repeat apply llt_s) <;> exact llt_0) | fail) only [x168_p0, x168_p1, w0', wA', r4, nI_ltI, hv, if_true, m_ofHead w0' wA' (show v < 20 by omega), q1, c1, if_false, nI_add, mo_k_v, mo_k_n, mo_v_e, mo_gf_e, mo_pf_e, mo_ia_e, mo_ba_e, mo_za_e, mo_la_e, mo_aa_e, mo_le_e, mo_is_e, mo_bs_e, mo_zs_0, mo_zs_1, mo_ls_e, mo_as_e, mo_na_e, mo_aci_e, mo_acb_e, mo_acj_e, hp_gs, hp_gn, hp_ss, List.getElem?_cons_zero, List.getElem?_cons_succ, List.set_cons_zero, List.set_cons_succ]
  obtain ⟨⟨k, is, o⟩, ⟨⟨O, hO, hOb⟩, hW, his, hf, ho⟩, e⟩ := lp_ex (N := pnv p) (St := fun v (s : zz_H × Bool × Option Value) => zz_Y 168 (57, [some (.ref (M)), some (.int (nI (d))), some (.int (bI (an))), some (.int (bI (s.2.1))), some (.int (nI (v))), s.2.2], [], s.1)) step (s := (hp_s h (M + 4) (iA 8 (mpa 8 (fun _ _ => if an = true then nI 0 else -1) g4)), false, none)) ⟨⟨_, ⟨_, hp_gs _ _ _, fun b hb => mpa_in hb⟩, fun b hb i hi => by
    unfold oneB
    cases an
    · rw [if_neg (by decide), if_neg (by decide), b_m1 i hi]
      exact ⟨fun _ v h1 => by omega, fun _ => rfl⟩
    · rw [if_pos rfl, if_pos rfl, nI_0, b_0]
      exact ⟨fun c => (by cases c), fun ⟨v, h1, _⟩ => by omega⟩⟩, ⟨V2, ar8_ne a5 (by omega)⟩, ⟨fun c => (by cases c), fun ⟨v, h1, _⟩ => by omega⟩, frm_s ⟨by omega, by omega⟩ (frm_refl _ _ _), zz_nl_n⟩
  rw [bI_f] at e
  dsimp only at hO hOb hW his hf ho e
  have w0' := (hf.2.2.2 M (by omega)).trans w0
  have wA' := (hf.2.2.2 (M + 1) (by omega)).trans wA
  have hO' := hO
  obtain ⟨gO, hgO, eO⟩ := hO
  have h6 := ar8_sam a6 (hf.2.2.2 (M + 6) (by omega))
  have h6' := h6
  obtain ⟨g6, hg6, e6⟩ := h6
  cases is with
  | false =>
    refine ⟨k, R, ?_, h6', ?_, ⟨_, hO'⟩, hW, frm_mono hf (by omega) (by omega)⟩
    · refine e.trans ?_
      rw [x168_c57]
      simp (disch := first | assumption | exact zz_nl_i _ | exact zz_nl_r _ | exact zz_nl_n | exact okv_i _ | exact okv_j _ | exact okv_0 | exact okv_1 | exact okv_o _ _ | exact okv_a _ _ | exact bI_okr _ | omega | exact llt_0 | ((repeat apply llt_s) <;> exact llt_0) | fail) only [x168_p0, x168_p1, w0', wA', r4, nI_ltI, Nat.lt_irrefl, if_false, mo_k_v, mo_k_n, mo_v_e, mo_gf_e, mo_pf_e, mo_ia_e, mo_ba_e, mo_za_e, mo_la_e, mo_aa_e, mo_le_e, mo_is_e, mo_bs_e, mo_zs_0, mo_zs_1, mo_ls_e, mo_as_e, mo_na_e, mo_aci_e, mo_acb_e, mo_acj_e, hp_gs, hp_gn, hp_ss, List.getElem?_cons_zero, List.getElem?_cons_succ, List.set_cons_zero, List.set_cons_succ]
      rw [x168_c172]
      simp (disch := first | assumption | exact zz_nl_i _ | exact zz_nl_r _ | exact zz_nl_n | exact okv_i _ | exact okv_j _ | exact okv_0 | exact okv_1 | exact okv_o _ _ | exact okv_a _ _ | exact bI_okr _ | omega | exact llt_0 | ((repeat apply llt_s) <;> exact llt_0) | fail) only [x168_p0, x168_p1, nI_ltI, show (0 : Nat) < 8 from by omega, if_true, bI_f, mo_k_v, mo_k_n, mo_v_e, mo_gf_e, mo_pf_e, mo_ia_e, mo_ba_e, mo_za_e, mo_la_e, mo_aa_e, mo_le_e, mo_is_e, mo_bs_e, mo_zs_0, mo_zs_1, mo_ls_e, mo_as_e, mo_na_e, mo_aci_e, mo_acb_e, mo_acj_e, hp_gs, hp_gn, hp_ss, List.getElem?_cons_zero, List.getElem?_cons_succ, List.set_cons_zero, List.set_cons_succ]
    · intro b hb i hi
      refine ⟨fun a => ⟨a, Or.inl (fun v h1 h2 h3 => ?_)⟩, fun a => a.1⟩
      have := his.mpr ⟨v, h1, h2, h3⟩
      cases this
  | true =>
    refine ⟨hp_s k (M + 6) (iA 8 (mpa 8 (fun b x => x &&& gO b) g6)), fun b => R b &&& O b, ?_, ⟨_, hp_gs _ _ _, fun b hb => by rw [mpa_in hb, e6 b hb, eO b hb]⟩, ?_, ⟨_, ar8_ne hO' (by omega)⟩, ?_, frm_s ⟨by omega, by omega⟩ (frm_mono hf (by omega) (by omega))⟩
    · refine e.trans ?_
      rw [x168_c57]
      simp (disch := first | assumption | exact zz_nl_i _ | exact zz_nl_r _ | exact zz_nl_n | exact okv_i _ | exact okv_j _ | exact okv_0 | exact okv_1 | exact okv_o _ _ | exact okv_a _ _ | exact bI_okr _ | omega | exact llt_0 | ((repeat apply llt_s) <;> exact llt_0) | fail) only [x168_p0, x168_p1, w0', wA', r4, nI_ltI, Nat.lt_irrefl, if_false, mo_k_v, mo_k_n, mo_v_e, mo_gf_e, mo_pf_e, mo_ia_e, mo_ba_e, mo_za_e, mo_la_e, mo_aa_e, mo_le_e, mo_is_e, mo_bs_e, mo_zs_0, mo_zs_1, mo_ls_e, mo_as_e, mo_na_e, mo_aci_e, mo_acb_e, mo_acj_e, hp_gs, hp_gn, hp_ss, List.getElem?_cons_zero, List.getElem?_cons_succ, List.set_cons_zero, List.set_cons_succ]
      have l3 := lp_arr (N := 8) (St := fun b k => zz_Y 168 (172, [some (.ref (M)), some (.int (nI (d))), some (.int (bI (an))), some (.int (bI (true))), some (.int (nI (b))), o], [], k)) (fun b x => x &&& gO b) hg6 (fun b g hb => by
        rw [x168_c172]
        simp (disch := first | assumption | exact zz_nl_i _ | exact zz_nl_r _ | exact zz_nl_n | exact okv_i _ | exact okv_j _ | exact okv_0 | exact okv_1 | exact okv_o _ _ | exact okv_a _ _ | exact bI_okr _ | omega | exact llt_0 | ((repeat apply llt_s) <;> exact llt_0) | fail) only [x168_p0, x168_p1, w0', hgO, nI_ltI, hb, if_true, bI_t, n10, if_false, nI_add, mo_k_v, mo_k_n, mo_v_e, mo_gf_e, mo_pf_e, mo_ia_e, mo_ba_e, mo_za_e, mo_la_e, mo_aa_e, mo_le_e, mo_is_e, mo_bs_e, mo_zs_0, mo_zs_1, mo_ls_e, mo_as_e, mo_na_e, mo_aci_e, mo_acb_e, mo_acj_e, hp_gs, hp_gn, hp_ss, List.getElem?_cons_zero, List.getElem?_cons_succ, List.set_cons_zero, List.set_cons_succ])
      rw [l3, x168_c172]
      simp (disch := first | assumption | exact zz_nl_i _ | exact zz_nl_r _ | exact zz_nl_n | exact okv_i _ | exact okv_j _ | exact okv_0 | exact okv_1 | exact okv_o _ _ | exact okv_a _ _ | exact bI_okr _ | omega | exact llt_0 | ((repeat apply llt_s) <;> exact llt_0) | fail) only [x168_p0, x168_p1, nI_ltI, Nat.lt_irrefl, if_false, mo_k_v, mo_k_n, mo_v_e, mo_gf_e, mo_pf_e, mo_ia_e, mo_ba_e, mo_za_e, mo_la_e, mo_aa_e, mo_le_e, mo_is_e, mo_bs_e, mo_zs_0, mo_zs_1, mo_ls_e, mo_as_e, mo_na_e, mo_aci_e, mo_acb_e, mo_acj_e, hp_gs, hp_gn, hp_ss, List.getElem?_cons_zero, List.getElem?_cons_succ, List.set_cons_zero, List.set_cons_succ]
    · intro b hb i hi
      rw [b_and, Bool.and_eq_true, hOb b hb i hi]
      refine and_congr Iff.rfl ?_
      obtain ⟨u, h1, h2, h3⟩ := his.mp rfl
      have hno : ¬ ∀ v, v < pnv p → pho p v = nI d → ¬ ch v = nI 1 := fun a => a u h1 h2 h3
      unfold okH oneB
      cases an with
      | false =>
        have hb1 : ba d = nI 1 := Classical.byContradiction (fun c => by have := han.mpr c; cases this)
        rw [if_neg (by decide), if_pos hb1]
        exact ⟨fun a => Or.inr (fun v g1 g2 g3 => a v g1 ⟨g2, g3⟩), fun a => a.elim (fun c => absurd c hno) (fun c v g1 g2 => c v g1 g2.1 g2.2)⟩
      | true =>
        rw [if_pos rfl, if_neg (han.mp rfl)]
        exact ⟨fun ⟨v, g1, g2, g3⟩ => Or.inr ⟨v, g1, g2.1, g2.2, g3⟩, fun a => a.elim (fun c => absurd c hno) (fun ⟨v, g1, g2, g3, g4⟩ => ⟨v, g1, ⟨g2, g3⟩, g4⟩)⟩
    · obtain ⟨W, hW⟩ := hW
      exact ⟨W, ar8_ne hW (by omega)⟩
end
