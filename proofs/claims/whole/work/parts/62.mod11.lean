/-! the reference: told, both, alike, likes, spread -/
theorem lp_kthE {σ ρ : Type} {N : Nat} {St : Nat → Nat → σ → ρ} {p : Nat → Bool} {k : Int32} {R : Nat → σ → ρ} {I : σ → Prop} (hN : N < 2147483648) (hs : ∀ q c s, q < N → c ≤ q → I s → ∃ s', I s' ∧ St q c s = if p q = true then (if nI c = k then R q s' else St (q + 1) (c + 1) s') else St (q + 1) c s') {s : σ} (h0 : I s) : (∃ i s', i < N ∧ KT p N k = nI i ∧ I s' ∧ St 0 0 s = R i s') ∨ (KT p N k = -1 ∧ ∃ c s', c ≤ N ∧ I s' ∧ St 0 0 s = St N c s') := by
  have hle := fun q => fb_ct_le p q
  have key : ∀ m, m ≤ N → (∀ i, i < m → ¬ (p i = true ∧ nI (fb_ct p i) = k)) → ∃ s', I s' ∧ St 0 0 s = St m (fb_ct p m) s' := by
    intro m
    induction m with
    | zero => exact fun _ _ => ⟨s, h0, rfl⟩
    | succ m ih =>
      intro hm hno
      obtain ⟨t, ht, e⟩ := ih (by omega) (fun i hi => hno i (by omega))
      obtain ⟨t2, ht2, e2⟩ := hs m _ t (by omega) (hle m) ht
      refine ⟨t2, ht2, ?_⟩
      rw [e, e2, fb_ct_succ]
      have h1 := hno m (by omega)
      cases hp : p m
      · simp
      · have h2 : ¬ nI (fb_ct p m) = k := fun e => h1 ⟨hp, e⟩
        simp [h2]
  have none_case : (∀ i, i < N → ¬ (p i = true ∧ nI (fb_ct p i) = k)) → ∃ c s', c ≤ N ∧ I s' ∧ St 0 0 s = St N c s' := fun hno => by
    obtain ⟨t, ht, e⟩ := key N (Nat.le_refl N) hno
    exact ⟨_, t, hle N, ht, e⟩
  rcases neg_or k with hk | ⟨j, hj, rfl⟩
  · refine Or.inr ⟨KT_neg hk, none_case (fun i hi hc => ?_)⟩
    rw [← hc.2] at hk
    exact absurd hk (nI_nlt0 (by have := hle i; omega))
  · by_cases hlt : j < fb_ct p N
    · obtain ⟨i, hi, hp, hc⟩ := fb_ct_kth hlt
      obtain ⟨t, ht, e⟩ := key i (by omega) (fun i' hi' hc' => by
        have e1 := (nI_eq (by have := hle i'; omega) hj).mp hc'.2
        have e2 := fb_ct_kth_one hc'.1 hp (e1.trans hc.symm)
        omega)
      obtain ⟨t2, ht2, e2⟩ := hs i _ t hi (hle i) ht
      refine Or.inl ⟨i, t2, hi, by rw [KT_lt hlt hN, kth_of hi hp hc], ht2, ?_⟩
      rw [e, e2, hp, if_pos rfl, if_pos (by rw [hc])]
    · refine Or.inr ⟨KT_ge (by omega) hj, none_case (fun i hi hc => ?_)⟩
      have e1 := (nI_eq (by have := hle i; omega) hj).mp hc.2
      have e2 := fb_ct_mono p (show i + 1 ≤ N by omega)
      rw [fb_ct_succ, hc.1] at e2
      simp at e2
      omega
section
variable {h : zz_H} {M : Nat} {A : Nat → Int32} {mt mk mp mu ms mn mo ml : Int32} {mv : Int64} {me mf mw : Int32} {p : Pl} {rk tg f ch ba : Nat → Int32}
theorem m_told (w0 : hp_g h M = some (mdO M mt mk mp mu ms mn mo ml mv me mf mw)) (wA : hp_g h (M + 1) = some (iA 12639 A)) (hr : RS A 0 p rk tg ch ba) (hc : CI p rk tg f ch ba) (hs : scr3 h M) (id : Bool) (x : Int32) : ∃ k, zz_run 194 [.ref M, .int x, .int (bI id)] h = some (some (.int (KT (tdB p f ch ba id) (pnv p) x)), k) ∧ scr3 k M ∧ frm h k (M + 4) (M + 7) := by
  obtain ⟨r1, r2, r3, r4⟩ := hr.1
  rw [Nat.zero_add] at r4
  have n10 := nI_01
  have step : ∀ v c (k : zz_H), v < pnv p → c ≤ v → (scr3 k M ∧ frm h k (M + 4) (M + 7)) → ∃ k' : zz_H, (scr3 k' M ∧ frm h k' (M + 4) (M + 7)) ∧ zz_Y 194 (5, [some (.ref (M)), some (.int (x)), some (.int (bI (id))), some (.int (nI (c))), some (.int (nI (v)))], [], k) = if tdB p f ch ba id v = true then (if nI c = x then some (some (.int (nI v)), k') else zz_Y 194 (5, [some (.ref (M)), some (.int (x)), some (.int (bI (id))), some (.int (nI (c + 1))), some (.int (nI (v + 1)))], [], k')) else zz_Y 194 (5, [some (.ref (M)), some (.int (x)), some (.int (bI (id))), some (.int (nI (c))), some (.int (nI (v + 1)))], [], k') := by
    rintro v c k hv hcv ⟨hs, hf⟩
    have w0' := (hf.2.2.2 M (by omega)).trans w0
    have wA' := (hf.2.2.2 (M + 1) (by omega)).trans wA
    rw [x194_c5]
    cases id with
    | false =>
      obtain ⟨k2, e2, s2, f2⟩ := m_isSure w0' wA' hr hc hs hv
      refine ⟨k2, ⟨s2, frm_trans hf f2⟩, ?_⟩
      rw [show tdB p f ch ba false v = suB (fun b => lfW p f ch ba b (-1) (-1)) f ch v from rfl]
      cases c1 : suB (fun b => lfW p f ch ba b (-1) (-1)) f ch v
      · rw [c1] at e2
        simp (disch := first | assumption | exact zz_nl_i _ | exact zz_nl_r _ | exact zz_nl_n | exact okv_i _ | exact okv_j _ | exact okv_0 | exact okv_1 | exact okv_o _ _ | exact okv_a _ _ | exact bI_okr _ | omega | exact llt_0 | ((repeat apply llt_s) <;> exact llt_0) | fail) only [x194, w0', wA', r4, nI_ltI, hv, if_true, bI_f, e2, nI_add, Bool.false_eq_true, if_false, mo_k_v, mo_k_n, mo_v_e, mo_gf_e, mo_pf_e, mo_ia_e, mo_ba_e, mo_za_e, mo_la_e, mo_aa_e, mo_le_e, mo_is_e, mo_bs_e, mo_zs_0, mo_zs_1, mo_ls_e, mo_as_e, mo_na_e, mo_aci_e, mo_acb_e, mo_acj_e, hp_gs, hp_gn, hp_ss, List.getElem?_cons_zero, List.getElem?_cons_succ, List.set_cons_zero, List.set_cons_succ]
      · rw [c1] at e2
        by_cases c2 : nI c = x
        · simp (disch := first | assumption | exact zz_nl_i _ | exact zz_nl_r _ | exact zz_nl_n | exact okv_i _ | exact okv_j _ | exact okv_0 | exact okv_1 | exact okv_o _ _ | exact okv_a _ _ | exact bI_okr _ | omega | exact llt_0 | ((repeat apply llt_s) <;> exact llt_0) | fail) only [x194, w0', wA', r4, nI_ltI, hv, if_true, bI_f, e2, bI_t, n10, if_false, nI_add, eq_true c2, mo_k_v, mo_k_n, mo_v_e, mo_gf_e, mo_pf_e, mo_ia_e, mo_ba_e, mo_za_e, mo_la_e, mo_aa_e, mo_le_e, mo_is_e, mo_bs_e, mo_zs_0, mo_zs_1, mo_ls_e, mo_as_e, mo_na_e, mo_aci_e, mo_acb_e, mo_acj_e, hp_gs, hp_gn, hp_ss, List.getElem?_cons_zero, List.getElem?_cons_succ, List.set_cons_zero, List.set_cons_succ]
        · simp (disch := first | assumption | exact zz_nl_i _ | exact zz_nl_r _ | exact zz_nl_n | exact okv_i _ | exact okv_j _ | exact okv_0 | exact okv_1 | exact okv_o _ _ | exact okv_a _ _ | exact bI_okr _ | omega | exact llt_0 | ((repeat apply llt_s) <;> exact llt_0) | fail) only [x194, w0', wA', r4, nI_ltI, hv, if_true, bI_f, e2, bI_t, n10, if_false, nI_add, c2, mo_k_v, mo_k_n, mo_v_e, mo_gf_e, mo_pf_e, mo_ia_e, mo_ba_e, mo_za_e, mo_la_e, mo_aa_e, mo_le_e, mo_is_e, mo_bs_e, mo_zs_0, mo_zs_1, mo_ls_e, mo_as_e, mo_na_e, mo_aci_e, mo_acb_e, mo_acj_e, hp_gs, hp_gn, hp_ss, List.getElem?_cons_zero, List.getElem?_cons_succ, List.set_cons_zero, List.set_cons_succ]
    | true =>
      obtain ⟨k2, e2, s2, f2⟩ := m_isIdle w0' wA' hr hc hs hv
      refine ⟨k2, ⟨s2, frm_trans hf f2⟩, ?_⟩
      rw [show tdB p f ch ba true v = idB p f ch ba v from rfl]
      cases c1 : idB p f ch ba v
      · rw [c1] at e2
        simp (disch := first | assumption | exact zz_nl_i _ | exact zz_nl_r _ | exact zz_nl_n | exact okv_i _ | exact okv_j _ | exact okv_0 | exact okv_1 | exact okv_o _ _ | exact okv_a _ _ | exact bI_okr _ | omega | exact llt_0 | ((repeat apply llt_s) <;> exact llt_0) | fail) only [x194, w0', wA', r4, nI_ltI, hv, if_true, bI_t, bI_f, n10, e2, nI_add, Bool.false_eq_true, if_false, mo_k_v, mo_k_n, mo_v_e, mo_gf_e, mo_pf_e, mo_ia_e, mo_ba_e, mo_za_e, mo_la_e, mo_aa_e, mo_le_e, mo_is_e, mo_bs_e, mo_zs_0, mo_zs_1, mo_ls_e, mo_as_e, mo_na_e, mo_aci_e, mo_acb_e, mo_acj_e, hp_gs, hp_gn, hp_ss, List.getElem?_cons_zero, List.getElem?_cons_succ, List.set_cons_zero, List.set_cons_succ]
      · rw [c1] at e2
        by_cases c2 : nI c = x
        · simp (disch := first | assumption | exact zz_nl_i _ | exact zz_nl_r _ | exact zz_nl_n | exact okv_i _ | exact okv_j _ | exact okv_0 | exact okv_1 | exact okv_o _ _ | exact okv_a _ _ | exact bI_okr _ | omega | exact llt_0 | ((repeat apply llt_s) <;> exact llt_0) | fail) only [x194, w0', wA', r4, nI_ltI, hv, if_true, e2, bI_t, n10, if_false, nI_add, eq_true c2, mo_k_v, mo_k_n, mo_v_e, mo_gf_e, mo_pf_e, mo_ia_e, mo_ba_e, mo_za_e, mo_la_e, mo_aa_e, mo_le_e, mo_is_e, mo_bs_e, mo_zs_0, mo_zs_1, mo_ls_e, mo_as_e, mo_na_e, mo_aci_e, mo_acb_e, mo_acj_e, hp_gs, hp_gn, hp_ss, List.getElem?_cons_zero, List.getElem?_cons_succ, List.set_cons_zero, List.set_cons_succ]
        · simp (disch := first | assumption | exact zz_nl_i _ | exact zz_nl_r _ | exact zz_nl_n | exact okv_i _ | exact okv_j _ | exact okv_0 | exact okv_1 | exact okv_o _ _ | exact okv_a _ _ | exact bI_okr _ | omega | exact llt_0 | ((repeat apply llt_s) <;> exact llt_0) | fail) only [x194, w0', wA', r4, nI_ltI, hv, if_true, e2, bI_t, n10, if_false, nI_add, c2, mo_k_v, mo_k_n, mo_v_e, mo_gf_e, mo_pf_e, mo_ia_e, mo_ba_e, mo_za_e, mo_la_e, mo_aa_e, mo_le_e, mo_is_e, mo_bs_e, mo_zs_0, mo_zs_1, mo_ls_e, mo_as_e, mo_na_e, mo_aci_e, mo_acb_e, mo_acj_e, hp_gs, hp_gn, hp_ss, List.getElem?_cons_zero, List.getElem?_cons_succ, List.set_cons_zero, List.set_cons_succ]
  rw [en194 w0]
  simp (disch := first | assumption | exact zz_nl_i _ | exact zz_nl_r _ | exact zz_nl_n | exact okv_i _ | exact okv_j _ | exact okv_0 | exact okv_1 | exact okv_o _ _ | exact okv_a _ _ | exact bI_okr _ | omega | exact llt_0 | ((repeat apply llt_s) <;> exact llt_0) | fail) only [x194, mo_k_v, mo_k_n, mo_v_e, mo_gf_e, mo_pf_e, mo_ia_e, mo_ba_e, mo_za_e, mo_la_e, mo_aa_e, mo_le_e, mo_is_e, mo_bs_e, mo_zs_0, mo_zs_1, mo_ls_e, mo_as_e, mo_na_e, mo_aci_e, mo_acb_e, mo_acj_e, hp_gs, hp_gn, hp_ss, List.getElem?_cons_zero, List.getElem?_cons_succ, List.set_cons_zero, List.set_cons_succ]
  rcases lp_kthE (N := pnv p) (p := tdB p f ch ba id) (k := x) (I := fun k => scr3 k M ∧ frm h k (M + 4) (M + 7)) (St := fun v c (k : zz_H) => zz_Y 194 (5, [some (.ref (M)), some (.int (x)), some (.int (bI (id))), some (.int (nI (c))), some (.int (nI (v)))], [], k)) (R := fun v k => some (some (.int (nI v)), k)) (by omega) step (s := h) ⟨hs, frm_refl _ _ _⟩ with ⟨i, k, hi, e1, ⟨s1, f1⟩, e2⟩ | ⟨e1, c, k, hcn, ⟨s1, f1⟩, e2⟩
  · rw [e1]
    exact ⟨k, e2, s1, f1⟩
  · rw [e1]
    refine ⟨k, e2.trans ?_, s1, f1⟩
    have w0' := (f1.2.2.2 M (by omega)).trans w0
    have wA' := (f1.2.2.2 (M + 1) (by omega)).trans wA
    rw [x194_c5]
    simp (disch := first | assumption | exact zz_nl_i _ | exact zz_nl_r _ | exact zz_nl_n | exact okv_i _ | exact okv_j _ | exact okv_0 | exact okv_1 | exact okv_o _ _ | exact okv_a _ _ | exact bI_okr _ | omega | exact llt_0 | ((repeat apply llt_s) <;> exact llt_0) | fail) only [x194, w0', wA', r4, nI_ltI, Nat.lt_irrefl, if_false, mo_k_v, mo_k_n, mo_v_e, mo_gf_e, mo_pf_e, mo_ia_e, mo_ba_e, mo_za_e, mo_la_e, mo_aa_e, mo_le_e, mo_is_e, mo_bs_e, mo_zs_0, mo_zs_1, mo_ls_e, mo_as_e, mo_na_e, mo_aci_e, mo_acb_e, mo_acj_e, hp_gs, hp_gn, hp_ss, List.getElem?_cons_zero, List.getElem?_cons_succ, List.set_cons_zero, List.set_cons_succ]
theorem m_inBoth (w0 : hp_g h M = some (mdO M mt mk mp mu ms mn mo ml mv me mf mw)) {W V : Nat → Int32} (a4 : ar8 h (M + 4) W) (a5 : ar8 h (M + 5) V) : zz_run 196 [.ref M] h = some (some (.int (nI (aj8 0 W V))), h) := by
  obtain ⟨g4, hg4, e4⟩ := a4
  obtain ⟨g5, hg5, e5⟩ := a5
  have step : ∀ b s, b < 8 → zz_Y 196 (4, [some (.ref (M)), some (.int (nI (s))), some (.int (nI (b)))], [], h) = zz_Y 196 (4, [some (.ref (M)), some (.int (nI ((s + pc (g4 b &&& g5 b))))), some (.int (nI ((b + 1))))], [], h) := by
    intro b s hb
    rw [x196_c4]
    simp (disch := first | assumption | exact zz_nl_i _ | exact zz_nl_r _ | exact zz_nl_n | exact okv_i _ | exact okv_j _ | exact okv_0 | exact okv_1 | exact okv_o _ _ | exact okv_a _ _ | exact bI_okr _ | omega | exact llt_0 | ((repeat apply llt_s) <;> exact llt_0) | fail) only [x196, nI_ltI, hb, if_true, nI_add, w0, hg4, hg5, m_bitsOf, mo_k_v, mo_k_n, mo_v_e, mo_gf_e, mo_pf_e, mo_ia_e, mo_ba_e, mo_za_e, mo_la_e, mo_aa_e, mo_le_e, mo_is_e, mo_bs_e, mo_zs_0, mo_zs_1, mo_ls_e, mo_as_e, mo_na_e, mo_aci_e, mo_acb_e, mo_acj_e, hp_gs, hp_gn, hp_ss, List.getElem?_cons_zero, List.getElem?_cons_succ, List.set_cons_zero, List.set_cons_succ]
  rw [en196 w0]
  simp (disch := first | assumption | exact zz_nl_i _ | exact zz_nl_r _ | exact zz_nl_n | exact okv_i _ | exact okv_j _ | exact okv_0 | exact okv_1 | exact okv_o _ _ | exact okv_a _ _ | exact bI_okr _ | omega | exact llt_0 | ((repeat apply llt_s) <;> exact llt_0) | fail) only [x196, mo_k_v, mo_k_n, mo_v_e, mo_gf_e, mo_pf_e, mo_ia_e, mo_ba_e, mo_za_e, mo_la_e, mo_aa_e, mo_le_e, mo_is_e, mo_bs_e, mo_zs_0, mo_zs_1, mo_ls_e, mo_as_e, mo_na_e, mo_aci_e, mo_acb_e, mo_acj_e, hp_gs, hp_gn, hp_ss, List.getElem?_cons_zero, List.getElem?_cons_succ, List.set_cons_zero, List.set_cons_succ]
  refine (lp_fold (N := 8) (St := fun b s => zz_Y 196 (4, [some (.ref (M)), some (.int (nI (s))), some (.int (nI (b)))], [], h)) step).trans ?_
  rw [lp_sum]
  ((try dsimp only); rw [x196_c4]; simp (disch := first | assumption | exact zz_nl_i _ | exact zz_nl_r _ | exact zz_nl_n | exact okv_i _ | exact okv_j _ | exact okv_0 | exact okv_1 | exact okv_o _ _ | exact okv_a _ _ | exact bI_okr _ | omega | exact llt_0 | ((repeat apply llt_s) <;> exact llt_0) | fail) only [x196, nI_ltI, Nat.lt_irrefl, if_false, Nat.zero_add, mo_k_v, mo_k_n, mo_v_e, mo_gf_e, mo_pf_e, mo_ia_e, mo_ba_e, mo_za_e, mo_la_e, mo_aa_e, mo_le_e, mo_is_e, mo_bs_e, mo_zs_0, mo_zs_1, mo_ls_e, mo_as_e, mo_na_e, mo_aci_e, mo_acb_e, mo_acj_e, hp_gs, hp_gn, hp_ss, List.getElem?_cons_zero, List.getElem?_cons_succ, List.set_cons_zero, List.set_cons_succ])
  unfold aj8
  rw [sm_cong (fun b hb => by rw [e4 b hb, e5 b hb])]
  rfl
/-- sums of sets -/
theorem aj_1 (W V : Nat → Int32) : aj8 1 W V + aj8 0 W V = amt W + amt V := by
  unfold aj8 amt
  rw [← fb_sm_add, ← fb_sm_add]
  refine sm_cong (fun b _ => ?_)
  show pc (W b ||| V b) + pc (W b &&& V b) = pc (W b) + pc (V b)
  unfold pc
  have : ∀ n, fb_ct (bt (W b ||| V b)) n + fb_ct (bt (W b &&& V b)) n = fb_ct (bt (W b)) n + fb_ct (bt (V b)) n := by
    intro n
    induction n with
    | zero => rfl
    | succ n ih =>
      rw [fb_ct_succ, fb_ct_succ, fb_ct_succ, fb_ct_succ, b_or, b_and]
      cases bt (W b) n <;> cases bt (V b) n <;> simp only [Bool.not_true, Bool.not_false, Bool.and_true, Bool.and_false, Bool.true_and, Bool.false_and, Bool.or_true, Bool.or_false, Bool.false_eq_true, if_true, if_false] <;> omega
  exact this 32
theorem aj_2 (W V : Nat → Int32) : aj8 2 W V + aj8 0 W V = amt W := by
  unfold aj8 amt
  rw [← fb_sm_add]
  refine sm_cong (fun b _ => ?_)
  show pc (W b &&& (V b ^^^ (-1))) + pc (W b &&& V b) = pc (W b)
  unfold pc
  have : ∀ n, n ≤ 32 → fb_ct (bt (W b &&& (V b ^^^ (-1)))) n + fb_ct (bt (W b &&& V b)) n = fb_ct (bt (W b)) n := by
    intro n
    induction n with
    | zero => intro _; rfl
    | succ n ih =>
      intro hn
      have ih := ih (by omega)
      rw [fb_ct_succ, fb_ct_succ, fb_ct_succ, b_and, b_and, b_not (by omega)]
      cases bt (W b) n <;> cases bt (V b) n <;> simp only [Bool.not_true, Bool.not_false, Bool.and_true, Bool.and_false, Bool.true_and, Bool.false_and, Bool.or_true, Bool.or_false, Bool.false_eq_true, if_true, if_false] <;> omega
  exact this 32 (Nat.le_refl _)
theorem m_both_bad (w0 : hp_g h M = some (mdO M mt mk mp mu ms mn mo ml mv me mf mw)) (wA : hp_g h (M + 1) = some (iA 12639 A)) (hr : RS A 0 p rk tg ch ba) (hc : CI p rk tg f ch ba) {x y z : Int32} (hx : (isV (pnv p) x && isV (pnv p) y && isV 6 z) = false) : zz_run 195 [.ref M, .int x, .int y, .int z] h = some (some (.int (-1)), h) := by
  rw [en195 w0]
  cases e1 : isV (pnv p) x with
  | false => simp (disch := first | assumption | exact zz_nl_i _ | exact zz_nl_r _ | exact zz_nl_n | exact okv_i _ | exact okv_j _ | exact okv_0 | exact okv_1 | exact okv_o _ _ | exact okv_a _ _ | exact bI_okr _ | omega | exact llt_0 | ((repeat apply llt_s) <;> exact llt_0) | fail) only [x195_p0, x195_p1, m_isValue w0 wA hr, e1, bI_f, if_true, mo_k_v, mo_k_n, mo_v_e, mo_gf_e, mo_pf_e, mo_ia_e, mo_ba_e, mo_za_e, mo_la_e, mo_aa_e, mo_le_e, mo_is_e, mo_bs_e, mo_zs_0, mo_zs_1, mo_ls_e, mo_as_e, mo_na_e, mo_aci_e, mo_acb_e, mo_acj_e, hp_gs, hp_gn, hp_ss, List.getElem?_cons_zero, List.getElem?_cons_succ, List.set_cons_zero, List.set_cons_succ]
  | true =>
    cases e2 : isV (pnv p) y with
    | false => simp (disch := first | assumption | exact zz_nl_i _ | exact zz_nl_r _ | exact zz_nl_n | exact okv_i _ | exact okv_j _ | exact okv_0 | exact okv_1 | exact okv_o _ _ | exact okv_a _ _ | exact bI_okr _ | omega | exact llt_0 | ((repeat apply llt_s) <;> exact llt_0) | fail) only [x195_p0, x195_p1, m_isValue w0 wA hr, e1, bI_t, nI_01, if_false, e2, bI_f, if_true, mo_k_v, mo_k_n, mo_v_e, mo_gf_e, mo_pf_e, mo_ia_e, mo_ba_e, mo_za_e, mo_la_e, mo_aa_e, mo_le_e, mo_is_e, mo_bs_e, mo_zs_0, mo_zs_1, mo_ls_e, mo_as_e, mo_na_e, mo_aci_e, mo_acb_e, mo_acj_e, hp_gs, hp_gn, hp_ss, List.getElem?_cons_zero, List.getElem?_cons_succ, List.set_cons_zero, List.set_cons_succ]
    | true =>
      cases e3 : isV 6 z with
      | false => simp (disch := first | assumption | exact zz_nl_i _ | exact zz_nl_r _ | exact zz_nl_n | exact okv_i _ | exact okv_j _ | exact okv_0 | exact okv_1 | exact okv_o _ _ | exact okv_a _ _ | exact bI_okr _ | omega | exact llt_0 | ((repeat apply llt_s) <;> exact llt_0) | fail) only [x195_p0, x195_p1, m_isValue w0 wA hr, e1, bI_t, nI_01, if_false, m_isIn, in_V, Nat.reduceAdd, e2, e3, bI_f, if_true, mo_k_v, mo_k_n, mo_v_e, mo_gf_e, mo_pf_e, mo_ia_e, mo_ba_e, mo_za_e, mo_la_e, mo_aa_e, mo_le_e, mo_is_e, mo_bs_e, mo_zs_0, mo_zs_1, mo_ls_e, mo_as_e, mo_na_e, mo_aci_e, mo_acb_e, mo_acj_e, hp_gs, hp_gn, hp_ss, List.getElem?_cons_zero, List.getElem?_cons_succ, List.set_cons_zero, List.set_cons_succ]
      | true =>
        rw [e1, e2, e3] at hx
        cases hx
theorem m_both_ok (w0 : hp_g h M = some (mdO M mt mk mp mu ms mn mo ml mv me mf mw)) (wA : hp_g h (M + 1) = some (iA 12639 A)) (hr : RS A 0 p rk tg ch ba) (hc : CI p rk tg f ch ba) (hs : scr3 h M) {v u j : Nat} (hv : v < pnv p) (hu : u < pnv p) (hj : j < 6) : ∃ k, zz_run 195 [.ref M, .int (nI v), .int (nI u), .int (nI j)] h = some (some (.int (nI (if j < 3 then aj8 j (rw8 f v) (rw8 f u) else wj8 (j - 3) (rw8 f v) (rw8 f u)))), k) ∧ scr3 k M ∧ frm h k (M + 4) (M + 7) := by
  have r2 := hr.1.2.1
  have e1 : isV (pnv p) (nI v) = true := isV_nI (by omega) hv
  have e2 : isV (pnv p) (nI u) = true := isV_nI (by omega) hu
  have e3 : isV 6 (nI j) = true := isV_nI (by omega) hj
  obtain ⟨V4, a4⟩ := hs.1
  obtain ⟨V5, a5⟩ := hs.2.1
  obtain ⟨V6, a6⟩ := hs.2.2
  obtain ⟨k, e, s4, hf⟩ := m_laysSet w0 wA hr hc a4 (by omega) (by omega) hv
  have w0' := (hf.2.2.2 M (by omega)).trans w0
  have wA' := (hf.2.2.2 (M + 1) (by omega)).trans wA
  obtain ⟨k2, ek2, s5, hf2⟩ := m_laysSet w0' wA' hr hc (ar8_sam a5 (hf.2.2.2 _ (by omega))) (by omega) (by omega) hu
  have w0'' := (hf2.2.2.2 M (by omega)).trans w0'
  have s4' := ar8_sam s4 (hf2.2.2.2 (M + 4) (by omega))
  have ib := m_inBoth w0'' s4' s5
  have l0 := aj8_le 0 (rw8 f v) (rw8 f u)
  have l1 := aj_1 (rw8 f v) (rw8 f u)
  have l2 := aj_2 (rw8 f v) (rw8 f u)
  refine ⟨k2, ?_, ⟨⟨_, s4'⟩, ⟨_, s5⟩, ⟨V6, ar8_sam (ar8_sam a6 (hf.2.2.2 _ (by omega))) (hf2.2.2.2 _ (by omega))⟩⟩, frm_trans (frm_mono hf (by omega) (by omega)) (frm_mono hf2 (by omega) (by omega))⟩
  rw [en195 w0]
  simp (disch := first | assumption | exact zz_nl_i _ | exact zz_nl_r _ | exact zz_nl_n | exact okv_i _ | exact okv_j _ | exact okv_0 | exact okv_1 | exact okv_o _ _ | exact okv_a _ _ | exact bI_okr _ | omega | exact llt_0 | ((repeat apply llt_s) <;> exact llt_0) | fail) only [x195_p0, x195_p1, w0, m_isValue w0 wA hr, e1, bI_t, nI_01, if_false, m_isIn, in_V, Nat.reduceAdd, e2, e3, e, w0', ek2, ib, mo_k_v, mo_k_n, mo_v_e, mo_gf_e, mo_pf_e, mo_ia_e, mo_ba_e, mo_za_e, mo_la_e, mo_aa_e, mo_le_e, mo_is_e, mo_bs_e, mo_zs_0, mo_zs_1, mo_ls_e, mo_as_e, mo_na_e, mo_aci_e, mo_acb_e, mo_acj_e, hp_gs, hp_gn, hp_ss, List.getElem?_cons_zero, List.getElem?_cons_succ, List.set_cons_zero, List.set_cons_succ]
  by_cases j0 : j = 0
  · subst j0
    simp (disch := first | assumption | exact zz_nl_i _ | exact zz_nl_r _ | exact zz_nl_n | exact okv_i _ | exact okv_j _ | exact okv_0 | exact okv_1 | exact okv_o _ _ | exact okv_a _ _ | exact bI_okr _ | omega | exact llt_0 | ((repeat apply llt_s) <;> exact llt_0) | fail) only [x195_p0, x195_p1, if_true, show (0 < 3) = True from eq_true (by omega), mo_k_v, mo_k_n, mo_v_e, mo_gf_e, mo_pf_e, mo_ia_e, mo_ba_e, mo_za_e, mo_la_e, mo_aa_e, mo_le_e, mo_is_e, mo_bs_e, mo_zs_0, mo_zs_1, mo_ls_e, mo_as_e, mo_na_e, mo_aci_e, mo_acb_e, mo_acj_e, hp_gs, hp_gn, hp_ss, List.getElem?_cons_zero, List.getElem?_cons_succ, List.set_cons_zero, List.set_cons_succ]
  · by_cases j1 : j = 1
    · subst j1
      simp (disch := first | assumption | exact zz_nl_i _ | exact zz_nl_r _ | exact zz_nl_n | exact okv_i _ | exact okv_j _ | exact okv_0 | exact okv_1 | exact okv_o _ _ | exact okv_a _ _ | exact bI_okr _ | omega | exact llt_0 | ((repeat apply llt_s) <;> exact llt_0) | fail) only [x195_p0, x195_p1, nI_01, if_true, if_false, w0'', a_many s4', a_many s5, nI_add, mo_k_v, mo_k_n, mo_v_e, mo_gf_e, mo_pf_e, mo_ia_e, mo_ba_e, mo_za_e, mo_la_e, mo_aa_e, mo_le_e, mo_is_e, mo_bs_e, mo_zs_0, mo_zs_1, mo_ls_e, mo_as_e, mo_na_e, mo_aci_e, mo_acb_e, mo_acj_e, hp_gs, hp_gn, hp_ss, List.getElem?_cons_zero, List.getElem?_cons_succ, List.set_cons_zero, List.set_cons_succ]
      rw [pk_sub (by omega), if_pos (by omega), show amt (rw8 f v) + amt (rw8 f u) - aj8 0 (rw8 f v) (rw8 f u) = aj8 1 (rw8 f v) (rw8 f u) by omega]
    · by_cases j2 : j = 2
      · subst j2
        simp (disch := first | assumption | exact zz_nl_i _ | exact zz_nl_r _ | exact zz_nl_n | exact okv_i _ | exact okv_j _ | exact okv_0 | exact okv_1 | exact okv_o _ _ | exact okv_a _ _ | exact bI_okr _ | omega | exact llt_0 | ((repeat apply llt_s) <;> exact llt_0) | fail) only [x195_p0, x195_p1, nI_eq, j0, j1, if_true, if_false, w0'', a_many s4', mo_k_v, mo_k_n, mo_v_e, mo_gf_e, mo_pf_e, mo_ia_e, mo_ba_e, mo_za_e, mo_la_e, mo_aa_e, mo_le_e, mo_is_e, mo_bs_e, mo_zs_0, mo_zs_1, mo_ls_e, mo_as_e, mo_na_e, mo_aci_e, mo_acb_e, mo_acj_e, hp_gs, hp_gn, hp_ss, List.getElem?_cons_zero, List.getElem?_cons_succ, List.set_cons_zero, List.set_cons_succ]
        rw [pk_sub (by omega), if_pos (by omega), show amt (rw8 f v) - aj8 0 (rw8 f v) (rw8 f u) = aj8 2 (rw8 f v) (rw8 f u) by omega]
      · have es : nI j - nI 3 = nI (j - 3) := pk_sub (by omega)
        have aw := a_work s4' s5 (show j - 3 < 3 by omega)
        simp (disch := first | assumption | exact zz_nl_i _ | exact zz_nl_r _ | exact zz_nl_n | exact okv_i _ | exact okv_j _ | exact okv_0 | exact okv_1 | exact okv_o _ _ | exact okv_a _ _ | exact bI_okr _ | omega | exact llt_0 | ((repeat apply llt_s) <;> exact llt_0) | fail) only [x195_p0, x195_p1, nI_eq, j0, j1, j2, if_false, w0'', es, aw, mo_k_v, mo_k_n, mo_v_e, mo_gf_e, mo_pf_e, mo_ia_e, mo_ba_e, mo_za_e, mo_la_e, mo_aa_e, mo_le_e, mo_is_e, mo_bs_e, mo_zs_0, mo_zs_1, mo_ls_e, mo_as_e, mo_na_e, mo_aci_e, mo_acb_e, mo_acj_e, hp_gs, hp_gn, hp_ss, List.getElem?_cons_zero, List.getElem?_cons_succ, List.set_cons_zero, List.set_cons_succ]
        rw [if_neg (by omega)]
theorem m_alike_no (w0 : hp_g h M = some (mdO M mt mk mp mu ms mn mo ml mv me mf mw)) (wA : hp_g h (M + 1) = some (iA 12639 A)) (hr : RS A 0 p rk tg ch ba) (hc : CI p rk tg f ch ba) {x : Int32} (hx : isV (pnv p) x = false) : zz_run 198 [.ref M, .int x] h = some (some (.int (-1)), h) := by
  rw [en198 w0]
  simp (disch := first | assumption | exact zz_nl_i _ | exact zz_nl_r _ | exact zz_nl_n | exact okv_i _ | exact okv_j _ | exact okv_0 | exact okv_1 | exact okv_o _ _ | exact okv_a _ _ | exact bI_okr _ | omega | exact llt_0 | ((repeat apply llt_s) <;> exact llt_0) | fail) only [x198_p0, x198_p1, m_isValue w0 wA hr, hx, bI_f, if_true, mo_k_v, mo_k_n, mo_v_e, mo_gf_e, mo_pf_e, mo_ia_e, mo_ba_e, mo_za_e, mo_la_e, mo_aa_e, mo_le_e, mo_is_e, mo_bs_e, mo_zs_0, mo_zs_1, mo_ls_e, mo_as_e, mo_na_e, mo_aci_e, mo_acb_e, mo_acj_e, hp_gs, hp_gn, hp_ss, List.getElem?_cons_zero, List.getElem?_cons_succ, List.set_cons_zero, List.set_cons_succ]
theorem alk_pos (W : Nat → Nat → Int32) (x : Nat) : ∀ n, n ≤ 20 → (lp_it (alkS W x) n (-1, nI 0, nI 1)).1 = -1 ∨ ∃ v, v < 20 ∧ (lp_it (alkS W x) n (-1, nI 0, nI 1)).1 = nI v
  | 0, _ => Or.inl rfl
  | n + 1, hn => by
    have ih := alk_pos W x n (by omega)
    rw [lp_it_s]
    unfold alkS
    split
    · exact ih
    · split
      · exact Or.inr ⟨n, by omega, rfl⟩
      · exact ih
theorem m_alike_ok (w0 : hp_g h M = some (mdO M mt mk mp mu ms mn mo ml mv me mf mw)) (wA : hp_g h (M + 1) = some (iA 12639 A)) (hr : RS A 0 p rk tg ch ba) (hc : CI p rk tg f ch ba) (hs : scr3 h M) {x : Nat} (hx : x < pnv p) : ∃ k, zz_run 198 [.ref M, .int (nI x)] h = some (some (.int (alk (rw8 f) x (pnv p))), k) ∧ scr3 k M ∧ frm h k (M + 4) (M + 7) := by
  obtain ⟨r1, r2, r3, r4⟩ := hr.1
  rw [Nat.zero_add] at r4
  have e1 : isV (pnv p) (nI x) = true := isV_nI (by omega) hx
  obtain ⟨V4, a4⟩ := hs.1
  obtain ⟨V5, a5⟩ := hs.2.1
  obtain ⟨V6, a6⟩ := hs.2.2
  obtain ⟨k0, e0, s40, hf0⟩ := m_laysSet w0 wA hr hc a4 (by omega) (by omega) hx
  have step : ∀ v (s : zz_H × (Int32 × Int32 × Int32) × Option Value × Option Value), v < pnv p → (ar8 s.1 (M + 4) (rw8 f x) ∧ (∃ W, ar8 s.1 (M + 5) W) ∧ frm h s.1 (M + 4) (M + 6) ∧ s.2.1 = lp_it (alkS (rw8 f) x) v (-1, nI 0, nI 1) ∧ zz_nl s.2.2.1 = true ∧ zz_nl s.2.2.2 = true) → ∃ s' : zz_H × (Int32 × Int32 × Int32) × Option Value × Option Value, (ar8 s'.1 (M + 4) (rw8 f x) ∧ (∃ W, ar8 s'.1 (M + 5) W) ∧ frm h s'.1 (M + 4) (M + 6) ∧ s'.2.1 = lp_it (alkS (rw8 f) x) (v + 1) (-1, nI 0, nI 1) ∧ zz_nl s'.2.2.1 = true ∧ zz_nl s'.2.2.2 = true) ∧ zz_Y 198 (29, [some (.ref (M)), some (.int (nI (x))), some (.int (s.2.1.1)), some (.int (s.2.1.2.1)), some (.int (s.2.1.2.2)), some (.int (nI (v))), s.2.2.1, s.2.2.2], [], s.1) = zz_Y 198 (29, [some (.ref (M)), some (.int (nI (x))), some (.int (s'.2.1.1)), some (.int (s'.2.1.2.1)), some (.int (s'.2.1.2.2)), some (.int (nI (v + 1))), s'.2.2.1, s'.2.2.2], [], s'.1) := by
    rintro v ⟨k, ⟨b1, b2, b3⟩, o1, o2⟩ hv ⟨h4, ⟨W5, h5⟩, hf, hb, ho1, ho2⟩
    dsimp only at h4 h5 hf hb ho1 ho2 ⊢
    have w0' := (hf.2.2.2 M (by omega)).trans w0
    have wA' := (hf.2.2.2 (M + 1) (by omega)).trans wA
    have hpos := alk_pos (rw8 f) x v (by omega)
    rw [lp_it_s, ← hb]
    rw [← hb] at hpos
    dsimp only at hpos
    by_cases cx : v = x
    · refine ⟨(k, (b1, b2, b3), o1, o2), ⟨h4, ⟨W5, h5⟩, hf, ?_, ho1, ho2⟩, ?_⟩
      · unfold alkS
        rw [if_pos cx]
      · rw [x198_c29]
        simp (disch := first | assumption | exact zz_nl_i _ | exact zz_nl_r _ | exact zz_nl_n | exact okv_i _ | exact okv_j _ | exact okv_0 | exact okv_1 | exact okv_o _ _ | exact okv_a _ _ | exact bI_okr _ | omega | exact llt_0 | ((repeat apply llt_s) <;> exact llt_0) | fail) only [x198_p0, x198_p1, w0', wA', r4, nI_ltI, hv, if_true, nI_eq, eq_true cx, nI_add, mo_k_v, mo_k_n, mo_v_e, mo_gf_e, mo_pf_e, mo_ia_e, mo_ba_e, mo_za_e, mo_la_e, mo_aa_e, mo_le_e, mo_is_e, mo_bs_e, mo_zs_0, mo_zs_1, mo_ls_e, mo_as_e, mo_na_e, mo_aci_e, mo_acb_e, mo_acj_e, hp_gs, hp_gn, hp_ss, List.getElem?_cons_zero, List.getElem?_cons_succ, List.set_cons_zero, List.set_cons_succ]
    · obtain ⟨k2, e2, s5, hf2⟩ := m_laysSet w0' wA' hr hc h5 (by omega) (by omega) hv
      have w0'' := (hf2.2.2.2 M (by omega)).trans w0'
      have s4 := ar8_sam h4 (hf2.2.2.2 (M + 4) (by omega))
      have ib := m_inBoth w0'' s4 s5
      have l0 := aj8_le 0 (rw8 f x) (rw8 f v)
      have l3 := aj8_le 1 (rw8 f x) (rw8 f v)
      have l1 := aj_1 (rw8 f x) (rw8 f v)
      have es : nI (amt (rw8 f x) + amt (rw8 f v)) - nI (aj8 0 (rw8 f x) (rw8 f v)) = nI (aj8 1 (rw8 f x) (rw8 f v)) := by
        rw [pk_sub (by omega), show amt (rw8 f x) + amt (rw8 f v) - aj8 0 (rw8 f x) (rw8 f v) = aj8 1 (rw8 f x) (rw8 f v) by omega]
      have hfN : frm h k2 (M + 4) (M + 6) := frm_trans hf (frm_mono hf2 (by omega) (by omega))
      have hneg : (b1 < nI 0) = (b1 = -1) := by
        apply propext
        rcases hpos with e | ⟨u, hu, e⟩
        · rw [e]; exact ⟨fun _ => rfl, fun _ => m1_lt0⟩
        · rw [e]; exact ⟨fun c => absurd c (nI_nlt0 (by omega)), fun c => absurd c (nI_m1 (by omega))⟩
      have hal : alkS (rw8 f) x v (b1, b2, b3) = if b1 = -1 ∨ b2 * nI (max (aj8 1 (rw8 f x) (rw8 f v)) 1) < nI (aj8 0 (rw8 f x) (rw8 f v)) * b3 then (nI v, nI (aj8 0 (rw8 f x) (rw8 f v)), nI (max (aj8 1 (rw8 f x) (rw8 f v)) 1)) else (b1, b2, b3) := by
        unfold alkS
        rw [if_neg cx]
      rw [hal, x198_c29]
      generalize aj8 0 (rw8 f x) (rw8 f v) = U at *
      have hmx : (if aj8 1 (rw8 f x) (rw8 f v) = 0 then 1 else aj8 1 (rw8 f x) (rw8 f v)) = max (aj8 1 (rw8 f x) (rw8 f v)) 1 := by
        split <;> omega
      have hlo : max (aj8 1 (rw8 f x) (rw8 f v)) 1 < 1000 := by omega
      have rest : ∀ m, max (aj8 1 (rw8 f x) (rw8 f v)) 1 = m → ∃ s' : zz_H × (Int32 × Int32 × Int32) × Option Value × Option Value, (ar8 s'.1 (M + 4) (rw8 f x) ∧ (∃ W, ar8 s'.1 (M + 5) W) ∧ frm h s'.1 (M + 4) (M + 6) ∧ s'.2.1 = (if b1 = -1 ∨ b2 * nI m < nI U * b3 then (nI v, nI U, nI m) else (b1, b2, b3)) ∧ zz_nl s'.2.2.1 = true ∧ zz_nl s'.2.2.2 = true) ∧ zz_Y 198 (98, [some (.ref (M)), some (.int (nI (x))), some (.int (b1)), some (.int (b2)), some (.int (b3)), some (.int (nI (v))), some (.int (nI (U))), some (.int (nI (m)))], [], k2) = zz_Y 198 (29, [some (.ref (M)), some (.int (nI (x))), some (.int (s'.2.1.1)), some (.int (s'.2.1.2.1)), some (.int (s'.2.1.2.2)), some (.int (nI (v + 1))), s'.2.2.1, s'.2.2.2], [], s'.1) := by
        intro m _
        by_cases c1 : b1 = -1
        · refine ⟨(k2, (nI v, nI U, nI m), some (.int (nI U)), some (.int (nI m))), ⟨s4, ⟨_, s5⟩, hfN, by rw [if_pos (Or.inl c1)], zz_nl_i _, zz_nl_i _⟩, ?_⟩
          simp (disch := first | assumption | exact zz_nl_i _ | exact zz_nl_r _ | exact zz_nl_n | exact okv_i _ | exact okv_j _ | exact okv_0 | exact okv_1 | exact okv_o _ _ | exact okv_a _ _ | exact bI_okr _ | omega | exact llt_0 | ((repeat apply llt_s) <;> exact llt_0) | fail) only [x198_p0, x198_p1, hneg, eq_true c1, if_true, nI_add, mo_k_v, mo_k_n, mo_v_e, mo_gf_e, mo_pf_e, mo_ia_e, mo_ba_e, mo_za_e, mo_la_e, mo_aa_e, mo_le_e, mo_is_e, mo_bs_e, mo_zs_0, mo_zs_1, mo_ls_e, mo_as_e, mo_na_e, mo_aci_e, mo_acb_e, mo_acj_e, hp_gs, hp_gn, hp_ss, List.getElem?_cons_zero, List.getElem?_cons_succ, List.set_cons_zero, List.set_cons_succ]
        · by_cases c2 : b2 * nI m < nI U * b3
          · refine ⟨(k2, (nI v, nI U, nI m), some (.int (nI U)), some (.int (nI m))), ⟨s4, ⟨_, s5⟩, hfN, by rw [if_pos (Or.inr c2)], zz_nl_i _, zz_nl_i _⟩, ?_⟩
            simp (disch := first | assumption | exact zz_nl_i _ | exact zz_nl_r _ | exact zz_nl_n | exact okv_i _ | exact okv_j _ | exact okv_0 | exact okv_1 | exact okv_o _ _ | exact okv_a _ _ | exact bI_okr _ | omega | exact llt_0 | ((repeat apply llt_s) <;> exact llt_0) | fail) only [x198_p0, x198_p1, hneg, c1, c2, if_true, if_false, nI_add, mo_k_v, mo_k_n, mo_v_e, mo_gf_e, mo_pf_e, mo_ia_e, mo_ba_e, mo_za_e, mo_la_e, mo_aa_e, mo_le_e, mo_is_e, mo_bs_e, mo_zs_0, mo_zs_1, mo_ls_e, mo_as_e, mo_na_e, mo_aci_e, mo_acb_e, mo_acj_e, hp_gs, hp_gn, hp_ss, List.getElem?_cons_zero, List.getElem?_cons_succ, List.set_cons_zero, List.set_cons_succ]
          · refine ⟨(k2, (b1, b2, b3), some (.int (nI U)), some (.int (nI m))), ⟨s4, ⟨_, s5⟩, hfN, by rw [if_neg (fun q => q.elim c1 c2)], zz_nl_i _, zz_nl_i _⟩, ?_⟩
            simp (disch := first | assumption | exact zz_nl_i _ | exact zz_nl_r _ | exact zz_nl_n | exact okv_i _ | exact okv_j _ | exact okv_0 | exact okv_1 | exact okv_o _ _ | exact okv_a _ _ | exact bI_okr _ | omega | exact llt_0 | ((repeat apply llt_s) <;> exact llt_0) | fail) only [x198_p0, x198_p1, hneg, c1, c2, if_false, nI_add, mo_k_v, mo_k_n, mo_v_e, mo_gf_e, mo_pf_e, mo_ia_e, mo_ba_e, mo_za_e, mo_la_e, mo_aa_e, mo_le_e, mo_is_e, mo_bs_e, mo_zs_0, mo_zs_1, mo_ls_e, mo_as_e, mo_na_e, mo_aci_e, mo_acb_e, mo_acj_e, hp_gs, hp_gn, hp_ss, List.getElem?_cons_zero, List.getElem?_cons_succ, List.set_cons_zero, List.set_cons_succ]
      obtain ⟨s', hP, hE⟩ := rest _ rfl
      refine ⟨s', hP, ?_⟩
      rw [← hE, ← hmx]
      by_cases c0 : aj8 1 (rw8 f x) (rw8 f v) = 0
      · simp (disch := first | assumption | exact zz_nl_i _ | exact zz_nl_r _ | exact zz_nl_n | exact okv_i _ | exact okv_j _ | exact okv_0 | exact okv_1 | exact okv_o _ _ | exact okv_a _ _ | exact bI_okr _ | omega | exact llt_0 | ((repeat apply llt_s) <;> exact llt_0) | fail) only [x198_p0, x198_p1, w0', wA', r4, nI_ltI, hv, if_true, nI_eq, cx, if_false, e2, ib, w0'', a_many s4, a_many s5, nI_add, es, eq_true c0, mo_k_v, mo_k_n, mo_v_e, mo_gf_e, mo_pf_e, mo_ia_e, mo_ba_e, mo_za_e, mo_la_e, mo_aa_e, mo_le_e, mo_is_e, mo_bs_e, mo_zs_0, mo_zs_1, mo_ls_e, mo_as_e, mo_na_e, mo_aci_e, mo_acb_e, mo_acj_e, hp_gs, hp_gn, hp_ss, List.getElem?_cons_zero, List.getElem?_cons_succ, List.set_cons_zero, List.set_cons_succ]
      · simp (disch := first | assumption | exact zz_nl_i _ | exact zz_nl_r _ | exact zz_nl_n | exact okv_i _ | exact okv_j _ | exact okv_0 | exact okv_1 | exact okv_o _ _ | exact okv_a _ _ | exact bI_okr _ | omega | exact llt_0 | ((repeat apply llt_s) <;> exact llt_0) | fail) only [x198_p0, x198_p1, w0', wA', r4, nI_ltI, hv, if_true, nI_eq, cx, if_false, e2, ib, w0'', a_many s4, a_many s5, nI_add, es, c0, mo_k_v, mo_k_n, mo_v_e, mo_gf_e, mo_pf_e, mo_ia_e, mo_ba_e, mo_za_e, mo_la_e, mo_aa_e, mo_le_e, mo_is_e, mo_bs_e, mo_zs_0, mo_zs_1, mo_ls_e, mo_as_e, mo_na_e, mo_aci_e, mo_acb_e, mo_acj_e, hp_gs, hp_gn, hp_ss, List.getElem?_cons_zero, List.getElem?_cons_succ, List.set_cons_zero, List.set_cons_succ]
  have w00 := (hf0.2.2.2 M (by omega)).trans w0
  obtain ⟨⟨k, ⟨b1, b2, b3⟩, o1, o2⟩, ⟨h4, h5, hf, hb, ho1, ho2⟩, e⟩ := lp_ex (N := pnv p) (St := fun v (s : zz_H × (Int32 × Int32 × Int32) × Option Value × Option Value) => zz_Y 198 (29, [some (.ref (M)), some (.int (nI (x))), some (.int (s.2.1.1)), some (.int (s.2.1.2.1)), some (.int (s.2.1.2.2)), some (.int (nI (v))), s.2.2.1, s.2.2.2], [], s.1)) step (s := (k0, (-1, nI 0, nI 1), none, none)) ⟨s40, ⟨V5, ar8_sam a5 (hf0.2.2.2 _ (by omega))⟩, frm_mono hf0 (by omega) (by omega), rfl, zz_nl_n, zz_nl_n⟩
  dsimp only at h4 h5 hf hb ho1 ho2 e
  have w0' := (hf.2.2.2 M (by omega)).trans w0
  have wA' := (hf.2.2.2 (M + 1) (by omega)).trans wA
  refine ⟨k, ?_, ⟨⟨_, h4⟩, h5, V6, ar8_sam a6 (hf.2.2.2 _ (by omega))⟩, frm_mono hf (by omega) (by omega)⟩
  rw [en198 w0]
  simp (disch := first | assumption | exact zz_nl_i _ | exact zz_nl_r _ | exact zz_nl_n | exact okv_i _ | exact okv_j _ | exact okv_0 | exact okv_1 | exact okv_o _ _ | exact okv_a _ _ | exact bI_okr _ | omega | exact llt_0 | ((repeat apply llt_s) <;> exact llt_0) | fail) only [x198_p0, x198_p1, w0, m_isValue w0 wA hr, e1, bI_t, nI_01, if_false, e0, mo_k_v, mo_k_n, mo_v_e, mo_gf_e, mo_pf_e, mo_ia_e, mo_ba_e, mo_za_e, mo_la_e, mo_aa_e, mo_le_e, mo_is_e, mo_bs_e, mo_zs_0, mo_zs_1, mo_ls_e, mo_as_e, mo_na_e, mo_aci_e, mo_acb_e, mo_acj_e, hp_gs, hp_gn, hp_ss, List.getElem?_cons_zero, List.getElem?_cons_succ, List.set_cons_zero, List.set_cons_succ]
  refine e.trans ?_
  rw [x198_c29]
  simp (disch := first | assumption | exact zz_nl_i _ | exact zz_nl_r _ | exact zz_nl_n | exact okv_i _ | exact okv_j _ | exact okv_0 | exact okv_1 | exact okv_o _ _ | exact okv_a _ _ | exact bI_okr _ | omega | exact llt_0 | ((repeat apply llt_s) <;> exact llt_0) | fail) only [x198_p0, x198_p1, w0', wA', r4, nI_ltI, Nat.lt_irrefl, if_false, mo_k_v, mo_k_n, mo_v_e, mo_gf_e, mo_pf_e, mo_ia_e, mo_ba_e, mo_za_e, mo_la_e, mo_aa_e, mo_le_e, mo_is_e, mo_bs_e, mo_zs_0, mo_zs_1, mo_ls_e, mo_as_e, mo_na_e, mo_aci_e, mo_acb_e, mo_acj_e, hp_gs, hp_gn, hp_ss, List.getElem?_cons_zero, List.getElem?_cons_succ, List.set_cons_zero, List.set_cons_succ]
  unfold alk
  rw [← hb]
end
