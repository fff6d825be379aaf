/-! the reference: its object, its small methods -/
theorem lp_ex {σ ρ : Type} {N : Nat} {St : Nat → σ → ρ} {P : Nat → σ → Prop} (hs : ∀ b s, b < N → P b s → ∃ s', P (b + 1) s' ∧ St b s = St (b + 1) s') {s : σ} (h0 : P 0 s) : ∃ s', P N s' ∧ St 0 s = St N s' := by
  have key : ∀ b, b ≤ N → ∃ s', P b s' ∧ St 0 s = St b s' := by
    intro b
    induction b with
    | zero => exact fun _ => ⟨s, h0, rfl⟩
    | succ b ih =>
      intro hb
      obtain ⟨t, p, e⟩ := ih (by omega)
      obtain ⟨t2, p2, e2⟩ := hs b t (by omega) p
      exact ⟨t2, p2, e.trans e2⟩
  exact key N (Nat.le_refl N)
theorem lp_exf {σ ρ : Type} {N : Nat} {St : Nat → σ → ρ} {P : Nat → σ → Prop} {Q : ρ → Prop} (hs : ∀ b s, b < N → P b s → (∃ s', P (b + 1) s' ∧ St b s = St (b + 1) s') ∨ Q (St b s)) {s : σ} (h0 : P 0 s) : (∃ s', P N s' ∧ St 0 s = St N s') ∨ Q (St 0 s) := by
  have key : ∀ b, b ≤ N → (∃ s', P b s' ∧ St 0 s = St b s') ∨ Q (St 0 s) := by
    intro b
    induction b with
    | zero => exact fun _ => Or.inl ⟨s, h0, rfl⟩
    | succ b ih =>
      intro hb
      rcases ih (by omega) with ⟨t, p, e⟩ | q
      · rcases hs b t (by omega) p with ⟨t2, p2, e2⟩ | q
        · exact Or.inl ⟨t2, p2, e.trans e2⟩
        · exact Or.inr (by rw [e]; exact q)
      · exact Or.inr q
  exact key N (Nat.le_refl N)
theorem upd_eq (f : Nat → Int32) (n : Nat) (x : Int32) : upd f n x n = x := if_pos rfl
theorem upd_ne {f : Nat → Int32} {n i : Nat} {x : Int32} (h : i ≠ n) : upd f n x i = f i := if_neg h
def mpa (n : Nat) (F : Nat → Int32 → Int32) (g : Nat → Int32) : Nat → Int32 := fun i => if i < n then F i (g i) else g i
theorem mpa_in {n : Nat} {F : Nat → Int32 → Int32} {g : Nat → Int32} {i : Nat} (hi : i < n) : mpa n F g i = F i (g i) := if_pos hi
theorem mpa_out {n : Nat} {F : Nat → Int32 → Int32} {g : Nat → Int32} {i : Nat} (hi : ¬ i < n) : mpa n F g i = g i := if_neg hi
theorem mpa_s (n : Nat) (F : Nat → Int32 → Int32) (g : Nat → Int32) : upd (mpa n F g) n (F n (mpa n F g n)) = mpa (n + 1) F g := by
  funext i
  by_cases hi : i = n
  · subst hi
    rw [upd_eq, mpa_out (by omega), mpa_in (by omega)]
  · rw [upd_ne hi]
    by_cases h2 : i < n
    · rw [mpa_in h2, mpa_in (by omega)]
    · rw [mpa_out h2, mpa_out (by omega)]
theorem lp_mpa (F : Nat → Int32 → Int32) (g : Nat → Int32) : ∀ n, lp_it (fun b g => upd g b (F b (g b))) n g = mpa n F g
  | 0 => by funext i; rw [mpa_out (by omega)]; rfl
  | n + 1 => by rw [lp_it_s, lp_mpa F g n, mpa_s]
abbrev mdO (M : Nat) (mt mk mp mu ms mn mo ml : Int32) (mv : Int64) (me mf mw : Int32) : zz_E := .inr (11, [.ref (M + 1), .ref (M + 2), .ref (M + 3), .int mt, .int mk, .int mp, .int mu, .ref (M + 4), .ref (M + 5), .ref (M + 6), .ref (M + 7), .ref (M + 8), .ref (M + 9), .int ms, .int mn, .int mo, .int ml, .long mv, .ref (M + 10), .ref (M + 11), .ref (M + 12), .ref (M + 13), .ref (M + 14), .int me, .int mf, .int mw])
abbrev iA (n : Nat) (g : Nat → Int32) : zz_E := .inl (.int, n, .inl g)
theorem m_isIn (x a b : Int32) (h : zz_H) : zz_run 154 [.int x, .int a, .int b] h = some (some (.int (bI (decide (¬ x < a ∧ ¬ b < x)))), h) := by
  rw [en154]
  simp (disch := first | assumption | exact zz_nl_i _ | exact zz_nl_r _ | exact zz_nl_n | exact okv_i _ | exact okv_j _ | exact okv_0 | exact okv_1 | exact okv_o _ _ | exact okv_a _ _ | omega | exact llt_0 | ((repeat apply llt_s) <;> exact llt_0) | fail) only [x154, xb154, mo_k_v, mo_k_n, mo_v_e, mo_gf_e, mo_pf_e, mo_ia_e, mo_ba_e, mo_za_e, mo_la_e, mo_aa_e, mo_le_e, mo_is_e, mo_bs_e, mo_zs_0, mo_zs_1, mo_ls_e, mo_as_e, mo_na_e, mo_aci_e, mo_acb_e, mo_acj_e, hp_gs, hp_gn, hp_ss, List.getElem?_cons_zero, List.getElem?_cons_succ, List.set_cons_zero, List.set_cons_succ]
  by_cases h1 : x < a
  · simp [h1, bI]
  · by_cases h2 : b < x <;> simp [h1, h2, bI]
theorem in_V {n : Nat} (hn : n < 65536) (x : Int32) : decide (¬ x < nI 0 ∧ ¬ nI n < x) = isV (n + 1) x := by
  unfold isV
  have e : (¬ nI n < x) = (x < nI (n + 1)) := by
    apply propext
    rw [Int32.lt_iff_toInt_lt, Int32.lt_iff_toInt_lt, nI_toInt (by omega), nI_toInt (by omega)]
    omega
  simp only [e]
theorem in_V' {n : Nat} (hn : n < 65536) (x : Int32) : decide (¬ x < nI 0 ∧ ¬ nI n - nI 1 < x) = isV n x := by
  match n with
  | 0 =>
    unfold isV
    have e : nI 0 - nI 1 = -1 := by decide +kernel
    rw [e]
    by_cases h1 : x < nI 0
    · simp [h1]
    · have h2 : (-1 : Int32) < x := by
        rw [Int32.lt_iff_toInt_lt] at *
        rw [nI_toInt (by omega)] at h1
        have : (-1 : Int32).toInt = -1 := by decide +kernel
        rw [this]
        omega
      simp [h1, h2]
  | n + 1 =>
    rw [← nI_add, show nI n + nI 1 - nI 1 = nI n by rw [Int32.add_sub_cancel]]
    exact in_V (by omega) x
theorem m_valueAt {v : Nat} (h : zz_H) : zz_run 158 [.int (nI v)] h = some (some (.int (nI (54 + 12 * v))), h) := by
  rw [en158]
  simp (disch := first | assumption | exact zz_nl_i _ | exact zz_nl_r _ | exact zz_nl_n | exact okv_i _ | exact okv_j _ | exact okv_0 | exact okv_1 | exact okv_o _ _ | exact okv_a _ _ | omega | exact llt_0 | ((repeat apply llt_s) <;> exact llt_0) | fail) only [x158, pk_mul, nI_add, mo_k_v, mo_k_n, mo_v_e, mo_gf_e, mo_pf_e, mo_ia_e, mo_ba_e, mo_za_e, mo_la_e, mo_aa_e, mo_le_e, mo_is_e, mo_bs_e, mo_zs_0, mo_zs_1, mo_ls_e, mo_as_e, mo_na_e, mo_aci_e, mo_acb_e, mo_acj_e, hp_gs, hp_gn, hp_ss, List.getElem?_cons_zero, List.getElem?_cons_succ, List.set_cons_zero, List.set_cons_succ]
theorem m_headAt {v : Nat} (h : zz_H) : zz_run 169 [.int (nI v)] h = some (some (.int (nI (10 + 11 * v))), h) := by
  rw [en169]
  simp (disch := first | assumption | exact zz_nl_i _ | exact zz_nl_r _ | exact zz_nl_n | exact okv_i _ | exact okv_j _ | exact okv_0 | exact okv_1 | exact okv_o _ _ | exact okv_a _ _ | omega | exact llt_0 | ((repeat apply llt_s) <;> exact llt_0) | fail) only [x169, pk_mul, nI_add, mo_k_v, mo_k_n, mo_v_e, mo_gf_e, mo_pf_e, mo_ia_e, mo_ba_e, mo_za_e, mo_la_e, mo_aa_e, mo_le_e, mo_is_e, mo_bs_e, mo_zs_0, mo_zs_1, mo_ls_e, mo_as_e, mo_na_e, mo_aci_e, mo_acb_e, mo_acj_e, hp_gs, hp_gn, hp_ss, List.getElem?_cons_zero, List.getElem?_cons_succ, List.set_cons_zero, List.set_cons_succ]
theorem m_rowsOf (x : Int32) (h : zz_H) : zz_run 163 [.int x] h = some (some (.int (nI (rns x))), h) := by
  rw [en163]
  simp (disch := first | assumption | exact zz_nl_i _ | exact zz_nl_r _ | exact zz_nl_n | exact okv_i _ | exact okv_j _ | exact okv_0 | exact okv_1 | exact okv_o _ _ | exact okv_a _ _ | omega | exact llt_0 | ((repeat apply llt_s) <;> exact llt_0) | fail) only [x163, m_bitsOf, mo_k_v, mo_k_n, mo_v_e, mo_gf_e, mo_pf_e, mo_ia_e, mo_ba_e, mo_za_e, mo_la_e, mo_aa_e, mo_le_e, mo_is_e, mo_bs_e, mo_zs_0, mo_zs_1, mo_ls_e, mo_as_e, mo_na_e, mo_aci_e, mo_acb_e, mo_acj_e, hp_gs, hp_gn, hp_ss, List.getElem?_cons_zero, List.getElem?_cons_succ, List.set_cons_zero, List.set_cons_succ]
  rfl
theorem cst_0 : cst (nI 0) = 0 := by
  unfold cst
  rw [pc_zero.mpr nI_0]
  omega
theorem m_sizeOf (x : Int32) (h : zz_H) : zz_run 162 [.int x] h = some (some (.int (nI (cst x))), h) := by
  have h1 := pc_le x
  have h2 := rns_le x
  rw [en162]
  by_cases h0 : x = nI 0
  · simp (disch := first | assumption | exact zz_nl_i _ | exact zz_nl_r _ | exact zz_nl_n | exact okv_i _ | exact okv_j _ | exact okv_0 | exact okv_1 | exact okv_o _ _ | exact okv_a _ _ | omega | exact llt_0 | ((repeat apply llt_s) <;> exact llt_0) | fail) only [x162, h0, if_true, mo_k_v, mo_k_n, mo_v_e, mo_gf_e, mo_pf_e, mo_ia_e, mo_ba_e, mo_za_e, mo_la_e, mo_aa_e, mo_le_e, mo_is_e, mo_bs_e, mo_zs_0, mo_zs_1, mo_ls_e, mo_as_e, mo_na_e, mo_aci_e, mo_acb_e, mo_acj_e, hp_gs, hp_gn, hp_ss, List.getElem?_cons_zero, List.getElem?_cons_succ, List.set_cons_zero, List.set_cons_succ]
    rw [cst_0]
  · simp (disch := first | assumption | exact zz_nl_i _ | exact zz_nl_r _ | exact zz_nl_n | exact okv_i _ | exact okv_j _ | exact okv_0 | exact okv_1 | exact okv_o _ _ | exact okv_a _ _ | omega | exact llt_0 | ((repeat apply llt_s) <;> exact llt_0) | fail) only [x162, h0, if_false, m_bitsOf, m_rowsOf, pk_mul, mo_k_v, mo_k_n, mo_v_e, mo_gf_e, mo_pf_e, mo_ia_e, mo_ba_e, mo_za_e, mo_la_e, mo_aa_e, mo_le_e, mo_is_e, mo_bs_e, mo_zs_0, mo_zs_1, mo_ls_e, mo_as_e, mo_na_e, mo_aci_e, mo_acb_e, mo_acj_e, hp_gs, hp_gn, hp_ss, List.getElem?_cons_zero, List.getElem?_cons_succ, List.set_cons_zero, List.set_cons_succ]
    unfold cst
    by_cases c1 : pc x < 2 * rns x
    · simp (disch := first | assumption | exact zz_nl_i _ | exact zz_nl_r _ | exact zz_nl_n | exact okv_i _ | exact okv_j _ | exact okv_0 | exact okv_1 | exact okv_o _ _ | exact okv_a _ _ | omega | exact llt_0 | ((repeat apply llt_s) <;> exact llt_0) | fail) only [x162, nI_ltI, c1, if_true, mo_k_v, mo_k_n, mo_v_e, mo_gf_e, mo_pf_e, mo_ia_e, mo_ba_e, mo_za_e, mo_la_e, mo_aa_e, mo_le_e, mo_is_e, mo_bs_e, mo_zs_0, mo_zs_1, mo_ls_e, mo_as_e, mo_na_e, mo_aci_e, mo_acb_e, mo_acj_e, hp_gs, hp_gn, hp_ss, List.getElem?_cons_zero, List.getElem?_cons_succ, List.set_cons_zero, List.set_cons_succ]
      by_cases c2 : pc x < 4
      · simp (disch := first | assumption | exact zz_nl_i _ | exact zz_nl_r _ | exact zz_nl_n | exact okv_i _ | exact okv_j _ | exact okv_0 | exact okv_1 | exact okv_o _ _ | exact okv_a _ _ | omega | exact llt_0 | ((repeat apply llt_s) <;> exact llt_0) | fail) only [x162, nI_ltI, c2, if_true, mo_k_v, mo_k_n, mo_v_e, mo_gf_e, mo_pf_e, mo_ia_e, mo_ba_e, mo_za_e, mo_la_e, mo_aa_e, mo_le_e, mo_is_e, mo_bs_e, mo_zs_0, mo_zs_1, mo_ls_e, mo_as_e, mo_na_e, mo_aci_e, mo_acb_e, mo_acj_e, hp_gs, hp_gn, hp_ss, List.getElem?_cons_zero, List.getElem?_cons_succ, List.set_cons_zero, List.set_cons_succ]
        rw [show min (min (pc x) (2 * rns x)) 4 = pc x by omega]
      · simp (disch := first | assumption | exact zz_nl_i _ | exact zz_nl_r _ | exact zz_nl_n | exact okv_i _ | exact okv_j _ | exact okv_0 | exact okv_1 | exact okv_o _ _ | exact okv_a _ _ | omega | exact llt_0 | ((repeat apply llt_s) <;> exact llt_0) | fail) only [x162, nI_ltI, c2, if_false, mo_k_v, mo_k_n, mo_v_e, mo_gf_e, mo_pf_e, mo_ia_e, mo_ba_e, mo_za_e, mo_la_e, mo_aa_e, mo_le_e, mo_is_e, mo_bs_e, mo_zs_0, mo_zs_1, mo_ls_e, mo_as_e, mo_na_e, mo_aci_e, mo_acb_e, mo_acj_e, hp_gs, hp_gn, hp_ss, List.getElem?_cons_zero, List.getElem?_cons_succ, List.set_cons_zero, List.set_cons_succ]
        rw [show min (min (pc x) (2 * rns x)) 4 = 4 by omega]
    · simp (disch := first | assumption | exact zz_nl_i _ | exact zz_nl_r _ | exact zz_nl_n | exact okv_i _ | exact okv_j _ | exact okv_0 | exact okv_1 | exact okv_o _ _ | exact okv_a _ _ | omega | exact llt_0 | ((repeat apply llt_s) <;> exact llt_0) | fail) only [x162, nI_ltI, c1, if_false, mo_k_v, mo_k_n, mo_v_e, mo_gf_e, mo_pf_e, mo_ia_e, mo_ba_e, mo_za_e, mo_la_e, mo_aa_e, mo_le_e, mo_is_e, mo_bs_e, mo_zs_0, mo_zs_1, mo_ls_e, mo_as_e, mo_na_e, mo_aci_e, mo_acb_e, mo_acj_e, hp_gs, hp_gn, hp_ss, List.getElem?_cons_zero, List.getElem?_cons_succ, List.set_cons_zero, List.set_cons_succ]
      by_cases c2 : 2 * rns x < 4
      · simp (disch := first | assumption | exact zz_nl_i _ | exact zz_nl_r _ | exact zz_nl_n | exact okv_i _ | exact okv_j _ | exact okv_0 | exact okv_1 | exact okv_o _ _ | exact okv_a _ _ | omega | exact llt_0 | ((repeat apply llt_s) <;> exact llt_0) | fail) only [x162, nI_ltI, c2, if_true, mo_k_v, mo_k_n, mo_v_e, mo_gf_e, mo_pf_e, mo_ia_e, mo_ba_e, mo_za_e, mo_la_e, mo_aa_e, mo_le_e, mo_is_e, mo_bs_e, mo_zs_0, mo_zs_1, mo_ls_e, mo_as_e, mo_na_e, mo_aci_e, mo_acb_e, mo_acj_e, hp_gs, hp_gn, hp_ss, List.getElem?_cons_zero, List.getElem?_cons_succ, List.set_cons_zero, List.set_cons_succ]
        rw [show min (min (pc x) (2 * rns x)) 4 = 2 * rns x by omega]
      · simp (disch := first | assumption | exact zz_nl_i _ | exact zz_nl_r _ | exact zz_nl_n | exact okv_i _ | exact okv_j _ | exact okv_0 | exact okv_1 | exact okv_o _ _ | exact okv_a _ _ | omega | exact llt_0 | ((repeat apply llt_s) <;> exact llt_0) | fail) only [x162, nI_ltI, c2, if_false, mo_k_v, mo_k_n, mo_v_e, mo_gf_e, mo_pf_e, mo_ia_e, mo_ba_e, mo_za_e, mo_la_e, mo_aa_e, mo_le_e, mo_is_e, mo_bs_e, mo_zs_0, mo_zs_1, mo_ls_e, mo_as_e, mo_na_e, mo_aci_e, mo_acb_e, mo_acj_e, hp_gs, hp_gn, hp_ss, List.getElem?_cons_zero, List.getElem?_cons_succ, List.set_cons_zero, List.set_cons_succ]
        rw [show min (min (pc x) (2 * rns x)) 4 = 4 by omega]
theorem m_kindOf (x : Int32) (h : zz_H) : zz_run 164 [.int x] h = some (some (.int (nI (knd x))), h) := by
  have h1 := pc_le x
  have h2 := rns_le x
  have h3 := cst_le x
  rw [en164]
  simp (disch := first | assumption | exact zz_nl_i _ | exact zz_nl_r _ | exact zz_nl_n | exact okv_i _ | exact okv_j _ | exact okv_0 | exact okv_1 | exact okv_o _ _ | exact okv_a _ _ | omega | exact llt_0 | ((repeat apply llt_s) <;> exact llt_0) | fail) only [x164, m_bitsOf, m_sizeOf, m_rowsOf, pk_mul, nI_eq, mo_k_v, mo_k_n, mo_v_e, mo_gf_e, mo_pf_e, mo_ia_e, mo_ba_e, mo_za_e, mo_la_e, mo_aa_e, mo_le_e, mo_is_e, mo_bs_e, mo_zs_0, mo_zs_1, mo_ls_e, mo_as_e, mo_na_e, mo_aci_e, mo_acb_e, mo_acj_e, hp_gs, hp_gn, hp_ss, List.getElem?_cons_zero, List.getElem?_cons_succ, List.set_cons_zero, List.set_cons_succ]
  unfold knd
  by_cases c1 : pc x = cst x
  · simp only [c1, if_true]
  · by_cases c2 : 2 * rns x = cst x
    · simp only [c1, c2, Ne.symm c1, if_true, if_false]
    · simp only [c1, c2, Ne.symm c1, Ne.symm c2, if_true, if_false]
section
variable {h : zz_H} {c : Nat} {g : Nat → Int32}
theorem m_many (hc : hp_g h c = some (iA 8 g)) : zz_run 172 [.ref c] h = some (some (.int (nI (amt g))), h) := by
  have step : ∀ b s, b < 8 → zz_Y 172 (4, [some (.ref (c)), some (.int (nI (s))), some (.int (nI (b)))], [], h) = zz_Y 172 (4, [some (.ref (c)), some (.int (nI ((s + pc (g b))))), some (.int (nI ((b + 1))))], [], h) := by
    intro b s hb
    rw [x172_c4]
    simp (disch := first | assumption | exact zz_nl_i _ | exact zz_nl_r _ | exact zz_nl_n | exact okv_i _ | exact okv_j _ | exact okv_0 | exact okv_1 | exact okv_o _ _ | exact okv_a _ _ | omega | exact llt_0 | ((repeat apply llt_s) <;> exact llt_0) | fail) only [x172, nI_ltI, hb, if_true, nI_add, hc, m_bitsOf, mo_k_v, mo_k_n, mo_v_e, mo_gf_e, mo_pf_e, mo_ia_e, mo_ba_e, mo_za_e, mo_la_e, mo_aa_e, mo_le_e, mo_is_e, mo_bs_e, mo_zs_0, mo_zs_1, mo_ls_e, mo_as_e, mo_na_e, mo_aci_e, mo_acb_e, mo_acj_e, hp_gs, hp_gn, hp_ss, List.getElem?_cons_zero, List.getElem?_cons_succ, List.set_cons_zero, List.set_cons_succ]
  rw [en172]
  simp (disch := first | assumption | exact zz_nl_i _ | exact zz_nl_r _ | exact zz_nl_n | exact okv_i _ | exact okv_j _ | exact okv_0 | exact okv_1 | exact okv_o _ _ | exact okv_a _ _ | omega | exact llt_0 | ((repeat apply llt_s) <;> exact llt_0) | fail) only [x172, mo_k_v, mo_k_n, mo_v_e, mo_gf_e, mo_pf_e, mo_ia_e, mo_ba_e, mo_za_e, mo_la_e, mo_aa_e, mo_le_e, mo_is_e, mo_bs_e, mo_zs_0, mo_zs_1, mo_ls_e, mo_as_e, mo_na_e, mo_aci_e, mo_acb_e, mo_acj_e, hp_gs, hp_gn, hp_ss, List.getElem?_cons_zero, List.getElem?_cons_succ, List.set_cons_zero, List.set_cons_succ]
  refine (lp_fold (N := 8) (St := fun b s => zz_Y 172 (4, [some (.ref (c)), some (.int (nI (s))), some (.int (nI (b)))], [], h)) step).trans ?_
  rw [lp_sum]
  ((try dsimp only); rw [x172_c4]; simp (disch := first | assumption | exact zz_nl_i _ | exact zz_nl_r _ | exact zz_nl_n | exact okv_i _ | exact okv_j _ | exact okv_0 | exact okv_1 | exact okv_o _ _ | exact okv_a _ _ | omega | exact llt_0 | ((repeat apply llt_s) <;> exact llt_0) | fail) only [x172, nI_ltI, Nat.lt_irrefl, if_false, Nat.zero_add, mo_k_v, mo_k_n, mo_v_e, mo_gf_e, mo_pf_e, mo_ia_e, mo_ba_e, mo_za_e, mo_la_e, mo_aa_e, mo_le_e, mo_is_e, mo_bs_e, mo_zs_0, mo_zs_1, mo_ls_e, mo_as_e, mo_na_e, mo_aci_e, mo_acb_e, mo_acj_e, hp_gs, hp_gn, hp_ss, List.getElem?_cons_zero, List.getElem?_cons_succ, List.set_cons_zero, List.set_cons_succ])
  rfl
theorem m_size (hc : hp_g h c = some (iA 8 g)) : zz_run 161 [.ref c] h = some (some (.int (nI (cs8 g))), h) := by
  have step : ∀ b s, b < 8 → zz_Y 161 (4, [some (.ref (c)), some (.int (nI (s))), some (.int (nI (b)))], [], h) = zz_Y 161 (4, [some (.ref (c)), some (.int (nI ((s + cst (g b))))), some (.int (nI ((b + 1))))], [], h) := by
    intro b s hb
    rw [x161_c4]
    simp (disch := first | assumption | exact zz_nl_i _ | exact zz_nl_r _ | exact zz_nl_n | exact okv_i _ | exact okv_j _ | exact okv_0 | exact okv_1 | exact okv_o _ _ | exact okv_a _ _ | omega | exact llt_0 | ((repeat apply llt_s) <;> exact llt_0) | fail) only [x161, nI_ltI, hb, if_true, nI_add, hc, m_sizeOf, mo_k_v, mo_k_n, mo_v_e, mo_gf_e, mo_pf_e, mo_ia_e, mo_ba_e, mo_za_e, mo_la_e, mo_aa_e, mo_le_e, mo_is_e, mo_bs_e, mo_zs_0, mo_zs_1, mo_ls_e, mo_as_e, mo_na_e, mo_aci_e, mo_acb_e, mo_acj_e, hp_gs, hp_gn, hp_ss, List.getElem?_cons_zero, List.getElem?_cons_succ, List.set_cons_zero, List.set_cons_succ]
  rw [en161]
  simp (disch := first | assumption | exact zz_nl_i _ | exact zz_nl_r _ | exact zz_nl_n | exact okv_i _ | exact okv_j _ | exact okv_0 | exact okv_1 | exact okv_o _ _ | exact okv_a _ _ | omega | exact llt_0 | ((repeat apply llt_s) <;> exact llt_0) | fail) only [x161, mo_k_v, mo_k_n, mo_v_e, mo_gf_e, mo_pf_e, mo_ia_e, mo_ba_e, mo_za_e, mo_la_e, mo_aa_e, mo_le_e, mo_is_e, mo_bs_e, mo_zs_0, mo_zs_1, mo_ls_e, mo_as_e, mo_na_e, mo_aci_e, mo_acb_e, mo_acj_e, hp_gs, hp_gn, hp_ss, List.getElem?_cons_zero, List.getElem?_cons_succ, List.set_cons_zero, List.set_cons_succ]
  refine (lp_fold (N := 8) (St := fun b s => zz_Y 161 (4, [some (.ref (c)), some (.int (nI (s))), some (.int (nI (b)))], [], h)) step).trans ?_
  rw [lp_sum]
  ((try dsimp only); rw [x161_c4]; simp (disch := first | assumption | exact zz_nl_i _ | exact zz_nl_r _ | exact zz_nl_n | exact okv_i _ | exact okv_j _ | exact okv_0 | exact okv_1 | exact okv_o _ _ | exact okv_a _ _ | omega | exact llt_0 | ((repeat apply llt_s) <;> exact llt_0) | fail) only [x161, nI_ltI, Nat.lt_irrefl, if_false, Nat.zero_add, mo_k_v, mo_k_n, mo_v_e, mo_gf_e, mo_pf_e, mo_ia_e, mo_ba_e, mo_za_e, mo_la_e, mo_aa_e, mo_le_e, mo_is_e, mo_bs_e, mo_zs_0, mo_zs_1, mo_ls_e, mo_as_e, mo_na_e, mo_aci_e, mo_acb_e, mo_acj_e, hp_gs, hp_gn, hp_ss, List.getElem?_cons_zero, List.getElem?_cons_succ, List.set_cons_zero, List.set_cons_succ])
  rfl
theorem m_isInSet (hc : hp_g h c = some (iA 8 g)) {q : Nat} (hq : q < 256) : zz_run 190 [.ref c, .int (nI q)] h = some (some (.int (bI (pb g q))), h) := by
  have hb : q / 32 < 8 := by omega
  have hm : q % 32 < 32 := Nat.mod_lt _ (by omega)
  have n := n32
  obtain ⟨d1, d2⟩ := dm32 hq
  rw [d1] at d2
  rw [en190]
  simp (disch := first | assumption | exact zz_nl_i _ | exact zz_nl_r _ | exact zz_nl_n | exact okv_i _ | exact okv_j _ | exact okv_0 | exact okv_1 | exact okv_o _ _ | exact okv_a _ _ | omega | exact llt_0 | ((repeat apply llt_s) <;> exact llt_0) | fail) only [x190, xb190, hc, d1, d2, bit_and1 hm, mo_k_v, mo_k_n, mo_v_e, mo_gf_e, mo_pf_e, mo_ia_e, mo_ba_e, mo_za_e, mo_la_e, mo_aa_e, mo_le_e, mo_is_e, mo_bs_e, mo_zs_0, mo_zs_1, mo_ls_e, mo_as_e, mo_na_e, mo_aci_e, mo_acb_e, mo_acj_e, hp_gs, hp_gn, hp_ss, List.getElem?_cons_zero, List.getElem?_cons_succ, List.set_cons_zero, List.set_cons_succ]
  unfold pb
  cases bt (g (q / 32)) (q % 32)
  · simp only [Bool.false_eq_true, if_false, bI_f]
    simp (disch := first | assumption | exact zz_nl_i _ | exact zz_nl_r _ | exact zz_nl_n | exact okv_i _ | exact okv_j _ | exact okv_0 | exact okv_1 | exact okv_o _ _ | exact okv_a _ _ | omega | exact llt_0 | ((repeat apply llt_s) <;> exact llt_0) | fail) only [x190, xb190, show (nI 0 = nI 1) = False from eq_false (Ne.symm nI_01), if_false, mo_k_v, mo_k_n, mo_v_e, mo_gf_e, mo_pf_e, mo_ia_e, mo_ba_e, mo_za_e, mo_la_e, mo_aa_e, mo_le_e, mo_is_e, mo_bs_e, mo_zs_0, mo_zs_1, mo_ls_e, mo_as_e, mo_na_e, mo_aci_e, mo_acb_e, mo_acj_e, hp_gs, hp_gn, hp_ss, List.getElem?_cons_zero, List.getElem?_cons_succ, List.set_cons_zero, List.set_cons_succ]
  · simp (disch := first | assumption | exact zz_nl_i _ | exact zz_nl_r _ | exact zz_nl_n | exact okv_i _ | exact okv_j _ | exact okv_0 | exact okv_1 | exact okv_o _ _ | exact okv_a _ _ | omega | exact llt_0 | ((repeat apply llt_s) <;> exact llt_0) | fail) only [x190, xb190, if_true, bI_t, mo_k_v, mo_k_n, mo_v_e, mo_gf_e, mo_pf_e, mo_ia_e, mo_ba_e, mo_za_e, mo_la_e, mo_aa_e, mo_le_e, mo_is_e, mo_bs_e, mo_zs_0, mo_zs_1, mo_ls_e, mo_as_e, mo_na_e, mo_aci_e, mo_acb_e, mo_acj_e, hp_gs, hp_gn, hp_ss, List.getElem?_cons_zero, List.getElem?_cons_succ, List.set_cons_zero, List.set_cons_succ]
theorem m_at {M : Nat} {fs : List Value} (w0 : hp_g h M = some (.inr (11, fs))) (hc : hp_g h c = some (iA 8 g)) (k : Int32) : zz_run 193 [.ref M, .ref c, .int k] h = some (some (.int (KT (pb g) 256 k)), h) := by
  have step : ∀ q n, q < 256 → n ≤ q → zz_Y 193 (5, [some (.ref (M)), some (.ref (c)), some (.int (k)), some (.int (nI (n))), some (.int (nI (q)))], [], h) = if pb g q = true then (if nI n = k then some (some (.int (nI q)), h) else zz_Y 193 (5, [some (.ref (M)), some (.ref (c)), some (.int (k)), some (.int (nI (n + 1))), some (.int (nI (q + 1)))], [], h)) else zz_Y 193 (5, [some (.ref (M)), some (.ref (c)), some (.int (k)), some (.int (nI (n))), some (.int (nI (q + 1)))], [], h) := by
    intro q n hq hn
    rw [x193_c5]
    cases e : pb g q with
    | false =>
      simp (disch := first | assumption | exact zz_nl_i _ | exact zz_nl_r _ | exact zz_nl_n | exact okv_i _ | exact okv_j _ | exact okv_0 | exact okv_1 | exact okv_o _ _ | exact okv_a _ _ | omega | exact llt_0 | ((repeat apply llt_s) <;> exact llt_0) | fail) only [x193, nI_ltI, hq, if_true, m_isInSet hc hq, e, bI_f, nI_add, mo_k_v, mo_k_n, mo_v_e, mo_gf_e, mo_pf_e, mo_ia_e, mo_ba_e, mo_za_e, mo_la_e, mo_aa_e, mo_le_e, mo_is_e, mo_bs_e, mo_zs_0, mo_zs_1, mo_ls_e, mo_as_e, mo_na_e, mo_aci_e, mo_acb_e, mo_acj_e, hp_gs, hp_gn, hp_ss, List.getElem?_cons_zero, List.getElem?_cons_succ, List.set_cons_zero, List.set_cons_succ]
      simp only [Bool.false_eq_true, if_false]
    | true =>
      by_cases h1 : nI n = k
      · have h1t := eq_true h1
        simp (disch := first | assumption | exact zz_nl_i _ | exact zz_nl_r _ | exact zz_nl_n | exact okv_i _ | exact okv_j _ | exact okv_0 | exact okv_1 | exact okv_o _ _ | exact okv_a _ _ | omega | exact llt_0 | ((repeat apply llt_s) <;> exact llt_0) | fail) only [x193, nI_ltI, hq, if_true, m_isInSet hc hq, e, bI_t, nI_01, if_false, nI_add, h1t, mo_k_v, mo_k_n, mo_v_e, mo_gf_e, mo_pf_e, mo_ia_e, mo_ba_e, mo_za_e, mo_la_e, mo_aa_e, mo_le_e, mo_is_e, mo_bs_e, mo_zs_0, mo_zs_1, mo_ls_e, mo_as_e, mo_na_e, mo_aci_e, mo_acb_e, mo_acj_e, hp_gs, hp_gn, hp_ss, List.getElem?_cons_zero, List.getElem?_cons_succ, List.set_cons_zero, List.set_cons_succ]
      · simp (disch := first | assumption | exact zz_nl_i _ | exact zz_nl_r _ | exact zz_nl_n | exact okv_i _ | exact okv_j _ | exact okv_0 | exact okv_1 | exact okv_o _ _ | exact okv_a _ _ | omega | exact llt_0 | ((repeat apply llt_s) <;> exact llt_0) | fail) only [x193, nI_ltI, hq, if_true, m_isInSet hc hq, e, bI_t, nI_01, if_false, nI_add, h1, mo_k_v, mo_k_n, mo_v_e, mo_gf_e, mo_pf_e, mo_ia_e, mo_ba_e, mo_za_e, mo_la_e, mo_aa_e, mo_le_e, mo_is_e, mo_bs_e, mo_zs_0, mo_zs_1, mo_ls_e, mo_as_e, mo_na_e, mo_aci_e, mo_acb_e, mo_acj_e, hp_gs, hp_gn, hp_ss, List.getElem?_cons_zero, List.getElem?_cons_succ, List.set_cons_zero, List.set_cons_succ]
  rw [en193 w0]
  simp (disch := first | assumption | exact zz_nl_i _ | exact zz_nl_r _ | exact zz_nl_n | exact okv_i _ | exact okv_j _ | exact okv_0 | exact okv_1 | exact okv_o _ _ | exact okv_a _ _ | omega | exact llt_0 | ((repeat apply llt_s) <;> exact llt_0) | fail) only [x193, mo_k_v, mo_k_n, mo_v_e, mo_gf_e, mo_pf_e, mo_ia_e, mo_ba_e, mo_za_e, mo_la_e, mo_aa_e, mo_le_e, mo_is_e, mo_bs_e, mo_zs_0, mo_zs_1, mo_ls_e, mo_as_e, mo_na_e, mo_aci_e, mo_acb_e, mo_acj_e, hp_gs, hp_gn, hp_ss, List.getElem?_cons_zero, List.getElem?_cons_succ, List.set_cons_zero, List.set_cons_succ]
  rcases lp_kth (N := 256) (St := fun q n => zz_Y 193 (5, [some (.ref (M)), some (.ref (c)), some (.int (k)), some (.int (nI (n))), some (.int (nI (q)))], [], h)) (R := fun q => some (some (.int (nI q)), h)) (Z := some (some (.int (-1)), h)) (by omega) step (fun n _ => by ((try dsimp only); rw [x193_c5]; simp (disch := first | assumption | exact zz_nl_i _ | exact zz_nl_r _ | exact zz_nl_n | exact okv_i _ | exact okv_j _ | exact okv_0 | exact okv_1 | exact okv_o _ _ | exact okv_a _ _ | omega | exact llt_0 | ((repeat apply llt_s) <;> exact llt_0) | fail) only [x193, nI_ltI, Nat.lt_irrefl, if_false, mo_k_v, mo_k_n, mo_v_e, mo_gf_e, mo_pf_e, mo_ia_e, mo_ba_e, mo_za_e, mo_la_e, mo_aa_e, mo_le_e, mo_is_e, mo_bs_e, mo_zs_0, mo_zs_1, mo_ls_e, mo_as_e, mo_na_e, mo_aci_e, mo_acb_e, mo_acj_e, hp_gs, hp_gn, hp_ss, List.getElem?_cons_zero, List.getElem?_cons_succ, List.set_cons_zero, List.set_cons_succ])) with ⟨i, hi, e1, e2⟩ | ⟨e1, e2⟩
  · rw [e1]
    exact e2
  · rw [e1]
    exact e2
theorem m_work {d j : Nat} {g2 : Nat → Int32} (hc : hp_g h c = some (iA 8 g)) (hd : hp_g h d = some (iA 8 g2)) (hj : j < 3) : zz_run 197 [.ref c, .ref d, .int (nI j)] h = some (some (.int (nI (wj8 j g g2))), h) := by
  have n10 := nI_01
  have n01 : ¬ nI 0 = nI 1 := Ne.symm nI_01
  have n21 : ¬ nI 2 = nI 1 := by decide +kernel
  have n12 : ¬ nI 1 = nI 2 := by decide +kernel
  have n02 : ¬ nI 0 = nI 2 := by decide +kernel
  have step : ∀ b s (o : Option Value), b < 8 → zz_nl o = true → ∃ o', zz_nl o' = true ∧ zz_Y 197 (5, [some (.ref (c)), some (.ref (d)), some (.int (nI (j))), some (.int (nI (s))), some (.int (nI (b))), o], [], h) = zz_Y 197 (5, [some (.ref (c)), some (.ref (d)), some (.int (nI (j))), some (.int (nI (s + wrk j (g b) (g2 b)))), some (.int (nI (b + 1))), o'], [], h) := by
    intro b s o hb ho
    rw [x197_c5]
    match j, hj with
    | 0, _ =>
      by_cases h1 : g b = nI 0
      · have e : wrk 0 (g b) (g2 b) = 0 := by unfold wrk; simp [h1]
        rw [e]
        simp (disch := first | assumption | exact zz_nl_i _ | exact zz_nl_r _ | exact zz_nl_n | exact okv_i _ | exact okv_j _ | exact okv_0 | exact okv_1 | exact okv_o _ _ | exact okv_a _ _ | omega | exact llt_0 | ((repeat apply llt_s) <;> exact llt_0) | fail) only [x197, nI_ltI, hb, hc, hd, if_true, if_false, n01, n02, h1, m_sizeOf, nI_add, bI_f, mo_k_v, mo_k_n, mo_v_e, mo_gf_e, mo_pf_e, mo_ia_e, mo_ba_e, mo_za_e, mo_la_e, mo_aa_e, mo_le_e, mo_is_e, mo_bs_e, mo_zs_0, mo_zs_1, mo_ls_e, mo_as_e, mo_na_e, mo_aci_e, mo_acb_e, mo_acj_e, hp_gs, hp_gn, hp_ss, List.getElem?_cons_zero, List.getElem?_cons_succ, List.set_cons_zero, List.set_cons_succ]
        exact ⟨_, zz_nl_i _, rfl⟩
      · by_cases h2 : g2 b = nI 0
        · have e : wrk 0 (g b) (g2 b) = 0 := by unfold wrk; simp [h2]
          rw [e]
          simp (disch := first | assumption | exact zz_nl_i _ | exact zz_nl_r _ | exact zz_nl_n | exact okv_i _ | exact okv_j _ | exact okv_0 | exact okv_1 | exact okv_o _ _ | exact okv_a _ _ | omega | exact llt_0 | ((repeat apply llt_s) <;> exact llt_0) | fail) only [x197, nI_ltI, hb, hc, hd, if_true, if_false, n01, n02, h1, h2, m_sizeOf, nI_add, bI_f, mo_k_v, mo_k_n, mo_v_e, mo_gf_e, mo_pf_e, mo_ia_e, mo_ba_e, mo_za_e, mo_la_e, mo_aa_e, mo_le_e, mo_is_e, mo_bs_e, mo_zs_0, mo_zs_1, mo_ls_e, mo_as_e, mo_na_e, mo_aci_e, mo_acb_e, mo_acj_e, hp_gs, hp_gn, hp_ss, List.getElem?_cons_zero, List.getElem?_cons_succ, List.set_cons_zero, List.set_cons_succ]
          exact ⟨_, zz_nl_i _, rfl⟩
        · have e : wrk 0 (g b) (g2 b) = cst (g b) + cst (g2 b) := by unfold wrk; simp [h1, h2]
          rw [e]
          simp (disch := first | assumption | exact zz_nl_i _ | exact zz_nl_r _ | exact zz_nl_n | exact okv_i _ | exact okv_j _ | exact okv_0 | exact okv_1 | exact okv_o _ _ | exact okv_a _ _ | omega | exact llt_0 | ((repeat apply llt_s) <;> exact llt_0) | fail) only [x197, nI_ltI, hb, hc, hd, if_true, if_false, n01, n02, h1, h2, m_sizeOf, nI_add, n10, mo_k_v, mo_k_n, mo_v_e, mo_gf_e, mo_pf_e, mo_ia_e, mo_ba_e, mo_za_e, mo_la_e, mo_aa_e, mo_le_e, mo_is_e, mo_bs_e, mo_zs_0, mo_zs_1, mo_ls_e, mo_as_e, mo_na_e, mo_aci_e, mo_acb_e, mo_acj_e, hp_gs, hp_gn, hp_ss, List.getElem?_cons_zero, List.getElem?_cons_succ, List.set_cons_zero, List.set_cons_succ]
          exact ⟨_, zz_nl_i _, rfl⟩
    | 1, _ =>
      have e : wrk 1 (g b) (g2 b) = cst (g b) + cst (g2 b) := by unfold wrk; simp
      rw [e]
      simp (disch := first | assumption | exact zz_nl_i _ | exact zz_nl_r _ | exact zz_nl_n | exact okv_i _ | exact okv_j _ | exact okv_0 | exact okv_1 | exact okv_o _ _ | exact okv_a _ _ | omega | exact llt_0 | ((repeat apply llt_s) <;> exact llt_0) | fail) only [x197, nI_ltI, hb, hc, hd, if_true, if_false, m_sizeOf, nI_add, n10, mo_k_v, mo_k_n, mo_v_e, mo_gf_e, mo_pf_e, mo_ia_e, mo_ba_e, mo_za_e, mo_la_e, mo_aa_e, mo_le_e, mo_is_e, mo_bs_e, mo_zs_0, mo_zs_1, mo_ls_e, mo_as_e, mo_na_e, mo_aci_e, mo_acb_e, mo_acj_e, hp_gs, hp_gn, hp_ss, List.getElem?_cons_zero, List.getElem?_cons_succ, List.set_cons_zero, List.set_cons_succ]
      exact ⟨_, zz_nl_i _, rfl⟩
    | 2, _ =>
      by_cases h1 : g b = nI 0
      · have e : wrk 2 (g b) (g2 b) = 0 := by unfold wrk; simp [h1]
        rw [e]
        simp (disch := first | assumption | exact zz_nl_i _ | exact zz_nl_r _ | exact zz_nl_n | exact okv_i _ | exact okv_j _ | exact okv_0 | exact okv_1 | exact okv_o _ _ | exact okv_a _ _ | omega | exact llt_0 | ((repeat apply llt_s) <;> exact llt_0) | fail) only [x197, nI_ltI, hb, hc, hd, if_true, if_false, n21, h1, m_sizeOf, nI_add, mo_k_v, mo_k_n, mo_v_e, mo_gf_e, mo_pf_e, mo_ia_e, mo_ba_e, mo_za_e, mo_la_e, mo_aa_e, mo_le_e, mo_is_e, mo_bs_e, mo_zs_0, mo_zs_1, mo_ls_e, mo_as_e, mo_na_e, mo_aci_e, mo_acb_e, mo_acj_e, hp_gs, hp_gn, hp_ss, List.getElem?_cons_zero, List.getElem?_cons_succ, List.set_cons_zero, List.set_cons_succ]
        exact ⟨_, zz_nl_i _, rfl⟩
      · have e : wrk 2 (g b) (g2 b) = cst (g b) + cst (g2 b) := by unfold wrk; simp [h1]
        rw [e]
        simp (disch := first | assumption | exact zz_nl_i _ | exact zz_nl_r _ | exact zz_nl_n | exact okv_i _ | exact okv_j _ | exact okv_0 | exact okv_1 | exact okv_o _ _ | exact okv_a _ _ | omega | exact llt_0 | ((repeat apply llt_s) <;> exact llt_0) | fail) only [x197, nI_ltI, hb, hc, hd, if_true, if_false, n21, h1, m_sizeOf, nI_add, n10, mo_k_v, mo_k_n, mo_v_e, mo_gf_e, mo_pf_e, mo_ia_e, mo_ba_e, mo_za_e, mo_la_e, mo_aa_e, mo_le_e, mo_is_e, mo_bs_e, mo_zs_0, mo_zs_1, mo_ls_e, mo_as_e, mo_na_e, mo_aci_e, mo_acb_e, mo_acj_e, hp_gs, hp_gn, hp_ss, List.getElem?_cons_zero, List.getElem?_cons_succ, List.set_cons_zero, List.set_cons_succ]
        exact ⟨_, zz_nl_i _, rfl⟩
  rw [en197]
  simp (disch := first | assumption | exact zz_nl_i _ | exact zz_nl_r _ | exact zz_nl_n | exact okv_i _ | exact okv_j _ | exact okv_0 | exact okv_1 | exact okv_o _ _ | exact okv_a _ _ | omega | exact llt_0 | ((repeat apply llt_s) <;> exact llt_0) | fail) only [x197, mo_k_v, mo_k_n, mo_v_e, mo_gf_e, mo_pf_e, mo_ia_e, mo_ba_e, mo_za_e, mo_la_e, mo_aa_e, mo_le_e, mo_is_e, mo_bs_e, mo_zs_0, mo_zs_1, mo_ls_e, mo_as_e, mo_na_e, mo_aci_e, mo_acb_e, mo_acj_e, hp_gs, hp_gn, hp_ss, List.getElem?_cons_zero, List.getElem?_cons_succ, List.set_cons_zero, List.set_cons_succ]
  obtain ⟨o, ho, e⟩ := lp_foldE (N := 8) (St := fun b s o => zz_Y 197 (5, [some (.ref (c)), some (.ref (d)), some (.int (nI (j))), some (.int (nI (s))), some (.int (nI (b))), o], [], h)) (Inv := fun o => zz_nl o = true) step (s := 0) (t := none) zz_nl_n
  refine e.trans ?_
  rw [lp_sum]
  ((try dsimp only); rw [x197_c5]; simp (disch := first | assumption | exact zz_nl_i _ | exact zz_nl_r _ | exact zz_nl_n | exact okv_i _ | exact okv_j _ | exact okv_0 | exact okv_1 | exact okv_o _ _ | exact okv_a _ _ | omega | exact llt_0 | ((repeat apply llt_s) <;> exact llt_0) | fail) only [x197, nI_ltI, Nat.lt_irrefl, if_false, Nat.zero_add, mo_k_v, mo_k_n, mo_v_e, mo_gf_e, mo_pf_e, mo_ia_e, mo_ba_e, mo_za_e, mo_la_e, mo_aa_e, mo_le_e, mo_is_e, mo_bs_e, mo_zs_0, mo_zs_1, mo_ls_e, mo_as_e, mo_na_e, mo_aci_e, mo_acb_e, mo_acj_e, hp_gs, hp_gn, hp_ss, List.getElem?_cons_zero, List.getElem?_cons_succ, List.set_cons_zero, List.set_cons_succ])
  rfl
end
