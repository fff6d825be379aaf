/-! boxes and sets: words of bits -/
def rns (x : Int32) : Nat := pc (x &&& (x <<< (nI 1 &&& 31) ^^^ (-1)))
def cst (x : Int32) : Nat := min (min (pc x) (2 * rns x)) 4
def knd (x : Int32) : Nat := if cst x = pc x then 0 else if cst x = 2 * rns x then 1 else 2
def jnd (k : Nat) (a b : Int32) : Int32 := if k = 0 then a &&& b else if k = 1 then a ||| b else a &&& (b ^^^ (-1))
def wrk (k : Nat) (a b : Int32) : Nat := if (k = 0 ∧ (a = nI 0 ∨ b = nI 0)) ∨ (k = 2 ∧ a = nI 0) then 0 else cst a + cst b
theorem rns_le (x : Int32) : rns x ≤ 32 := pc_le _
theorem cst_le (x : Int32) : cst x ≤ 4 := Nat.min_le_right _ _
theorem knd_le (x : Int32) : knd x ≤ 2 := by unfold knd; split; omega; split <;> omega
theorem c_hasBit {x : Int32} {k : Nat} (hk : k < 32) (h : zz_H) : zz_run 50 [.int x, .int (nI k)] h = some (some (.int (if bt x k = true then nI 1 else nI 0)), h) := by
  rw [en50]
  simp (disch := first | assumption | exact zz_nl_i _ | exact zz_nl_r _ | exact zz_nl_n | exact okv_i _ | exact okv_j _ | exact okv_0 | exact okv_1 | exact okv_o _ _ | exact okv_a _ _ | omega | exact llt_0 | ((repeat apply llt_s) <;> exact llt_0) | fail) only [x50, xb50, bit_and1 hk, mo_k_v, mo_k_n, mo_v_e, mo_gf_e, mo_pf_e, mo_ia_e, mo_ba_e, mo_za_e, mo_la_e, mo_aa_e, mo_le_e, mo_is_e, mo_bs_e, mo_zs_0, mo_zs_1, mo_ls_e, mo_as_e, mo_na_e, mo_aci_e, mo_acb_e, mo_acj_e, hp_gs, hp_gn, List.getElem?_cons_zero, List.getElem?_cons_succ, List.set_cons_zero, List.set_cons_succ]
  cases bt x k
  · rfl
  · rfl
theorem c_runs (x : Int32) (h : zz_H) : zz_run 109 [.int x] h = some (some (.int (nI (rns x))), h) := by
  rw [en109]
  simp (disch := first | assumption | exact zz_nl_i _ | exact zz_nl_r _ | exact zz_nl_n | exact okv_i _ | exact okv_j _ | exact okv_0 | exact okv_1 | exact okv_o _ _ | exact okv_a _ _ | omega | exact llt_0 | ((repeat apply llt_s) <;> exact llt_0) | fail) only [x109, c_bitCount, mo_k_v, mo_k_n, mo_v_e, mo_gf_e, mo_pf_e, mo_ia_e, mo_ba_e, mo_za_e, mo_la_e, mo_aa_e, mo_le_e, mo_is_e, mo_bs_e, mo_zs_0, mo_zs_1, mo_ls_e, mo_as_e, mo_na_e, mo_aci_e, mo_acb_e, mo_acj_e, hp_gs, hp_gn, List.getElem?_cons_zero, List.getElem?_cons_succ, List.set_cons_zero, List.set_cons_succ]
  rfl
theorem c_cost (x : Int32) (h : zz_H) : zz_run 75 [.int x] h = some (some (.int (nI (cst x))), h) := by
  have h1 := pc_le x
  have h2 := rns_le x
  rw [en75]
  simp (disch := first | assumption | exact zz_nl_i _ | exact zz_nl_r _ | exact zz_nl_n | exact okv_i _ | exact okv_j _ | exact okv_0 | exact okv_1 | exact okv_o _ _ | exact okv_a _ _ | omega | exact llt_0 | ((repeat apply llt_s) <;> exact llt_0) | fail) only [x75, c_bitCount, pk_mul, mo_k_v, mo_k_n, mo_v_e, mo_gf_e, mo_pf_e, mo_ia_e, mo_ba_e, mo_za_e, mo_la_e, mo_aa_e, mo_le_e, mo_is_e, mo_bs_e, mo_zs_0, mo_zs_1, mo_ls_e, mo_as_e, mo_na_e, mo_aci_e, mo_acb_e, mo_acj_e, hp_gs, hp_gn, List.getElem?_cons_zero, List.getElem?_cons_succ, List.set_cons_zero, List.set_cons_succ]
  rw [show pc (x &&& (x <<< (nI 1 &&& 31) ^^^ (-1))) = rns x from rfl]
  have e : (if nI (2 * rns x) < nI (pc x) then nI (2 * rns x) else nI (pc x)) = nI (min (pc x) (2 * rns x)) := by
    by_cases hc : 2 * rns x < pc x
    · rw [if_pos ((nI_ltI (by omega) (by omega)).mpr hc), Nat.min_eq_right (by omega)]
    · rw [if_neg (fun q => hc ((nI_ltI (by omega) (by omega)).mp q)), Nat.min_eq_left (by omega)]
  rw [e]
  unfold cst
  have hm : min (pc x) (2 * rns x) ≤ 64 := by omega
  generalize min (pc x) (2 * rns x) = m at *
  by_cases hc : 4 < m
  · rw [if_pos ((nI_ltI (by omega) (by omega)).mpr hc), Nat.min_eq_right (by omega)]
  · rw [if_neg (fun q => hc ((nI_ltI (by omega) (by omega)).mp q)), Nat.min_eq_left (by omega)]
theorem c_kind (x : Int32) (h : zz_H) : zz_run 108 [.int x] h = some (some (.int (nI (knd x))), h) := by
  have h1 := pc_le x
  have h2 := rns_le x
  have h3 := cst_le x
  rw [en108]
  simp (disch := first | assumption | exact zz_nl_i _ | exact zz_nl_r _ | exact zz_nl_n | exact okv_i _ | exact okv_j _ | exact okv_0 | exact okv_1 | exact okv_o _ _ | exact okv_a _ _ | omega | exact llt_0 | ((repeat apply llt_s) <;> exact llt_0) | fail) only [x108, c_bitCount, c_cost, c_runs, pk_mul, nI_eq, mo_k_v, mo_k_n, mo_v_e, mo_gf_e, mo_pf_e, mo_ia_e, mo_ba_e, mo_za_e, mo_la_e, mo_aa_e, mo_le_e, mo_is_e, mo_bs_e, mo_zs_0, mo_zs_1, mo_ls_e, mo_as_e, mo_na_e, mo_aci_e, mo_acb_e, mo_acj_e, hp_gs, hp_gn, List.getElem?_cons_zero, List.getElem?_cons_succ, List.set_cons_zero, List.set_cons_succ]
  unfold knd
  split
  · rfl
  · split <;> rfl
theorem c_joined {k : Nat} (hk : k < 3) (a b : Int32) (h : zz_H) : zz_run 76 [.int a, .int b, .int (nI k)] h = some (some (.int (jnd k a b)), h) := by
  rw [en76]
  match k, hk with
  | 0, _ => simp (disch := first | assumption | exact zz_nl_i _ | exact zz_nl_r _ | exact zz_nl_n | exact okv_i _ | exact okv_j _ | exact okv_0 | exact okv_1 | exact okv_o _ _ | exact okv_a _ _ | omega | exact llt_0 | ((repeat apply llt_s) <;> exact llt_0) | fail) only [x76, zz_sw, if_true, mo_k_v, mo_k_n, mo_v_e, mo_gf_e, mo_pf_e, mo_ia_e, mo_ba_e, mo_za_e, mo_la_e, mo_aa_e, mo_le_e, mo_is_e, mo_bs_e, mo_zs_0, mo_zs_1, mo_ls_e, mo_as_e, mo_na_e, mo_aci_e, mo_acb_e, mo_acj_e, hp_gs, hp_gn, List.getElem?_cons_zero, List.getElem?_cons_succ, List.set_cons_zero, List.set_cons_succ]; rfl
  | 1, _ => simp (disch := first | assumption | exact zz_nl_i _ | exact zz_nl_r _ | exact zz_nl_n | exact okv_i _ | exact okv_j _ | exact okv_0 | exact okv_1 | exact okv_o _ _ | exact okv_a _ _ | omega | exact llt_0 | ((repeat apply llt_s) <;> exact llt_0) | fail) only [x76, zz_sw, nI_01, if_true, if_false, mo_k_v, mo_k_n, mo_v_e, mo_gf_e, mo_pf_e, mo_ia_e, mo_ba_e, mo_za_e, mo_la_e, mo_aa_e, mo_le_e, mo_is_e, mo_bs_e, mo_zs_0, mo_zs_1, mo_ls_e, mo_as_e, mo_na_e, mo_aci_e, mo_acb_e, mo_acj_e, hp_gs, hp_gn, List.getElem?_cons_zero, List.getElem?_cons_succ, List.set_cons_zero, List.set_cons_succ]; rfl
  | 2, _ => simp (disch := first | assumption | exact zz_nl_i _ | exact zz_nl_r _ | exact zz_nl_n | exact okv_i _ | exact okv_j _ | exact okv_0 | exact okv_1 | exact okv_o _ _ | exact okv_a _ _ | omega | exact llt_0 | ((repeat apply llt_s) <;> exact llt_0) | fail) only [x76, zz_sw, show (nI 2 = nI 0) = False from eq_false (by decide +kernel), show (nI 2 = nI 1) = False from eq_false (by decide +kernel), if_true, if_false, mo_k_v, mo_k_n, mo_v_e, mo_gf_e, mo_pf_e, mo_ia_e, mo_ba_e, mo_za_e, mo_la_e, mo_aa_e, mo_le_e, mo_is_e, mo_bs_e, mo_zs_0, mo_zs_1, mo_ls_e, mo_as_e, mo_na_e, mo_aci_e, mo_acb_e, mo_acj_e, hp_gs, hp_gn, List.getElem?_cons_zero, List.getElem?_cons_succ, List.set_cons_zero, List.set_cons_succ]; rfl
theorem c_work {k : Nat} (hk : k < 3) (a b : Int32) (h : zz_H) : zz_run 74 [.int a, .int b, .int (nI k)] h = some (some (.int (nI (wrk k a b))), h) := by
  have n10 := nI_01
  have n20 : ¬ nI 2 = nI 0 := by decide +kernel
  have n12 : ¬ nI 1 = nI 2 := by decide +kernel
  have n02 : ¬ nI 0 = nI 2 := by decide +kernel
  rw [en74]
  match k, hk with
  | 0, _ =>
    simp (disch := first | assumption | exact zz_nl_i _ | exact zz_nl_r _ | exact zz_nl_n | exact okv_i _ | exact okv_j _ | exact okv_0 | exact okv_1 | exact okv_o _ _ | exact okv_a _ _ | omega | exact llt_0 | ((repeat apply llt_s) <;> exact llt_0) | fail) only [x74, c_cost, nI_add, n10, n02, if_true, if_false, mo_k_v, mo_k_n, mo_v_e, mo_gf_e, mo_pf_e, mo_ia_e, mo_ba_e, mo_za_e, mo_la_e, mo_aa_e, mo_le_e, mo_is_e, mo_bs_e, mo_zs_0, mo_zs_1, mo_ls_e, mo_as_e, mo_na_e, mo_aci_e, mo_acb_e, mo_acj_e, hp_gs, hp_gn, List.getElem?_cons_zero, List.getElem?_cons_succ, List.set_cons_zero, List.set_cons_succ]
    by_cases ha : a = nI 0
    · simp [ha, wrk]
    · by_cases hb : b = nI 0 <;> simp [ha, hb, wrk]
  | 1, _ =>
    simp (disch := first | assumption | exact zz_nl_i _ | exact zz_nl_r _ | exact zz_nl_n | exact okv_i _ | exact okv_j _ | exact okv_0 | exact okv_1 | exact okv_o _ _ | exact okv_a _ _ | omega | exact llt_0 | ((repeat apply llt_s) <;> exact llt_0) | fail) only [x74, c_cost, nI_add, n10, n12, if_true, if_false, mo_k_v, mo_k_n, mo_v_e, mo_gf_e, mo_pf_e, mo_ia_e, mo_ba_e, mo_za_e, mo_la_e, mo_aa_e, mo_le_e, mo_is_e, mo_bs_e, mo_zs_0, mo_zs_1, mo_ls_e, mo_as_e, mo_na_e, mo_aci_e, mo_acb_e, mo_acj_e, hp_gs, hp_gn, List.getElem?_cons_zero, List.getElem?_cons_succ, List.set_cons_zero, List.set_cons_succ]
    simp [wrk]
  | 2, _ =>
    simp (disch := first | assumption | exact zz_nl_i _ | exact zz_nl_r _ | exact zz_nl_n | exact okv_i _ | exact okv_j _ | exact okv_0 | exact okv_1 | exact okv_o _ _ | exact okv_a _ _ | omega | exact llt_0 | ((repeat apply llt_s) <;> exact llt_0) | fail) only [x74, c_cost, nI_add, n10, n20, if_true, if_false, mo_k_v, mo_k_n, mo_v_e, mo_gf_e, mo_pf_e, mo_ia_e, mo_ba_e, mo_za_e, mo_la_e, mo_aa_e, mo_le_e, mo_is_e, mo_bs_e, mo_zs_0, mo_zs_1, mo_ls_e, mo_as_e, mo_na_e, mo_aci_e, mo_acb_e, mo_acj_e, hp_gs, hp_gn, List.getElem?_cons_zero, List.getElem?_cons_succ, List.set_cons_zero, List.set_cons_succ]
    by_cases ha : a = nI 0 <;> simp [ha, wrk]
/-- the k-th place with a property -/
def kth (p : Nat → Bool) (n j : Nat) : Nat := fa_first (fun i => p i && decide (fb_ct p i = j)) n
def KT (p : Nat → Bool) (n : Nat) (k : Int32) : Int32 := if k < nI 0 then -1 else if k.toNatClampNeg < fb_ct p n then nI (kth p n k.toNatClampNeg) else -1
theorem kth_of {p : Nat → Bool} {n j i : Nat} (hi : i < n) (hp : p i = true) (hc : fb_ct p i = j) : kth p n j = i := by
  unfold kth
  have hf : (fun i => p i && decide (fb_ct p i = j)) i = true := by simp [hp, hc]
  have h1 : fa_first (fun i => p i && decide (fb_ct p i = j)) n ≤ i := by
    apply Classical.byContradiction
    intro hn
    have hno := fa_first_no (fun i => p i && decide (fb_ct p i = j)) n i (by omega)
    rw [show (p i && decide (fb_ct p i = j)) = true from hf] at hno
    cases hno
  have h2 := fa_first_yes (fun i => p i && decide (fb_ct p i = j)) n (by omega)
  simp only [Bool.and_eq_true, decide_eq_true_eq] at h2
  exact fb_ct_kth_one h2.1 hp (h2.2.trans hc.symm)
theorem kth_spec {p : Nat → Bool} {n j : Nat} (hj : j < fb_ct p n) : kth p n j < n ∧ p (kth p n j) = true ∧ fb_ct p (kth p n j) = j := by
  obtain ⟨i, hi, hp, hc⟩ := fb_ct_kth hj
  rw [kth_of hi hp hc]
  exact ⟨hi, hp, hc⟩
theorem KT_lt {p : Nat → Bool} {n j : Nat} (hj : j < fb_ct p n) (hn : n < 2147483648) : KT p n (nI j) = nI (kth p n j) := by
  have := fb_ct_le p n
  unfold KT
  rw [if_neg (nI_nlt0 (by omega)), nI_clamp (by omega), if_pos hj]
theorem KT_ge {p : Nat → Bool} {n j : Nat} (hj : fb_ct p n ≤ j) (hn : j < 2147483648) : KT p n (nI j) = -1 := by
  unfold KT
  rw [if_neg (nI_nlt0 (by omega)), nI_clamp (by omega), if_neg (by omega)]
theorem KT_neg {p : Nat → Bool} {n : Nat} {k : Int32} (hk : k < nI 0) : KT p n k = -1 := if_pos hk
theorem KT_cong {p q : Nat → Bool} {n : Nat} (hpq : ∀ i, i < n → p i = q i) (k : Int32) : KT p n k = KT q n k := by
  have hc := fb_ct_cong hpq
  unfold KT
  rw [hc]
  by_cases hk : k < nI 0
  · rw [if_pos hk, if_pos hk]
  · rw [if_neg hk, if_neg hk]
    by_cases hj : k.toNatClampNeg < fb_ct q n
    · rw [if_pos hj, if_pos hj]
      obtain ⟨i, hi, hp, hc2⟩ := fb_ct_kth hj
      rw [kth_of hi hp hc2, kth_of hi ((hpq i hi).trans hp) ((fb_ct_cong (fun k hk => hpq k (by omega))).trans hc2)]
    · rw [if_neg hj, if_neg hj]
/-- an int is below 0 or a number -/
theorem neg_or (k : Int32) : k < nI 0 ∨ ∃ j : Nat, j < 2147483648 ∧ k = nI j := by
  by_cases hk : k < 0
  · exact Or.inl hk
  · obtain ⟨j, hj, e⟩ := nI_of hk
    exact Or.inr ⟨j, by omega, e⟩
theorem c_bitAt (x k : Int32) (h : zz_H) : zz_run 82 [.int x, .int k] h = some (some (.int (KT (bt x) 32 k)), h) := by
  have hpc := pc_le x
  rw [en82]
  rcases neg_or k with hk | ⟨j, hj, rfl⟩
  · simp (disch := first | assumption | exact zz_nl_i _ | exact zz_nl_r _ | exact zz_nl_n | exact okv_i _ | exact okv_j _ | exact okv_0 | exact okv_1 | exact okv_o _ _ | exact okv_a _ _ | omega | exact llt_0 | ((repeat apply llt_s) <;> exact llt_0) | fail) only [x82, hk, if_true, mo_k_v, mo_k_n, mo_v_e, mo_gf_e, mo_pf_e, mo_ia_e, mo_ba_e, mo_za_e, mo_la_e, mo_aa_e, mo_le_e, mo_is_e, mo_bs_e, mo_zs_0, mo_zs_1, mo_ls_e, mo_as_e, mo_na_e, mo_aci_e, mo_acb_e, mo_acj_e, hp_gs, hp_gn, List.getElem?_cons_zero, List.getElem?_cons_succ, List.set_cons_zero, List.set_cons_succ]
    rw [KT_neg hk]
  · by_cases hl : j < pc x
    · obtain ⟨i, hi, hp, hc⟩ := fb_ct_kth (p := bt x) (n := 32) hl
      have key : ∀ b, b ≤ i → zz_Y 82 (18, [some (.int x), some (.int (nI j)), some (.int (nI (fb_ct (bt x) b))), some (.int (nI b))], [], h) = some (some (.int (nI i)), h) := by
        intro b hb
        obtain ⟨d, hd⟩ : ∃ d, i = b + d := ⟨i - b, by omega⟩
        induction d generalizing b with
        | zero =>
          have : i = b := by omega
          subst this
          rw [x82_c18]
          simp (disch := first | assumption | exact zz_nl_i _ | exact zz_nl_r _ | exact zz_nl_n | exact okv_i _ | exact okv_j _ | exact okv_0 | exact okv_1 | exact okv_o _ _ | exact okv_a _ _ | omega | exact llt_0 | ((repeat apply llt_s) <;> exact llt_0) | fail) only [x82, nI_ltI, hi, c_hasBit, hp, nI_01, hc, if_true, if_false, mo_k_v, mo_k_n, mo_v_e, mo_gf_e, mo_pf_e, mo_ia_e, mo_ba_e, mo_za_e, mo_la_e, mo_aa_e, mo_le_e, mo_is_e, mo_bs_e, mo_zs_0, mo_zs_1, mo_ls_e, mo_as_e, mo_na_e, mo_aci_e, mo_acb_e, mo_acj_e, hp_gs, hp_gn, List.getElem?_cons_zero, List.getElem?_cons_succ, List.set_cons_zero, List.set_cons_succ]
        | succ d ih =>
          have hlt : fb_ct (bt x) (b + 1) ≤ fb_ct (bt x) i := fb_ct_mono _ (by omega)
          have hb32 : b < 32 := by omega
          have hs := fb_ct_succ (bt x) b
          have hle := fb_ct_le (bt x) b
          rw [x82_c18]
          cases hq : bt x b with
          | false =>
            rw [hq] at hs
            simp only [Bool.false_eq_true, if_false, Nat.add_zero] at hs
            simp (disch := first | assumption | exact zz_nl_i _ | exact zz_nl_r _ | exact zz_nl_n | exact okv_i _ | exact okv_j _ | exact okv_0 | exact okv_1 | exact okv_o _ _ | exact okv_a _ _ | omega | exact llt_0 | ((repeat apply llt_s) <;> exact llt_0) | fail) only [x82, nI_ltI, hb32, c_hasBit, hq, Bool.false_eq_true, if_true, if_false, nI_add, mo_k_v, mo_k_n, mo_v_e, mo_gf_e, mo_pf_e, mo_ia_e, mo_ba_e, mo_za_e, mo_la_e, mo_aa_e, mo_le_e, mo_is_e, mo_bs_e, mo_zs_0, mo_zs_1, mo_ls_e, mo_as_e, mo_na_e, mo_aci_e, mo_acb_e, mo_acj_e, hp_gs, hp_gn, List.getElem?_cons_zero, List.getElem?_cons_succ, List.set_cons_zero, List.set_cons_succ]
            rw [← hs]
            exact ih (b + 1) (by omega) (by omega)
          | true =>
            rw [hq] at hs
            simp only [if_true] at hs
            have hne : ¬ fb_ct (bt x) b = j := by omega
            simp (disch := first | assumption | exact zz_nl_i _ | exact zz_nl_r _ | exact zz_nl_n | exact okv_i _ | exact okv_j _ | exact okv_0 | exact okv_1 | exact okv_o _ _ | exact okv_a _ _ | omega | exact llt_0 | ((repeat apply llt_s) <;> exact llt_0) | fail) only [x82, nI_ltI, hb32, c_hasBit, hq, nI_01, nI_eq, hne, if_true, if_false, nI_add, mo_k_v, mo_k_n, mo_v_e, mo_gf_e, mo_pf_e, mo_ia_e, mo_ba_e, mo_za_e, mo_la_e, mo_aa_e, mo_le_e, mo_is_e, mo_bs_e, mo_zs_0, mo_zs_1, mo_ls_e, mo_as_e, mo_na_e, mo_aci_e, mo_acb_e, mo_acj_e, hp_gs, hp_gn, List.getElem?_cons_zero, List.getElem?_cons_succ, List.set_cons_zero, List.set_cons_succ]
            rw [← hs]
            exact ih (b + 1) (by omega) (by omega)
      have hn0 : ¬ nI j < nI 0 := nI_nlt0 hj
      simp (disch := first | assumption | exact zz_nl_i _ | exact zz_nl_r _ | exact zz_nl_n | exact okv_i _ | exact okv_j _ | exact okv_0 | exact okv_1 | exact okv_o _ _ | exact okv_a _ _ | omega | exact llt_0 | ((repeat apply llt_s) <;> exact llt_0) | fail) only [x82, c_bitCount, hn0, nI_ltI, hl, if_true, if_false, mo_k_v, mo_k_n, mo_v_e, mo_gf_e, mo_pf_e, mo_ia_e, mo_ba_e, mo_za_e, mo_la_e, mo_aa_e, mo_le_e, mo_is_e, mo_bs_e, mo_zs_0, mo_zs_1, mo_ls_e, mo_as_e, mo_na_e, mo_aci_e, mo_acb_e, mo_acj_e, hp_gs, hp_gn, List.getElem?_cons_zero, List.getElem?_cons_succ, List.set_cons_zero, List.set_cons_succ]
      rw [KT_lt hl (by omega), kth_of hi hp hc]
      exact key 0 (Nat.zero_le _)
    · have hn0 : ¬ nI j < nI 0 := nI_nlt0 hj
      simp (disch := first | assumption | exact zz_nl_i _ | exact zz_nl_r _ | exact zz_nl_n | exact okv_i _ | exact okv_j _ | exact okv_0 | exact okv_1 | exact okv_o _ _ | exact okv_a _ _ | omega | exact llt_0 | ((repeat apply llt_s) <;> exact llt_0) | fail) only [x82, c_bitCount, hn0, nI_ltI, hl, if_true, if_false, mo_k_v, mo_k_n, mo_v_e, mo_gf_e, mo_pf_e, mo_ia_e, mo_ba_e, mo_za_e, mo_la_e, mo_aa_e, mo_le_e, mo_is_e, mo_bs_e, mo_zs_0, mo_zs_1, mo_ls_e, mo_as_e, mo_na_e, mo_aci_e, mo_acb_e, mo_acj_e, hp_gs, hp_gn, List.getElem?_cons_zero, List.getElem?_cons_succ, List.set_cons_zero, List.set_cons_succ]
      rw [KT_ge (by show pc x ≤ j; omega) hj]
