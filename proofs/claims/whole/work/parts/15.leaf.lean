/-! single bits; the static methods of both sides -/
theorem b_1 (i : Nat) : bt (nI 1) i = decide (i = 0) := by
  by_cases hi : i < 32
  · rw [bt_nI hi]
    rcases Nat.eq_zero_or_pos i with rfl | h
    · rfl
    · have : 1 / 2 ^ i = 0 := Nat.div_eq_of_lt (Nat.one_lt_two_pow (by omega))
      rw [this]
      simp; omega
  · rw [b_big (by omega)]
    simp; omega
theorem b_one {k i : Nat} (hk : k < 32) (hi : i < 32) : bt (nI 1 <<< (nI k &&& 31)) i = decide (i = k) := by
  rw [b_shl k hk _ hi, b_1]
  by_cases h : i = k
  · subst h; simp
  · simp only [h, decide_false, Bool.and_eq_false_iff, decide_eq_false_iff_not]
    omega
theorem b_not {x : Int32} {i : Nat} (hi : i < 32) : bt (x ^^^ (-1)) i = !bt x i := by rw [b_xor, b_m1 i hi]; simp
theorem bit_and1 {x : Int32} {k : Nat} (hk : k < 32) : (x >>> (nI k &&& 31)) &&& nI 1 = if bt x k = true then nI 1 else nI 0 := by
  apply b_ext
  intro i hi
  rw [b_and, b_1, b_sshr k hk x hi]
  by_cases h0 : i = 0
  · subst h0
    simp only [Nat.add_zero, hk, if_true, decide_true, Bool.and_true]
    cases hb : bt x k <;> simp [b_1, b_0, nI_0]
  · simp only [h0, decide_false, Bool.and_false]
    split <;> simp [b_1, b_0, nI_0, h0]
theorem ushr_nI {n k : Nat} (hn : n < 2 ^ 32) (hk : k < 32) : ((nI n).toUInt32 >>> ((nI k).toUInt32 &&& Int32.toUInt32 31)).toInt32 = nI (n / 2 ^ k) := pk_ushrN hn (nI k) k (s_u k hk)
theorem nI_01 : ¬ nI 1 = nI 0 := by decide +kernel
theorem nI_m1 {n : Nat} (h : n < 2147483648) : ¬ nI n = -1 := by
  intro e
  have := nI_pos (n := n) (by omega)
  rw [e] at this
  exact this (by decide +kernel)
theorem m1_nI {n : Nat} (h : n < 2147483648) : ¬ -1 = nI n := fun e => nI_m1 h e.symm
theorem m1_lt {n : Nat} (h : n < 2147483648) : (-1 : Int32) < nI n := by
  rw [Int32.lt_iff_toInt_lt, nI_toInt (by omega)]
  have : (-1 : Int32).toInt = -1 := by decide +kernel
  omega
theorem m1_lt0 : (-1 : Int32) < nI 0 := by decide +kernel
theorem nI_nlt0 {n : Nat} (h : n < 2147483648) : ¬ nI n < nI 0 := by rw [nI_0]; exact nI_pos (by omega)
theorem iff_ite {c : Prop} [Decidable c] {α : Type} {a b : α} (h : c) : (if c then a else b) = a := if_pos h
/-! Integer.bitCount -/
theorem c_bitCount (x : Int32) (h : zz_H) : zz_run 64 [.int x] h = some (some (.int (nI (pc x))), h) := by
  obtain ⟨n, hn, rfl⟩ := wb_of32 x
  rw [en64]
  simp (disch := first | assumption | exact zz_nl_i _ | exact zz_nl_r _ | exact zz_nl_n | exact okv_i _ | exact okv_j _ | exact okv_0 | exact okv_1 | exact okv_o _ _ | exact okv_a _ _ | omega | exact llt_0 | ((repeat apply llt_s) <;> exact llt_0) | fail) only [x64, mo_k_v, mo_k_n, mo_v_e, mo_gf_e, mo_pf_e, mo_ia_e, mo_ba_e, mo_za_e, mo_la_e, mo_aa_e, mo_le_e, mo_is_e, mo_bs_e, mo_zs_0, mo_zs_1, mo_ls_e, mo_as_e, mo_na_e, mo_aci_e, mo_acb_e, mo_acj_e, hp_gs, hp_gn, List.getElem?_cons_zero, List.getElem?_cons_succ, List.set_cons_zero, List.set_cons_succ]
  rw [← bc_all hn]
  have h1 : n / 2 &&& 1431655765 ≤ n := Nat.le_trans Nat.and_le_left (Nat.div_le_self _ _)
  have e1 : nI n - (((nI n).toUInt32 >>> ((nI 1).toUInt32 &&& Int32.toUInt32 31)).toInt32 &&& nI 1431655765) = nI (bc1 n) := by
    rw [ushr_nI hn (by omega), fa_and]
    exact pk_sub h1
  have l1 : bc1 n < 2 ^ 32 := by unfold bc1; omega
  have e2 : (nI (bc1 n) &&& nI 858993459) + (((nI (bc1 n)).toUInt32 >>> ((nI 2).toUInt32 &&& Int32.toUInt32 31)).toInt32 &&& nI 858993459) = nI (bc2 (bc1 n)) := by
    rw [ushr_nI l1 (by omega), fa_and, fa_and, nI_add]
    rfl
  have l2 : bc2 (bc1 n) < 2 ^ 31 := by
    unfold bc2
    have := @Nat.and_le_right (bc1 n) 858993459
    have := @Nat.and_le_right (bc1 n / 4) 858993459
    omega
  have e3 : (nI (bc2 (bc1 n)) + ((nI (bc2 (bc1 n))).toUInt32 >>> ((nI 4).toUInt32 &&& Int32.toUInt32 31)).toInt32) &&& nI 252645135 = nI (bc3 (bc2 (bc1 n))) := by
    rw [ushr_nI (by omega) (by omega), nI_add, fa_and]
    rfl
  have l3 : bc3 (bc2 (bc1 n)) < 2 ^ 28 := by
    unfold bc3
    exact Nat.lt_of_le_of_lt Nat.and_le_right (by decide)
  have e4 : nI (bc3 (bc2 (bc1 n))) + ((nI (bc3 (bc2 (bc1 n)))).toUInt32 >>> ((nI 8).toUInt32 &&& Int32.toUInt32 31)).toInt32 = nI (bc4 (bc3 (bc2 (bc1 n)))) := by
    rw [ushr_nI (by omega) (by omega), nI_add]
    rfl
  have l4 : bc4 (bc3 (bc2 (bc1 n))) < 2 ^ 30 := by unfold bc4; omega
  have e5 : nI (bc4 (bc3 (bc2 (bc1 n)))) + ((nI (bc4 (bc3 (bc2 (bc1 n))))).toUInt32 >>> ((nI 16).toUInt32 &&& Int32.toUInt32 31)).toInt32 = nI (bc5 (bc4 (bc3 (bc2 (bc1 n))))) := by
    rw [ushr_nI (by omega) (by omega), nI_add]
    rfl
  rw [e1, e2, e3, e4, e5, fa_and]
/-- clearing the lowest bit -/
theorem low_clear {x : Int32} (hx : x ≠ 0) : pc x = pc (x &&& (x - nI 1)) + 1 := by
  obtain ⟨n, hn, rfl⟩ := wb_of32 x
  have hn0 : n ≠ 0 := fun e => hx (by rw [e]; rfl)
  have hex : ∃ j, j < 32 ∧ n / 2 ^ j % 2 = 1 := by
    apply Classical.byContradiction
    intro hno
    apply hx
    apply b_ext
    intro i hi
    rw [bt_nI hi, b_0, decide_eq_false_iff_not]
    exact fun e => hno ⟨i, hi, e⟩
  obtain ⟨j, ⟨hj, hb⟩, hmin⟩ := pk_least (fun j => j < 32 ∧ n / 2 ^ j % 2 = 1) hex
  have hlow : n % 2 ^ j = 0 := by
    have key : ∀ k, k ≤ j → n % 2 ^ k = 0 := by
      intro k
      induction k with
      | zero => intro _; simp [Nat.mod_one]
      | succ k ih =>
        intro hk
        have h1 := ih (by omega)
        have h2 : n / 2 ^ k % 2 = 0 := by
          rcases Nat.mod_two_eq_zero_or_one (n / 2 ^ k) with h | h
          · exact h
          · exact absurd ⟨by omega, h⟩ (hmin k (by omega))
        rw [Nat.pow_succ, Nat.mod_mul, h1, h2]
        simp
    exact key j (Nat.le_refl _)
  have hq : n = 2 ^ j * (n / 2 ^ j) := by
    have := Nat.div_add_mod n (2 ^ j)
    omega
  generalize hm : n / 2 ^ j = m at *
  have hp : 0 < 2 ^ j := Nat.two_pow_pos j
  have hm1 : 1 ≤ m := by omega
  have e1 : nI n - nI 1 = nI (n - 1) := pk_sub (by omega)
  have hsub : n - 1 = 2 ^ j * (m - 1) + (2 ^ j - 1) := by
    rw [hq, Nat.mul_sub, Nat.mul_one]
    have : 2 ^ j * 1 ≤ 2 ^ j * m := Nat.mul_le_mul_left _ hm1
    omega
  have bits : ∀ i, i < 32 → bt (nI n &&& (nI n - nI 1)) i = (if i = j then false else bt (nI n) i) := by
    intro i hi
    rw [b_and, e1, bt_nI hi, bt_nI hi]
    by_cases h1 : i = j
    · subst h1
      have : (n - 1) / 2 ^ i = m - 1 := by
        rw [hsub, Nat.mul_add_div hp, Nat.div_eq_of_lt (by omega), Nat.add_zero]
      rw [this, if_pos rfl]
      have : ¬ (m - 1) % 2 = 1 := by omega
      simp [this]
    · rw [if_neg h1]
      by_cases h2 : i < j
      · have : ¬ n / 2 ^ i % 2 = 1 := fun e => hmin i h2 ⟨hi, e⟩
        simp [this]
      · have h3 : j < i := by omega
        have e2 : 2 ^ i = 2 ^ j * 2 ^ (i - j) := by rw [← Nat.pow_add]; congr 1; omega
        have e3 : n / 2 ^ i = m / 2 ^ (i - j) := by rw [e2, ← Nat.div_div_eq_div_mul, hm]
        have e4 : (n - 1) / 2 ^ i = (m - 1) / 2 ^ (i - j) := by
          have hlt : 2 ^ j - 1 < 2 ^ j := by omega
          rw [e2, ← Nat.div_div_eq_div_mul, hsub, Nat.mul_add_div hp, Nat.div_eq_of_lt hlt, Nat.add_zero]
        have e5 : (m - 1) / 2 ^ (i - j) = m / 2 ^ (i - j) := by
          obtain ⟨d, hd⟩ : ∃ d, i - j = d + 1 := ⟨i - j - 1, by omega⟩
          rw [hd, Nat.pow_succ, Nat.mul_comm, ← Nat.div_div_eq_div_mul, ← Nat.div_div_eq_div_mul]
          congr 1
          omega
        rw [e3, e4, e5]
        simp
  have hbj : bt (nI n) j = true := by rw [bt_nI hj, hm]; simp [hb]
  unfold pc
  have c := fb_ct_upd (bt (nI n)) false hj
  rw [hbj] at c
  simp only [if_true, Bool.false_eq_true, if_false] at c
  rw [fb_ct_cong (q := fun k => if k = j then false else bt (nI n) k) bits]
  omega
/-- the reference's count of bits -/
theorem m_bitsOf (x : Int32) (h : zz_H) : zz_run 160 [.int x] h = some (some (.int (nI (pc x))), h) := by
  have key : ∀ (k : Nat) (x w : Int32) (n : Nat), pc x = k → zz_Y 160 (4, [some (.int w), some (.int (nI n)), some (.int x)], [], h) = some (some (.int (nI (n + k))), h) := by
    intro k
    induction k with
    | zero =>
      intro x w n hx
      have := pc_zero.mp hx
      subst this
      rw [x160_c4]
      simp (disch := first | assumption | exact zz_nl_i _ | exact zz_nl_r _ | exact zz_nl_n | exact okv_i _ | exact okv_j _ | exact okv_0 | exact okv_1 | exact okv_o _ _ | exact okv_a _ _ | omega | exact llt_0 | ((repeat apply llt_s) <;> exact llt_0) | fail) only [x160, if_true, mo_k_v, mo_k_n, mo_v_e, mo_gf_e, mo_pf_e, mo_ia_e, mo_ba_e, mo_za_e, mo_la_e, mo_aa_e, mo_le_e, mo_is_e, mo_bs_e, mo_zs_0, mo_zs_1, mo_ls_e, mo_as_e, mo_na_e, mo_aci_e, mo_acb_e, mo_acj_e, hp_gs, hp_gn, List.getElem?_cons_zero, List.getElem?_cons_succ, List.set_cons_zero, List.set_cons_succ]
      rfl
    | succ k ih =>
      intro x w n hx
      have hx0 : x ≠ 0 := fun e => by rw [pc_zero.mpr e] at hx; omega
      have hc := low_clear hx0
      rw [x160_c4]
      simp (disch := first | assumption | exact zz_nl_i _ | exact zz_nl_r _ | exact zz_nl_n | exact okv_i _ | exact okv_j _ | exact okv_0 | exact okv_1 | exact okv_o _ _ | exact okv_a _ _ | omega | exact llt_0 | ((repeat apply llt_s) <;> exact llt_0) | fail) only [x160, show (x = nI 0) = False from eq_false hx0, if_false, nI_add, mo_k_v, mo_k_n, mo_v_e, mo_gf_e, mo_pf_e, mo_ia_e, mo_ba_e, mo_za_e, mo_la_e, mo_aa_e, mo_le_e, mo_is_e, mo_bs_e, mo_zs_0, mo_zs_1, mo_ls_e, mo_as_e, mo_na_e, mo_aci_e, mo_acb_e, mo_acj_e, hp_gs, hp_gn, List.getElem?_cons_zero, List.getElem?_cons_succ, List.set_cons_zero, List.set_cons_succ]
      rw [ih _ _ _ (by omega), show n + 1 + k = n + (k + 1) by omega]
  rw [en160]
  simp (disch := first | assumption | exact zz_nl_i _ | exact zz_nl_r _ | exact zz_nl_n | exact okv_i _ | exact okv_j _ | exact okv_0 | exact okv_1 | exact okv_o _ _ | exact okv_a _ _ | omega | exact llt_0 | ((repeat apply llt_s) <;> exact llt_0) | fail) only [x160, mo_k_v, mo_k_n, mo_v_e, mo_gf_e, mo_pf_e, mo_ia_e, mo_ba_e, mo_za_e, mo_la_e, mo_aa_e, mo_le_e, mo_is_e, mo_bs_e, mo_zs_0, mo_zs_1, mo_ls_e, mo_as_e, mo_na_e, mo_aci_e, mo_acb_e, mo_acj_e, hp_gs, hp_gn, List.getElem?_cons_zero, List.getElem?_cons_succ, List.set_cons_zero, List.set_cons_succ]
  rw [key _ _ _ _ rfl, Nat.zero_add]
