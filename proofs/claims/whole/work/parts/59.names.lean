/-! names: five bits a letter, and a base of 27 -/
def P5 (l : Nat → Nat) : Nat → Nat
  | 0 => 0
  | n + 1 => P5 l n + l n * 32 ^ n
def B27 (l : Nat → Nat) : Nat → Nat
  | 0 => 0
  | n + 1 => 27 * B27 l n + l n
theorem P5_lt {l : Nat → Nat} : ∀ {n : Nat}, (∀ i, i < n → l i ≤ 26) → P5 l n < 32 ^ n
  | 0, _ => Nat.zero_lt_one
  | n + 1, h => by
    have i1 := P5_lt (n := n) (fun i hi => h i (by omega))
    have i2 := h n (by omega)
    show P5 l n + l n * 32 ^ n < 32 ^ (n + 1)
    rw [Nat.pow_succ]
    have : l n * 32 ^ n ≤ 26 * 32 ^ n := Nat.mul_le_mul_right _ i2
    omega
theorem B27_lt {l : Nat → Nat} : ∀ {n : Nat}, (∀ i, i < n → l i ≤ 26) → B27 l n < 27 ^ n
  | 0, _ => Nat.zero_lt_one
  | n + 1, h => by
    have i1 := B27_lt (n := n) (fun i hi => h i (by omega))
    have i2 := h n (by omega)
    show 27 * B27 l n + l n < 27 ^ (n + 1)
    rw [Nat.pow_succ]
    omega
theorem pow_mono8 {a n : Nat} (ha : 0 < a) (hn : n ≤ 8) : a ^ n ≤ a ^ 8 := Nat.pow_le_pow_right ha hn
theorem P5_40 {l : Nat → Nat} {n : Nat} (hn : n ≤ 8) (h : ∀ i, i < n → l i ≤ 26) : P5 l n < 2 ^ 40 := by
  have h1 := P5_lt h
  have h2 := pow_mono8 (a := 32) (by omega) hn
  have h3 : (32 : Nat) ^ 8 = 2 ^ 40 := by decide
  omega
theorem B27_40 {l : Nat → Nat} {n : Nat} (hn : n ≤ 8) (h : ∀ i, i < n → l i ≤ 26) : B27 l n < 2 ^ 40 := by
  have h1 := B27_lt h
  have h2 := pow_mono8 (a := 27) (by omega) hn
  have h3 : (27 : Nat) ^ 8 < 2 ^ 40 := by decide
  omega
theorem lN_eq' {a b : Nat} (ha : a < 2 ^ 64) (hb : b < 2 ^ 64) : lN a = lN b ↔ a = b := by
  constructor
  · intro e
    have := congrArg (fun x => x.toBitVec.toNat) e
    rw [wb_tn ha, wb_tn hb] at this
    exact this
  · rintro rfl; rfl
theorem low5 : ∀ c, c ≤ 26 → (nI (96 + c) &&& nI 31).toInt64 = lN c := by decide +kernel
theorem W5_P5 {l : Nat → Nat} : ∀ {n : Nat}, n ≤ 8 → (∀ i, i < n → l i ≤ 26) → W5 (fun i => 96 + l i) 0 n = lN (P5 l n)
  | 0, _, _ => rfl
  | n + 1, hn, h => by
    have i1 := W5_P5 (n := n) (by omega) (fun i hi => h i (by omega))
    have hb := P5_40 (l := l) (n := n) (by omega) (fun i hi => h i (by omega))
    have hl := h n (by omega)
    have hlt := P5_lt (l := l) (n := n) (fun i hi => h i (by omega))
    rw [show W5 (fun i => 96 + l i) 0 (n + 1) = wS (fun i => 96 + l i) 0 n (W5 (fun i => 96 + l i) 0 n) from rfl, i1]
    unfold wS
    rw [if_pos (by omega), Nat.zero_add, low5 _ hl, wb_shl _ (show 5 * n < 64 by omega)]
    have e : (2 : Nat) ^ (5 * n) = 32 ^ n := by rw [Nat.pow_mul]
    have hm : l n * 32 ^ n < 2 ^ 64 := by
      have h2 := pow_mono8 (a := 32) (n := n) (by omega) (by omega)
      have h3 : (32 : Nat) ^ 8 = 2 ^ 40 := by decide
      have : l n * 32 ^ n ≤ 26 * 2 ^ 40 := Nat.mul_le_mul hl (by omega)
      omega
    rw [e, wb_or (by omega) hm, Nat.or_comm, Nat.mul_comm, ← e, ← Nat.two_pow_add_eq_or_of_lt (by rw [e]; exact hlt), e]
    show lN (32 ^ n * l n + P5 l n) = lN (P5 l n + l n * 32 ^ n)
    rw [Nat.mul_comm, Nat.add_comm]
theorem P5_dig {l : Nat → Nat} : ∀ {n i : Nat}, (∀ j, j < n → l j ≤ 26) → P5 l n / 32 ^ i % 32 = if i < n then l i else 0
  | 0, i, _ => by
    show 0 / 32 ^ i % 32 = _
    rw [Nat.zero_div, if_neg (by omega)]
  | n + 1, i, h => by
    have ih := P5_dig (n := n) (i := i) (fun j hj => h j (by omega))
    have hlt := P5_lt (l := l) (n := n) (fun i hi => h i (by omega))
    have hl := h n (by omega)
    show (P5 l n + l n * 32 ^ n) / 32 ^ i % 32 = _
    by_cases c : i < n
    · obtain ⟨d, rfl⟩ : ∃ d, n = i + (d + 1) := ⟨n - i - 1, by omega⟩
      rw [show l (i + (d + 1)) * 32 ^ (i + (d + 1)) = (32 * (l (i + (d + 1)) * 32 ^ d)) * 32 ^ i by rw [Nat.pow_add, Nat.pow_succ]; ac_rfl, Nat.add_mul_div_right _ _ (Nat.pow_pos (by omega)), Nat.add_mul_mod_self_left, ih, if_pos c, if_pos (by omega)]
    · by_cases c2 : i = n
      · subst c2
        rw [Nat.add_mul_div_right _ _ (Nat.pow_pos (by omega)), Nat.div_eq_of_lt hlt, if_pos (by omega), Nat.zero_add, Nat.mod_eq_of_lt (by omega)]
      · rw [if_neg (by omega), Nat.div_eq_of_lt]
        have : 32 ^ (n + 1) ≤ 32 ^ i := Nat.pow_le_pow_right (by omega) (by omega)
        have h2 : l n * 32 ^ n ≤ 26 * 32 ^ n := Nat.mul_le_mul_right _ hl
        rw [Nat.pow_succ] at this
        omega
/-- the same name -/
def sameN (n : Nat) (l : Nat → Nat) (m : Nat) (k : Nat → Nat) : Prop := n = m ∧ ∀ i, i < n → l i = k i
theorem P5_same {n m : Nat} {l k : Nat → Nat} (hl : ∀ i, i < n → 1 ≤ l i ∧ l i ≤ 26) (hk : ∀ i, i < m → 1 ≤ k i ∧ k i ≤ 26) : P5 l n = P5 k m ↔ sameN n l m k := by
  constructor
  · intro e
    have key : ∀ i, (if i < n then l i else 0) = if i < m then k i else 0 := fun i => by
      rw [← P5_dig (fun j hj => (hl j hj).2), ← P5_dig (fun j hj => (hk j hj).2), e]
    have hnm : n = m := by
      rcases Nat.lt_trichotomy n m with c | c | c
      · have := key n
        rw [if_neg (by omega), if_pos c] at this
        have := (hk n c).1
        omega
      · exact c
      · have := key m
        rw [if_pos c, if_neg (by omega)] at this
        have := (hl m c).1
        omega
    refine ⟨hnm, fun i hi => ?_⟩
    have := key i
    rw [if_pos hi, if_pos (by omega)] at this
    exact this
  · rintro ⟨rfl, e⟩
    have : ∀ m, m ≤ n → P5 l m = P5 k m := by
      intro m
      induction m with
      | zero => intro _; rfl
      | succ m ih =>
        intro hm
        show P5 l m + l m * 32 ^ m = P5 k m + k m * 32 ^ m
        rw [ih (by omega), e m (by omega)]
    exact this n (Nat.le_refl _)
theorem B27_same : ∀ {n m : Nat} {l k : Nat → Nat}, (∀ i, i < n → 1 ≤ l i ∧ l i ≤ 26) → (∀ i, i < m → 1 ≤ k i ∧ k i ≤ 26) → (B27 l n = B27 k m ↔ sameN n l m k)
  | 0, 0, l, k, _, _ => ⟨fun _ => ⟨rfl, fun i hi => by omega⟩, fun _ => rfl⟩
  | 0, m + 1, l, k, _, hk => ⟨fun e => by
      have := (hk m (by omega)).1
      have e' : 0 = 27 * B27 k m + k m := e
      omega, fun e => by cases e.1⟩
  | n + 1, 0, l, k, hl, _ => ⟨fun e => by
      have := (hl n (by omega)).1
      have e' : 27 * B27 l n + l n = 0 := e
      omega, fun e => by cases e.1⟩
  | n + 1, m + 1, l, k, hl, hk => by
    have ih := B27_same (n := n) (m := m) (l := l) (k := k) (fun i hi => hl i (by omega)) (fun i hi => hk i (by omega))
    have h1 := hl n (by omega)
    have h2 := hk m (by omega)
    show 27 * B27 l n + l n = 27 * B27 k m + k m ↔ _
    constructor
    · intro e
      have e1 : l n = k m := by omega
      have e2 : B27 l n = B27 k m := by omega
      obtain ⟨q1, q2⟩ := ih.mp e2
      subst q1
      refine ⟨rfl, fun i hi => ?_⟩
      by_cases c : i = n
      · subst c; exact e1
      · exact q2 i (by omega)
    · rintro ⟨q1, q2⟩
      have q3 : n = m := by omega
      subst q3
      rw [ih.mpr ⟨rfl, fun i hi => q2 i (by omega)⟩, q2 n (by omega)]
/-- letters -/
theorem lshr {n k : Nat} (hn : n < 2 ^ 63) (hk : k < 64) : lN n >>> ((nI k).toInt64 &&& 63) = lN (n / 2 ^ k) := by
  rw [wb_c k hk]
  apply Int64.toBitVec_inj.mp
  rw [Int64.toBitVec_shiftRight, wb_tb, wb_tb, wb_tb]
  have e1 : ((BitVec.ofNat 64 k).smod 64).toNat = k := by
    have : ∀ k, k < 64 → ((BitVec.ofNat 64 k).smod 64).toNat = k := by decide +kernel
    exact this k hk
  show BitVec.sshiftRight _ _ = _
  rw [e1, BitVec.sshiftRight_eq_of_msb_false (by rw [BitVec.msb_eq_false_iff_two_mul_lt, BitVec.toNat_ofNat, Nat.mod_eq_of_lt (by omega)]; omega)]
  apply BitVec.eq_of_toNat_eq
  have h1 : n / 2 ^ k ≤ n := Nat.div_le_self _ _
  rw [BitVec.toNat_ushiftRight, BitVec.toNat_ofNat, BitVec.toNat_ofNat, Nat.mod_eq_of_lt (by omega), Nat.mod_eq_of_lt (by omega), Nat.shiftRight_eq_div_pow]
theorem toI32 (n : Nat) : (lN n).toInt32 = nI n := Int64.toInt32_ofNat
theorem and31 (n : Nat) : nI n &&& nI 31 = nI (n % 32) := by
  apply Int32.toBitVec_inj.mp
  rw [Int32.toBitVec_and]
  apply BitVec.eq_of_toNat_eq
  show (BitVec.ofNat 32 n &&& BitVec.ofNat 32 31).toNat = (BitVec.ofNat 32 (n % 32)).toNat
  rw [BitVec.toNat_and, BitVec.toNat_ofNat, BitVec.toNat_ofNat, BitVec.toNat_ofNat, show 31 % 2 ^ 32 = 2 ^ 5 - 1 from rfl, Nat.and_two_pow_sub_one_eq_mod]
  omega
theorem let_nm {A : Nat → Int32} {a : Nat} {w : Int64} (hn : nmR A a w) (x : Int32) : ∃ n, n ≤ 8 ∧ A a = nI n ∧ letC w x = if isV n x = true then A (a + 1 + x.toNatClampNeg) else -1 := by
  obtain ⟨n, l, h1, h2, h3, h4, h5⟩ := hn
  have hl : ∀ i, i < n → l i ≤ 26 := fun i hi => (h4 i hi).2.1
  refine ⟨n, h2, h3, ?_⟩
  unfold letC
  cases hx : isV 8 x with
  | false =>
    rw [if_neg (by decide), if_neg (fun c => ?_)]
    obtain ⟨k, hk, rfl⟩ := (isV_iff (by omega)).mp c
    rw [isV_nI (by omega) (by omega)] at hx
    cases hx
  | true =>
    obtain ⟨k, hk, rfl⟩ := (isV_iff (by omega)).mp hx
    have hb := P5_40 h2 hl
    have e : (w >>> ((nI 5 * nI k).toInt64 &&& 63)).toInt32 &&& nI 31 = nI (if k < n then l k else 0) := by
      rw [h5, W5_P5 h2 hl, pk_mul, lshr (by omega) (by omega), toI32, and31, Nat.pow_mul, show 2 ^ 5 = 32 from rfl, P5_dig hl]
    rw [if_pos rfl, e]
    by_cases c : k < n
    · obtain ⟨g1, g2, g3⟩ := h4 k c
      rw [if_pos c, if_neg (by rw [nI_eq (by omega) (by omega)]; omega), if_pos (isV_nI (by omega) c), nI_clamp (by omega), g3, nI_add, pk_sub (by omega)]
      congr 1
      omega
    · rw [if_neg c, if_pos rfl, if_neg (fun q => ?_)]
      obtain ⟨j, hj, e2⟩ := (isV_iff (by omega)).mp q
      rw [nI_eq (by omega) (by omega)] at e2
      omega
