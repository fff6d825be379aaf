/-! loops, and how many bits a number has -/
def lp_it {σ : Type} (f : Nat → σ → σ) : Nat → σ → σ
  | 0, s => s
  | n + 1, s => f n (lp_it f n s)
theorem lp_go {σ ρ : Type} {N : Nat} {St : Nat → σ → ρ} {f : Nat → σ → σ} {s : σ} (hs : ∀ b s, b < N → St b s = St (b + 1) (f b s)) : ∀ b, b ≤ N → St 0 s = St b (lp_it f b s)
  | 0, _ => rfl
  | b + 1, hb => by
    rw [lp_go hs b (by omega), hs b _ (by omega)]
    rfl
/-- a loop that counts from 0 to N -/
theorem lp_fold {σ ρ : Type} {N : Nat} {St : Nat → σ → ρ} {f : Nat → σ → σ} {s : σ} (hs : ∀ b s, b < N → St b s = St (b + 1) (f b s)) : St 0 s = St N (lp_it f N s) := lp_go hs N (Nat.le_refl N)
/-- the same with an invariant -/
theorem lp_inv {σ ρ : Type} {N : Nat} {St : Nat → σ → ρ} {f : Nat → σ → σ} {P : Nat → σ → Prop} {s : σ} (h0 : P 0 s) (hs : ∀ b s, b < N → P b s → St b s = St (b + 1) (f b s) ∧ P (b + 1) (f b s)) : St 0 s = St N (lp_it f N s) ∧ P N (lp_it f N s) := by
  have key : ∀ b, b ≤ N → St 0 s = St b (lp_it f b s) ∧ P b (lp_it f b s) := by
    intro b
    induction b with
    | zero => exact fun _ => ⟨rfl, h0⟩
    | succ b ih =>
      intro hb
      obtain ⟨e, p⟩ := ih (by omega)
      obtain ⟨e2, p2⟩ := hs b _ (by omega) p
      exact ⟨e.trans e2, p2⟩
  exact key N (Nat.le_refl N)
/-- a loop that looks for the first -/
theorem lp_find {ρ : Type} {N : Nat} {St : Nat → ρ} {p : Nat → Bool} {R : Nat → ρ} (hs : ∀ b, b < N → St b = if p b = true then R b else St (b + 1)) : St 0 = if fa_first p N < N then R (fa_first p N) else St N := by
  have key : ∀ k, k ≤ N → (∀ j, j < k → p j = false) → St 0 = St k := by
    intro k
    induction k with
    | zero => exact fun _ _ => rfl
    | succ k ih =>
      intro hk hp
      rw [ih (by omega) (fun j hj => hp j (by omega)), hs k (by omega), hp k (by omega), if_neg (by decide)]
  have hle := fa_first_le p N
  rw [key (fa_first p N) hle (fun j hj => fa_first_no p N j hj)]
  by_cases hl : fa_first p N < N
  · rw [if_pos hl, hs _ hl, fa_first_yes p N hl, if_pos rfl]
  · rw [if_neg hl, show fa_first p N = N by omega]
theorem lp_sum (g : Nat → Nat) (s0 : Nat) : ∀ n, lp_it (fun b s => s + g b) n s0 = s0 + fb_sm g n
  | 0 => rfl
  | n + 1 => by
    show lp_it (fun b s => s + g b) n s0 + g n = _
    rw [lp_sum g s0 n, fb_sm_succ]
    omega
def pc (x : Int32) : Nat := fb_ct (bt x) 32
theorem pc_le (x : Int32) : pc x ≤ 32 := fb_ct_le _ _
theorem pc_zero {x : Int32} : pc x = 0 ↔ x = 0 := by
  unfold pc
  rw [fb_ct_zero]
  constructor
  · intro h
    exact b_ext (fun i hi => by rw [h i hi, b_0])
  · rintro rfl k _
    exact b_0 k
/-! digits -/
def dg (B : Nat) : List Nat → Nat
  | [] => 0
  | d :: l => d + B * dg B l
theorem dg_and (w : Nat) : ∀ (l m : List Nat), l.length = m.length → (∀ d ∈ l, d < 2 ^ w) → (∀ d ∈ m, d < 2 ^ w) → dg (2 ^ w) l &&& dg (2 ^ w) m = dg (2 ^ w) (List.zipWith (fun a b => a &&& b) l m)
  | [], [], _, _, _ => by simp [dg]
  | [], _ :: _, h, _, _ => by simp at h
  | _ :: _, [], h, _, _ => by simp at h
  | d :: l, e :: m, h, hl, hm => by
    have ih := dg_and w l m (by simpa using h) (fun x hx => hl x (List.mem_cons_of_mem _ hx)) (fun x hx => hm x (List.mem_cons_of_mem _ hx))
    have hd := hl d List.mem_cons_self
    have he := hm e List.mem_cons_self
    simp only [dg, List.zipWith_cons_cons]
    rw [← ih]
    have hde : d &&& e < 2 ^ w := Nat.lt_of_le_of_lt Nat.and_le_left hd
    apply Nat.eq_of_testBit_eq
    intro i
    rw [Nat.testBit_and, Nat.add_comm d, Nat.add_comm e, Nat.add_comm (d &&& e), Nat.testBit_two_pow_mul_add _ hd, Nat.testBit_two_pow_mul_add _ he, Nat.testBit_two_pow_mul_add _ hde]
    split <;> simp
theorem dg_div {B d : Nat} (l : List Nat) (hd : d < B) : dg B (d :: l) / B = dg B l := by
  simp only [dg]
  rw [Nat.add_mul_div_left _ _ (by omega), Nat.div_eq_of_lt hd, Nat.zero_add]
/-- what Integer.bitCount does, over plain numbers -/
def bc1 (n : Nat) : Nat := n - (n / 2 &&& 1431655765)
def bc2 (a : Nat) : Nat := (a &&& 858993459) + (a / 4 &&& 858993459)
def bc3 (a : Nat) : Nat := a + a / 16 &&& 252645135
def bc4 (a : Nat) : Nat := a + a / 256
def bc5 (a : Nat) : Nat := a + a / 65536
theorem and_small {a w : Nat} (h : a < 2 ^ w) : a &&& 2 ^ w - 1 = a := by rw [Nat.and_two_pow_sub_one_eq_mod, Nat.mod_eq_of_lt h]
theorem dg_c (B d : Nat) (l : List Nat) : dg B (d :: l) = d + B * dg B l := rfl
theorem dg_add (B a b : Nat) (l m : List Nat) : dg B (a :: l) + dg B (b :: m) = (a + b) + B * (dg B l + dg B m) := by
  simp only [dg_c, Nat.mul_add]
  omega
theorem dg_sub {B a b : Nat} {l m : List Nat} (h : b ≤ a) (h2 : dg B m ≤ dg B l) : dg B (a :: l) - dg B (b :: m) = (a - b) + B * (dg B l - dg B m) := by
  simp only [dg_c, Nat.mul_sub]
  have := Nat.mul_le_mul_left B h2
  omega
theorem dg_half (B : Nat) : ∀ l : List Nat, dg B (l.map (fun d => d / 2)) ≤ dg B l ∧ dg B l - dg B (l.map (fun d => d / 2)) = dg B (l.map (fun d => d - d / 2))
  | [] => ⟨Nat.le_refl _, rfl⟩
  | d :: l => by
    obtain ⟨h1, h2⟩ := dg_half B l
    have h3 : d / 2 ≤ d := by omega
    refine ⟨?_, ?_⟩
    · simp only [List.map_cons, dg_c]
      exact Nat.add_le_add h3 (Nat.mul_le_mul_left B h1)
    · rw [List.map_cons, List.map_cons, dg_sub h3 h1, h2, dg_c]
theorem dg_z4 (a : Nat) (l : List Nat) : dg 4 (a :: 0 :: l) = a + 16 * dg 4 l := by
  simp only [dg_c]
  omega
theorem dg_z16 (a : Nat) (l : List Nat) : dg 16 (a :: 0 :: l) = a + 256 * dg 16 l := by
  simp only [dg_c]
  omega
theorem dg_0 (B : Nat) : dg B [] = 0 := rfl
theorem dg_of (B : Nat) (hB : 0 < B) : ∀ (k n : Nat), n < B ^ k → dg B ((List.range k).map (fun i => n / B ^ i % B)) = n
  | 0, n, h => by
    have : n = 0 := by simpa using h
    subst this
    rfl
  | k + 1, n, h => by
    rw [List.range_succ_eq_map, List.map_cons, List.map_map, dg_c]
    have h1 : n / B < B ^ k := by
      rw [Nat.div_lt_iff_lt_mul hB]
      rwa [Nat.pow_succ] at h
    have ih := dg_of B hB k (n / B) h1
    have e : (fun i => n / B ^ i % B) ∘ Nat.succ = fun i => n / B / B ^ i % B := by
      funext i
      simp only [Function.comp]
      rw [Nat.div_div_eq_div_mul, Nat.pow_succ, Nat.mul_comm B]
    rw [e, ih]
    simp only [Nat.pow_zero, Nat.div_one]
    exact Nat.mod_add_div n B
theorem bc2_d {d0 d1 d2 d3 d4 d5 d6 d7 d8 d9 d10 d11 d12 d13 d14 d15 : Nat} (h0 : d0 ≤ 2) (h1 : d1 ≤ 2) (h2 : d2 ≤ 2) (h3 : d3 ≤ 2) (h4 : d4 ≤ 2) (h5 : d5 ≤ 2) (h6 : d6 ≤ 2) (h7 : d7 ≤ 2) (h8 : d8 ≤ 2) (h9 : d9 ≤ 2) (h10 : d10 ≤ 2) (h11 : d11 ≤ 2) (h12 : d12 ≤ 2) (h13 : d13 ≤ 2) (h14 : d14 ≤ 2) (h15 : d15 ≤ 2) : bc2 (dg 4 [d0, d1, d2, d3, d4, d5, d6, d7, d8, d9, d10, d11, d12, d13, d14, d15]) = dg 16 [d0 + d1, d2 + d3, d4 + d5, d6 + d7, d8 + d9, d10 + d11, d12 + d13, d14 + d15] := by
  unfold bc2
  have m1 : (858993459 : Nat) = dg (2 ^ 2) [3, 0, 3, 0, 3, 0, 3, 0, 3, 0, 3, 0, 3, 0, 3, 0] := by decide
  have m2 : (858993459 : Nat) = dg (2 ^ 2) [3, 0, 3, 0, 3, 0, 3, 0, 3, 0, 3, 0, 3, 0, 3] := by decide
  have e1 : dg 4 [d0, d1, d2, d3, d4, d5, d6, d7, d8, d9, d10, d11, d12, d13, d14, d15] &&& 858993459 = dg 4 [d0, 0, d2, 0, d4, 0, d6, 0, d8, 0, d10, 0, d12, 0, d14, 0] := by
    rw [m1]
    have := dg_and 2 [d0, d1, d2, d3, d4, d5, d6, d7, d8, d9, d10, d11, d12, d13, d14, d15] [3, 0, 3, 0, 3, 0, 3, 0, 3, 0, 3, 0, 3, 0, 3, 0] rfl (by intro d hd; simp only [List.mem_cons, List.not_mem_nil, or_false] at hd; rcases hd with rfl | rfl | rfl | rfl | rfl | rfl | rfl | rfl | rfl | rfl | rfl | rfl | rfl | rfl | rfl | rfl <;> omega) (by decide)
    rw [show (4 : Nat) = 2 ^ 2 from rfl, this]
    simp only [List.zipWith_cons_cons, List.zipWith_nil_left, Nat.and_zero]
    simp only [show d0 &&& 3 = d0 from and_small (w := 2) (by omega), show d2 &&& 3 = d2 from and_small (w := 2) (by omega), show d4 &&& 3 = d4 from and_small (w := 2) (by omega), show d6 &&& 3 = d6 from and_small (w := 2) (by omega), show d8 &&& 3 = d8 from and_small (w := 2) (by omega), show d10 &&& 3 = d10 from and_small (w := 2) (by omega), show d12 &&& 3 = d12 from and_small (w := 2) (by omega), show d14 &&& 3 = d14 from and_small (w := 2) (by omega)]
  have e2 : dg 4 [d0, d1, d2, d3, d4, d5, d6, d7, d8, d9, d10, d11, d12, d13, d14, d15] / 4 &&& 858993459 = dg 4 [d1, 0, d3, 0, d5, 0, d7, 0, d9, 0, d11, 0, d13, 0, d15] := by
    rw [dg_div _ (by omega), m2]
    have := dg_and 2 [d1, d2, d3, d4, d5, d6, d7, d8, d9, d10, d11, d12, d13, d14, d15] [3, 0, 3, 0, 3, 0, 3, 0, 3, 0, 3, 0, 3, 0, 3] rfl (by intro d hd; simp only [List.mem_cons, List.not_mem_nil, or_false] at hd; rcases hd with rfl | rfl | rfl | rfl | rfl | rfl | rfl | rfl | rfl | rfl | rfl | rfl | rfl | rfl | rfl <;> omega) (by decide)
    rw [show (4 : Nat) = 2 ^ 2 from rfl, this]
    simp only [List.zipWith_cons_cons, List.zipWith_nil_left, Nat.and_zero]
    simp only [show d1 &&& 3 = d1 from and_small (w := 2) (by omega), show d3 &&& 3 = d3 from and_small (w := 2) (by omega), show d5 &&& 3 = d5 from and_small (w := 2) (by omega), show d7 &&& 3 = d7 from and_small (w := 2) (by omega), show d9 &&& 3 = d9 from and_small (w := 2) (by omega), show d11 &&& 3 = d11 from and_small (w := 2) (by omega), show d13 &&& 3 = d13 from and_small (w := 2) (by omega), show d15 &&& 3 = d15 from and_small (w := 2) (by omega)]
  rw [e1, e2]
  simp only [dg_add, dg_0, Nat.add_zero, Nat.mul_zero, dg_c, Nat.zero_add]
  simp only [← Nat.mul_assoc, Nat.reduceMul]
  clear e1 e2 m1 m2 h0 h1 h2 h3 h4 h5 h6 h7 h8 h9 h10 h11 h12 h13 h14 h15
  omega
theorem bc3_d {q0 q1 q2 q3 q4 q5 q6 q7 : Nat} (h0 : q0 ≤ 4) (h1 : q1 ≤ 4) (h2 : q2 ≤ 4) (h3 : q3 ≤ 4) (h4 : q4 ≤ 4) (h5 : q5 ≤ 4) (h6 : q6 ≤ 4) (h7 : q7 ≤ 4) : bc3 (dg 16 [q0, q1, q2, q3, q4, q5, q6, q7]) = dg 256 [q0 + q1, q2 + q3, q4 + q5, q6 + q7] := by
  unfold bc3
  have e0 : dg 16 [q0, q1, q2, q3, q4, q5, q6, q7] + dg 16 [q0, q1, q2, q3, q4, q5, q6, q7] / 16 = dg 16 [q0 + q1, q1 + q2, q2 + q3, q3 + q4, q4 + q5, q5 + q6, q6 + q7, q7] := by
    rw [dg_div _ (by omega)]
    simp only [dg_0, dg_c]
    omega
  have m1 : (252645135 : Nat) = dg (2 ^ 4) [15, 0, 15, 0, 15, 0, 15, 0] := by decide
  rw [e0, m1]
  have := dg_and 4 [q0 + q1, q1 + q2, q2 + q3, q3 + q4, q4 + q5, q5 + q6, q6 + q7, q7] [15, 0, 15, 0, 15, 0, 15, 0] rfl (by intro d hd; simp only [List.mem_cons, List.not_mem_nil, or_false] at hd; rcases hd with rfl | rfl | rfl | rfl | rfl | rfl | rfl | rfl <;> omega) (by decide)
  rw [show (16 : Nat) = 2 ^ 4 from rfl, this]
  simp only [List.zipWith_cons_cons, List.zipWith_nil_left, Nat.and_zero, Nat.reducePow]
  simp only [show q0 + q1 &&& 15 = q0 + q1 from and_small (w := 4) (by omega), show q2 + q3 &&& 15 = q2 + q3 from and_small (w := 4) (by omega), show q4 + q5 &&& 15 = q4 + q5 from and_small (w := 4) (by omega), show q6 + q7 &&& 15 = q6 + q7 from and_small (w := 4) (by omega)]
  simp only [dg_0, dg_c]
  omega
theorem bc45_d {r0 r1 r2 r3 : Nat} (h0 : r0 ≤ 8) (h1 : r1 ≤ 8) (h2 : r2 ≤ 8) (h3 : r3 ≤ 8) : bc5 (bc4 (dg 256 [r0, r1, r2, r3])) &&& 63 = r0 + r1 + r2 + r3 := by
  have e : bc5 (bc4 (dg 256 [r0, r1, r2, r3])) = dg 256 [r0 + r1 + r2 + r3, r1 + r2 + r3, r2 + r3, r3] := by
    unfold bc5 bc4
    simp only [dg]
    omega
  rw [e, show (63 : Nat) = 2 ^ 6 - 1 from rfl, Nat.and_two_pow_sub_one_eq_mod]
  simp only [dg]
  omega
theorem bc1_d {n : Nat} (hn : n < 2 ^ 32) : bc1 n = dg 4 [n / 1 % 4 - n / 1 % 4 / 2, n / 4 % 4 - n / 4 % 4 / 2, n / 16 % 4 - n / 16 % 4 / 2, n / 64 % 4 - n / 64 % 4 / 2, n / 256 % 4 - n / 256 % 4 / 2, n / 1024 % 4 - n / 1024 % 4 / 2, n / 4096 % 4 - n / 4096 % 4 / 2, n / 16384 % 4 - n / 16384 % 4 / 2, n / 65536 % 4 - n / 65536 % 4 / 2, n / 262144 % 4 - n / 262144 % 4 / 2, n / 1048576 % 4 - n / 1048576 % 4 / 2, n / 4194304 % 4 - n / 4194304 % 4 / 2, n / 16777216 % 4 - n / 16777216 % 4 / 2, n / 67108864 % 4 - n / 67108864 % 4 / 2, n / 268435456 % 4 - n / 268435456 % 4 / 2, n / 1073741824 % 4 - n / 1073741824 % 4 / 2] := by
  unfold bc1
  have m1 : (1431655765 : Nat) = dg (2 ^ 2) [1, 1, 1, 1, 1, 1, 1, 1, 1, 1, 1, 1, 1, 1, 1, 1] := by decide
  have e0 : n / 2 = dg (2 ^ 2) [n / 2 / 4 ^ 0 % 4, n / 2 / 4 ^ 1 % 4, n / 2 / 4 ^ 2 % 4, n / 2 / 4 ^ 3 % 4, n / 2 / 4 ^ 4 % 4, n / 2 / 4 ^ 5 % 4, n / 2 / 4 ^ 6 % 4, n / 2 / 4 ^ 7 % 4, n / 2 / 4 ^ 8 % 4, n / 2 / 4 ^ 9 % 4, n / 2 / 4 ^ 10 % 4, n / 2 / 4 ^ 11 % 4, n / 2 / 4 ^ 12 % 4, n / 2 / 4 ^ 13 % 4, n / 2 / 4 ^ 14 % 4, n / 2 / 4 ^ 15 % 4] := (dg_of 4 (by decide) 16 (n / 2) (by omega)).symm.trans rfl
  have e1 : n / 2 &&& 1431655765 = dg 4 [n / 1 % 4 / 2, n / 4 % 4 / 2, n / 16 % 4 / 2, n / 64 % 4 / 2, n / 256 % 4 / 2, n / 1024 % 4 / 2, n / 4096 % 4 / 2, n / 16384 % 4 / 2, n / 65536 % 4 / 2, n / 262144 % 4 / 2, n / 1048576 % 4 / 2, n / 4194304 % 4 / 2, n / 16777216 % 4 / 2, n / 67108864 % 4 / 2, n / 268435456 % 4 / 2, n / 1073741824 % 4 / 2] := by
    rw [e0, m1]
    have := dg_and 2 [n / 2 / 4 ^ 0 % 4, n / 2 / 4 ^ 1 % 4, n / 2 / 4 ^ 2 % 4, n / 2 / 4 ^ 3 % 4, n / 2 / 4 ^ 4 % 4, n / 2 / 4 ^ 5 % 4, n / 2 / 4 ^ 6 % 4, n / 2 / 4 ^ 7 % 4, n / 2 / 4 ^ 8 % 4, n / 2 / 4 ^ 9 % 4, n / 2 / 4 ^ 10 % 4, n / 2 / 4 ^ 11 % 4, n / 2 / 4 ^ 12 % 4, n / 2 / 4 ^ 13 % 4, n / 2 / 4 ^ 14 % 4, n / 2 / 4 ^ 15 % 4] [1, 1, 1, 1, 1, 1, 1, 1, 1, 1, 1, 1, 1, 1, 1, 1] rfl (by intro d hd; simp only [List.mem_cons, List.not_mem_nil, or_false] at hd; rcases hd with rfl | rfl | rfl | rfl | rfl | rfl | rfl | rfl | rfl | rfl | rfl | rfl | rfl | rfl | rfl | rfl <;> exact Nat.mod_lt _ (by decide)) (by decide)
    rw [this]
    simp only [List.zipWith_cons_cons, List.zipWith_nil_left, show ∀ a : Nat, a &&& 1 = a % 2 from fun a => Nat.and_two_pow_sub_one_eq_mod a 1]
    simp only [show n / 2 / 4 ^ 0 % 4 % 2 = n / 1 % 4 / 2 by omega, show n / 2 / 4 ^ 1 % 4 % 2 = n / 4 % 4 / 2 by omega, show n / 2 / 4 ^ 2 % 4 % 2 = n / 16 % 4 / 2 by omega, show n / 2 / 4 ^ 3 % 4 % 2 = n / 64 % 4 / 2 by omega, show n / 2 / 4 ^ 4 % 4 % 2 = n / 256 % 4 / 2 by omega, show n / 2 / 4 ^ 5 % 4 % 2 = n / 1024 % 4 / 2 by omega, show n / 2 / 4 ^ 6 % 4 % 2 = n / 4096 % 4 / 2 by omega, show n / 2 / 4 ^ 7 % 4 % 2 = n / 16384 % 4 / 2 by omega, show n / 2 / 4 ^ 8 % 4 % 2 = n / 65536 % 4 / 2 by omega, show n / 2 / 4 ^ 9 % 4 % 2 = n / 262144 % 4 / 2 by omega, show n / 2 / 4 ^ 10 % 4 % 2 = n / 1048576 % 4 / 2 by omega, show n / 2 / 4 ^ 11 % 4 % 2 = n / 4194304 % 4 / 2 by omega, show n / 2 / 4 ^ 12 % 4 % 2 = n / 16777216 % 4 / 2 by omega, show n / 2 / 4 ^ 13 % 4 % 2 = n / 67108864 % 4 / 2 by omega, show n / 2 / 4 ^ 14 % 4 % 2 = n / 268435456 % 4 / 2 by omega, show n / 2 / 4 ^ 15 % 4 % 2 = n / 1073741824 % 4 / 2 by omega]
  have e2 : n = dg 4 [n / 1 % 4, n / 4 % 4, n / 16 % 4, n / 64 % 4, n / 256 % 4, n / 1024 % 4, n / 4096 % 4, n / 16384 % 4, n / 65536 % 4, n / 262144 % 4, n / 1048576 % 4, n / 4194304 % 4, n / 16777216 % 4, n / 67108864 % 4, n / 268435456 % 4, n / 1073741824 % 4] := (dg_of 4 (by decide) 16 n (by omega)).symm.trans rfl
  rw [e1]
  have e3 := (dg_half 4 [n / 1 % 4, n / 4 % 4, n / 16 % 4, n / 64 % 4, n / 256 % 4, n / 1024 % 4, n / 4096 % 4, n / 16384 % 4, n / 65536 % 4, n / 262144 % 4, n / 1048576 % 4, n / 4194304 % 4, n / 16777216 % 4, n / 67108864 % 4, n / 268435456 % 4, n / 1073741824 % 4]).2
  rw [← e2] at e3
  exact e3
theorem bt_nI {n i : Nat} (hi : i < 32) : bt (nI n) i = decide (n / 2 ^ i % 2 = 1) := by
  unfold bt
  show (BitVec.ofNat 32 n).getLsbD i = _
  rw [BitVec.getLsbD_ofNat, Nat.testBit_eq_decide_div_mod_eq]
  simp [hi]
theorem pc_nI {n : Nat} : pc (nI n) = fb_sm (fun i => n / 2 ^ i % 2) 32 := by
  unfold pc
  have key : ∀ k, k ≤ 32 → fb_ct (bt (nI n)) k = fb_sm (fun i => n / 2 ^ i % 2) k := by
    intro k
    induction k with
    | zero => exact fun _ => rfl
    | succ k ih =>
      intro hk
      rw [fb_ct_succ, fb_sm_succ, ih (by omega), bt_nI (by omega)]
      congr 1
      rcases Nat.mod_two_eq_zero_or_one (n / 2 ^ k) with h | h <;> simp [h]
  exact key 32 (Nat.le_refl _)
theorem bc_all {n : Nat} (hn : n < 2 ^ 32) : bc5 (bc4 (bc3 (bc2 (bc1 n)))) &&& 63 = pc (nI n) := by
  have k4 : ∀ m : Nat, m % 4 - m % 4 / 2 ≤ 2 := fun m => by omega
  rw [bc1_d hn, bc2_d (k4 _) (k4 _) (k4 _) (k4 _) (k4 _) (k4 _) (k4 _) (k4 _) (k4 _) (k4 _) (k4 _) (k4 _) (k4 _) (k4 _) (k4 _) (k4 _)]
  rw [bc3_d (Nat.add_le_add (k4 _) (k4 _)) (Nat.add_le_add (k4 _) (k4 _)) (Nat.add_le_add (k4 _) (k4 _)) (Nat.add_le_add (k4 _) (k4 _)) (Nat.add_le_add (k4 _) (k4 _)) (Nat.add_le_add (k4 _) (k4 _)) (Nat.add_le_add (k4 _) (k4 _)) (Nat.add_le_add (k4 _) (k4 _))]
  rw [bc45_d (Nat.add_le_add (Nat.add_le_add (k4 _) (k4 _)) (Nat.add_le_add (k4 _) (k4 _))) (Nat.add_le_add (Nat.add_le_add (k4 _) (k4 _)) (Nat.add_le_add (k4 _) (k4 _))) (Nat.add_le_add (Nat.add_le_add (k4 _) (k4 _)) (Nat.add_le_add (k4 _) (k4 _))) (Nat.add_le_add (Nat.add_le_add (k4 _) (k4 _)) (Nat.add_le_add (k4 _) (k4 _))), pc_nI]
  simp only [show n / 1 % 4 - n / 1 % 4 / 2 = n / 1 % 2 + n / 2 % 2 by omega, show n / 4 % 4 - n / 4 % 4 / 2 = n / 4 % 2 + n / 8 % 2 by omega, show n / 16 % 4 - n / 16 % 4 / 2 = n / 16 % 2 + n / 32 % 2 by omega, show n / 64 % 4 - n / 64 % 4 / 2 = n / 64 % 2 + n / 128 % 2 by omega, show n / 256 % 4 - n / 256 % 4 / 2 = n / 256 % 2 + n / 512 % 2 by omega, show n / 1024 % 4 - n / 1024 % 4 / 2 = n / 1024 % 2 + n / 2048 % 2 by omega, show n / 4096 % 4 - n / 4096 % 4 / 2 = n / 4096 % 2 + n / 8192 % 2 by omega, show n / 16384 % 4 - n / 16384 % 4 / 2 = n / 16384 % 2 + n / 32768 % 2 by omega, show n / 65536 % 4 - n / 65536 % 4 / 2 = n / 65536 % 2 + n / 131072 % 2 by omega, show n / 262144 % 4 - n / 262144 % 4 / 2 = n / 262144 % 2 + n / 524288 % 2 by omega, show n / 1048576 % 4 - n / 1048576 % 4 / 2 = n / 1048576 % 2 + n / 2097152 % 2 by omega, show n / 4194304 % 4 - n / 4194304 % 4 / 2 = n / 4194304 % 2 + n / 8388608 % 2 by omega, show n / 16777216 % 4 - n / 16777216 % 4 / 2 = n / 16777216 % 2 + n / 33554432 % 2 by omega, show n / 67108864 % 4 - n / 67108864 % 4 / 2 = n / 67108864 % 2 + n / 134217728 % 2 by omega, show n / 268435456 % 4 - n / 268435456 % 4 / 2 = n / 268435456 % 2 + n / 536870912 % 2 by omega, show n / 1073741824 % 4 - n / 1073741824 % 4 / 2 = n / 1073741824 % 2 + n / 2147483648 % 2 by omega]
  simp only [fb_sm, Nat.reducePow, Nat.div_one, Nat.add_assoc, Nat.zero_add]
