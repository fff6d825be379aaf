/-! the reference: named -/
section
variable (f : Nat → Int32) (ar : Int32) (nv : Nat)
def Q1 (x : Nat) : Prop := bt ar x = true ∧ alone f x x x = true
def Q2 (x y : Nat) : Prop := bt ar x = true ∧ bt ar y = true ∧ alone f x y y = true
def Q3 (x y z : Nat) : Prop := bt ar x = true ∧ bt ar y = true ∧ bt ar z = true ∧ alone f x y z = true
def L1 (x : Nat) : Prop := x < nv ∧ Q1 f ar x ∧ ∀ x', x' < x → ¬ Q1 f ar x'
def L2 (x y : Nat) : Prop := x < y ∧ y < nv ∧ Q2 f ar x y ∧ ∀ x' y', x' < y' → y' < nv → (x' < x ∨ x' = x ∧ y' < y) → ¬ Q2 f ar x' y'
def L3 (x y z : Nat) : Prop := x < y ∧ y < z ∧ z < nv ∧ Q3 f ar x y z ∧ ∀ x' y' z', x' < y' → y' < z' → z' < nv → (x' < x ∨ x' = x ∧ (y' < y ∨ y' = y ∧ z' < z)) → ¬ Q3 f ar x' y' z'
theorem nam1_spec : (∃ x, L1 f ar nv x ∧ nam1 f ar nv = sh1 x) ∨ ((∀ x, x < nv → ¬ Q1 f ar x) ∧ nam1 f ar nv = -1) := by
  unfold nam1
  have hle := fa_first_le (fun x => bt ar x && alone f x x x) nv
  have hno := fa_first_no (fun x => bt ar x && alone f x x x) nv
  have hyes := fa_first_yes (fun x => bt ar x && alone f x x x) nv
  generalize fa_first (fun x => bt ar x && alone f x x x) nv = x at *
  have hq : ∀ j, (bt ar j && alone f j j j) = false → ¬ Q1 f ar j := fun j e q => by
    rw [q.1, q.2] at e
    cases e
  by_cases c : x < nv
  · rw [if_pos c]
    refine Or.inl ⟨x, ⟨c, Bool.and_eq_true_iff.mp (hyes c), fun j hj => hq j (hno j hj)⟩, rfl⟩
  · rw [if_neg c]
    exact Or.inr ⟨fun j hj => hq j (hno j (by omega)), rfl⟩
theorem nam2_spec : (∃ x y, L2 f ar nv x y ∧ nam2 f ar nv = sh1 x ||| sh1 y) ∨ ((∀ x y, x < y → y < nv → ¬ Q2 f ar x y) ∧ nam2 f ar nv = -1) := by
  have key : ∀ x, x < nv → ((bt ar x && decide (fa_first (al2 f ar x) (nv - (x + 1)) < nv - (x + 1))) = false → ∀ y, x < y → y < nv → ¬ Q2 f ar x y) := by
    intro x hx e y h1 h2 q
    rw [q.1, Bool.true_and, decide_eq_false_iff_not] at e
    have := fa_first_no (al2 f ar x) (nv - (x + 1)) (y - (x + 1)) (by omega)
    unfold al2 at this
    rw [show x + 1 + (y - (x + 1)) = y by omega, q.2.1, q.2.2] at this
    cases this
  unfold nam2
  dsimp only
  have hle := fa_first_le (fun x => bt ar x && decide (fa_first (al2 f ar x) (nv - (x + 1)) < nv - (x + 1))) nv
  have hno := fa_first_no (fun x => bt ar x && decide (fa_first (al2 f ar x) (nv - (x + 1)) < nv - (x + 1))) nv
  have hyes := fa_first_yes (fun x => bt ar x && decide (fa_first (al2 f ar x) (nv - (x + 1)) < nv - (x + 1))) nv
  generalize fa_first (fun x => bt ar x && decide (fa_first (al2 f ar x) (nv - (x + 1)) < nv - (x + 1))) nv = x at *
  by_cases c : x < nv
  · rw [if_pos c]
    obtain ⟨e1, e2⟩ := Bool.and_eq_true_iff.mp (hyes c)
    have e2 := of_decide_eq_true e2
    have y1 := fa_first_yes (al2 f ar x) (nv - (x + 1)) e2
    have y2 := fa_first_no (al2 f ar x) (nv - (x + 1))
    generalize fa_first (al2 f ar x) (nv - (x + 1)) = j at *
    unfold al2 at y1 y2
    obtain ⟨y3, y4⟩ := Bool.and_eq_true_iff.mp y1
    refine Or.inl ⟨x, x + 1 + j, ⟨by omega, by omega, ⟨e1, y3, y4⟩, fun x' y' h1 h2 h3 q => ?_⟩, rfl⟩
    rcases h3 with h3 | ⟨h3, h4⟩
    · exact key x' (by omega) (hno x' h3) y' h1 h2 q
    · subst h3
      have := y2 (y' - (x' + 1)) (by omega)
      rw [show x' + 1 + (y' - (x' + 1)) = y' by omega, q.2.1, q.2.2] at this
      cases this
  · rw [if_neg c]
    exact Or.inr ⟨fun x' y' h1 h2 => key x' (by omega) (hno x' (by omega)) y' h1 h2, rfl⟩
theorem nam3_spec : (∃ x y z, L3 f ar nv x y z ∧ nam3 f ar nv = sh1 x ||| sh1 y ||| sh1 z) ∨ ((∀ x y z, x < y → y < z → z < nv → ¬ Q3 f ar x y z) ∧ nam3 f ar nv = -1) := by
  have k3 : ∀ x y, x < y → y < nv → ¬ fa_first (al3 f ar x y) (nv - (y + 1)) < nv - (y + 1) → ∀ z, y < z → z < nv → ¬ Q3 f ar x y z := by
    intro x y h1 h2 e z h3 h4 q
    have := fa_first_no (al3 f ar x y) (nv - (y + 1)) (z - (y + 1)) (by omega)
    unfold al3 at this
    rw [show y + 1 + (z - (y + 1)) = z by omega, q.2.2.1, q.2.2.2] at this
    cases this
  have k2 : ∀ x y, x < y → y < nv → aq3 f ar nv x (y - (x + 1)) = false → ∀ z, y < z → z < nv → ¬ Q3 f ar x y z := by
    intro x y h1 h2 e z h3 h4 q
    unfold aq3 at e
    rw [show x + 1 + (y - (x + 1)) = y by omega, q.2.1, Bool.true_and, decide_eq_false_iff_not] at e
    exact k3 x y h1 h2 e z h3 h4 q
  have k1 : ∀ x, x < nv → ap3 f ar nv x = false → ∀ y z, x < y → y < z → z < nv → ¬ Q3 f ar x y z := by
    intro x hx e y z h1 h2 h3 q
    unfold ap3 at e
    rw [q.1, Bool.true_and, decide_eq_false_iff_not] at e
    exact k2 x y h1 (by omega) (fa_first_no (aq3 f ar nv x) (nv - (x + 1)) (y - (x + 1)) (by omega)) z h2 h3 q
  unfold nam3
  have hno := fa_first_no (ap3 f ar nv) nv
  have hyes := fa_first_yes (ap3 f ar nv) nv
  generalize fa_first (ap3 f ar nv) nv = x at *
  by_cases c : x < nv
  · rw [if_pos c]
    have hx := hyes c
    unfold ap3 at hx
    obtain ⟨e1, e2⟩ := Bool.and_eq_true_iff.mp hx
    have e2 := of_decide_eq_true e2
    have y1 := fa_first_yes (aq3 f ar nv x) (nv - (x + 1)) e2
    have y2 := fa_first_no (aq3 f ar nv x) (nv - (x + 1))
    generalize fa_first (aq3 f ar nv x) (nv - (x + 1)) = j at *
    unfold aq3 at y1
    obtain ⟨y3, y4⟩ := Bool.and_eq_true_iff.mp y1
    have y4 := of_decide_eq_true y4
    have z1 := fa_first_yes (al3 f ar x (x + 1 + j)) (nv - (x + 1 + j + 1)) y4
    have z2 := fa_first_no (al3 f ar x (x + 1 + j)) (nv - (x + 1 + j + 1))
    unfold ar3
    generalize fa_first (al3 f ar x (x + 1 + j)) (nv - (x + 1 + j + 1)) = i at *
    unfold al3 at z1 z2
    obtain ⟨z3, z4⟩ := Bool.and_eq_true_iff.mp z1
    refine Or.inl ⟨x, x + 1 + j, x + 1 + j + 1 + i, ⟨by omega, by omega, by omega, ⟨e1, y3, z3, z4⟩, fun x' y' z' h1 h2 h3 h4 q => ?_⟩, rfl⟩
    rcases h4 with h4 | ⟨h4, h5⟩
    · exact k1 x' (by omega) (hno x' h4) y' z' h1 h2 h3 q
    · subst h4
      rcases h5 with h5 | ⟨h5, h6⟩
      · exact k2 x' y' h1 (by omega) (y2 (y' - (x' + 1)) (by omega)) z' h2 h3 q
      · subst h5
        have := z2 (z' - (x' + 1 + j + 1)) (by omega)
        rw [show x' + 1 + j + 1 + (z' - (x' + 1 + j + 1)) = z' by omega, q.2.2.1, q.2.2.2] at this
        cases this
  · rw [if_neg c]
    exact Or.inr ⟨fun x' y' z' h1 h2 h3 => k1 x' (by omega) (hno x' (by omega)) y' z' h1 h2 h3, rfl⟩
end
/-- the k-th of a few bits -/
theorem sh_ne {x : Nat} (hx : x < 20) {w : Int32} (h : bt w x = true) : ¬ w = -1 ∨ ∀ y, y < 32 → bt w y = true := by
  by_cases c : w = -1
  · exact Or.inr (fun y hy => by rw [c, b_m1 y hy])
  · exact Or.inl c
theorem ct_le_one {P : Nat → Bool} {x n : Nat} (hx : x < n) (h : ∀ i, i < n → (P i = true ↔ i = x)) : fb_ct P n = 1 := by
  have h2 := fb_ct_upd (fun _ => false) true hx
  have z : fb_ct (fun _ => false) n = 0 := fb_ct_zero.mpr (fun _ _ => rfl)
  rw [z] at h2
  simp only [Bool.false_eq_true, if_false, if_true, Nat.add_zero, Nat.zero_add] at h2
  rw [← h2]
  exact fb_ct_cong (fun i hi => Bool.eq_iff_iff.mpr (by
    rw [h i hi]
    by_cases c : i = x
    · simp [c]
    · simp [c]))
