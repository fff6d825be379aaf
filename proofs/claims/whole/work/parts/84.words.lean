/-! kinds of tokens, told twice -/
def wtk (t : Nat → Nat) (tl s : Nat) : Prop := s < tl ∧ letB (t s) = true ∧ ¬ (tkL t tl s < 2 ∨ 8 < tkL t tl s)
def ltr (t : Nat → Nat) (s : Nat) : Nat → Nat := fun i => t (s + i) - 96
theorem ltr_in {t : Nat → Nat} {tl s i : Nat} (h : i < tkL t tl s) : 1 ≤ ltr t s i ∧ ltr t s i ≤ 26 ∧ t (s + i) = 96 + ltr t s i := by
  obtain ⟨_, h2, h3⟩ := tkL_in h
  unfold ltr
  omega
def lt96 (t : Nat → Nat) (s : Nat) : Nat → Nat := fun i => 96 + ltr t s i
theorem lp_cong {σ : Type} {f g : Nat → σ → σ} : ∀ {n : Nat}, (∀ i, i < n → ∀ w, f i w = g i w) → ∀ w, lp_it f n w = lp_it g n w
  | 0, _, _ => rfl
  | n + 1, h, w => by rw [lp_it_s, lp_it_s, lp_cong (fun i hi => h i (by omega)) w, h n (by omega)]
theorem wS_e {t u : Nat → Nat} {s r i : Nat} (h : t (s + i) = u (r + i)) (w : Int64) : wS t s i w = wS u r i w := by
  unfold wS
  rw [h]
theorem W5_at {t : Nat → Nat} {tl s n : Nat} (h : n ≤ tkL t tl s) : W5 t s n = W5 (lt96 t s) 0 n := by
  unfold W5
  refine lp_cong (fun i hi w => wS_e ?_ w) (lN 0)
  rw [Nat.zero_add]
  exact (ltr_in (show i < tkL t tl s by omega)).2.2
theorem wtk_kd {t : Nat → Nat} {tl s : Nat} (h : wtk t tl s) : kdP t tl s = wkd (wP t tl s) ∧ wP t tl s = lN (P5 (ltr t s) (tkL t tl s)) ∧ mtP t tl s = 1 ∧ mvP t tl s = lN (B27 (ltr t s) (tkL t tl s)) ∧ 2 ≤ tkL t tl s ∧ tkL t tl s ≤ 8 := by
  obtain ⟨h1, h2, h3⟩ := h
  have l2 : 2 ≤ tkL t tl s := by omega
  have l8 : tkL t tl s ≤ 8 := by omega
  refine ⟨?_, ?_, ?_, ?_, l2, l8⟩
  · unfold kdP tkA wP
    rw [if_neg (fun z => z h1), if_pos h2, if_neg h3]
  · unfold wP
    rw [W5_at (Nat.le_refl _)]
    exact W5_P5 l8 (fun i hi => (ltr_in hi).2.1)
  · unfold mtP
    rw [if_neg (fun z => z h1), if_pos h2, if_neg h3]
  · unfold mvP wV
    rw [if_neg (fun z => z h1), if_pos h2, show min (tkL t tl s) 8 = tkL t tl s by omega]
    rfl
theorem kd_other {t : Nat → Nat} {tl s : Nat} (h : ¬ wtk t tl s) : ¬ isW (kdP t tl s) ∧ ¬ mtP t tl s = 1 := by
  unfold kdP tkA mtP isW
  by_cases h1 : ¬ s < tl
  · rw [if_pos h1, if_pos h1]
    dsimp only
    omega
  · rw [if_neg h1, if_neg h1]
    by_cases h2 : letB (t s) = true
    · have h3 : tkL t tl s < 2 ∨ 8 < tkL t tl s := Classical.byContradiction (fun c => h ⟨by omega, h2, c⟩)
      rw [if_pos h2, if_pos h2, if_pos h3, if_pos h3]
      dsimp only
      omega
    · rw [if_neg h2, if_neg h2]
      by_cases h3 : digB (t s) = true
      · rw [if_pos h3, if_pos h3]
        dsimp only
        constructor
        · split <;> omega
        · split <;> omega
      · rw [if_neg h3, if_neg h3]
        have := sgn_cases (t s)
        dsimp only
        constructor
        · omega
        · split <;> omega
theorem kd_wtk (t : Nat → Nat) (tl s : Nat) : (isW (kdP t tl s) ↔ wtk t tl s) ∧ (mtP t tl s = 1 ↔ wtk t tl s) := by
  by_cases h : wtk t tl s
  · have w := wtk_kd h
    refine ⟨⟨fun _ => h, fun _ => ?_⟩, ⟨fun _ => h, fun _ => w.2.2.1⟩⟩
    rw [w.1]
    exact (wkd_cases _).1
  · have w := kd_other h
    exact ⟨⟨fun c => absurd c w.1, fun c => absurd c h⟩, ⟨fun c => absurd c w.2, fun c => absurd c h⟩⟩
/-- one name, told twice -/
theorem nm_iff {n m : Nat} {l k : Nat → Nat} (hn : n ≤ 8) (hm : m ≤ 8) (hl : ∀ i, i < n → 1 ≤ l i ∧ l i ≤ 26) (hk : ∀ i, i < m → 1 ≤ k i ∧ k i ≤ 26) : lN (P5 l n) = lN (P5 k m) ↔ lN (B27 l n) = lN (B27 k m) := by
  have a1 := P5_40 hn (fun i hi => (hl i hi).2)
  have a2 := P5_40 hm (fun i hi => (hk i hi).2)
  have a3 := B27_40 hn (fun i hi => (hl i hi).2)
  have a4 := B27_40 hm (fun i hi => (hk i hi).2)
  rw [lN_eq' (by omega) (by omega), lN_eq' (by omega) (by omega), P5_same hl hk, B27_same hl hk]
theorem wk_7 (w : Int64) : wkd w = 7 ↔ w = lN 132264 := by
  constructor
  · intro h
    unfold wkd at h
    repeat' split at h
    all_goals first | assumption | omega
  · rintro rfl
    decide +kernel
theorem kw_7 (t : Nat → Nat) (tl s : Nat) : kdP t tl s = 7 ↔ mtP t tl s = 1 ∧ mvP t tl s = lN 161140 := by
  by_cases h : wtk t tl s
  · obtain ⟨w1, w2, w3, w4, w5, w6⟩ := wtk_kd h
    have e := nm_iff (n := tkL t tl s) (m := 4) (l := ltr t s) (k := (fun i => [8, 5, 1, 4].getD i 0)) w6 (by omega) (fun i hi => ⟨(ltr_in hi).1, (ltr_in hi).2.1⟩) (by decide)
    rw [show P5 (fun i => [8, 5, 1, 4].getD i 0) 4 = 132264 from rfl, show B27 (fun i => [8, 5, 1, 4].getD i 0) 4 = 161140 from rfl] at e
    rw [w1, wk_7, w3, w4, w2, e]
    exact ⟨fun c => ⟨rfl, c⟩, fun c => c.2⟩
  · have o := kd_other h
    exact ⟨fun c => absurd (Or.inr (by omega)) o.1, fun c => absurd c.1 o.2⟩
theorem wk_8 (w : Int64) : wkd w = 8 ↔ w = lN 180599091 := by
  constructor
  · intro h
    unfold wkd at h
    repeat' split at h
    all_goals first | assumption | omega
  · rintro rfl
    decide +kernel
theorem kw_8 (t : Nat → Nat) (tl s : Nat) : kdP t tl s = 8 ↔ mtP t tl s = 1 ∧ mvP t tl s = lN 277693196 := by
  by_cases h : wtk t tl s
  · obtain ⟨w1, w2, w3, w4, w5, w6⟩ := wtk_kd h
    have e := nm_iff (n := tkL t tl s) (m := 6) (l := ltr t s) (k := (fun i => [19, 9, 14, 7, 12, 5].getD i 0)) w6 (by omega) (fun i hi => ⟨(ltr_in hi).1, (ltr_in hi).2.1⟩) (by decide)
    rw [show P5 (fun i => [19, 9, 14, 7, 12, 5].getD i 0) 6 = 180599091 from rfl, show B27 (fun i => [19, 9, 14, 7, 12, 5].getD i 0) 6 = 277693196 from rfl] at e
    rw [w1, wk_8, w3, w4, w2, e]
    exact ⟨fun c => ⟨rfl, c⟩, fun c => c.2⟩
  · have o := kd_other h
    exact ⟨fun c => absurd (Or.inr (by omega)) o.1, fun c => absurd c.1 o.2⟩
theorem wk_9 (w : Int64) : wkd w = 9 ↔ w = lN 833581 := by
  constructor
  · intro h
    unfold wkd at h
    repeat' split at h
    all_goals first | assumption | omega
  · rintro rfl
    decide +kernel
theorem kw_9 (t : Nat → Nat) (tl s : Nat) : kdP t tl s = 9 ↔ mtP t tl s = 1 ∧ mvP t tl s = lN 257011 := by
  by_cases h : wtk t tl s
  · obtain ⟨w1, w2, w3, w4, w5, w6⟩ := wtk_kd h
    have e := nm_iff (n := tkL t tl s) (m := 4) (l := ltr t s) (k := (fun i => [13, 1, 14, 25].getD i 0)) w6 (by omega) (fun i hi => ⟨(ltr_in hi).1, (ltr_in hi).2.1⟩) (by decide)
    rw [show P5 (fun i => [13, 1, 14, 25].getD i 0) 4 = 833581 from rfl, show B27 (fun i => [13, 1, 14, 25].getD i 0) 4 = 257011 from rfl] at e
    rw [w1, wk_9, w3, w4, w2, e]
    exact ⟨fun c => ⟨rfl, c⟩, fun c => c.2⟩
  · have o := kd_other h
    exact ⟨fun c => absurd (Or.inr (by omega)) o.1, fun c => absurd c.1 o.2⟩
theorem wk_10 (w : Int64) : wkd w = 10 ↔ w = lN 5943350 := by
  constructor
  · intro h
    unfold wkd at h
    repeat' split at h
    all_goals first | assumption | omega
  · rintro rfl
    decide +kernel
theorem kw_10 (t : Nat → Nat) (tl s : Nat) : kdP t tl s = 10 ↔ mtP t tl s = 1 ∧ mvP t tl s = lN 11720705 := by
  by_cases h : wtk t tl s
  · obtain ⟨w1, w2, w3, w4, w5, w6⟩ := wtk_kd h
    have e := nm_iff (n := tkL t tl s) (m := 5) (l := ltr t s) (k := (fun i => [22, 1, 12, 21, 5].getD i 0)) w6 (by omega) (fun i hi => ⟨(ltr_in hi).1, (ltr_in hi).2.1⟩) (by decide)
    rw [show P5 (fun i => [22, 1, 12, 21, 5].getD i 0) 5 = 5943350 from rfl, show B27 (fun i => [22, 1, 12, 21, 5].getD i 0) 5 = 11720705 from rfl] at e
    rw [w1, wk_10, w3, w4, w2, e]
    exact ⟨fun c => ⟨rfl, c⟩, fun c => c.2⟩
  · have o := kd_other h
    exact ⟨fun c => absurd (Or.inr (by omega)) o.1, fun c => absurd c.1 o.2⟩
theorem wk_11 (w : Int64) : wkd w = 11 ↔ w = lN 457 := by
  constructor
  · intro h
    unfold wkd at h
    repeat' split at h
    all_goals first | assumption | omega
  · rintro rfl
    decide +kernel
theorem kw_11 (t : Nat → Nat) (tl s : Nat) : kdP t tl s = 11 ↔ mtP t tl s = 1 ∧ mvP t tl s = lN 257 := by
  by_cases h : wtk t tl s
  · obtain ⟨w1, w2, w3, w4, w5, w6⟩ := wtk_kd h
    have e := nm_iff (n := tkL t tl s) (m := 2) (l := ltr t s) (k := (fun i => [9, 14].getD i 0)) w6 (by omega) (fun i hi => ⟨(ltr_in hi).1, (ltr_in hi).2.1⟩) (by decide)
    rw [show P5 (fun i => [9, 14].getD i 0) 2 = 457 from rfl, show B27 (fun i => [9, 14].getD i 0) 2 = 257 from rfl] at e
    rw [w1, wk_11, w3, w4, w2, e]
    exact ⟨fun c => ⟨rfl, c⟩, fun c => c.2⟩
  · have o := kd_other h
    exact ⟨fun c => absurd (Or.inr (by omega)) o.1, fun c => absurd c.1 o.2⟩
theorem wk_12 (w : Int64) : wkd w = 12 ↔ w = lN 153586866 := by
  constructor
  · intro h
    unfold wkd at h
    repeat' split at h
    all_goals first | assumption | omega
  · rintro rfl
    decide +kernel
theorem kw_12 (t : Nat → Nat) (tl s : Nat) : kdP t tl s = 12 ↔ mtP t tl s = 1 ∧ mvP t tl s = lN 261008005 := by
  by_cases h : wtk t tl s
  · obtain ⟨w1, w2, w3, w4, w5, w6⟩ := wtk_kd h
    have e := nm_iff (n := tkL t tl s) (m := 6) (l := ltr t s) (k := (fun i => [18, 5, 3, 15, 18, 4].getD i 0)) w6 (by omega) (fun i hi => ⟨(ltr_in hi).1, (ltr_in hi).2.1⟩) (by decide)
    rw [show P5 (fun i => [18, 5, 3, 15, 18, 4].getD i 0) 6 = 153586866 from rfl, show B27 (fun i => [18, 5, 3, 15, 18, 4].getD i 0) 6 = 261008005 from rfl] at e
    rw [w1, wk_12, w3, w4, w2, e]
    exact ⟨fun c => ⟨rfl, c⟩, fun c => c.2⟩
  · have o := kd_other h
    exact ⟨fun c => absurd (Or.inr (by omega)) o.1, fun c => absurd c.1 o.2⟩
theorem wk_13 (w : Int64) : wkd w = 13 ↔ w = lN 591 := by
  constructor
  · intro h
    unfold wkd at h
    repeat' split at h
    all_goals first | assumption | omega
  · rintro rfl
    decide +kernel
theorem kw_13 (t : Nat → Nat) (tl s : Nat) : kdP t tl s = 13 ↔ mtP t tl s = 1 ∧ mvP t tl s = lN 423 := by
  by_cases h : wtk t tl s
  · obtain ⟨w1, w2, w3, w4, w5, w6⟩ := wtk_kd h
    have e := nm_iff (n := tkL t tl s) (m := 2) (l := ltr t s) (k := (fun i => [15, 18].getD i 0)) w6 (by omega) (fun i hi => ⟨(ltr_in hi).1, (ltr_in hi).2.1⟩) (by decide)
    rw [show P5 (fun i => [15, 18].getD i 0) 2 = 591 from rfl, show B27 (fun i => [15, 18].getD i 0) 2 = 423 from rfl] at e
    rw [w1, wk_13, w3, w4, w2, e]
    exact ⟨fun c => ⟨rfl, c⟩, fun c => c.2⟩
  · have o := kd_other h
    exact ⟨fun c => absurd (Or.inr (by omega)) o.1, fun c => absurd c.1 o.2⟩
theorem wk_14 (w : Int64) : wkd w = 14 ↔ w = lN 4545 := by
  constructor
  · intro h
    unfold wkd at h
    repeat' split at h
    all_goals first | assumption | omega
  · rintro rfl
    decide +kernel
theorem kw_14 (t : Nat → Nat) (tl s : Nat) : kdP t tl s = 14 ↔ mtP t tl s = 1 ∧ mvP t tl s = lN 1111 := by
  by_cases h : wtk t tl s
  · obtain ⟨w1, w2, w3, w4, w5, w6⟩ := wtk_kd h
    have e := nm_iff (n := tkL t tl s) (m := 3) (l := ltr t s) (k := (fun i => [1, 14, 4].getD i 0)) w6 (by omega) (fun i hi => ⟨(ltr_in hi).1, (ltr_in hi).2.1⟩) (by decide)
    rw [show P5 (fun i => [1, 14, 4].getD i 0) 3 = 4545 from rfl, show B27 (fun i => [1, 14, 4].getD i 0) 3 = 1111 from rfl] at e
    rw [w1, wk_14, w3, w4, w2, e]
    exact ⟨fun c => ⟨rfl, c⟩, fun c => c.2⟩
  · have o := kd_other h
    exact ⟨fun c => absurd (Or.inr (by omega)) o.1, fun c => absurd c.1 o.2⟩
theorem wk_15 (w : Int64) : wkd w = 15 ↔ w = lN 642220 := by
  constructor
  · intro h
    unfold wkd at h
    repeat' split at h
    all_goals first | assumption | omega
  · rintro rfl
    decide +kernel
theorem kw_15 (t : Nat → Nat) (tl s : Nat) : kdP t tl s = 15 ↔ mtP t tl s = 1 ∧ mvP t tl s = lN 240373 := by
  by_cases h : wtk t tl s
  · obtain ⟨w1, w2, w3, w4, w5, w6⟩ := wtk_kd h
    have e := nm_iff (n := tkL t tl s) (m := 4) (l := ltr t s) (k := (fun i => [12, 5, 19, 19].getD i 0)) w6 (by omega) (fun i hi => ⟨(ltr_in hi).1, (ltr_in hi).2.1⟩) (by decide)
    rw [show P5 (fun i => [12, 5, 19, 19].getD i 0) 4 = 642220 from rfl, show B27 (fun i => [12, 5, 19, 19].getD i 0) 4 = 240373 from rfl] at e
    rw [w1, wk_15, w3, w4, w2, e]
    exact ⟨fun c => ⟨rfl, c⟩, fun c => c.2⟩
  · have o := kd_other h
    exact ⟨fun c => absurd (Or.inr (by omega)) o.1, fun c => absurd c.1 o.2⟩
theorem wk_16 (w : Int64) : wkd w = 16 ↔ w = lN 12673 := by
  constructor
  · intro h
    unfold wkd at h
    repeat' split at h
    all_goals first | assumption | omega
  · rintro rfl
    decide +kernel
theorem kw_16 (t : Nat → Nat) (tl s : Nat) : kdP t tl s = 16 ↔ mtP t tl s = 1 ∧ mvP t tl s = lN 1065 := by
  by_cases h : wtk t tl s
  · obtain ⟨w1, w2, w3, w4, w5, w6⟩ := wtk_kd h
    have e := nm_iff (n := tkL t tl s) (m := 3) (l := ltr t s) (k := (fun i => [1, 12, 12].getD i 0)) w6 (by omega) (fun i hi => ⟨(ltr_in hi).1, (ltr_in hi).2.1⟩) (by decide)
    rw [show P5 (fun i => [1, 12, 12].getD i 0) 3 = 12673 from rfl, show B27 (fun i => [1, 12, 12].getD i 0) 3 = 1065 from rfl] at e
    rw [w1, wk_16, w3, w4, w2, e]
    exact ⟨fun c => ⟨rfl, c⟩, fun c => c.2⟩
  · have o := kd_other h
    exact ⟨fun c => absurd (Or.inr (by omega)) o.1, fun c => absurd c.1 o.2⟩
def kept (x : Int64) : Bool := decide (x = lN 161140) || decide (x = lN 277693196) || decide (x = lN 257011) || decide (x = lN 11720705) || decide (x = lN 257) || decide (x = lN 261008005) || decide (x = lN 423) || decide (x = lN 1111) || decide (x = lN 240373) || decide (x = lN 1065)
theorem wk_2 (w : Int64) : wkd w = 2 ↔ ¬ w = lN 132264 ∧ ¬ w = lN 180599091 ∧ ¬ w = lN 833581 ∧ ¬ w = lN 5943350 ∧ ¬ w = lN 457 ∧ ¬ w = lN 153586866 ∧ ¬ w = lN 591 ∧ ¬ w = lN 4545 ∧ ¬ w = lN 642220 ∧ ¬ w = lN 12673 := by
  constructor
  · intro h
    refine ⟨fun c => by rw [(wk_7 w).mpr c] at h; omega, fun c => by rw [(wk_8 w).mpr c] at h; omega, fun c => by rw [(wk_9 w).mpr c] at h; omega, fun c => by rw [(wk_10 w).mpr c] at h; omega, fun c => by rw [(wk_11 w).mpr c] at h; omega, fun c => by rw [(wk_12 w).mpr c] at h; omega, fun c => by rw [(wk_13 w).mpr c] at h; omega, fun c => by rw [(wk_14 w).mpr c] at h; omega, fun c => by rw [(wk_15 w).mpr c] at h; omega, fun c => by rw [(wk_16 w).mpr c] at h; omega⟩
  · rintro ⟨c7, c8, c9, c10, c11, c12, c13, c14, c15, c16⟩
    unfold wkd
    rw [if_neg c7, if_neg c8, if_neg c9, if_neg c10, if_neg c11, if_neg c12, if_neg c13, if_neg c14, if_neg c15, if_neg c16]
theorem kw_2 (t : Nat → Nat) (tl s : Nat) : kdP t tl s = 2 ↔ mtP t tl s = 1 ∧ kept (mvP t tl s) = false := by
  by_cases h : wtk t tl s
  · obtain ⟨w1, w2, w3, w4, w5, w6⟩ := wtk_kd h
    have ks : ∀ c, kdP t tl s = c → kdP t tl s = c := fun _ e => e
    have hle := (wkd_cases (wP t tl s))
    constructor
    · intro e
      refine ⟨w3, ?_⟩
      unfold kept
      simp only [Bool.or_eq_false_iff, decide_eq_false_iff_not]
      refine ⟨⟨⟨⟨⟨⟨⟨⟨⟨fun z => by (have := (kw_7 t tl s).mpr ⟨w3, z⟩); omega, fun z => by (have := (kw_8 t tl s).mpr ⟨w3, z⟩); omega⟩, fun z => by (have := (kw_9 t tl s).mpr ⟨w3, z⟩); omega⟩, fun z => by (have := (kw_10 t tl s).mpr ⟨w3, z⟩); omega⟩, fun z => by (have := (kw_11 t tl s).mpr ⟨w3, z⟩); omega⟩, fun z => by (have := (kw_12 t tl s).mpr ⟨w3, z⟩); omega⟩, fun z => by (have := (kw_13 t tl s).mpr ⟨w3, z⟩); omega⟩, fun z => by (have := (kw_14 t tl s).mpr ⟨w3, z⟩); omega⟩, fun z => by (have := (kw_15 t tl s).mpr ⟨w3, z⟩); omega⟩, fun z => by (have := (kw_16 t tl s).mpr ⟨w3, z⟩); omega⟩
    · rintro ⟨_, e⟩
      unfold kept at e
      simp only [Bool.or_eq_false_iff, decide_eq_false_iff_not] at e
      obtain ⟨⟨⟨⟨⟨⟨⟨⟨⟨c7, c8⟩, c9⟩, c10⟩, c11⟩, c12⟩, c13⟩, c14⟩, c15⟩, c16⟩ := e
      have hw : isW (kdP t tl s) := (kd_wtk t tl s).1.mpr h
      have h16 := kd_le t tl s
      unfold isW at hw
      have n7 : ¬ kdP t tl s = 7 := fun z => c7 ((kw_7 t tl s).mp z).2
      have n8 : ¬ kdP t tl s = 8 := fun z => c8 ((kw_8 t tl s).mp z).2
      have n9 : ¬ kdP t tl s = 9 := fun z => c9 ((kw_9 t tl s).mp z).2
      have n10 : ¬ kdP t tl s = 10 := fun z => c10 ((kw_10 t tl s).mp z).2
      have n11 : ¬ kdP t tl s = 11 := fun z => c11 ((kw_11 t tl s).mp z).2
      have n12 : ¬ kdP t tl s = 12 := fun z => c12 ((kw_12 t tl s).mp z).2
      have n13 : ¬ kdP t tl s = 13 := fun z => c13 ((kw_13 t tl s).mp z).2
      have n14 : ¬ kdP t tl s = 14 := fun z => c14 ((kw_14 t tl s).mp z).2
      have n15 : ¬ kdP t tl s = 15 := fun z => c15 ((kw_15 t tl s).mp z).2
      have n16 : ¬ kdP t tl s = 16 := fun z => c16 ((kw_16 t tl s).mp z).2
      omega
  · have o := kd_other h
    exact ⟨fun c => absurd (Or.inl c) o.1, fun c => absurd c.1 o.2⟩
theorem kw_3 (t : Nat → Nat) (tl s : Nat) : (kdP t tl s = 3 ↔ mtP t tl s = 2) ∧ (kdP t tl s = 3 → mvP t tl s = lN (nuN t tl s)) := by
  unfold kdP tkA mtP mvP
  have hw := wkd_cases (W5 t s (tkL t tl s))
  have hs := sgn_cases (t s)
  unfold isW at hw
  by_cases h1 : ¬ s < tl
  · rw [if_pos h1, if_pos h1, if_pos h1]
    dsimp only
    exact ⟨by omega, fun c => by omega⟩
  · rw [if_neg h1, if_neg h1, if_neg h1]
    by_cases h2 : letB (t s) = true
    · rw [if_pos h2, if_pos h2, if_pos h2]
      dsimp only
      refine ⟨?_, fun c => ?_⟩
      · split <;> omega
      · exfalso
        split at c <;> omega
    · rw [if_neg h2, if_neg h2, if_neg h2]
      by_cases h3 : digB (t s) = true
      · rw [if_pos h3, if_pos h3, if_pos h3]
        dsimp only
        refine ⟨?_, fun _ => rfl⟩
        split <;> omega
      · rw [if_neg h3, if_neg h3, if_neg h3]
        dsimp only
        refine ⟨?_, fun c => by omega⟩
        split <;> omega
theorem kw_0 (t : Nat → Nat) (tl s : Nat) : kdP t tl s = 0 ↔ mtP t tl s = 0 := by
  unfold kdP tkA mtP
  have hw := wkd_cases (W5 t s (tkL t tl s))
  have hs := sgn_cases (t s)
  unfold isW at hw
  by_cases h1 : ¬ s < tl
  · rw [if_pos h1, if_pos h1]
  · rw [if_neg h1, if_neg h1]
    by_cases h2 : letB (t s) = true
    · rw [if_pos h2, if_pos h2]
      dsimp only
      split <;> omega
    · rw [if_neg h2, if_neg h2]
      by_cases h3 : digB (t s) = true
      · rw [if_pos h3, if_pos h3]
        dsimp only
        split <;> omega
      · rw [if_neg h3, if_neg h3]
        dsimp only
        split <;> omega
theorem kw_s {t : Nat → Nat} {tl s : Nat} (ht : s < tl → t s < 256) {c k : Nat} (hc : (c = 59 ∧ k = 4) ∨ (c = 91 ∧ k = 5) ∨ (c = 93 ∧ k = 6)) : kdP t tl s = k ↔ mtP t tl s = 3 ∧ mvP t tl s = lN c := by
  unfold kdP tkA mtP mvP
  have hw := wkd_cases (W5 t s (tkL t tl s))
  unfold isW at hw
  by_cases h1 : ¬ s < tl
  · rw [if_pos h1, if_pos h1]
    dsimp only
    omega
  · rw [if_neg h1, if_neg h1, if_neg h1]
    have h256 := ht (by omega)
    by_cases h2 : letB (t s) = true
    · rw [if_pos h2, if_pos h2]
      dsimp only
      constructor
      · intro e
        exfalso
        split at e <;> omega
      · rintro ⟨e, _⟩
        exfalso
        split at e <;> omega
    · rw [if_neg h2, if_neg h2, if_neg h2]
      by_cases h3 : digB (t s) = true
      · rw [if_pos h3, if_pos h3]
        dsimp only
        constructor
        · intro e
          exfalso
          split at e <;> omega
        · rintro ⟨e, _⟩
          exfalso
          split at e <;> omega
      · rw [if_neg h3, if_neg h3, if_neg h3]
        dsimp only
        rw [lN_eq' (by omega) (by omega)]
        unfold sgn
        constructor
        · intro e
          repeat' split at e
          all_goals (first | omega | (rw [if_pos (by omega)]; omega))
        · rintro ⟨_, e⟩
          subst e
          repeat' split
          all_goals omega
