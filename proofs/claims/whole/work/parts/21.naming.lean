/-! the stock's dearer questions -/
theorem lp_map {σ τ : Type} {f : Nat → σ → σ} {g : Nat → τ → τ} (π : σ → τ) (hπ : ∀ b s, π (f b s) = g b (π s)) (s : σ) : ∀ n, π (lp_it f n s) = lp_it g n (π s)
  | 0 => rfl
  | n + 1 => by rw [lp_it_s, lp_it_s, hπ, lp_map π hπ s n]
/-- a loop that looks for the first; some locals are stale -/
theorem lp_findE {σ ρ : Type} {N : Nat} {St : Nat → σ → ρ} {p : Nat → Bool} {R : Nat → ρ} {Inv : σ → Prop} (hs : ∀ b s, b < N → Inv s → ∃ s', Inv s' ∧ St b s = if p b = true then R b else St (b + 1) s') {s : σ} (h0 : Inv s) : ∃ s', Inv s' ∧ St 0 s = if fa_first p N < N then R (fa_first p N) else St N s' := by
  have key : ∀ k, k ≤ N → (∀ j, j < k → p j = false) → ∃ s', Inv s' ∧ St 0 s = St k s' := by
    intro k
    induction k with
    | zero => exact fun _ _ => ⟨s, h0, rfl⟩
    | succ k ih =>
      intro hk hp
      obtain ⟨s1, i1, e1⟩ := ih (by omega) (fun j hj => hp j (by omega))
      obtain ⟨s2, i2, e2⟩ := hs k s1 (by omega) i1
      rw [hp k (by omega), if_neg (by decide)] at e2
      exact ⟨s2, i2, e1.trans e2⟩
  have hle := fa_first_le p N
  obtain ⟨s1, i1, e1⟩ := key (fa_first p N) hle (fun j hj => fa_first_no p N j hj)
  by_cases hl : fa_first p N < N
  · obtain ⟨s2, i2, e2⟩ := hs _ s1 hl i1
    rw [fa_first_yes p N hl, if_pos rfl] at e2
    exact ⟨s2, i2, by rw [if_pos hl, e1, e2]⟩
  · rw [show fa_first p N = N by omega] at e1
    exact ⟨s1, i1, by rw [if_neg hl, e1]⟩
theorem lp_foldE {σ τ ρ : Type} {N : Nat} {St : Nat → σ → τ → ρ} {f : Nat → σ → σ} {Inv : τ → Prop} {s : σ} (hs : ∀ b s t, b < N → Inv t → ∃ t', Inv t' ∧ St b s t = St (b + 1) (f b s) t') {t : τ} (h0 : Inv t) : ∃ t', Inv t' ∧ St 0 s t = St N (lp_it f N s) t' := by
  have key : ∀ b, b ≤ N → ∃ t', Inv t' ∧ St 0 s t = St b (lp_it f b s) t' := by
    intro b
    induction b with
    | zero => exact fun _ => ⟨t, h0, rfl⟩
    | succ b ih =>
      intro hb
      obtain ⟨t1, i1, e1⟩ := ih (by omega)
      obtain ⟨t2, i2, e2⟩ := hs b (lp_it f b s) t1 (by omega) i1
      exact ⟨t2, i2, e1.trans e2⟩
  exact key N (Nat.le_refl N)
def alone (f : Nat → Int32) (x y z : Nat) : Bool := decide (fb_sm (fun k => pc (f (8 * x + k) &&& f (8 * y + k) &&& f (8 * z + k))) 8 = 1)
theorem sm_le_of (g : Nat → Nat) {n m : Nat} (h : n ≤ m) : fb_sm g n ≤ fb_sm g m := by
  obtain ⟨d, rfl⟩ := Nat.le.dest h
  induction d with
  | zero => exact Nat.le_refl _
  | succ d ih => exact Nat.le_trans (ih (Nat.le_add_right _ _)) (by rw [← Nat.add_assoc, fb_sm_succ]; omega)
section
variable {h : zz_H} {a : Nat} {p : Pl} {rk tg f : Nat → Int32}
theorem c_isAlone (hs : isStock h a p rk tg f) {x y z : Nat} (hx : x < 21) (hy : y < 21) (hz : z < 21) : zz_run 140 [.ref a, .int (nI x), .int (nI y), .int (nI z)] h = some (some (.int (bI (alone f x y z))), h) := by
  obtain ⟨t0, t1, t2, t3, t4⟩ := hs
  have key : ∀ d b, b + d = 8 → zz_Y 140 (6, [some (.ref (a)), some (.int (nI (x))), some (.int (nI (y))), some (.int (nI (z))), some (.int (nI (fb_sm (fun k => pc (f (8 * x + k) &&& f (8 * y + k) &&& f (8 * z + k))) b))), some (.int (nI (b)))], [], h) = some (some (.int (bI (alone f x y z))), h) := by
    intro d
    induction d with
    | zero =>
      intro b hb
      have : b = 8 := by omega
      subst this
      rw [x140_c6]
      unfold alone
      by_cases h1 : fb_sm (fun k => pc (f (8 * x + k) &&& f (8 * y + k) &&& f (8 * z + k))) 8 = 1
      · simp (disch := first | assumption | exact zz_nl_i _ | exact zz_nl_r _ | exact zz_nl_n | exact okv_i _ | exact okv_j _ | exact okv_0 | exact okv_1 | exact okv_o _ _ | exact okv_a _ _ | omega | exact llt_0 | ((repeat apply llt_s) <;> exact llt_0) | fail) only [x140, xb140, nI_ltI, Nat.lt_irrefl, if_false, h1, if_true, decide_true, mo_k_v, mo_k_n, mo_v_e, mo_gf_e, mo_pf_e, mo_ia_e, mo_ba_e, mo_za_e, mo_la_e, mo_aa_e, mo_le_e, mo_is_e, mo_bs_e, mo_zs_0, mo_zs_1, mo_ls_e, mo_as_e, mo_na_e, mo_aci_e, mo_acb_e, mo_acj_e, hp_gs, hp_gn, hp_ss, List.getElem?_cons_zero, List.getElem?_cons_succ, List.set_cons_zero, List.set_cons_succ]
        rfl
      · have h2 : ¬ nI (fb_sm (fun k => pc (f (8 * x + k) &&& f (8 * y + k) &&& f (8 * z + k))) 8) = nI 1 := by
          have := fb_sm_bound (f := fun k => pc (f (8 * x + k) &&& f (8 * y + k) &&& f (8 * z + k))) (c := 32) (n := 8) (fun k _ => pc_le _)
          rw [nI_eq (by omega) (by omega)]
          exact h1
        simp (disch := first | assumption | exact zz_nl_i _ | exact zz_nl_r _ | exact zz_nl_n | exact okv_i _ | exact okv_j _ | exact okv_0 | exact okv_1 | exact okv_o _ _ | exact okv_a _ _ | omega | exact llt_0 | ((repeat apply llt_s) <;> exact llt_0) | fail) only [x140, xb140, nI_ltI, Nat.lt_irrefl, if_false, h2, h1, decide_false, mo_k_v, mo_k_n, mo_v_e, mo_gf_e, mo_pf_e, mo_ia_e, mo_ba_e, mo_za_e, mo_la_e, mo_aa_e, mo_le_e, mo_is_e, mo_bs_e, mo_zs_0, mo_zs_1, mo_ls_e, mo_as_e, mo_na_e, mo_aci_e, mo_acb_e, mo_acj_e, hp_gs, hp_gn, hp_ss, List.getElem?_cons_zero, List.getElem?_cons_succ, List.set_cons_zero, List.set_cons_succ]
        rfl
    | succ d ih =>
      intro b hb
      have hb8 : b < 8 := by omega
      have hsm := fb_sm_bound (f := fun k => pc (f (8 * x + k) &&& f (8 * y + k) &&& f (8 * z + k))) (c := 32) (n := b) (fun k _ => pc_le _)
      rw [x140_c6]
      by_cases h1 : fb_sm (fun k => pc (f (8 * x + k) &&& f (8 * y + k) &&& f (8 * z + k))) b < 2
      · simp (disch := first | assumption | exact zz_nl_i _ | exact zz_nl_r _ | exact zz_nl_n | exact okv_i _ | exact okv_j _ | exact okv_0 | exact okv_1 | exact okv_o _ _ | exact okv_a _ _ | omega | exact llt_0 | ((repeat apply llt_s) <;> exact llt_0) | fail) only [x140, xb140, t0, nI_ltI, hb8, if_true, h1, c_bitsOf t4 hx hb8, c_bitsOf t4 hy hb8, c_bitsOf t4 hz hb8, c_bitCount, nI_add, mo_k_v, mo_k_n, mo_v_e, mo_gf_e, mo_pf_e, mo_ia_e, mo_ba_e, mo_za_e, mo_la_e, mo_aa_e, mo_le_e, mo_is_e, mo_bs_e, mo_zs_0, mo_zs_1, mo_ls_e, mo_as_e, mo_na_e, mo_aci_e, mo_acb_e, mo_acj_e, hp_gs, hp_gn, hp_ss, List.getElem?_cons_zero, List.getElem?_cons_succ, List.set_cons_zero, List.set_cons_succ]
        have e := ih (b + 1) (by omega)
        rw [fb_sm_succ] at e
        exact e
      · have h3 : ¬ nI (fb_sm (fun k => pc (f (8 * x + k) &&& f (8 * y + k) &&& f (8 * z + k))) b) = nI 1 := by
          rw [nI_eq (by omega) (by omega)]
          omega
        have h4 : ¬ fb_sm (fun k => pc (f (8 * x + k) &&& f (8 * y + k) &&& f (8 * z + k))) 8 = 1 := by
          have := sm_le_of (fun k => pc (f (8 * x + k) &&& f (8 * y + k) &&& f (8 * z + k))) (show b ≤ 8 by omega)
          omega
        simp (disch := first | assumption | exact zz_nl_i _ | exact zz_nl_r _ | exact zz_nl_n | exact okv_i _ | exact okv_j _ | exact okv_0 | exact okv_1 | exact okv_o _ _ | exact okv_a _ _ | omega | exact llt_0 | ((repeat apply llt_s) <;> exact llt_0) | fail) only [x140, xb140, nI_ltI, hb8, if_true, if_false, h1, h3, mo_k_v, mo_k_n, mo_v_e, mo_gf_e, mo_pf_e, mo_ia_e, mo_ba_e, mo_za_e, mo_la_e, mo_aa_e, mo_le_e, mo_is_e, mo_bs_e, mo_zs_0, mo_zs_1, mo_ls_e, mo_as_e, mo_na_e, mo_aci_e, mo_acb_e, mo_acj_e, hp_gs, hp_gn, hp_ss, List.getElem?_cons_zero, List.getElem?_cons_succ, List.set_cons_zero, List.set_cons_succ]
        unfold alone
        simp only [h4, decide_false]
        rfl
  rw [en140 t0]
  simp (disch := first | assumption | exact zz_nl_i _ | exact zz_nl_r _ | exact zz_nl_n | exact okv_i _ | exact okv_j _ | exact okv_0 | exact okv_1 | exact okv_o _ _ | exact okv_a _ _ | omega | exact llt_0 | ((repeat apply llt_s) <;> exact llt_0) | fail) only [x140, xb140, mo_k_v, mo_k_n, mo_v_e, mo_gf_e, mo_pf_e, mo_ia_e, mo_ba_e, mo_za_e, mo_la_e, mo_aa_e, mo_le_e, mo_is_e, mo_bs_e, mo_zs_0, mo_zs_1, mo_ls_e, mo_as_e, mo_na_e, mo_aci_e, mo_acb_e, mo_acj_e, hp_gs, hp_gn, hp_ss, List.getElem?_cons_zero, List.getElem?_cons_succ, List.set_cons_zero, List.set_cons_succ]
  exact key 8 0 rfl
def sh1 (x : Nat) : Int32 := nI 1 <<< (nI x &&& 31)
def nam1 (f : Nat → Int32) (ar : Int32) (nv : Nat) : Int32 := if fa_first (fun x => bt ar x && alone f x x x) nv < nv then sh1 (fa_first (fun x => bt ar x && alone f x x x) nv) else -1
theorem c_naming1 (hs : isStock h a p rk tg f) (ar : Int32) : zz_run 139 [.ref a, .int ar] h = some (some (.int (nam1 f ar (pnv p))), h) := by
  have hal := fun x (hx : x < 21) => c_isAlone hs hx hx hx
  obtain ⟨t0, t1, t2, t3, t4⟩ := hs
  have q2 := t1.2.2.2.2.2.2.2.2.2.2
  have step : ∀ x, x < pnv p → zz_Y 139 (2, [some (.ref (a)), some (.int (ar)), some (.int (nI (x)))], [], h) = if (bt ar x && alone f x x x) = true then some (some (.int (sh1 x)), h) else zz_Y 139 (2, [some (.ref (a)), some (.int (ar)), some (.int (nI (x + 1)))], [], h) := by
    intro x hx
    have hx32 : x < 32 := by omega
    have e := hal x (by omega)
    rw [x139_c2]
    simp (disch := first | assumption | exact zz_nl_i _ | exact zz_nl_r _ | exact zz_nl_n | exact okv_i _ | exact okv_j _ | exact okv_0 | exact okv_1 | exact okv_o _ _ | exact okv_a _ _ | omega | exact llt_0 | ((repeat apply llt_s) <;> exact llt_0) | fail) only [x139, t0, t1.1, nI_ltI, hx, if_true, c_hasBit hx32, e, nI_add, mo_k_v, mo_k_n, mo_v_e, mo_gf_e, mo_pf_e, mo_ia_e, mo_ba_e, mo_za_e, mo_la_e, mo_aa_e, mo_le_e, mo_is_e, mo_bs_e, mo_zs_0, mo_zs_1, mo_ls_e, mo_as_e, mo_na_e, mo_aci_e, mo_acb_e, mo_acj_e, hp_gs, hp_gn, hp_ss, List.getElem?_cons_zero, List.getElem?_cons_succ, List.set_cons_zero, List.set_cons_succ]
    cases bt ar x
    · simp only [Bool.false_eq_true, if_false, if_true, Bool.false_and]
    · cases alone f x x x
      · simp only [nI_01, bI_f, Bool.false_eq_true, if_false, if_true, Bool.and_false]
      · simp only [nI_01, bI_t, if_false, if_true, Bool.and_true]
        rfl
  rw [en139 t0]
  simp (disch := first | assumption | exact zz_nl_i _ | exact zz_nl_r _ | exact zz_nl_n | exact okv_i _ | exact okv_j _ | exact okv_0 | exact okv_1 | exact okv_o _ _ | exact okv_a _ _ | omega | exact llt_0 | ((repeat apply llt_s) <;> exact llt_0) | fail) only [x139, mo_k_v, mo_k_n, mo_v_e, mo_gf_e, mo_pf_e, mo_ia_e, mo_ba_e, mo_za_e, mo_la_e, mo_aa_e, mo_le_e, mo_is_e, mo_bs_e, mo_zs_0, mo_zs_1, mo_ls_e, mo_as_e, mo_na_e, mo_aci_e, mo_acb_e, mo_acj_e, hp_gs, hp_gn, hp_ss, List.getElem?_cons_zero, List.getElem?_cons_succ, List.set_cons_zero, List.set_cons_succ]
  refine (lp_find (N := pnv p) (St := fun x => zz_Y 139 (2, [some (.ref (a)), some (.int (ar)), some (.int (nI (x)))], [], h)) (R := fun x => some (some (.int (sh1 x)), h)) step).trans ?_
  unfold nam1
  split
  · rfl
  · ((try dsimp only); rw [x139_c2]; simp (disch := first | assumption | exact zz_nl_i _ | exact zz_nl_r _ | exact zz_nl_n | exact okv_i _ | exact okv_j _ | exact okv_0 | exact okv_1 | exact okv_o _ _ | exact okv_a _ _ | omega | exact llt_0 | ((repeat apply llt_s) <;> exact llt_0) | fail) only [x139, nI_ltI, Nat.lt_irrefl, if_false, t0, t1.1, mo_k_v, mo_k_n, mo_v_e, mo_gf_e, mo_pf_e, mo_ia_e, mo_ba_e, mo_za_e, mo_la_e, mo_aa_e, mo_le_e, mo_is_e, mo_bs_e, mo_zs_0, mo_zs_1, mo_ls_e, mo_as_e, mo_na_e, mo_aci_e, mo_acb_e, mo_acj_e, hp_gs, hp_gn, hp_ss, List.getElem?_cons_zero, List.getElem?_cons_succ, List.set_cons_zero, List.set_cons_succ])
def al2 (f : Nat → Int32) (ar : Int32) (x j : Nat) : Bool := bt ar (x + 1 + j) && alone f x (x + 1 + j) (x + 1 + j)
def nam2 (f : Nat → Int32) (ar : Int32) (nv : Nat) : Int32 :=
  (let P := fun x => bt ar x && decide (fa_first (al2 f ar x) (nv - (x + 1)) < nv - (x + 1))
   if fa_first P nv < nv then sh1 (fa_first P nv) ||| sh1 (fa_first P nv + 1 + fa_first (al2 f ar (fa_first P nv)) (nv - (fa_first P nv + 1))) else -1)
theorem c_naming2 (hs : isStock h a p rk tg f) (ar : Int32) : zz_run 141 [.ref a, .int ar] h = some (some (.int (nam2 f ar (pnv p))), h) := by
  have hal := fun x y (hx : x < 21) (hy : y < 21) => c_isAlone hs hx hy hy
  obtain ⟨t0, t1, t2, t3, t4⟩ := hs
  have q2 := t1.2.2.2.2.2.2.2.2.2.2
  have inner : ∀ x, x < pnv p → bt ar x = true → ∀ j, j < pnv p - (x + 1) → zz_Y 141 (17, [some (.ref (a)), some (.int (ar)), some (.int (nI (x))), some (.int (nI (x + 1 + j)))], [], h) = if al2 f ar x j = true then some (some (.int (sh1 x ||| sh1 (x + 1 + j))), h) else zz_Y 141 (17, [some (.ref (a)), some (.int (ar)), some (.int (nI (x))), some (.int (nI (x + 1 + (j + 1))))], [], h) := by
    intro x hx hb j hj
    have hx32 : x < 32 := by omega
    have hy32 : x + 1 + j < 32 := by omega
    have hy : x + 1 + j < pnv p := by omega
    have e := hal x (x + 1 + j) (by omega) (by omega)
    rw [x141_c17]
    simp (disch := first | assumption | exact zz_nl_i _ | exact zz_nl_r _ | exact zz_nl_n | exact okv_i _ | exact okv_j _ | exact okv_0 | exact okv_1 | exact okv_o _ _ | exact okv_a _ _ | omega | exact llt_0 | ((repeat apply llt_s) <;> exact llt_0) | fail) only [x141, t0, t1.1, nI_ltI, hy, if_true, c_hasBit hx32, c_hasBit hy32, e, nI_add, hb, nI_01, if_false, mo_k_v, mo_k_n, mo_v_e, mo_gf_e, mo_pf_e, mo_ia_e, mo_ba_e, mo_za_e, mo_la_e, mo_aa_e, mo_le_e, mo_is_e, mo_bs_e, mo_zs_0, mo_zs_1, mo_ls_e, mo_as_e, mo_na_e, mo_aci_e, mo_acb_e, mo_acj_e, hp_gs, hp_gn, hp_ss, List.getElem?_cons_zero, List.getElem?_cons_succ, List.set_cons_zero, List.set_cons_succ]
    unfold al2
    cases bt ar (x + 1 + j)
    · simp only [Bool.false_eq_true, if_false, if_true, Bool.false_and]
      rfl
    · cases alone f x (x + 1 + j) (x + 1 + j)
      · simp only [nI_01, bI_f, Bool.false_eq_true, if_false, if_true, Bool.and_false]
        rfl
      · simp only [nI_01, bI_t, if_false, if_true, Bool.and_true]
        rfl
  have hd : ∀ x l3, zz_nl l3 = true → x ≤ pnv p → zz_Y 141 (2, [some (.ref (a)), some (.int (ar)), some (.int (nI (x))), l3], [], h) = if x < pnv p then zz_Y 141 (17, [some (.ref (a)), some (.int (ar)), some (.int (nI (x))), some (.int (nI (x + 1)))], [], h) else some (some (.int (-1)), h) := by
    intro x l3 hl hx
    rw [x141_c2]
    by_cases h1 : x < pnv p
    · simp (disch := first | assumption | exact zz_nl_i _ | exact zz_nl_r _ | exact zz_nl_n | exact okv_i _ | exact okv_j _ | exact okv_0 | exact okv_1 | exact okv_o _ _ | exact okv_a _ _ | omega | exact llt_0 | ((repeat apply llt_s) <;> exact llt_0) | fail) only [x141, t0, t1.1, nI_ltI, h1, if_true, nI_add, mo_k_v, mo_k_n, mo_v_e, mo_gf_e, mo_pf_e, mo_ia_e, mo_ba_e, mo_za_e, mo_la_e, mo_aa_e, mo_le_e, mo_is_e, mo_bs_e, mo_zs_0, mo_zs_1, mo_ls_e, mo_as_e, mo_na_e, mo_aci_e, mo_acb_e, mo_acj_e, hp_gs, hp_gn, hp_ss, List.getElem?_cons_zero, List.getElem?_cons_succ, List.set_cons_zero, List.set_cons_succ]
    · simp (disch := first | assumption | exact zz_nl_i _ | exact zz_nl_r _ | exact zz_nl_n | exact okv_i _ | exact okv_j _ | exact okv_0 | exact okv_1 | exact okv_o _ _ | exact okv_a _ _ | omega | exact llt_0 | ((repeat apply llt_s) <;> exact llt_0) | fail) only [x141, t0, t1.1, nI_ltI, h1, if_false, mo_k_v, mo_k_n, mo_v_e, mo_gf_e, mo_pf_e, mo_ia_e, mo_ba_e, mo_za_e, mo_la_e, mo_aa_e, mo_le_e, mo_is_e, mo_bs_e, mo_zs_0, mo_zs_1, mo_ls_e, mo_as_e, mo_na_e, mo_aci_e, mo_acb_e, mo_acj_e, hp_gs, hp_gn, hp_ss, List.getElem?_cons_zero, List.getElem?_cons_succ, List.set_cons_zero, List.set_cons_succ]
  have step : ∀ x, x < pnv p → (if x < pnv p then zz_Y 141 (17, [some (.ref (a)), some (.int (ar)), some (.int (nI (x))), some (.int (nI (x + 1)))], [], h) else some (some (.int (-1)), h)) = if (bt ar x && decide (fa_first (al2 f ar x) (pnv p - (x + 1)) < pnv p - (x + 1))) = true then some (some (.int (sh1 x ||| sh1 (x + 1 + fa_first (al2 f ar x) (pnv p - (x + 1))))), h) else (if x + 1 < pnv p then zz_Y 141 (17, [some (.ref (a)), some (.int (ar)), some (.int (nI (x + 1))), some (.int (nI (x + 1 + 1)))], [], h) else some (some (.int (-1)), h)) := by
    intro x hx
    have hx32 : x < 32 := by omega
    rw [if_pos hx]
    cases hb : bt ar x
    · rw [x141_c17]
      simp (disch := first | assumption | exact zz_nl_i _ | exact zz_nl_r _ | exact zz_nl_n | exact okv_i _ | exact okv_j _ | exact okv_0 | exact okv_1 | exact okv_o _ _ | exact okv_a _ _ | omega | exact llt_0 | ((repeat apply llt_s) <;> exact llt_0) | fail) only [x141, c_hasBit hx32, hb, if_true, if_false, Bool.false_eq_true, Bool.false_and, nI_add, mo_k_v, mo_k_n, mo_v_e, mo_gf_e, mo_pf_e, mo_ia_e, mo_ba_e, mo_za_e, mo_la_e, mo_aa_e, mo_le_e, mo_is_e, mo_bs_e, mo_zs_0, mo_zs_1, mo_ls_e, mo_as_e, mo_na_e, mo_aci_e, mo_acb_e, mo_acj_e, hp_gs, hp_gn, hp_ss, List.getElem?_cons_zero, List.getElem?_cons_succ, List.set_cons_zero, List.set_cons_succ]
      exact hd (x + 1) _ rfl (by omega)
    · refine (lp_find (N := pnv p - (x + 1)) (St := fun j => zz_Y 141 (17, [some (.ref (a)), some (.int (ar)), some (.int (nI (x))), some (.int (nI (x + 1 + j)))], [], h)) (R := fun j => some (some (.int (sh1 x ||| sh1 (x + 1 + j))), h)) (inner x hx hb)).trans ?_
      rw [Bool.true_and]
      simp only [decide_eq_true_eq]
      split
      · rfl
      · try dsimp only
        rw [x141_c17]
        have e2 : x + 1 + (pnv p - (x + 1)) = pnv p := by omega
        simp (disch := first | assumption | exact zz_nl_i _ | exact zz_nl_r _ | exact zz_nl_n | exact okv_i _ | exact okv_j _ | exact okv_0 | exact okv_1 | exact okv_o _ _ | exact okv_a _ _ | omega | exact llt_0 | ((repeat apply llt_s) <;> exact llt_0) | fail) only [x141, t0, t1.1, c_hasBit hx32, hb, if_true, if_false, nI_01, nI_ltI, e2, Nat.lt_irrefl, nI_add, mo_k_v, mo_k_n, mo_v_e, mo_gf_e, mo_pf_e, mo_ia_e, mo_ba_e, mo_za_e, mo_la_e, mo_aa_e, mo_le_e, mo_is_e, mo_bs_e, mo_zs_0, mo_zs_1, mo_ls_e, mo_as_e, mo_na_e, mo_aci_e, mo_acb_e, mo_acj_e, hp_gs, hp_gn, hp_ss, List.getElem?_cons_zero, List.getElem?_cons_succ, List.set_cons_zero, List.set_cons_succ]
        exact hd (x + 1) _ rfl (by omega)
  rw [en141 t0]
  simp (disch := first | assumption | exact zz_nl_i _ | exact zz_nl_r _ | exact zz_nl_n | exact okv_i _ | exact okv_j _ | exact okv_0 | exact okv_1 | exact okv_o _ _ | exact okv_a _ _ | omega | exact llt_0 | ((repeat apply llt_s) <;> exact llt_0) | fail) only [x141, mo_k_v, mo_k_n, mo_v_e, mo_gf_e, mo_pf_e, mo_ia_e, mo_ba_e, mo_za_e, mo_la_e, mo_aa_e, mo_le_e, mo_is_e, mo_bs_e, mo_zs_0, mo_zs_1, mo_ls_e, mo_as_e, mo_na_e, mo_aci_e, mo_acb_e, mo_acj_e, hp_gs, hp_gn, hp_ss, List.getElem?_cons_zero, List.getElem?_cons_succ, List.set_cons_zero, List.set_cons_succ]
  refine (hd 0 _ rfl (by omega)).trans ?_
  refine (lp_find (N := pnv p) (St := fun x => if x < pnv p then zz_Y 141 (17, [some (.ref (a)), some (.int (ar)), some (.int (nI (x))), some (.int (nI (x + 1)))], [], h) else some (some (.int (-1)), h)) (R := fun x => some (some (.int (sh1 x ||| sh1 (x + 1 + fa_first (al2 f ar x) (pnv p - (x + 1))))), h)) step).trans ?_
  unfold nam2
  dsimp only
  split
  · rfl
  · rw [if_neg (Nat.lt_irrefl _)]
def al3 (f : Nat → Int32) (ar : Int32) (x y j : Nat) : Bool := bt ar (y + 1 + j) && alone f x y (y + 1 + j)
def aq3 (f : Nat → Int32) (ar : Int32) (nv x j : Nat) : Bool := bt ar (x + 1 + j) && decide (fa_first (al3 f ar x (x + 1 + j)) (nv - (x + 1 + j + 1)) < nv - (x + 1 + j + 1))
def ap3 (f : Nat → Int32) (ar : Int32) (nv x : Nat) : Bool := bt ar x && decide (fa_first (aq3 f ar nv x) (nv - (x + 1)) < nv - (x + 1))
def ar3 (f : Nat → Int32) (ar : Int32) (nv x y : Nat) : Int32 := sh1 x ||| sh1 y ||| sh1 (y + 1 + fa_first (al3 f ar x y) (nv - (y + 1)))
def nam3 (f : Nat → Int32) (ar : Int32) (nv : Nat) : Int32 := if fa_first (ap3 f ar nv) nv < nv then ar3 f ar nv (fa_first (ap3 f ar nv) nv) (fa_first (ap3 f ar nv) nv + 1 + fa_first (aq3 f ar nv (fa_first (ap3 f ar nv) nv)) (nv - (fa_first (ap3 f ar nv) nv + 1))) else -1
theorem c_naming3 (hs : isStock h a p rk tg f) (ar : Int32) : zz_run 142 [.ref a, .int ar] h = some (some (.int (nam3 f ar (pnv p))), h) := by
  have hal := fun x y z (hx : x < 21) (hy : y < 21) (hz : z < 21) => c_isAlone hs hx hy hz
  obtain ⟨t0, t1, t2, t3, t4⟩ := hs
  have q2 := t1.2.2.2.2.2.2.2.2.2.2
  have in3 : ∀ x y, x < pnv p → y < pnv p → bt ar y = true → ∀ j, j < pnv p - (y + 1) → zz_Y 142 (41, [some (.ref (a)), some (.int (ar)), some (.int (nI (x))), some (.int (nI (y))), some (.int (nI (y + 1 + j)))], [], h) = if al3 f ar x y j = true then some (some (.int (sh1 x ||| sh1 y ||| sh1 (y + 1 + j))), h) else zz_Y 142 (41, [some (.ref (a)), some (.int (ar)), some (.int (nI (x))), some (.int (nI (y))), some (.int (nI (y + 1 + (j + 1))))], [], h) := by
    intro x y hx hy hb j hj
    have hy32 : y < 32 := by omega
    have hz32 : y + 1 + j < 32 := by omega
    have hz : y + 1 + j < pnv p := by omega
    have e := hal x y (y + 1 + j) (by omega) (by omega) (by omega)
    rw [x142_c41]
    simp (disch := first | assumption | exact zz_nl_i _ | exact zz_nl_r _ | exact zz_nl_n | exact okv_i _ | exact okv_j _ | exact okv_0 | exact okv_1 | exact okv_o _ _ | exact okv_a _ _ | omega | exact llt_0 | ((repeat apply llt_s) <;> exact llt_0) | fail) only [x142, t0, t1.1, nI_ltI, hz, if_true, c_hasBit hy32, c_hasBit hz32, e, nI_add, hb, nI_01, if_false, mo_k_v, mo_k_n, mo_v_e, mo_gf_e, mo_pf_e, mo_ia_e, mo_ba_e, mo_za_e, mo_la_e, mo_aa_e, mo_le_e, mo_is_e, mo_bs_e, mo_zs_0, mo_zs_1, mo_ls_e, mo_as_e, mo_na_e, mo_aci_e, mo_acb_e, mo_acj_e, hp_gs, hp_gn, hp_ss, List.getElem?_cons_zero, List.getElem?_cons_succ, List.set_cons_zero, List.set_cons_succ]
    unfold al3
    cases bt ar (y + 1 + j)
    · simp only [Bool.false_eq_true, if_false, if_true, Bool.false_and]
      rfl
    · cases alone f x y (y + 1 + j)
      · simp only [nI_01, bI_f, Bool.false_eq_true, if_false, if_true, Bool.and_false]
        rfl
      · simp only [nI_01, bI_t, if_false, if_true, Bool.and_true]
        rfl
  have in2 : ∀ x, x < pnv p → bt ar x = true → ∀ j l4, j < pnv p - (x + 1) → zz_nl l4 = true → ∃ l4', zz_nl l4' = true ∧ zz_Y 142 (17, [some (.ref (a)), some (.int (ar)), some (.int (nI (x))), some (.int (nI (x + 1 + j))), l4], [], h) = if aq3 f ar (pnv p) x j = true then some (some (.int (ar3 f ar (pnv p) x (x + 1 + j))), h) else zz_Y 142 (17, [some (.ref (a)), some (.int (ar)), some (.int (nI (x))), some (.int (nI (x + 1 + (j + 1)))), l4'], [], h) := by
    intro x hx hb j l4 hj hl
    have hx32 : x < 32 := by omega
    have hy32 : x + 1 + j < 32 := by omega
    have hy : x + 1 + j < pnv p := by omega
    rw [x142_c17]
    unfold aq3
    cases hby : bt ar (x + 1 + j)
    · refine ⟨_, zz_nl_i (nI (x + 1 + j + 1)), ?_⟩
      simp (disch := first | assumption | exact zz_nl_i _ | exact zz_nl_r _ | exact zz_nl_n | exact okv_i _ | exact okv_j _ | exact okv_0 | exact okv_1 | exact okv_o _ _ | exact okv_a _ _ | omega | exact llt_0 | ((repeat apply llt_s) <;> exact llt_0) | fail) only [x142, t0, t1.1, nI_ltI, hy, if_true, c_hasBit hx32, nI_add, hb, nI_01, if_false, mo_k_v, mo_k_n, mo_v_e, mo_gf_e, mo_pf_e, mo_ia_e, mo_ba_e, mo_za_e, mo_la_e, mo_aa_e, mo_le_e, mo_is_e, mo_bs_e, mo_zs_0, mo_zs_1, mo_ls_e, mo_as_e, mo_na_e, mo_aci_e, mo_acb_e, mo_acj_e, hp_gs, hp_gn, hp_ss, List.getElem?_cons_zero, List.getElem?_cons_succ, List.set_cons_zero, List.set_cons_succ]
      rw [x142_c41]
      simp (disch := first | assumption | exact zz_nl_i _ | exact zz_nl_r _ | exact zz_nl_n | exact okv_i _ | exact okv_j _ | exact okv_0 | exact okv_1 | exact okv_o _ _ | exact okv_a _ _ | omega | exact llt_0 | ((repeat apply llt_s) <;> exact llt_0) | fail) only [x142, c_hasBit hy32, hby, Bool.false_eq_true, if_false, if_true, Bool.false_and, nI_add, mo_k_v, mo_k_n, mo_v_e, mo_gf_e, mo_pf_e, mo_ia_e, mo_ba_e, mo_za_e, mo_la_e, mo_aa_e, mo_le_e, mo_is_e, mo_bs_e, mo_zs_0, mo_zs_1, mo_ls_e, mo_as_e, mo_na_e, mo_aci_e, mo_acb_e, mo_acj_e, hp_gs, hp_gn, hp_ss, List.getElem?_cons_zero, List.getElem?_cons_succ, List.set_cons_zero, List.set_cons_succ]
      rfl
    · refine ⟨_, zz_nl_i (nI (pnv p)), ?_⟩
      simp (disch := first | assumption | exact zz_nl_i _ | exact zz_nl_r _ | exact zz_nl_n | exact okv_i _ | exact okv_j _ | exact okv_0 | exact okv_1 | exact okv_o _ _ | exact okv_a _ _ | omega | exact llt_0 | ((repeat apply llt_s) <;> exact llt_0) | fail) only [x142, t0, t1.1, nI_ltI, hy, if_true, c_hasBit hx32, nI_add, hb, nI_01, if_false, mo_k_v, mo_k_n, mo_v_e, mo_gf_e, mo_pf_e, mo_ia_e, mo_ba_e, mo_za_e, mo_la_e, mo_aa_e, mo_le_e, mo_is_e, mo_bs_e, mo_zs_0, mo_zs_1, mo_ls_e, mo_as_e, mo_na_e, mo_aci_e, mo_acb_e, mo_acj_e, hp_gs, hp_gn, hp_ss, List.getElem?_cons_zero, List.getElem?_cons_succ, List.set_cons_zero, List.set_cons_succ]
      refine (lp_find (N := pnv p - (x + 1 + j + 1)) (St := fun k => zz_Y 142 (41, [some (.ref (a)), some (.int (ar)), some (.int (nI (x))), some (.int (nI (x + 1 + j))), some (.int (nI (x + 1 + j + 1 + k)))], [], h)) (R := fun k => some (some (.int (sh1 x ||| sh1 (x + 1 + j) ||| sh1 (x + 1 + j + 1 + k))), h)) (in3 x (x + 1 + j) hx hy hby)).trans ?_
      rw [Bool.true_and]
      simp only [decide_eq_true_eq]
      split
      · rfl
      · try dsimp only
        rw [x142_c41]
        have e2 : x + 1 + j + 1 + (pnv p - (x + 1 + j + 1)) = pnv p := by omega
        simp (disch := first | assumption | exact zz_nl_i _ | exact zz_nl_r _ | exact zz_nl_n | exact okv_i _ | exact okv_j _ | exact okv_0 | exact okv_1 | exact okv_o _ _ | exact okv_a _ _ | omega | exact llt_0 | ((repeat apply llt_s) <;> exact llt_0) | fail) only [x142, t0, t1.1, c_hasBit hy32, hby, if_true, if_false, nI_01, nI_ltI, e2, Nat.lt_irrefl, nI_add, mo_k_v, mo_k_n, mo_v_e, mo_gf_e, mo_pf_e, mo_ia_e, mo_ba_e, mo_za_e, mo_la_e, mo_aa_e, mo_le_e, mo_is_e, mo_bs_e, mo_zs_0, mo_zs_1, mo_ls_e, mo_as_e, mo_na_e, mo_aci_e, mo_acb_e, mo_acj_e, hp_gs, hp_gn, hp_ss, List.getElem?_cons_zero, List.getElem?_cons_succ, List.set_cons_zero, List.set_cons_succ]
        rfl
  have step : ∀ x (l : Option Value × Option Value), x < pnv p → (zz_nl l.1 = true ∧ zz_nl l.2 = true) → ∃ l' : Option Value × Option Value, (zz_nl l'.1 = true ∧ zz_nl l'.2 = true) ∧ zz_Y 142 (2, [some (.ref (a)), some (.int (ar)), some (.int (nI (x))), l.1, l.2], [], h) = if ap3 f ar (pnv p) x = true then some (some (.int (ar3 f ar (pnv p) x (x + 1 + fa_first (aq3 f ar (pnv p) x) (pnv p - (x + 1))))), h) else zz_Y 142 (2, [some (.ref (a)), some (.int (ar)), some (.int (nI (x + 1))), l'.1, l'.2], [], h) := by
    rintro x ⟨l3, l4⟩ hx ⟨n3, n4⟩
    have hx32 : x < 32 := by omega
    dsimp only at n3 n4 ⊢
    rw [x142_c2]
    unfold ap3
    cases hb : bt ar x
    · refine ⟨(some (.int (nI (x + 1))), l4), ⟨rfl, n4⟩, ?_⟩
      simp (disch := first | assumption | exact zz_nl_i _ | exact zz_nl_r _ | exact zz_nl_n | exact okv_i _ | exact okv_j _ | exact okv_0 | exact okv_1 | exact okv_o _ _ | exact okv_a _ _ | omega | exact llt_0 | ((repeat apply llt_s) <;> exact llt_0) | fail) only [x142, t0, t1.1, nI_ltI, hx, if_true, nI_add, mo_k_v, mo_k_n, mo_v_e, mo_gf_e, mo_pf_e, mo_ia_e, mo_ba_e, mo_za_e, mo_la_e, mo_aa_e, mo_le_e, mo_is_e, mo_bs_e, mo_zs_0, mo_zs_1, mo_ls_e, mo_as_e, mo_na_e, mo_aci_e, mo_acb_e, mo_acj_e, hp_gs, hp_gn, hp_ss, List.getElem?_cons_zero, List.getElem?_cons_succ, List.set_cons_zero, List.set_cons_succ]
      rw [x142_c17]
      simp (disch := first | assumption | exact zz_nl_i _ | exact zz_nl_r _ | exact zz_nl_n | exact okv_i _ | exact okv_j _ | exact okv_0 | exact okv_1 | exact okv_o _ _ | exact okv_a _ _ | omega | exact llt_0 | ((repeat apply llt_s) <;> exact llt_0) | fail) only [x142, c_hasBit hx32, hb, Bool.false_eq_true, if_false, if_true, Bool.false_and, nI_add, mo_k_v, mo_k_n, mo_v_e, mo_gf_e, mo_pf_e, mo_ia_e, mo_ba_e, mo_za_e, mo_la_e, mo_aa_e, mo_le_e, mo_is_e, mo_bs_e, mo_zs_0, mo_zs_1, mo_ls_e, mo_as_e, mo_na_e, mo_aci_e, mo_acb_e, mo_acj_e, hp_gs, hp_gn, hp_ss, List.getElem?_cons_zero, List.getElem?_cons_succ, List.set_cons_zero, List.set_cons_succ]
    · obtain ⟨l4', n4', e⟩ := lp_findE (N := pnv p - (x + 1)) (St := fun j l4 => zz_Y 142 (17, [some (.ref (a)), some (.int (ar)), some (.int (nI (x))), some (.int (nI (x + 1 + j))), l4], [], h)) (Inv := fun l => zz_nl l = true) (in2 x hx hb) n4
      refine ⟨(some (.int (nI (pnv p))), l4'), ⟨rfl, n4'⟩, ?_⟩
      simp (disch := first | assumption | exact zz_nl_i _ | exact zz_nl_r _ | exact zz_nl_n | exact okv_i _ | exact okv_j _ | exact okv_0 | exact okv_1 | exact okv_o _ _ | exact okv_a _ _ | omega | exact llt_0 | ((repeat apply llt_s) <;> exact llt_0) | fail) only [x142, t0, t1.1, nI_ltI, hx, if_true, nI_add, mo_k_v, mo_k_n, mo_v_e, mo_gf_e, mo_pf_e, mo_ia_e, mo_ba_e, mo_za_e, mo_la_e, mo_aa_e, mo_le_e, mo_is_e, mo_bs_e, mo_zs_0, mo_zs_1, mo_ls_e, mo_as_e, mo_na_e, mo_aci_e, mo_acb_e, mo_acj_e, hp_gs, hp_gn, hp_ss, List.getElem?_cons_zero, List.getElem?_cons_succ, List.set_cons_zero, List.set_cons_succ]
      refine e.trans ?_
      rw [Bool.true_and]
      simp only [decide_eq_true_eq]
      split
      · rfl
      · try dsimp only
        rw [x142_c17]
        have e2 : x + 1 + (pnv p - (x + 1)) = pnv p := by omega
        simp (disch := first | assumption | exact zz_nl_i _ | exact zz_nl_r _ | exact zz_nl_n | exact okv_i _ | exact okv_j _ | exact okv_0 | exact okv_1 | exact okv_o _ _ | exact okv_a _ _ | omega | exact llt_0 | ((repeat apply llt_s) <;> exact llt_0) | fail) only [x142, t0, t1.1, c_hasBit hx32, hb, if_true, if_false, nI_01, nI_ltI, e2, Nat.lt_irrefl, nI_add, mo_k_v, mo_k_n, mo_v_e, mo_gf_e, mo_pf_e, mo_ia_e, mo_ba_e, mo_za_e, mo_la_e, mo_aa_e, mo_le_e, mo_is_e, mo_bs_e, mo_zs_0, mo_zs_1, mo_ls_e, mo_as_e, mo_na_e, mo_aci_e, mo_acb_e, mo_acj_e, hp_gs, hp_gn, hp_ss, List.getElem?_cons_zero, List.getElem?_cons_succ, List.set_cons_zero, List.set_cons_succ]
  rw [en142 t0]
  simp (disch := first | assumption | exact zz_nl_i _ | exact zz_nl_r _ | exact zz_nl_n | exact okv_i _ | exact okv_j _ | exact okv_0 | exact okv_1 | exact okv_o _ _ | exact okv_a _ _ | omega | exact llt_0 | ((repeat apply llt_s) <;> exact llt_0) | fail) only [x142, mo_k_v, mo_k_n, mo_v_e, mo_gf_e, mo_pf_e, mo_ia_e, mo_ba_e, mo_za_e, mo_la_e, mo_aa_e, mo_le_e, mo_is_e, mo_bs_e, mo_zs_0, mo_zs_1, mo_ls_e, mo_as_e, mo_na_e, mo_aci_e, mo_acb_e, mo_acj_e, hp_gs, hp_gn, hp_ss, List.getElem?_cons_zero, List.getElem?_cons_succ, List.set_cons_zero, List.set_cons_succ]
  obtain ⟨l', ⟨n3, n4⟩, e⟩ := lp_findE (N := pnv p) (St := fun x (l : Option Value × Option Value) => zz_Y 142 (2, [some (.ref (a)), some (.int (ar)), some (.int (nI (x))), l.1, l.2], [], h)) (Inv := fun l => zz_nl l.1 = true ∧ zz_nl l.2 = true) step (s := (none, none)) ⟨rfl, rfl⟩
  refine e.trans ?_
  unfold nam3
  split
  · rfl
  · ((try dsimp only); rw [x142_c2]; simp (disch := first | assumption | exact zz_nl_i _ | exact zz_nl_r _ | exact zz_nl_n | exact okv_i _ | exact okv_j _ | exact okv_0 | exact okv_1 | exact okv_o _ _ | exact okv_a _ _ | omega | exact llt_0 | ((repeat apply llt_s) <;> exact llt_0) | fail) only [x142, nI_ltI, Nat.lt_irrefl, if_false, t0, t1.1, mo_k_v, mo_k_n, mo_v_e, mo_gf_e, mo_pf_e, mo_ia_e, mo_ba_e, mo_za_e, mo_la_e, mo_aa_e, mo_le_e, mo_is_e, mo_bs_e, mo_zs_0, mo_zs_1, mo_ls_e, mo_as_e, mo_na_e, mo_aci_e, mo_acb_e, mo_acj_e, hp_gs, hp_gn, hp_ss, List.getElem?_cons_zero, List.getElem?_cons_succ, List.set_cons_zero, List.set_cons_succ])
def namV (f : Nat → Int32) (ar : Int32) (nv : Nat) : Int32 := if amt (rw8 f 20) = 1 then nI 0 else if nam1 f ar nv = -1 then (if nam2 f ar nv = -1 then nam3 f ar nv else nam2 f ar nv) else nam1 f ar nv
theorem c_namingValues (hs : isStock h a p rk tg f) {q : Nat} (hq : q < 256) : zz_run 138 [.ref a, .int (nI q)] h = some (some (.int (namV f (linOf p (tg q) (pnv p)) (pnv p))), h) := by
  have e1 := c_naming1 hs (linOf p (tg q) (pnv p))
  have e2 := c_naming2 hs (linOf p (tg q) (pnv p))
  have e3 := c_naming3 hs (linOf p (tg q) (pnv p))
  obtain ⟨t0, t1, t2, t3, t4⟩ := hs
  have ea := c_amount t4 (row := 20) (by omega)
  have el := c_lineage t1 (tg q)
  have hle := amt_le (rw8 f 20)
  rw [en138 t0]
  unfold namV
  by_cases h0 : amt (rw8 f 20) = 1
  · simp (disch := first | assumption | exact zz_nl_i _ | exact zz_nl_r _ | exact zz_nl_n | exact okv_i _ | exact okv_j _ | exact okv_0 | exact okv_1 | exact okv_o _ _ | exact okv_a _ _ | omega | exact llt_0 | ((repeat apply llt_s) <;> exact llt_0) | fail) only [x138, t0, ea, h0, if_true, mo_k_v, mo_k_n, mo_v_e, mo_gf_e, mo_pf_e, mo_ia_e, mo_ba_e, mo_za_e, mo_la_e, mo_aa_e, mo_le_e, mo_is_e, mo_bs_e, mo_zs_0, mo_zs_1, mo_ls_e, mo_as_e, mo_na_e, mo_aci_e, mo_acb_e, mo_acj_e, hp_gs, hp_gn, hp_ss, List.getElem?_cons_zero, List.getElem?_cons_succ, List.set_cons_zero, List.set_cons_succ]
  · have h0' : ¬ nI (amt (rw8 f 20)) = nI 1 := by
      rw [nI_eq (by omega) (by omega)]
      exact h0
    by_cases h1 : nam1 f (linOf p (tg q) (pnv p)) (pnv p) = -1
    · by_cases h2 : nam2 f (linOf p (tg q) (pnv p)) (pnv p) = -1
      · simp (disch := first | assumption | exact zz_nl_i _ | exact zz_nl_r _ | exact zz_nl_n | exact okv_i _ | exact okv_j _ | exact okv_0 | exact okv_1 | exact okv_o _ _ | exact okv_a _ _ | omega | exact llt_0 | ((repeat apply llt_s) <;> exact llt_0) | fail) only [x138, t0, t3, ea, h0, h0', el, e1, e2, e3, h1, h2, if_true, if_false, mo_k_v, mo_k_n, mo_v_e, mo_gf_e, mo_pf_e, mo_ia_e, mo_ba_e, mo_za_e, mo_la_e, mo_aa_e, mo_le_e, mo_is_e, mo_bs_e, mo_zs_0, mo_zs_1, mo_ls_e, mo_as_e, mo_na_e, mo_aci_e, mo_acb_e, mo_acj_e, hp_gs, hp_gn, hp_ss, List.getElem?_cons_zero, List.getElem?_cons_succ, List.set_cons_zero, List.set_cons_succ]
      · simp (disch := first | assumption | exact zz_nl_i _ | exact zz_nl_r _ | exact zz_nl_n | exact okv_i _ | exact okv_j _ | exact okv_0 | exact okv_1 | exact okv_o _ _ | exact okv_a _ _ | omega | exact llt_0 | ((repeat apply llt_s) <;> exact llt_0) | fail) only [x138, t0, t3, ea, h0, h0', el, e1, e2, e3, h1, h2, if_true, if_false, mo_k_v, mo_k_n, mo_v_e, mo_gf_e, mo_pf_e, mo_ia_e, mo_ba_e, mo_za_e, mo_la_e, mo_aa_e, mo_le_e, mo_is_e, mo_bs_e, mo_zs_0, mo_zs_1, mo_ls_e, mo_as_e, mo_na_e, mo_aci_e, mo_acb_e, mo_acj_e, hp_gs, hp_gn, hp_ss, List.getElem?_cons_zero, List.getElem?_cons_succ, List.set_cons_zero, List.set_cons_succ]
    · simp (disch := first | assumption | exact zz_nl_i _ | exact zz_nl_r _ | exact zz_nl_n | exact okv_i _ | exact okv_j _ | exact okv_0 | exact okv_1 | exact okv_o _ _ | exact okv_a _ _ | omega | exact llt_0 | ((repeat apply llt_s) <;> exact llt_0) | fail) only [x138, t0, t3, ea, h0, h0', el, e1, e2, e3, h1, if_true, if_false, mo_k_v, mo_k_n, mo_v_e, mo_gf_e, mo_pf_e, mo_ia_e, mo_ba_e, mo_za_e, mo_la_e, mo_aa_e, mo_le_e, mo_is_e, mo_bs_e, mo_zs_0, mo_zs_1, mo_ls_e, mo_as_e, mo_na_e, mo_aci_e, mo_acb_e, mo_acj_e, hp_gs, hp_gn, hp_ss, List.getElem?_cons_zero, List.getElem?_cons_succ, List.set_cons_zero, List.set_cons_succ]
/-- most alike: best, its amount in both, its amount in either -/
def alkS (W : Nat → Nat → Int32) (x v : Nat) (s : Int32 × Int32 × Int32) : Int32 × Int32 × Int32 :=
  if v = x then s else if s.1 = -1 ∨ s.2.1 * nI (max (aj8 1 (W x) (W v)) 1) < nI (aj8 0 (W x) (W v)) * s.2.2 then (nI v, nI (aj8 0 (W x) (W v)), nI (max (aj8 1 (W x) (W v)) 1)) else s
def alk (W : Nat → Nat → Int32) (x nv : Nat) : Int32 := (lp_it (alkS W x) nv (-1, nI 0, nI 1)).1
theorem aj8_le (j : Nat) (W V : Nat → Int32) : aj8 j W V ≤ 256 := by
  have := fb_sm_bound (f := fun b => pc (jnd j (W b) (V b))) (c := 32) (n := 8) (fun k _ => pc_le _)
  unfold aj8
  omega
theorem c_mostAlike (hs : isStock h a p rk tg f) {x : Nat} (hx : x < 20) : zz_run 136 [.ref a, .int (nI x)] h = some (some (.int (alk (rw8 f) x (pnv p))), h) := by
  obtain ⟨t0, t1, t2, t3, t4⟩ := hs
  have q2 := t1.2.2.2.2.2.2.2.2.2.2
  have step : ∀ v (s : Int32 × Int32 × Int32) (l : Option Value × Option Value), v < pnv p → (zz_nl l.1 = true ∧ zz_nl l.2 = true) → ∃ l' : Option Value × Option Value, (zz_nl l'.1 = true ∧ zz_nl l'.2 = true) ∧ zz_Y 136 (10, [some (.ref (a)), some (.int (nI (x))), some (.int (s.1)), some (.int (s.2.1)), some (.int (s.2.2)), some (.int (nI (v))), l.1, l.2], [], h) = zz_Y 136 (10, [some (.ref (a)), some (.int (nI (x))), some (.int ((alkS (rw8 f) x v s).1)), some (.int ((alkS (rw8 f) x v s).2.1)), some (.int ((alkS (rw8 f) x v s).2.2)), some (.int (nI (v + 1))), l'.1, l'.2], [], h) := by
    rintro v ⟨s1, s2, s3⟩ ⟨l6, l7⟩ hv ⟨n6, n7⟩
    have hv21 : v < 21 := by omega
    have hx21 : x < 21 := by omega
    have b1 := aj8_le 0 (rw8 f x) (rw8 f v)
    have b2 := aj8_le 1 (rw8 f x) (rw8 f v)
    have ej0 := c_joinAmt t4 hx21 hv21 (j := 0) (by omega)
    have ej1 := c_joinAmt t4 hx21 hv21 (j := 1) (by omega)
    dsimp only at n6 n7 ⊢
    rw [x136_c10]
    unfold alkS
    by_cases h1 : v = x
    · subst h1
      refine ⟨(l6, l7), ⟨n6, n7⟩, ?_⟩
      simp (disch := first | assumption | exact zz_nl_i _ | exact zz_nl_r _ | exact zz_nl_n | exact okv_i _ | exact okv_j _ | exact okv_0 | exact okv_1 | exact okv_o _ _ | exact okv_a _ _ | omega | exact llt_0 | ((repeat apply llt_s) <;> exact llt_0) | fail) only [x136, t0, t1.1, nI_ltI, hv, if_true, nI_add, mo_k_v, mo_k_n, mo_v_e, mo_gf_e, mo_pf_e, mo_ia_e, mo_ba_e, mo_za_e, mo_la_e, mo_aa_e, mo_le_e, mo_is_e, mo_bs_e, mo_zs_0, mo_zs_1, mo_ls_e, mo_as_e, mo_na_e, mo_aci_e, mo_acb_e, mo_acj_e, hp_gs, hp_gn, hp_ss, List.getElem?_cons_zero, List.getElem?_cons_succ, List.set_cons_zero, List.set_cons_succ]
    · have h1' : ¬ nI v = nI x := by
        rw [nI_eq (by omega) (by omega)]
        exact h1
      have em : (if aj8 1 (rw8 f x) (rw8 f v) < 1 then nI 1 else nI (aj8 1 (rw8 f x) (rw8 f v))) = nI (max (aj8 1 (rw8 f x) (rw8 f v)) 1) := by
        by_cases h5 : aj8 1 (rw8 f x) (rw8 f v) < 1
        · rw [if_pos h5, Nat.max_eq_right (by omega)]
        · rw [if_neg h5, Nat.max_eq_left (by omega)]
      refine ⟨(some (.int (nI (aj8 0 (rw8 f x) (rw8 f v)))), some (.int (nI (max (aj8 1 (rw8 f x) (rw8 f v)) 1)))), ⟨rfl, rfl⟩, ?_⟩
      rw [if_neg h1]
      by_cases h2 : s1 = -1
      · simp (disch := first | assumption | exact zz_nl_i _ | exact zz_nl_r _ | exact zz_nl_n | exact okv_i _ | exact okv_j _ | exact okv_0 | exact okv_1 | exact okv_o _ _ | exact okv_a _ _ | omega | exact llt_0 | ((repeat apply llt_s) <;> exact llt_0) | fail) only [x136, t0, t1.1, nI_ltI, hv, if_true, if_false, nI_add, h1', ej0, ej1, em, h2, true_or, mo_k_v, mo_k_n, mo_v_e, mo_gf_e, mo_pf_e, mo_ia_e, mo_ba_e, mo_za_e, mo_la_e, mo_aa_e, mo_le_e, mo_is_e, mo_bs_e, mo_zs_0, mo_zs_1, mo_ls_e, mo_as_e, mo_na_e, mo_aci_e, mo_acb_e, mo_acj_e, hp_gs, hp_gn, hp_ss, List.getElem?_cons_zero, List.getElem?_cons_succ, List.set_cons_zero, List.set_cons_succ]
      · by_cases h3 : s2 * nI (max (aj8 1 (rw8 f x) (rw8 f v)) 1) < nI (aj8 0 (rw8 f x) (rw8 f v)) * s3
        · simp (disch := first | assumption | exact zz_nl_i _ | exact zz_nl_r _ | exact zz_nl_n | exact okv_i _ | exact okv_j _ | exact okv_0 | exact okv_1 | exact okv_o _ _ | exact okv_a _ _ | omega | exact llt_0 | ((repeat apply llt_s) <;> exact llt_0) | fail) only [x136, t0, t1.1, nI_ltI, hv, if_true, if_false, nI_add, h1', ej0, ej1, em, h2, h3, or_true, mo_k_v, mo_k_n, mo_v_e, mo_gf_e, mo_pf_e, mo_ia_e, mo_ba_e, mo_za_e, mo_la_e, mo_aa_e, mo_le_e, mo_is_e, mo_bs_e, mo_zs_0, mo_zs_1, mo_ls_e, mo_as_e, mo_na_e, mo_aci_e, mo_acb_e, mo_acj_e, hp_gs, hp_gn, hp_ss, List.getElem?_cons_zero, List.getElem?_cons_succ, List.set_cons_zero, List.set_cons_succ]
        · simp (disch := first | assumption | exact zz_nl_i _ | exact zz_nl_r _ | exact zz_nl_n | exact okv_i _ | exact okv_j _ | exact okv_0 | exact okv_1 | exact okv_o _ _ | exact okv_a _ _ | omega | exact llt_0 | ((repeat apply llt_s) <;> exact llt_0) | fail) only [x136, t0, t1.1, nI_ltI, hv, if_true, if_false, nI_add, h1', ej0, ej1, em, h2, h3, or_self, mo_k_v, mo_k_n, mo_v_e, mo_gf_e, mo_pf_e, mo_ia_e, mo_ba_e, mo_za_e, mo_la_e, mo_aa_e, mo_le_e, mo_is_e, mo_bs_e, mo_zs_0, mo_zs_1, mo_ls_e, mo_as_e, mo_na_e, mo_aci_e, mo_acb_e, mo_acj_e, hp_gs, hp_gn, hp_ss, List.getElem?_cons_zero, List.getElem?_cons_succ, List.set_cons_zero, List.set_cons_succ]
  rw [en136 t0]
  simp (disch := first | assumption | exact zz_nl_i _ | exact zz_nl_r _ | exact zz_nl_n | exact okv_i _ | exact okv_j _ | exact okv_0 | exact okv_1 | exact okv_o _ _ | exact okv_a _ _ | omega | exact llt_0 | ((repeat apply llt_s) <;> exact llt_0) | fail) only [x136, mo_k_v, mo_k_n, mo_v_e, mo_gf_e, mo_pf_e, mo_ia_e, mo_ba_e, mo_za_e, mo_la_e, mo_aa_e, mo_le_e, mo_is_e, mo_bs_e, mo_zs_0, mo_zs_1, mo_ls_e, mo_as_e, mo_na_e, mo_aci_e, mo_acb_e, mo_acj_e, hp_gs, hp_gn, hp_ss, List.getElem?_cons_zero, List.getElem?_cons_succ, List.set_cons_zero, List.set_cons_succ]
  obtain ⟨l', ⟨n6, n7⟩, e⟩ := lp_foldE (N := pnv p) (St := fun v (s : Int32 × Int32 × Int32) (l : Option Value × Option Value) => zz_Y 136 (10, [some (.ref (a)), some (.int (nI (x))), some (.int (s.1)), some (.int (s.2.1)), some (.int (s.2.2)), some (.int (nI (v))), l.1, l.2], [], h)) (s := (-1, nI 0, nI 1)) (Inv := fun l => zz_nl l.1 = true ∧ zz_nl l.2 = true) step (t := (none, none)) ⟨rfl, rfl⟩
  refine e.trans ?_
  ((try dsimp only); rw [x136_c10]; simp (disch := first | assumption | exact zz_nl_i _ | exact zz_nl_r _ | exact zz_nl_n | exact okv_i _ | exact okv_j _ | exact okv_0 | exact okv_1 | exact okv_o _ _ | exact okv_a _ _ | omega | exact llt_0 | ((repeat apply llt_s) <;> exact llt_0) | fail) only [x136, nI_ltI, Nat.lt_irrefl, if_false, t0, t1.1, mo_k_v, mo_k_n, mo_v_e, mo_gf_e, mo_pf_e, mo_ia_e, mo_ba_e, mo_za_e, mo_la_e, mo_aa_e, mo_le_e, mo_is_e, mo_bs_e, mo_zs_0, mo_zs_1, mo_ls_e, mo_as_e, mo_na_e, mo_aci_e, mo_acb_e, mo_acj_e, hp_gs, hp_gn, hp_ss, List.getElem?_cons_zero, List.getElem?_cons_succ, List.set_cons_zero, List.set_cons_succ])
  rfl
end
