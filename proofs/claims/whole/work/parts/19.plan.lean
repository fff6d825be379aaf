/-! the plan and the stock as they lie in the heap -/
abbrev Pl : Type := Nat × Nat × (Nat → Int64) × (Nat → Int32) × (Nat → Int32) × (Nat → Int32) × (Nat → Int64) × (Nat → Int32) × (Nat → Int32) × (Nat → Int32)
def pnh (p : Pl) : Nat := p.1
def pnv (p : Pl) : Nat := p.2.1
def phn (p : Pl) : Nat → Int64 := p.2.2.1
def pmn (p : Pl) : Nat → Int32 := p.2.2.2.1
def pfi (p : Pl) : Nat → Int32 := p.2.2.2.2.1
def psi (p : Pl) : Nat → Int32 := p.2.2.2.2.2.1
def pvn (p : Pl) : Nat → Int64 := p.2.2.2.2.2.2.1
def pho (p : Pl) : Nat → Int32 := p.2.2.2.2.2.2.2.1
def ppa (p : Pl) : Nat → Int32 := p.2.2.2.2.2.2.2.2.1
def pli (p : Pl) : Nat → Int32 := p.2.2.2.2.2.2.2.2.2
def isPlan (h : zz_H) (a : Nat) (p : Pl) : Prop :=
  hp_g h a = some (.inr (3, [.int (nI (pnh p)), .ref (a + 1), .ref (a + 2), .ref (a + 3), .ref (a + 4), .int (nI (pnv p)), .ref (a + 5), .ref (a + 6), .ref (a + 7), .ref (a + 8)])) ∧
  hp_g h (a + 1) = some (.inl (.long, 4, .inr (.inl (phn p)))) ∧ hp_g h (a + 2) = some (.inl (.int, 4, .inl (pmn p))) ∧ hp_g h (a + 3) = some (.inl (.int, 4, .inl (pfi p))) ∧ hp_g h (a + 4) = some (.inl (.int, 4, .inl (psi p))) ∧
  hp_g h (a + 5) = some (.inl (.long, 20, .inr (.inl (pvn p)))) ∧ hp_g h (a + 6) = some (.inl (.int, 20, .inl (pho p))) ∧ hp_g h (a + 7) = some (.inl (.int, 20, .inl (ppa p))) ∧ hp_g h (a + 8) = some (.inl (.int, 20, .inl (pli p))) ∧ pnh p ≤ 4 ∧ pnv p ≤ 20
def isStock (h : zz_H) (a : Nat) (p : Pl) (rk tg f : Nat → Int32) : Prop :=
  hp_g h a = some (.inr (7, [.ref (a + 1), .ref (a + 10), .ref (a + 11), .ref (a + 12)])) ∧ isPlan h (a + 1) p ∧ hp_g h (a + 10) = some (.inl (.int, 256, .inl rk)) ∧ hp_g h (a + 11) = some (.inl (.int, 256, .inl tg)) ∧ isSets h (a + 12) 21 f
/-- an int that is a number below n -/
def isV (n : Nat) (x : Int32) : Bool := decide (¬ x < nI 0 ∧ x < nI n)
theorem isV_iff {n : Nat} {x : Int32} (hn : n < 2147483648) : isV n x = true ↔ ∃ k, k < n ∧ x = nI k := by
  unfold isV
  rw [decide_eq_true_eq]
  constructor
  · rintro ⟨h1, h2⟩
    obtain ⟨j, hj, rfl⟩ := nI_of h1
    exact ⟨j, (nI_ltI hj (by omega)).mp h2, rfl⟩
  · rintro ⟨k, hk, rfl⟩
    exact ⟨nI_nlt0 (by omega), (nI_ltI (by omega) (by omega)).mpr hk⟩
theorem isV_nI {n k : Nat} (hn : n < 2147483648) (hk : k < n) : isV n (nI k) = true := (isV_iff hn).mpr ⟨k, hk, rfl⟩
def bI (b : Bool) : Int32 := if b = true then nI 1 else nI 0
theorem bI_t : bI true = nI 1 := rfl
theorem bI_f : bI false = nI 0 := rfl
theorem bI_0 (b : Bool) : (bI b = nI 0) = (b = false) := by cases b <;> simp [bI, nI_01]
theorem bI_okr (b : Bool) : bI b = nI 0 ∨ bI b = nI 1 := by cases b; exact Or.inl rfl; exact Or.inr rfl
theorem cmp_0 (x y : Int64) : (lg_cmp x y = nI 0) = (x = y) := by
  unfold lg_cmp
  apply propext
  constructor
  · intro h
    split at h
    · exact absurd h (by decide +kernel)
    · split at h
      · assumption
      · exact absurd h (by decide +kernel)
  · rintro rfl
    rw [if_neg (by simp), if_pos rfl]
    rfl
/-- the first number below n with a property, or -1 -/
def FI (p : Nat → Bool) (n : Nat) : Int32 := if fa_first p n < n then nI (fa_first p n) else -1
theorem FI_cong {p q : Nat → Bool} {n : Nat} (h : ∀ i, i < n → p i = q i) : FI p n = FI q n := by
  have key : fa_first p n = fa_first q n := by
    have h1 := fa_first_le p n
    have h2 := fa_first_le q n
    rcases Nat.lt_trichotomy (fa_first p n) (fa_first q n) with hl | he | hg
    · have a1 := fa_first_yes p n (by omega)
      rw [h _ (by omega), fa_first_no q n _ hl] at a1
      cases a1
    · exact he
    · have a1 := fa_first_yes q n (by omega)
      rw [← h _ (by omega), fa_first_no p n _ hg] at a1
      cases a1
  unfold FI
  rw [key]
theorem first_of {p : Nat → Bool} {n i : Nat} (hi : i < n) (hp : p i = true) (hno : ∀ j, j < i → p j = false) : fa_first p n = i := by
  have h1 := fa_first_le p n
  rcases Nat.lt_trichotomy (fa_first p n) i with hl | he | hg
  · have a1 := fa_first_yes p n (by omega)
    rw [hno _ hl] at a1
    cases a1
  · exact he
  · have := fa_first_no p n i hg
    rw [hp] at this
    cases this
theorem FI_of {p : Nat → Bool} {n i : Nat} (hi : i < n) (hp : p i = true) (hno : ∀ j, j < i → p j = false) : FI p n = nI i := by
  unfold FI
  rw [first_of hi hp hno, if_pos hi]
theorem FI_none {p : Nat → Bool} {n : Nat} (hno : ∀ j, j < n → p j = false) : FI p n = -1 := by
  unfold FI
  rw [if_neg]
  intro hl
  have := fa_first_yes p n hl
  rw [hno _ hl] at this
  cases this
theorem FI_cases (p : Nat → Bool) (n : Nat) : (∃ i, i < n ∧ p i = true ∧ (∀ j, j < i → p j = false) ∧ FI p n = nI i) ∨ ((∀ j, j < n → p j = false) ∧ FI p n = -1) := by
  by_cases hl : fa_first p n < n
  · exact Or.inl ⟨_, hl, fa_first_yes p n hl, fun j hj => fa_first_no p n j hj, if_pos hl⟩
  · refine Or.inr ⟨fun j hj => fa_first_no p n j (by have := fa_first_le p n; omega), if_neg hl⟩
theorem c_isRecord (x : Int32) (h : zz_H) : zz_run 48 [.int x] h = some (some (.int (bI (isV 256 x))), h) := by
  rw [en48]
  simp (disch := first | assumption | exact zz_nl_i _ | exact zz_nl_r _ | exact zz_nl_n | exact okv_i _ | exact okv_j _ | exact okv_0 | exact okv_1 | exact okv_o _ _ | exact okv_a _ _ | omega | exact llt_0 | ((repeat apply llt_s) <;> exact llt_0) | fail) only [x48, xb48, mo_k_v, mo_k_n, mo_v_e, mo_gf_e, mo_pf_e, mo_ia_e, mo_ba_e, mo_za_e, mo_la_e, mo_aa_e, mo_le_e, mo_is_e, mo_bs_e, mo_zs_0, mo_zs_1, mo_ls_e, mo_as_e, mo_na_e, mo_aci_e, mo_acb_e, mo_acj_e, hp_gs, hp_gn, hp_ss, List.getElem?_cons_zero, List.getElem?_cons_succ, List.set_cons_zero, List.set_cons_succ]
  unfold isV
  by_cases h1 : x < nI 0
  · simp [h1, bI]
  · by_cases h2 : x < nI 256 <;> simp [h1, h2, bI]
theorem c_isRank (x : Int32) (h : zz_H) : zz_run 85 [.int x] h = some (some (.int (bI (isV 1000 x))), h) := by
  rw [en85]
  simp (disch := first | assumption | exact zz_nl_i _ | exact zz_nl_r _ | exact zz_nl_n | exact okv_i _ | exact okv_j _ | exact okv_0 | exact okv_1 | exact okv_o _ _ | exact okv_a _ _ | omega | exact llt_0 | ((repeat apply llt_s) <;> exact llt_0) | fail) only [x85, xb85, mo_k_v, mo_k_n, mo_v_e, mo_gf_e, mo_pf_e, mo_ia_e, mo_ba_e, mo_za_e, mo_la_e, mo_aa_e, mo_le_e, mo_is_e, mo_bs_e, mo_zs_0, mo_zs_1, mo_ls_e, mo_as_e, mo_na_e, mo_aci_e, mo_acb_e, mo_acj_e, hp_gs, hp_gn, hp_ss, List.getElem?_cons_zero, List.getElem?_cons_succ, List.set_cons_zero, List.set_cons_succ]
  have e : (nI 999 < x) = ¬ (x < nI 1000) := by
    apply propext
    rw [Int32.lt_iff_toInt_lt, Int32.lt_iff_toInt_lt, nI_toInt (by omega), nI_toInt (by omega)]
    omega
  unfold isV
  simp only [e]
  by_cases h1 : x < nI 0
  · simp [h1, bI]
  · by_cases h2 : x < nI 1000 <;> simp [h1, h2, bI]
section
variable {h : zz_H} {a : Nat} {p : Pl}
theorem c_isValue (hp : isPlan h a p) (x : Int32) : zz_run 44 [.ref a, .int x] h = some (some (.int (bI (isV (pnv p) x))), h) := by
  rw [en44 hp.1]
  simp (disch := first | assumption | exact zz_nl_i _ | exact zz_nl_r _ | exact zz_nl_n | exact okv_i _ | exact okv_j _ | exact okv_0 | exact okv_1 | exact okv_o _ _ | exact okv_a _ _ | omega | exact llt_0 | ((repeat apply llt_s) <;> exact llt_0) | fail) only [x44, xb44, hp.1, mo_k_v, mo_k_n, mo_v_e, mo_gf_e, mo_pf_e, mo_ia_e, mo_ba_e, mo_za_e, mo_la_e, mo_aa_e, mo_le_e, mo_is_e, mo_bs_e, mo_zs_0, mo_zs_1, mo_ls_e, mo_as_e, mo_na_e, mo_aci_e, mo_acb_e, mo_acj_e, hp_gs, hp_gn, hp_ss, List.getElem?_cons_zero, List.getElem?_cons_succ, List.set_cons_zero, List.set_cons_succ]
  unfold isV
  by_cases h1 : x < nI 0
  · simp [h1, bI]
  · by_cases h2 : x < nI (pnv p) <;> simp [h1, h2, bI]
theorem c_isHead (hp : isPlan h a p) (x : Int32) : zz_run 97 [.ref a, .int x] h = some (some (.int (bI (isV (pnh p) x))), h) := by
  rw [en97 hp.1]
  simp (disch := first | assumption | exact zz_nl_i _ | exact zz_nl_r _ | exact zz_nl_n | exact okv_i _ | exact okv_j _ | exact okv_0 | exact okv_1 | exact okv_o _ _ | exact okv_a _ _ | omega | exact llt_0 | ((repeat apply llt_s) <;> exact llt_0) | fail) only [x97, xb97, hp.1, mo_k_v, mo_k_n, mo_v_e, mo_gf_e, mo_pf_e, mo_ia_e, mo_ba_e, mo_za_e, mo_la_e, mo_aa_e, mo_le_e, mo_is_e, mo_bs_e, mo_zs_0, mo_zs_1, mo_ls_e, mo_as_e, mo_na_e, mo_aci_e, mo_acb_e, mo_acj_e, hp_gs, hp_gn, hp_ss, List.getElem?_cons_zero, List.getElem?_cons_succ, List.set_cons_zero, List.set_cons_succ]
  unfold isV
  by_cases h1 : x < nI 0
  · simp [h1, bI]
  · by_cases h2 : x < nI (pnh p) <;> simp [h1, h2, bI]
theorem c_valueNamed (hp : isPlan h a p) (w : Int64) : zz_run 38 [.ref a, .long w] h = some (some (.int (FI (fun v => decide (pvn p v = w)) (pnv p))), h) := by
  obtain ⟨p0, p1, p2, p3, p4, p5, p6, p7, p8, q1, q2⟩ := hp
  have step : ∀ v, v < pnv p → zz_Y 38 (2, [some (.ref a), some (.long w), none, some (.int (nI v))], [], h) = if decide (pvn p v = w) = true then some (some (.int (nI v)), h) else zz_Y 38 (2, [some (.ref a), some (.long w), none, some (.int (nI (v + 1)))], [], h) := by
    intro v hv
    rw [x38_c2]
    simp (disch := first | assumption | exact zz_nl_i _ | exact zz_nl_r _ | exact zz_nl_n | exact okv_i _ | exact okv_j _ | exact okv_0 | exact okv_1 | exact okv_o _ _ | exact okv_a _ _ | omega | exact llt_0 | ((repeat apply llt_s) <;> exact llt_0) | fail) only [x38, p0, p5, nI_ltI, hv, if_true, cmp_0, nI_add, decide_eq_true_eq, mo_k_v, mo_k_n, mo_v_e, mo_gf_e, mo_pf_e, mo_ia_e, mo_ba_e, mo_za_e, mo_la_e, mo_aa_e, mo_le_e, mo_is_e, mo_bs_e, mo_zs_0, mo_zs_1, mo_ls_e, mo_as_e, mo_na_e, mo_aci_e, mo_acb_e, mo_acj_e, hp_gs, hp_gn, hp_ss, List.getElem?_cons_zero, List.getElem?_cons_succ, List.set_cons_zero, List.set_cons_succ]
  rw [en38 p0]
  simp (disch := first | assumption | exact zz_nl_i _ | exact zz_nl_r _ | exact zz_nl_n | exact okv_i _ | exact okv_j _ | exact okv_0 | exact okv_1 | exact okv_o _ _ | exact okv_a _ _ | omega | exact llt_0 | ((repeat apply llt_s) <;> exact llt_0) | fail) only [x38, mo_k_v, mo_k_n, mo_v_e, mo_gf_e, mo_pf_e, mo_ia_e, mo_ba_e, mo_za_e, mo_la_e, mo_aa_e, mo_le_e, mo_is_e, mo_bs_e, mo_zs_0, mo_zs_1, mo_ls_e, mo_as_e, mo_na_e, mo_aci_e, mo_acb_e, mo_acj_e, hp_gs, hp_gn, hp_ss, List.getElem?_cons_zero, List.getElem?_cons_succ, List.set_cons_zero, List.set_cons_succ]
  refine (lp_find (St := fun v => zz_Y 38 (2, [some (.ref a), some (.long w), none, some (.int (nI v))], [], h)) step).trans ?_
  unfold FI
  split
  · rfl
  · try dsimp only
    rw [x38_c2]
    simp (disch := first | assumption | exact zz_nl_i _ | exact zz_nl_r _ | exact zz_nl_n | exact okv_i _ | exact okv_j _ | exact okv_0 | exact okv_1 | exact okv_o _ _ | exact okv_a _ _ | omega | exact llt_0 | ((repeat apply llt_s) <;> exact llt_0) | fail) only [x38, p0, nI_ltI, Nat.lt_irrefl, if_false, mo_k_v, mo_k_n, mo_v_e, mo_gf_e, mo_pf_e, mo_ia_e, mo_ba_e, mo_za_e, mo_la_e, mo_aa_e, mo_le_e, mo_is_e, mo_bs_e, mo_zs_0, mo_zs_1, mo_ls_e, mo_as_e, mo_na_e, mo_aci_e, mo_acb_e, mo_acj_e, hp_gs, hp_gn, hp_ss, List.getElem?_cons_zero, List.getElem?_cons_succ, List.set_cons_zero, List.set_cons_succ]
theorem c_isTaken (hp : isPlan h a p) (w : Int64) : zz_run 37 [.ref a, .long w] h = some (some (.int (bI (decide (fa_first (fun v => decide (phn p v = w)) (pnh p) < pnh p) || decide (fa_first (fun v => decide (pvn p v = w)) (pnv p) < pnv p)))), h) := by
  have hv := c_valueNamed hp w
  obtain ⟨p0, p1, p2, p3, p4, p5, p6, p7, p8, q1, q2⟩ := hp
  have step : ∀ v, v < pnh p → zz_Y 37 (2, [some (.ref a), some (.long w), none, some (.int (nI v))], [], h) = if decide (phn p v = w) = true then some (some (.int (nI 1)), h) else zz_Y 37 (2, [some (.ref a), some (.long w), none, some (.int (nI (v + 1)))], [], h) := by
    intro v hv
    rw [x37_c2]
    simp (disch := first | assumption | exact zz_nl_i _ | exact zz_nl_r _ | exact zz_nl_n | exact okv_i _ | exact okv_j _ | exact okv_0 | exact okv_1 | exact okv_o _ _ | exact okv_a _ _ | omega | exact llt_0 | ((repeat apply llt_s) <;> exact llt_0) | fail) only [x37, xb37, p0, p1, nI_ltI, hv, if_true, cmp_0, nI_add, decide_eq_true_eq, mo_k_v, mo_k_n, mo_v_e, mo_gf_e, mo_pf_e, mo_ia_e, mo_ba_e, mo_za_e, mo_la_e, mo_aa_e, mo_le_e, mo_is_e, mo_bs_e, mo_zs_0, mo_zs_1, mo_ls_e, mo_as_e, mo_na_e, mo_aci_e, mo_acb_e, mo_acj_e, hp_gs, hp_gn, hp_ss, List.getElem?_cons_zero, List.getElem?_cons_succ, List.set_cons_zero, List.set_cons_succ]
  rw [en37 p0]
  simp (disch := first | assumption | exact zz_nl_i _ | exact zz_nl_r _ | exact zz_nl_n | exact okv_i _ | exact okv_j _ | exact okv_0 | exact okv_1 | exact okv_o _ _ | exact okv_a _ _ | omega | exact llt_0 | ((repeat apply llt_s) <;> exact llt_0) | fail) only [x37, xb37, mo_k_v, mo_k_n, mo_v_e, mo_gf_e, mo_pf_e, mo_ia_e, mo_ba_e, mo_za_e, mo_la_e, mo_aa_e, mo_le_e, mo_is_e, mo_bs_e, mo_zs_0, mo_zs_1, mo_ls_e, mo_as_e, mo_na_e, mo_aci_e, mo_acb_e, mo_acj_e, hp_gs, hp_gn, hp_ss, List.getElem?_cons_zero, List.getElem?_cons_succ, List.set_cons_zero, List.set_cons_succ]
  refine (lp_find (St := fun v => zz_Y 37 (2, [some (.ref a), some (.long w), none, some (.int (nI v))], [], h)) (R := fun _ => some (some (.int (nI 1)), h)) step).trans ?_
  by_cases hl : fa_first (fun v => decide (phn p v = w)) (pnh p) < pnh p
  · rw [if_pos hl]
    simp [hl, bI]
  · rw [if_neg hl]
    try dsimp only
    rw [x37_c2]
    simp (disch := first | assumption | exact zz_nl_i _ | exact zz_nl_r _ | exact zz_nl_n | exact okv_i _ | exact okv_j _ | exact okv_0 | exact okv_1 | exact okv_o _ _ | exact okv_a _ _ | omega | exact llt_0 | ((repeat apply llt_s) <;> exact llt_0) | fail) only [x37, xb37, p0, nI_ltI, Nat.lt_irrefl, if_false, hv, mo_k_v, mo_k_n, mo_v_e, mo_gf_e, mo_pf_e, mo_ia_e, mo_ba_e, mo_za_e, mo_la_e, mo_aa_e, mo_le_e, mo_is_e, mo_bs_e, mo_zs_0, mo_zs_1, mo_ls_e, mo_as_e, mo_na_e, mo_aci_e, mo_acb_e, mo_acj_e, hp_gs, hp_gn, hp_ss, List.getElem?_cons_zero, List.getElem?_cons_succ, List.set_cons_zero, List.set_cons_succ]
    simp only [hl, decide_false, Bool.false_or]
    unfold FI
    by_cases h2 : fa_first (fun v => decide (pvn p v = w)) (pnv p) < pnv p
    · rw [if_pos h2, if_neg (nI_m1 (by omega))]
      simp [h2, bI]
    · rw [if_neg h2, if_pos rfl]
      simp [h2, bI]
/-- the tag that keeps a value off, in the plan's own words -/
def hldC (p : Pl) (tags : Int32) (v : Nat) : Int32 := if pmn p (pho p v).toNatClampNeg = nI 1 then -1 else
  (let fi := (pfi p (pho p v).toNatClampNeg).toNatClampNeg
   let si := (psi p (pho p v).toNatClampNeg).toNatClampNeg
   if fa_first (fun i => bt tags (fi + i)) si < si then nI (fi + fa_first (fun i => bt tags (fi + i)) si) else -1)
theorem c_holder (hp : isPlan h a p) {v hd fi si : Nat} (hv : v < 20) (e1 : pho p v = nI hd) (hh : hd < 4) (e2 : pfi p hd = nI fi) (e3 : psi p hd = nI si) (hs : fi + si ≤ 20) (tags : Int32) : zz_run 51 [.ref a, .int tags, .int (nI v)] h = some (some (.int (hldC p tags v)), h) := by
  obtain ⟨p0, p1, p2, p3, p4, p5, p6, p7, p8, q1, q2⟩ := hp
  have step : ∀ i, i < si → zz_Y 51 (27, [some (.ref a), some (.int tags), some (.int (nI v)), some (.int (nI hd)), some (.int (nI (fi + i)))], [], h) = if bt tags (fi + i) = true then some (some (.int (nI (fi + i))), h) else zz_Y 51 (27, [some (.ref a), some (.int tags), some (.int (nI v)), some (.int (nI hd)), some (.int (nI (fi + (i + 1))))], [], h) := by
    intro i hi
    have hlt : fi + i < fi + si := by omega
    have h32 : fi + i < 32 := by omega
    rw [x51_c27]
    simp (disch := first | assumption | exact zz_nl_i _ | exact zz_nl_r _ | exact zz_nl_n | exact okv_i _ | exact okv_j _ | exact okv_0 | exact okv_1 | exact okv_o _ _ | exact okv_a _ _ | omega | exact llt_0 | ((repeat apply llt_s) <;> exact llt_0) | fail) only [x51, p0, p3, p4, e2, e3, nI_ltI, nI_add, hlt, if_true, c_hasBit h32, mo_k_v, mo_k_n, mo_v_e, mo_gf_e, mo_pf_e, mo_ia_e, mo_ba_e, mo_za_e, mo_la_e, mo_aa_e, mo_le_e, mo_is_e, mo_bs_e, mo_zs_0, mo_zs_1, mo_ls_e, mo_as_e, mo_na_e, mo_aci_e, mo_acb_e, mo_acj_e, hp_gs, hp_gn, hp_ss, List.getElem?_cons_zero, List.getElem?_cons_succ, List.set_cons_zero, List.set_cons_succ]
    cases bt tags (fi + i)
    · simp only [Bool.false_eq_true, if_false, if_true]
      rfl
    · simp only [nI_01, if_true, if_false]
  rw [en51 p0]
  unfold hldC
  rw [e1, nI_clamp (by omega)]
  by_cases hm : pmn p hd = nI 1
  · simp (disch := first | assumption | exact zz_nl_i _ | exact zz_nl_r _ | exact zz_nl_n | exact okv_i _ | exact okv_j _ | exact okv_0 | exact okv_1 | exact okv_o _ _ | exact okv_a _ _ | omega | exact llt_0 | ((repeat apply llt_s) <;> exact llt_0) | fail) only [x51, p0, p2, p6, e1, hm, if_true, mo_k_v, mo_k_n, mo_v_e, mo_gf_e, mo_pf_e, mo_ia_e, mo_ba_e, mo_za_e, mo_la_e, mo_aa_e, mo_le_e, mo_is_e, mo_bs_e, mo_zs_0, mo_zs_1, mo_ls_e, mo_as_e, mo_na_e, mo_aci_e, mo_acb_e, mo_acj_e, hp_gs, hp_gn, hp_ss, List.getElem?_cons_zero, List.getElem?_cons_succ, List.set_cons_zero, List.set_cons_succ]
  · rw [if_neg hm]
    simp (disch := first | assumption | exact zz_nl_i _ | exact zz_nl_r _ | exact zz_nl_n | exact okv_i _ | exact okv_j _ | exact okv_0 | exact okv_1 | exact okv_o _ _ | exact okv_a _ _ | omega | exact llt_0 | ((repeat apply llt_s) <;> exact llt_0) | fail) only [x51, p0, p2, p3, p6, e1, e2, hm, if_false, mo_k_v, mo_k_n, mo_v_e, mo_gf_e, mo_pf_e, mo_ia_e, mo_ba_e, mo_za_e, mo_la_e, mo_aa_e, mo_le_e, mo_is_e, mo_bs_e, mo_zs_0, mo_zs_1, mo_ls_e, mo_as_e, mo_na_e, mo_aci_e, mo_acb_e, mo_acj_e, hp_gs, hp_gn, hp_ss, List.getElem?_cons_zero, List.getElem?_cons_succ, List.set_cons_zero, List.set_cons_succ]
    refine (lp_find (St := fun i => zz_Y 51 (27, [some (.ref a), some (.int tags), some (.int (nI v)), some (.int (nI hd)), some (.int (nI (fi + i)))], [], h)) (R := fun i => some (some (.int (nI (fi + i))), h)) step).trans ?_
    rw [e3, nI_clamp (n := fi) (by omega), nI_clamp (n := si) (by omega)]
    split
    · rfl
    · try dsimp only
      rw [x51_c27]
      simp (disch := first | assumption | exact zz_nl_i _ | exact zz_nl_r _ | exact zz_nl_n | exact okv_i _ | exact okv_j _ | exact okv_0 | exact okv_1 | exact okv_o _ _ | exact okv_a _ _ | omega | exact llt_0 | ((repeat apply llt_s) <;> exact llt_0) | fail) only [x51, p0, p3, p4, e2, e3, nI_ltI, nI_add, Nat.lt_irrefl, if_false, mo_k_v, mo_k_n, mo_v_e, mo_gf_e, mo_pf_e, mo_ia_e, mo_ba_e, mo_za_e, mo_la_e, mo_aa_e, mo_le_e, mo_is_e, mo_bs_e, mo_zs_0, mo_zs_1, mo_ls_e, mo_as_e, mo_na_e, mo_aci_e, mo_acb_e, mo_acj_e, hp_gs, hp_gn, hp_ss, List.getElem?_cons_zero, List.getElem?_cons_succ, List.set_cons_zero, List.set_cons_succ]
def linOf (p : Pl) (tags : Int32) : Nat → Int32
  | 0 => nI 0
  | n + 1 => if bt tags n = true then linOf p tags n ||| pli p n else linOf p tags n
theorem c_lineage (hp : isPlan h a p) (tags : Int32) : zz_run 55 [.ref a, .int tags] h = some (some (.int (linOf p tags (pnv p))), h) := by
  obtain ⟨p0, p1, p2, p3, p4, p5, p6, p7, p8, q1, q2⟩ := hp
  have step : ∀ v s, v < pnv p → zz_Y 55 (4, [some (.ref a), some (.int tags), some (.int s), some (.int (nI v))], [], h) = zz_Y 55 (4, [some (.ref a), some (.int tags), some (.int (if bt tags v = true then s ||| pli p v else s)), some (.int (nI (v + 1)))], [], h) := by
    intro v s hv
    have h32 : v < 32 := by omega
    rw [x55_c4]
    simp (disch := first | assumption | exact zz_nl_i _ | exact zz_nl_r _ | exact zz_nl_n | exact okv_i _ | exact okv_j _ | exact okv_0 | exact okv_1 | exact okv_o _ _ | exact okv_a _ _ | omega | exact llt_0 | ((repeat apply llt_s) <;> exact llt_0) | fail) only [x55, p0, p8, nI_ltI, hv, nI_add, if_true, c_hasBit h32, mo_k_v, mo_k_n, mo_v_e, mo_gf_e, mo_pf_e, mo_ia_e, mo_ba_e, mo_za_e, mo_la_e, mo_aa_e, mo_le_e, mo_is_e, mo_bs_e, mo_zs_0, mo_zs_1, mo_ls_e, mo_as_e, mo_na_e, mo_aci_e, mo_acb_e, mo_acj_e, hp_gs, hp_gn, hp_ss, List.getElem?_cons_zero, List.getElem?_cons_succ, List.set_cons_zero, List.set_cons_succ]
    cases bt tags v
    · simp only [Bool.false_eq_true, if_false, if_true]
    · simp only [nI_01, if_true, if_false]
  rw [en55 p0]
  simp (disch := first | assumption | exact zz_nl_i _ | exact zz_nl_r _ | exact zz_nl_n | exact okv_i _ | exact okv_j _ | exact okv_0 | exact okv_1 | exact okv_o _ _ | exact okv_a _ _ | omega | exact llt_0 | ((repeat apply llt_s) <;> exact llt_0) | fail) only [x55, mo_k_v, mo_k_n, mo_v_e, mo_gf_e, mo_pf_e, mo_ia_e, mo_ba_e, mo_za_e, mo_la_e, mo_aa_e, mo_le_e, mo_is_e, mo_bs_e, mo_zs_0, mo_zs_1, mo_ls_e, mo_as_e, mo_na_e, mo_aci_e, mo_acb_e, mo_acj_e, hp_gs, hp_gn, hp_ss, List.getElem?_cons_zero, List.getElem?_cons_succ, List.set_cons_zero, List.set_cons_succ]
  refine (lp_fold (St := fun v s => zz_Y 55 (4, [some (.ref a), some (.int tags), some (.int s), some (.int (nI v))], [], h)) step).trans ?_
  try dsimp only
  rw [x55_c4]
  simp (disch := first | assumption | exact zz_nl_i _ | exact zz_nl_r _ | exact zz_nl_n | exact okv_i _ | exact okv_j _ | exact okv_0 | exact okv_1 | exact okv_o _ _ | exact okv_a _ _ | omega | exact llt_0 | ((repeat apply llt_s) <;> exact llt_0) | fail) only [x55, p0, nI_ltI, Nat.lt_irrefl, if_false, mo_k_v, mo_k_n, mo_v_e, mo_gf_e, mo_pf_e, mo_ia_e, mo_ba_e, mo_za_e, mo_la_e, mo_aa_e, mo_le_e, mo_is_e, mo_bs_e, mo_zs_0, mo_zs_1, mo_ls_e, mo_as_e, mo_na_e, mo_aci_e, mo_acb_e, mo_acj_e, hp_gs, hp_gn, hp_ss, List.getElem?_cons_zero, List.getElem?_cons_succ, List.set_cons_zero, List.set_cons_succ]
  have e : ∀ n, lp_it (fun v s => if bt tags v = true then s ||| pli p v else s) n (nI 0) = linOf p tags n := by
    intro n
    induction n with
    | zero => rfl
    | succ n ih =>
      show (if bt tags n = true then lp_it _ n (nI 0) ||| pli p n else lp_it _ n (nI 0)) = _
      rw [ih]
      rfl
  rw [e]
end
