/-! rows of eight words -/
def isSets (h : zz_H) (a r : Nat) (f : Nat → Int32) : Prop := hp_g h a = some (.inr (6, [.int (nI r), .ref (a + 1)])) ∧ hp_g h (a + 1) = some (.inl (.int, 8 * r, .inl f)) ∧ r ≤ 30
def rw8 (f : Nat → Int32) (row : Nat) : Nat → Int32 := fun b => f (8 * row + b)
def sm8 (g : Nat → Nat) : Nat := fb_sm g 8
def amt (W : Nat → Int32) : Nat := fb_sm (fun b => pc (W b)) 8
def cs8 (W : Nat → Int32) : Nat := fb_sm (fun b => cst (W b)) 8
def bx8 (k : Int32) (W : Nat → Int32) : Nat := fb_sm (fun b => if ¬ W b = nI 0 ∧ (k = -1 ∨ k = nI (knd (W b))) then 1 else 0) 8
def aj8 (j : Nat) (W V : Nat → Int32) : Nat := fb_sm (fun b => pc (jnd j (W b) (V b))) 8
def wj8 (j : Nat) (W V : Nat → Int32) : Nat := fb_sm (fun b => wrk j (W b) (V b)) 8
/-- is a record in a row of words? -/
def pb (W : Nat → Int32) (q : Nat) : Bool := bt (W (q / 32)) (q % 32)
theorem ix8 (row b : Nat) : nI row * nI 8 + nI b = nI (8 * row + b) := by rw [pk_mul, nI_add, Nat.mul_comm]
section
variable {h : zz_H} {a r : Nat} {f : Nat → Int32}
theorem c_isInside (hs : isSets h a r f) {row b : Nat} (hr : row < r) (hb : b < 8) : zz_run 54 [.ref a, .int (nI row), .int (nI b)] h = some (some (.int (nI 1)), h) := by
  obtain ⟨h1, h2, h3⟩ := hs
  rw [en54 h1]
  simp (disch := first | assumption | exact zz_nl_i _ | exact zz_nl_r _ | exact zz_nl_n | exact okv_i _ | exact okv_j _ | exact okv_0 | exact okv_1 | exact okv_o _ _ | exact okv_a _ _ | omega | exact llt_0 | ((repeat apply llt_s) <;> exact llt_0) | fail) only [x54, xb54, h1, nI_ltI, hr, hb, if_true, if_false, Nat.not_lt_zero, mo_k_v, mo_k_n, mo_v_e, mo_gf_e, mo_pf_e, mo_ia_e, mo_ba_e, mo_za_e, mo_la_e, mo_aa_e, mo_le_e, mo_is_e, mo_bs_e, mo_zs_0, mo_zs_1, mo_ls_e, mo_as_e, mo_na_e, mo_aci_e, mo_acb_e, mo_acj_e, hp_gs, hp_gn, List.getElem?_cons_zero, List.getElem?_cons_succ, List.set_cons_zero, List.set_cons_succ]
theorem c_bitsOf (hs : isSets h a r f) {row b : Nat} (hr : row < r) (hb : b < 8) : zz_run 63 [.ref a, .int (nI row), .int (nI b)] h = some (some (.int (f (8 * row + b))), h) := by
  have hi := c_isInside hs hr hb
  obtain ⟨h1, h2, h3⟩ := hs
  rw [en63 h1]
  simp (disch := first | assumption | exact zz_nl_i _ | exact zz_nl_r _ | exact zz_nl_n | exact okv_i _ | exact okv_j _ | exact okv_0 | exact okv_1 | exact okv_o _ _ | exact okv_a _ _ | omega | exact llt_0 | ((repeat apply llt_s) <;> exact llt_0) | fail) only [x63, h1, h2, hi, nI_01, if_false, ix8, mo_k_v, mo_k_n, mo_v_e, mo_gf_e, mo_pf_e, mo_ia_e, mo_ba_e, mo_za_e, mo_la_e, mo_aa_e, mo_le_e, mo_is_e, mo_bs_e, mo_zs_0, mo_zs_1, mo_ls_e, mo_as_e, mo_na_e, mo_aci_e, mo_acb_e, mo_acj_e, hp_gs, hp_gn, List.getElem?_cons_zero, List.getElem?_cons_succ, List.set_cons_zero, List.set_cons_succ]
theorem c_setBits (hs : isSets h a r f) {row b : Nat} (hr : row < r) (hb : b < 8) (x : Int32) : zz_run 71 [.ref a, .int (nI row), .int (nI b), .int x] h = some (none, hp_s h (a + 1) (.inl (.int, 8 * r, .inl (upd f (8 * row + b) x)))) := by
  have hi := c_isInside hs hr hb
  obtain ⟨h1, h2, h3⟩ := hs
  rw [en71 h1]
  simp (disch := first | assumption | exact zz_nl_i _ | exact zz_nl_r _ | exact zz_nl_n | exact okv_i _ | exact okv_j _ | exact okv_0 | exact okv_1 | exact okv_o _ _ | exact okv_a _ _ | omega | exact llt_0 | ((repeat apply llt_s) <;> exact llt_0) | fail) only [x71, h1, h2, hi, nI_01, if_false, ix8, mo_k_v, mo_k_n, mo_v_e, mo_gf_e, mo_pf_e, mo_ia_e, mo_ba_e, mo_za_e, mo_la_e, mo_aa_e, mo_le_e, mo_is_e, mo_bs_e, mo_zs_0, mo_zs_1, mo_ls_e, mo_as_e, mo_na_e, mo_aci_e, mo_acb_e, mo_acj_e, hp_gs, hp_gn, List.getElem?_cons_zero, List.getElem?_cons_succ, List.set_cons_zero, List.set_cons_succ]
theorem dm32 {q : Nat} (hq : q < 256) : nI q / nI 32 = nI (q / 32) ∧ nI q - nI q / nI 32 * nI 32 = nI (q % 32) := ⟨pk_div (by omega) (by omega) (by omega), pk_rem (by omega) (by omega) (by omega)⟩
theorem n32 : ¬ nI 32 = 0 := by decide +kernel
theorem c_holds (hs : isSets h a r f) {row q : Nat} (hr : row < r) (hq : q < 256) : zz_run 126 [.ref a, .int (nI row), .int (nI q)] h = some (some (.int (if pb (rw8 f row) q = true then nI 1 else nI 0)), h) := by
  have hb : q / 32 < 8 := by omega
  have hm : q % 32 < 32 := Nat.mod_lt _ (by omega)
  have hi := c_bitsOf hs hr hb
  have n := n32
  obtain ⟨h1, h2, h3⟩ := hs
  obtain ⟨d1, d2⟩ := dm32 hq
  rw [en126 h1]
  rw [d1] at d2
  simp (disch := first | assumption | exact zz_nl_i _ | exact zz_nl_r _ | exact zz_nl_n | exact okv_i _ | exact okv_j _ | exact okv_0 | exact okv_1 | exact okv_o _ _ | exact okv_a _ _ | omega | exact llt_0 | ((repeat apply llt_s) <;> exact llt_0) | fail) only [x126, xb126, h1, h2, hi, d1, d2, c_hasBit hm, mo_k_v, mo_k_n, mo_v_e, mo_gf_e, mo_pf_e, mo_ia_e, mo_ba_e, mo_za_e, mo_la_e, mo_aa_e, mo_le_e, mo_is_e, mo_bs_e, mo_zs_0, mo_zs_1, mo_ls_e, mo_as_e, mo_na_e, mo_aci_e, mo_acb_e, mo_acj_e, hp_gs, hp_gn, List.getElem?_cons_zero, List.getElem?_cons_succ, List.set_cons_zero, List.set_cons_succ]
  unfold pb rw8
  cases bt (f (8 * row + q / 32)) (q % 32)
  · simp (disch := first | assumption | exact zz_nl_i _ | exact zz_nl_r _ | exact zz_nl_n | exact okv_i _ | exact okv_j _ | exact okv_0 | exact okv_1 | exact okv_o _ _ | exact okv_a _ _ | omega | exact llt_0 | ((repeat apply llt_s) <;> exact llt_0) | fail) only [x126, xb126, Bool.false_eq_true, if_false, mo_k_v, mo_k_n, mo_v_e, mo_gf_e, mo_pf_e, mo_ia_e, mo_ba_e, mo_za_e, mo_la_e, mo_aa_e, mo_le_e, mo_is_e, mo_bs_e, mo_zs_0, mo_zs_1, mo_ls_e, mo_as_e, mo_na_e, mo_aci_e, mo_acb_e, mo_acj_e, hp_gs, hp_gn, List.getElem?_cons_zero, List.getElem?_cons_succ, List.set_cons_zero, List.set_cons_succ]
  · simp (disch := first | assumption | exact zz_nl_i _ | exact zz_nl_r _ | exact zz_nl_n | exact okv_i _ | exact okv_j _ | exact okv_0 | exact okv_1 | exact okv_o _ _ | exact okv_a _ _ | omega | exact llt_0 | ((repeat apply llt_s) <;> exact llt_0) | fail) only [x126, xb126, if_true, mo_k_v, mo_k_n, mo_v_e, mo_gf_e, mo_pf_e, mo_ia_e, mo_ba_e, mo_za_e, mo_la_e, mo_aa_e, mo_le_e, mo_is_e, mo_bs_e, mo_zs_0, mo_zs_1, mo_ls_e, mo_as_e, mo_na_e, mo_aci_e, mo_acb_e, mo_acj_e, hp_gs, hp_gn, List.getElem?_cons_zero, List.getElem?_cons_succ, List.set_cons_zero, List.set_cons_succ]
theorem c_amount (hs : isSets h a r f) {row : Nat} (hr : row < r) : zz_run 62 [.ref a, .int (nI row)] h = some (some (.int (nI (amt (rw8 f row)))), h) := by
  have step : ∀ b s, b < 8 → zz_Y 62 (4, [some (.ref a), some (.int (nI row)), some (.int (nI s)), some (.int (nI b))], [], h) = zz_Y 62 (4, [some (.ref a), some (.int (nI row)), some (.int (nI (s + pc (f (8 * row + b))))), some (.int (nI (b + 1)))], [], h) := by
    intro b s hb
    rw [x62_c4]
    simp (disch := first | assumption | exact zz_nl_i _ | exact zz_nl_r _ | exact zz_nl_n | exact okv_i _ | exact okv_j _ | exact okv_0 | exact okv_1 | exact okv_o _ _ | exact okv_a _ _ | omega | exact llt_0 | ((repeat apply llt_s) <;> exact llt_0) | fail) only [x62, nI_ltI, hb, if_true, c_bitsOf hs hr hb, c_bitCount, nI_add, mo_k_v, mo_k_n, mo_v_e, mo_gf_e, mo_pf_e, mo_ia_e, mo_ba_e, mo_za_e, mo_la_e, mo_aa_e, mo_le_e, mo_is_e, mo_bs_e, mo_zs_0, mo_zs_1, mo_ls_e, mo_as_e, mo_na_e, mo_aci_e, mo_acb_e, mo_acj_e, hp_gs, hp_gn, List.getElem?_cons_zero, List.getElem?_cons_succ, List.set_cons_zero, List.set_cons_succ]
  rw [en62 hs.1]
  simp (disch := first | assumption | exact zz_nl_i _ | exact zz_nl_r _ | exact zz_nl_n | exact okv_i _ | exact okv_j _ | exact okv_0 | exact okv_1 | exact okv_o _ _ | exact okv_a _ _ | omega | exact llt_0 | ((repeat apply llt_s) <;> exact llt_0) | fail) only [x62, mo_k_v, mo_k_n, mo_v_e, mo_gf_e, mo_pf_e, mo_ia_e, mo_ba_e, mo_za_e, mo_la_e, mo_aa_e, mo_le_e, mo_is_e, mo_bs_e, mo_zs_0, mo_zs_1, mo_ls_e, mo_as_e, mo_na_e, mo_aci_e, mo_acb_e, mo_acj_e, hp_gs, hp_gn, List.getElem?_cons_zero, List.getElem?_cons_succ, List.set_cons_zero, List.set_cons_succ]
  rw [lp_fold (N := 8) (St := fun b s => zz_Y 62 (4, [some (.ref a), some (.int (nI row)), some (.int (nI s)), some (.int (nI b))], [], h)) step, lp_sum, x62_c4]
  simp (disch := first | assumption | exact zz_nl_i _ | exact zz_nl_r _ | exact zz_nl_n | exact okv_i _ | exact okv_j _ | exact okv_0 | exact okv_1 | exact okv_o _ _ | exact okv_a _ _ | omega | exact llt_0 | ((repeat apply llt_s) <;> exact llt_0) | fail) only [x62, nI_ltI, Nat.lt_irrefl, if_false, Nat.zero_add, mo_k_v, mo_k_n, mo_v_e, mo_gf_e, mo_pf_e, mo_ia_e, mo_ba_e, mo_za_e, mo_la_e, mo_aa_e, mo_le_e, mo_is_e, mo_bs_e, mo_zs_0, mo_zs_1, mo_ls_e, mo_as_e, mo_na_e, mo_aci_e, mo_acb_e, mo_acj_e, hp_gs, hp_gn, List.getElem?_cons_zero, List.getElem?_cons_succ, List.set_cons_zero, List.set_cons_succ]
  rfl
theorem c_costRow (hs : isSets h a r f) {row : Nat} (hr : row < r) : zz_run 80 [.ref a, .int (nI row)] h = some (some (.int (nI (cs8 (rw8 f row)))), h) := by
  have step : ∀ b s, b < 8 → zz_Y 80 (4, [some (.ref a), some (.int (nI row)), some (.int (nI s)), some (.int (nI b))], [], h) = zz_Y 80 (4, [some (.ref a), some (.int (nI row)), some (.int (nI (s + cst (f (8 * row + b))))), some (.int (nI (b + 1)))], [], h) := by
    intro b s hb
    rw [x80_c4]
    simp (disch := first | assumption | exact zz_nl_i _ | exact zz_nl_r _ | exact zz_nl_n | exact okv_i _ | exact okv_j _ | exact okv_0 | exact okv_1 | exact okv_o _ _ | exact okv_a _ _ | omega | exact llt_0 | ((repeat apply llt_s) <;> exact llt_0) | fail) only [x80, nI_ltI, hb, if_true, c_bitsOf hs hr hb, c_cost, nI_add, mo_k_v, mo_k_n, mo_v_e, mo_gf_e, mo_pf_e, mo_ia_e, mo_ba_e, mo_za_e, mo_la_e, mo_aa_e, mo_le_e, mo_is_e, mo_bs_e, mo_zs_0, mo_zs_1, mo_ls_e, mo_as_e, mo_na_e, mo_aci_e, mo_acb_e, mo_acj_e, hp_gs, hp_gn, List.getElem?_cons_zero, List.getElem?_cons_succ, List.set_cons_zero, List.set_cons_succ]
  rw [en80 hs.1]
  simp (disch := first | assumption | exact zz_nl_i _ | exact zz_nl_r _ | exact zz_nl_n | exact okv_i _ | exact okv_j _ | exact okv_0 | exact okv_1 | exact okv_o _ _ | exact okv_a _ _ | omega | exact llt_0 | ((repeat apply llt_s) <;> exact llt_0) | fail) only [x80, mo_k_v, mo_k_n, mo_v_e, mo_gf_e, mo_pf_e, mo_ia_e, mo_ba_e, mo_za_e, mo_la_e, mo_aa_e, mo_le_e, mo_is_e, mo_bs_e, mo_zs_0, mo_zs_1, mo_ls_e, mo_as_e, mo_na_e, mo_aci_e, mo_acb_e, mo_acj_e, hp_gs, hp_gn, List.getElem?_cons_zero, List.getElem?_cons_succ, List.set_cons_zero, List.set_cons_succ]
  rw [lp_fold (N := 8) (St := fun b s => zz_Y 80 (4, [some (.ref a), some (.int (nI row)), some (.int (nI s)), some (.int (nI b))], [], h)) step, lp_sum, x80_c4]
  simp (disch := first | assumption | exact zz_nl_i _ | exact zz_nl_r _ | exact zz_nl_n | exact okv_i _ | exact okv_j _ | exact okv_0 | exact okv_1 | exact okv_o _ _ | exact okv_a _ _ | omega | exact llt_0 | ((repeat apply llt_s) <;> exact llt_0) | fail) only [x80, nI_ltI, Nat.lt_irrefl, if_false, Nat.zero_add, mo_k_v, mo_k_n, mo_v_e, mo_gf_e, mo_pf_e, mo_ia_e, mo_ba_e, mo_za_e, mo_la_e, mo_aa_e, mo_le_e, mo_is_e, mo_bs_e, mo_zs_0, mo_zs_1, mo_ls_e, mo_as_e, mo_na_e, mo_aci_e, mo_acb_e, mo_acj_e, hp_gs, hp_gn, List.getElem?_cons_zero, List.getElem?_cons_succ, List.set_cons_zero, List.set_cons_succ]
  rfl
theorem c_joinAmt (hs : isSets h a r f) {row oth j : Nat} (hr : row < r) (ho : oth < r) (hj : j < 3) : zz_run 133 [.ref a, .int (nI row), .int (nI oth), .int (nI j)] h = some (some (.int (nI (aj8 j (rw8 f row) (rw8 f oth)))), h) := by
  have step : ∀ b s, b < 8 → zz_Y 133 (6, [some (.ref a), some (.int (nI row)), some (.int (nI oth)), some (.int (nI j)), some (.int (nI s)), some (.int (nI b))], [], h) = zz_Y 133 (6, [some (.ref a), some (.int (nI row)), some (.int (nI oth)), some (.int (nI j)), some (.int (nI (s + pc (jnd j (f (8 * row + b)) (f (8 * oth + b)))))), some (.int (nI (b + 1)))], [], h) := by
    intro b s hb
    rw [x133_c6]
    simp (disch := first | assumption | exact zz_nl_i _ | exact zz_nl_r _ | exact zz_nl_n | exact okv_i _ | exact okv_j _ | exact okv_0 | exact okv_1 | exact okv_o _ _ | exact okv_a _ _ | omega | exact llt_0 | ((repeat apply llt_s) <;> exact llt_0) | fail) only [x133, nI_ltI, hb, if_true, c_bitsOf hs hr hb, c_bitsOf hs ho hb, c_joined hj, c_bitCount, nI_add, mo_k_v, mo_k_n, mo_v_e, mo_gf_e, mo_pf_e, mo_ia_e, mo_ba_e, mo_za_e, mo_la_e, mo_aa_e, mo_le_e, mo_is_e, mo_bs_e, mo_zs_0, mo_zs_1, mo_ls_e, mo_as_e, mo_na_e, mo_aci_e, mo_acb_e, mo_acj_e, hp_gs, hp_gn, List.getElem?_cons_zero, List.getElem?_cons_succ, List.set_cons_zero, List.set_cons_succ]
  rw [en133 hs.1]
  simp (disch := first | assumption | exact zz_nl_i _ | exact zz_nl_r _ | exact zz_nl_n | exact okv_i _ | exact okv_j _ | exact okv_0 | exact okv_1 | exact okv_o _ _ | exact okv_a _ _ | omega | exact llt_0 | ((repeat apply llt_s) <;> exact llt_0) | fail) only [x133, mo_k_v, mo_k_n, mo_v_e, mo_gf_e, mo_pf_e, mo_ia_e, mo_ba_e, mo_za_e, mo_la_e, mo_aa_e, mo_le_e, mo_is_e, mo_bs_e, mo_zs_0, mo_zs_1, mo_ls_e, mo_as_e, mo_na_e, mo_aci_e, mo_acb_e, mo_acj_e, hp_gs, hp_gn, List.getElem?_cons_zero, List.getElem?_cons_succ, List.set_cons_zero, List.set_cons_succ]
  rw [lp_fold (N := 8) (St := fun b s => zz_Y 133 (6, [some (.ref a), some (.int (nI row)), some (.int (nI oth)), some (.int (nI j)), some (.int (nI s)), some (.int (nI b))], [], h)) step, lp_sum, x133_c6]
  simp (disch := first | assumption | exact zz_nl_i _ | exact zz_nl_r _ | exact zz_nl_n | exact okv_i _ | exact okv_j _ | exact okv_0 | exact okv_1 | exact okv_o _ _ | exact okv_a _ _ | omega | exact llt_0 | ((repeat apply llt_s) <;> exact llt_0) | fail) only [x133, nI_ltI, Nat.lt_irrefl, if_false, Nat.zero_add, mo_k_v, mo_k_n, mo_v_e, mo_gf_e, mo_pf_e, mo_ia_e, mo_ba_e, mo_za_e, mo_la_e, mo_aa_e, mo_le_e, mo_is_e, mo_bs_e, mo_zs_0, mo_zs_1, mo_ls_e, mo_as_e, mo_na_e, mo_aci_e, mo_acb_e, mo_acj_e, hp_gs, hp_gn, List.getElem?_cons_zero, List.getElem?_cons_succ, List.set_cons_zero, List.set_cons_succ]
  rfl
theorem c_joinWork (hs : isSets h a r f) {row oth j : Nat} (hr : row < r) (ho : oth < r) (hj : j < 3) : zz_run 134 [.ref a, .int (nI row), .int (nI oth), .int (nI j)] h = some (some (.int (nI (wj8 j (rw8 f row) (rw8 f oth)))), h) := by
  have step : ∀ b s, b < 8 → zz_Y 134 (6, [some (.ref a), some (.int (nI row)), some (.int (nI oth)), some (.int (nI j)), some (.int (nI s)), some (.int (nI b))], [], h) = zz_Y 134 (6, [some (.ref a), some (.int (nI row)), some (.int (nI oth)), some (.int (nI j)), some (.int (nI (s + wrk j (f (8 * row + b)) (f (8 * oth + b))))), some (.int (nI (b + 1)))], [], h) := by
    intro b s hb
    rw [x134_c6]
    simp (disch := first | assumption | exact zz_nl_i _ | exact zz_nl_r _ | exact zz_nl_n | exact okv_i _ | exact okv_j _ | exact okv_0 | exact okv_1 | exact okv_o _ _ | exact okv_a _ _ | omega | exact llt_0 | ((repeat apply llt_s) <;> exact llt_0) | fail) only [x134, nI_ltI, hb, if_true, c_bitsOf hs hr hb, c_bitsOf hs ho hb, c_work hj, nI_add, mo_k_v, mo_k_n, mo_v_e, mo_gf_e, mo_pf_e, mo_ia_e, mo_ba_e, mo_za_e, mo_la_e, mo_aa_e, mo_le_e, mo_is_e, mo_bs_e, mo_zs_0, mo_zs_1, mo_ls_e, mo_as_e, mo_na_e, mo_aci_e, mo_acb_e, mo_acj_e, hp_gs, hp_gn, List.getElem?_cons_zero, List.getElem?_cons_succ, List.set_cons_zero, List.set_cons_succ]
  rw [en134 hs.1]
  simp (disch := first | assumption | exact zz_nl_i _ | exact zz_nl_r _ | exact zz_nl_n | exact okv_i _ | exact okv_j _ | exact okv_0 | exact okv_1 | exact okv_o _ _ | exact okv_a _ _ | omega | exact llt_0 | ((repeat apply llt_s) <;> exact llt_0) | fail) only [x134, mo_k_v, mo_k_n, mo_v_e, mo_gf_e, mo_pf_e, mo_ia_e, mo_ba_e, mo_za_e, mo_la_e, mo_aa_e, mo_le_e, mo_is_e, mo_bs_e, mo_zs_0, mo_zs_1, mo_ls_e, mo_as_e, mo_na_e, mo_aci_e, mo_acb_e, mo_acj_e, hp_gs, hp_gn, List.getElem?_cons_zero, List.getElem?_cons_succ, List.set_cons_zero, List.set_cons_succ]
  rw [lp_fold (N := 8) (St := fun b s => zz_Y 134 (6, [some (.ref a), some (.int (nI row)), some (.int (nI oth)), some (.int (nI j)), some (.int (nI s)), some (.int (nI b))], [], h)) step, lp_sum, x134_c6]
  simp (disch := first | assumption | exact zz_nl_i _ | exact zz_nl_r _ | exact zz_nl_n | exact okv_i _ | exact okv_j _ | exact okv_0 | exact okv_1 | exact okv_o _ _ | exact okv_a _ _ | omega | exact llt_0 | ((repeat apply llt_s) <;> exact llt_0) | fail) only [x134, nI_ltI, Nat.lt_irrefl, if_false, Nat.zero_add, mo_k_v, mo_k_n, mo_v_e, mo_gf_e, mo_pf_e, mo_ia_e, mo_ba_e, mo_za_e, mo_la_e, mo_aa_e, mo_le_e, mo_is_e, mo_bs_e, mo_zs_0, mo_zs_1, mo_ls_e, mo_as_e, mo_na_e, mo_aci_e, mo_acb_e, mo_acj_e, hp_gs, hp_gn, List.getElem?_cons_zero, List.getElem?_cons_succ, List.set_cons_zero, List.set_cons_succ]
  rfl
theorem c_boxes (hs : isSets h a r f) {row : Nat} (hr : row < r) (k : Int32) : zz_run 107 [.ref a, .int (nI row), .int k] h = some (some (.int (nI (bx8 k (rw8 f row)))), h) := by
  have step : ∀ b (s : Nat × Option Value), b < 8 → zz_Y 107 (5, [some (.ref a), some (.int (nI row)), some (.int k), some (.int (nI s.1)), some (.int (nI b)), s.2], [], h) = zz_Y 107 (5, [some (.ref a), some (.int (nI row)), some (.int k), some (.int (nI (s.1 + if ¬ f (8 * row + b) = nI 0 ∧ (k = -1 ∨ k = nI (knd (f (8 * row + b)))) then 1 else 0))), some (.int (nI (b + 1))), some (.int (f (8 * row + b)))], [], h) := by
    intro b s hb
    rw [x107_c5]
    simp (disch := first | assumption | exact zz_nl_i _ | exact zz_nl_r _ | exact zz_nl_n | exact okv_i _ | exact okv_j _ | exact okv_0 | exact okv_1 | exact okv_o _ _ | exact okv_a _ _ | omega | exact llt_0 | ((repeat apply llt_s) <;> exact llt_0) | fail) only [x107, nI_ltI, hb, if_true, c_bitsOf hs hr hb, c_kind, nI_add, mo_k_v, mo_k_n, mo_v_e, mo_gf_e, mo_pf_e, mo_ia_e, mo_ba_e, mo_za_e, mo_la_e, mo_aa_e, mo_le_e, mo_is_e, mo_bs_e, mo_zs_0, mo_zs_1, mo_ls_e, mo_as_e, mo_na_e, mo_aci_e, mo_acb_e, mo_acj_e, hp_gs, hp_gn, List.getElem?_cons_zero, List.getElem?_cons_succ, List.set_cons_zero, List.set_cons_succ]
    by_cases h1 : f (8 * row + b) = nI 0
    · simp [h1]
    · by_cases h2 : k = -1
      · simp [h1, h2]
      · by_cases h3 : k = nI (knd (f (8 * row + b)))
        · simp [h1, h3]
        · simp [h1, h2, h3]
  rw [en107 hs.1]
  simp (disch := first | assumption | exact zz_nl_i _ | exact zz_nl_r _ | exact zz_nl_n | exact okv_i _ | exact okv_j _ | exact okv_0 | exact okv_1 | exact okv_o _ _ | exact okv_a _ _ | omega | exact llt_0 | ((repeat apply llt_s) <;> exact llt_0) | fail) only [x107, mo_k_v, mo_k_n, mo_v_e, mo_gf_e, mo_pf_e, mo_ia_e, mo_ba_e, mo_za_e, mo_la_e, mo_aa_e, mo_le_e, mo_is_e, mo_bs_e, mo_zs_0, mo_zs_1, mo_ls_e, mo_as_e, mo_na_e, mo_aci_e, mo_acb_e, mo_acj_e, hp_gs, hp_gn, List.getElem?_cons_zero, List.getElem?_cons_succ, List.set_cons_zero, List.set_cons_succ]
  have hl := lp_fold (N := 8) (St := fun b (s : Nat × Option Value) => zz_Y 107 (5, [some (.ref a), some (.int (nI row)), some (.int k), some (.int (nI s.1)), some (.int (nI b)), s.2], [], h)) (f := fun b s => (s.1 + (if ¬ f (8 * row + b) = nI 0 ∧ (k = -1 ∨ k = nI (knd (f (8 * row + b)))) then 1 else 0), some (.int (f (8 * row + b))))) (s := (0, none)) step
  refine hl.trans ?_
  have h1 : ∀ n, (lp_it (fun b (s : Nat × Option Value) => (s.1 + (if ¬ f (8 * row + b) = nI 0 ∧ (k = -1 ∨ k = nI (knd (f (8 * row + b)))) then 1 else 0), some (Value.int (f (8 * row + b))))) n (0, none)).1 = fb_sm (fun b => if ¬ f (8 * row + b) = nI 0 ∧ (k = -1 ∨ k = nI (knd (f (8 * row + b)))) then 1 else 0) n := by
    intro n
    induction n with
    | zero => rfl
    | succ n ih => rw [fb_sm_succ, ← ih]; rfl
  show zz_Y 107 (5, _, [], h) = _
  rw [x107_c5]
  simp (disch := first | assumption | exact zz_nl_i _ | exact zz_nl_r _ | exact zz_nl_n | exact okv_i _ | exact okv_j _ | exact okv_0 | exact okv_1 | exact okv_o _ _ | exact okv_a _ _ | omega | exact llt_0 | ((repeat apply llt_s) <;> exact llt_0) | fail) only [x107, nI_ltI, Nat.lt_irrefl, if_false, mo_k_v, mo_k_n, mo_v_e, mo_gf_e, mo_pf_e, mo_ia_e, mo_ba_e, mo_za_e, mo_la_e, mo_aa_e, mo_le_e, mo_is_e, mo_bs_e, mo_zs_0, mo_zs_1, mo_ls_e, mo_as_e, mo_na_e, mo_aci_e, mo_acb_e, mo_acj_e, hp_gs, hp_gn, List.getElem?_cons_zero, List.getElem?_cons_succ, List.set_cons_zero, List.set_cons_succ]
  rw [h1]
  rfl
end
