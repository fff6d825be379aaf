/-! rows: filled, copied, one member set, the k-th record -/
theorem lp_fill (x : Int32) (f : Nat → Int32) : ∀ n, lp_it (fun i g => upd g i x) n f = fa_fill (fun _ => x) f n
  | 0 => (fa_fill_0 _ _).symm
  | n + 1 => by
    show upd (lp_it (fun i g => upd g i x) n f) n x = _
    rw [lp_fill x f n]
    exact fa_fill_succ (fun _ => x) f n
theorem c_fill {h : zz_H} {b n : Nat} {f : Nat → Int32} (hb : hp_g h b = some (.inl (.int, n, .inl f))) (hn : n ≤ 65536) (x : Int32) : zz_run 7 [.ref b, .int x] h = some (none, hp_s h b (.inl (.int, n, .inl (fa_fill (fun _ => x) f n)))) := by
  have step : ∀ i g, i < n → zz_Y 7 (5, [some (.ref b), some (.int x), some (.int (nI i)), some (.int (nI n))], [], hp_s h b (.inl (.int, n, .inl g))) = zz_Y 7 (5, [some (.ref b), some (.int x), some (.int (nI (i + 1))), some (.int (nI n))], [], hp_s h b (.inl (.int, n, .inl (upd g i x)))) := by
    intro i g hi
    rw [x7_c5]
    simp (disch := first | assumption | exact zz_nl_i _ | exact zz_nl_r _ | exact zz_nl_n | exact okv_i _ | exact okv_j _ | exact okv_0 | exact okv_1 | exact okv_o _ _ | exact okv_a _ _ | omega | exact llt_0 | ((repeat apply llt_s) <;> exact llt_0) | fail) only [x7, nI_ltI, hi, if_true, nI_add, mo_k_v, mo_k_n, mo_v_e, mo_gf_e, mo_pf_e, mo_ia_e, mo_ba_e, mo_za_e, mo_la_e, mo_aa_e, mo_le_e, mo_is_e, mo_bs_e, mo_zs_0, mo_zs_1, mo_ls_e, mo_as_e, mo_na_e, mo_aci_e, mo_acb_e, mo_acj_e, hp_gs, hp_gn, hp_ss, List.getElem?_cons_zero, List.getElem?_cons_succ, List.set_cons_zero, List.set_cons_succ]
  rw [en7]
  simp (disch := first | assumption | exact zz_nl_i _ | exact zz_nl_r _ | exact zz_nl_n | exact okv_i _ | exact okv_j _ | exact okv_0 | exact okv_1 | exact okv_o _ _ | exact okv_a _ _ | omega | exact llt_0 | ((repeat apply llt_s) <;> exact llt_0) | fail) only [x7, hb, mo_k_v, mo_k_n, mo_v_e, mo_gf_e, mo_pf_e, mo_ia_e, mo_ba_e, mo_za_e, mo_la_e, mo_aa_e, mo_le_e, mo_is_e, mo_bs_e, mo_zs_0, mo_zs_1, mo_ls_e, mo_as_e, mo_na_e, mo_aci_e, mo_acb_e, mo_acj_e, hp_gs, hp_gn, hp_ss, List.getElem?_cons_zero, List.getElem?_cons_succ, List.set_cons_zero, List.set_cons_succ]
  have hl := lp_fold (N := n) (St := fun i g => zz_Y 7 (5, [some (.ref b), some (.int x), some (.int (nI i)), some (.int (nI n))], [], hp_s h b (.inl (.int, n, .inl g)))) (s := f) step
  rw [lp_fill, hp_same hb] at hl
  refine hl.trans ?_
  show zz_Y 7 (5, _, [], _) = _
  rw [x7_c5]
  simp (disch := first | assumption | exact zz_nl_i _ | exact zz_nl_r _ | exact zz_nl_n | exact okv_i _ | exact okv_j _ | exact okv_0 | exact okv_1 | exact okv_o _ _ | exact okv_a _ _ | omega | exact llt_0 | ((repeat apply llt_s) <;> exact llt_0) | fail) only [x7, nI_ltI, Nat.lt_irrefl, if_false, mo_k_v, mo_k_n, mo_v_e, mo_gf_e, mo_pf_e, mo_ia_e, mo_ba_e, mo_za_e, mo_la_e, mo_aa_e, mo_le_e, mo_is_e, mo_bs_e, mo_zs_0, mo_zs_1, mo_ls_e, mo_as_e, mo_na_e, mo_aci_e, mo_acb_e, mo_acj_e, hp_gs, hp_gn, hp_ss, List.getElem?_cons_zero, List.getElem?_cons_succ, List.set_cons_zero, List.set_cons_succ]
section
variable {h : zz_H} {a r : Nat} {f : Nat → Int32}
theorem c_clearSets (hs : isSets h a r f) : zz_run 21 [.ref a] h = some (none, hp_s h (a + 1) (.inl (.int, 8 * r, .inl (fa_fill (fun _ => nI 0) f (8 * r))))) := by
  obtain ⟨h1, h2, h3⟩ := hs
  rw [en21 h1]
  simp (disch := first | assumption | exact zz_nl_i _ | exact zz_nl_r _ | exact zz_nl_n | exact okv_i _ | exact okv_j _ | exact okv_0 | exact okv_1 | exact okv_o _ _ | exact okv_a _ _ | omega | exact llt_0 | ((repeat apply llt_s) <;> exact llt_0) | fail) only [x21, h1, c_fill h2 (by omega), mo_k_v, mo_k_n, mo_v_e, mo_gf_e, mo_pf_e, mo_ia_e, mo_ba_e, mo_za_e, mo_la_e, mo_aa_e, mo_le_e, mo_is_e, mo_bs_e, mo_zs_0, mo_zs_1, mo_ls_e, mo_as_e, mo_na_e, mo_aci_e, mo_acb_e, mo_acj_e, hp_gs, hp_gn, hp_ss, List.getElem?_cons_zero, List.getElem?_cons_succ, List.set_cons_zero, List.set_cons_succ]
theorem c_copySets {c : Nat} {g : Nat → Int32} (hs : isSets h a r f) (ho : isSets h c r g) : zz_run 59 [.ref a, .ref c] h = some (none, hp_s h (a + 1) (.inl (.int, 8 * r, .inl (va_cpy g f 0 0 (8 * r))))) := by
  obtain ⟨h1, h2, h3⟩ := hs
  obtain ⟨g1, g2, g3⟩ := ho
  rw [en59 h1]
  simp (disch := first | assumption | exact zz_nl_i _ | exact zz_nl_r _ | exact zz_nl_n | exact okv_i _ | exact okv_j _ | exact okv_0 | exact okv_1 | exact okv_o _ _ | exact okv_a _ _ | omega | exact llt_0 | ((repeat apply llt_s) <;> exact llt_0) | fail) only [x59, h1, h2, g1, g2, nI_ltI, Nat.lt_irrefl, if_false, mo_k_v, mo_k_n, mo_v_e, mo_gf_e, mo_pf_e, mo_ia_e, mo_ba_e, mo_za_e, mo_la_e, mo_aa_e, mo_le_e, mo_is_e, mo_bs_e, mo_zs_0, mo_zs_1, mo_ls_e, mo_as_e, mo_na_e, mo_aci_e, mo_acb_e, mo_acj_e, hp_gs, hp_gn, hp_ss, List.getElem?_cons_zero, List.getElem?_cons_succ, List.set_cons_zero, List.set_cons_succ]
theorem c_setMember (hs : isSets h a r f) {row q : Nat} (hr : row < r) (hq : q < 256) (m : Bool) : zz_run 53 [.ref a, .int (nI row), .int (nI q), .int (if m = true then nI 1 else nI 0)] h = some (none, hp_s h (a + 1) (.inl (.int, 8 * r, .inl (upd f (8 * row + q / 32) (if m = true then f (8 * row + q / 32) ||| nI 1 <<< (nI (q % 32) &&& 31) else f (8 * row + q / 32) &&& (nI 1 <<< (nI (q % 32) &&& 31) ^^^ (-1))))))) := by
  have hb : q / 32 < 8 := by omega
  have hi := c_isInside hs hr hb
  have n := n32
  obtain ⟨h1, h2, h3⟩ := hs
  obtain ⟨d1, d2⟩ := dm32 hq
  rw [d1] at d2
  have hlt : 8 * row + q / 32 < 8 * r := by omega
  rw [en53 h1]
  cases m
  · simp (disch := first | assumption | exact zz_nl_i _ | exact zz_nl_r _ | exact zz_nl_n | exact okv_i _ | exact okv_j _ | exact okv_0 | exact okv_1 | exact okv_o _ _ | exact okv_a _ _ | omega | exact llt_0 | ((repeat apply llt_s) <;> exact llt_0) | fail) only [x53, h1, h2, hi, d1, d2, ix8, nI_01, if_true, if_false, Bool.false_eq_true, mo_k_v, mo_k_n, mo_v_e, mo_gf_e, mo_pf_e, mo_ia_e, mo_ba_e, mo_za_e, mo_la_e, mo_aa_e, mo_le_e, mo_is_e, mo_bs_e, mo_zs_0, mo_zs_1, mo_ls_e, mo_as_e, mo_na_e, mo_aci_e, mo_acb_e, mo_acj_e, hp_gs, hp_gn, hp_ss, List.getElem?_cons_zero, List.getElem?_cons_succ, List.set_cons_zero, List.set_cons_succ]
  · simp (disch := first | assumption | exact zz_nl_i _ | exact zz_nl_r _ | exact zz_nl_n | exact okv_i _ | exact okv_j _ | exact okv_0 | exact okv_1 | exact okv_o _ _ | exact okv_a _ _ | omega | exact llt_0 | ((repeat apply llt_s) <;> exact llt_0) | fail) only [x53, h1, h2, hi, d1, d2, ix8, nI_01, if_true, if_false, mo_k_v, mo_k_n, mo_v_e, mo_gf_e, mo_pf_e, mo_ia_e, mo_ba_e, mo_za_e, mo_la_e, mo_aa_e, mo_le_e, mo_is_e, mo_bs_e, mo_zs_0, mo_zs_1, mo_ls_e, mo_as_e, mo_na_e, mo_aci_e, mo_acb_e, mo_acj_e, hp_gs, hp_gn, hp_ss, List.getElem?_cons_zero, List.getElem?_cons_succ, List.set_cons_zero, List.set_cons_succ]
/-- a row laid over another -/
def lay8 (f : Nat → Int32) (row : Nat) (W : Nat → Int32) (n : Nat) : Nat → Int32 := fun i => if 8 * row ≤ i ∧ i < 8 * row + n then W (i - 8 * row) else f i
theorem lay8_0 (f : Nat → Int32) (row : Nat) (W : Nat → Int32) : lay8 f row W 0 = f := by
  funext i
  unfold lay8
  rw [if_neg (by omega)]
theorem lay8_s (f : Nat → Int32) (row : Nat) (W : Nat → Int32) (n : Nat) : upd (lay8 f row W n) (8 * row + n) (W n) = lay8 f row W (n + 1) := by
  funext i
  unfold lay8 upd
  by_cases h1 : i = 8 * row + n
  · subst h1
    rw [if_pos rfl, if_pos (by omega)]
    congr 1
    omega
  · rw [if_neg h1]
    dsimp only
    by_cases h2 : 8 * row ≤ i ∧ i < 8 * row + n
    · rw [if_pos h2, if_pos (by omega)]
    · rw [if_neg h2, if_neg (by omega)]
theorem lp_lay (f : Nat → Int32) (row : Nat) (W : Nat → Int32) : ∀ n, lp_it (fun b g => upd g (8 * row + b) (W b)) n f = lay8 f row W n
  | 0 => (lay8_0 _ _ _).symm
  | n + 1 => by
    show upd (lp_it (fun b g => upd g (8 * row + b) (W b)) n f) (8 * row + n) (W n) = _
    rw [lp_lay f row W n, lay8_s]
theorem isSets_set {g : Nat → Int32} (hs : isSets h a r f) : isSets (hp_s h (a + 1) (.inl (.int, 8 * r, .inl g))) a r g := by
  obtain ⟨h1, h2, h3⟩ := hs
  exact ⟨by rw [hp_gn (by omega)]; exact h1, hp_gs _ _ _, h3⟩
theorem isSets_off {b : Nat} {e : zz_E} (hs : isSets h a r f) (hb : b ≠ a) (hb1 : b ≠ a + 1) : isSets (hp_s h b e) a r f := by
  obtain ⟨h1, h2, h3⟩ := hs
  exact ⟨by rw [hp_gn (Ne.symm hb)]; exact h1, by rw [hp_gn (Ne.symm hb1)]; exact h2, h3⟩
theorem c_copyRow {c r2 : Nat} {g : Nat → Int32} (hs : isSets h a r f) (ho : isSets h c r2 g) (hac : c ≠ a + 1) (hca : a ≠ c) (hcb : a ≠ c + 1) {row o : Nat} (hr : row < r) (hor : o < r2) : zz_run 70 [.ref a, .int (nI row), .ref c, .int (nI o)] h = some (none, hp_s h (a + 1) (.inl (.int, 8 * r, .inl (lay8 f row (rw8 g o) 8)))) := by
  have step : ∀ b k, b < 8 → zz_Y 70 (3, [some (.ref a), some (.int (nI row)), some (.ref c), some (.int (nI o)), some (.int (nI b))], [], hp_s h (a + 1) (.inl (.int, 8 * r, .inl k))) = zz_Y 70 (3, [some (.ref a), some (.int (nI row)), some (.ref c), some (.int (nI o)), some (.int (nI (b + 1)))], [], hp_s h (a + 1) (.inl (.int, 8 * r, .inl (upd k (8 * row + b) (rw8 g o b))))) := by
    intro b k hb
    have hs1 := isSets_set (g := k) hs
    have ho1 : isSets (hp_s h (a + 1) (.inl (.int, 8 * r, .inl k))) c r2 g := isSets_off ho (Ne.symm hac) (by omega)
    have e1 := c_bitsOf ho1 hor hb
    have e2 := c_setBits hs1 hr hb (g (8 * o + b))
    rw [x70_c3]
    simp (disch := first | assumption | exact zz_nl_i _ | exact zz_nl_r _ | exact zz_nl_n | exact okv_i _ | exact okv_j _ | exact okv_0 | exact okv_1 | exact okv_o _ _ | exact okv_a _ _ | omega | exact llt_0 | ((repeat apply llt_s) <;> exact llt_0) | fail) only [x70, nI_ltI, hb, if_true, nI_add, e1, e2, mo_k_v, mo_k_n, mo_v_e, mo_gf_e, mo_pf_e, mo_ia_e, mo_ba_e, mo_za_e, mo_la_e, mo_aa_e, mo_le_e, mo_is_e, mo_bs_e, mo_zs_0, mo_zs_1, mo_ls_e, mo_as_e, mo_na_e, mo_aci_e, mo_acb_e, mo_acj_e, hp_gs, hp_gn, hp_ss, List.getElem?_cons_zero, List.getElem?_cons_succ, List.set_cons_zero, List.set_cons_succ]
    rfl
  rw [en70 hs.1]
  simp (disch := first | assumption | exact zz_nl_i _ | exact zz_nl_r _ | exact zz_nl_n | exact okv_i _ | exact okv_j _ | exact okv_0 | exact okv_1 | exact okv_o _ _ | exact okv_a _ _ | omega | exact llt_0 | ((repeat apply llt_s) <;> exact llt_0) | fail) only [x70, mo_k_v, mo_k_n, mo_v_e, mo_gf_e, mo_pf_e, mo_ia_e, mo_ba_e, mo_za_e, mo_la_e, mo_aa_e, mo_le_e, mo_is_e, mo_bs_e, mo_zs_0, mo_zs_1, mo_ls_e, mo_as_e, mo_na_e, mo_aci_e, mo_acb_e, mo_acj_e, hp_gs, hp_gn, hp_ss, List.getElem?_cons_zero, List.getElem?_cons_succ, List.set_cons_zero, List.set_cons_succ]
  have hl := lp_fold (N := 8) (St := fun b k => zz_Y 70 (3, [some (.ref a), some (.int (nI row)), some (.ref c), some (.int (nI o)), some (.int (nI b))], [], hp_s h (a + 1) (.inl (.int, 8 * r, .inl k)))) (s := f) step
  rw [lp_lay, hp_same hs.2.1] at hl
  refine hl.trans ?_
  show zz_Y 70 (3, _, [], _) = _
  rw [x70_c3]
  simp (disch := first | assumption | exact zz_nl_i _ | exact zz_nl_r _ | exact zz_nl_n | exact okv_i _ | exact okv_j _ | exact okv_0 | exact okv_1 | exact okv_o _ _ | exact okv_a _ _ | omega | exact llt_0 | ((repeat apply llt_s) <;> exact llt_0) | fail) only [x70, nI_ltI, Nat.lt_irrefl, if_false, mo_k_v, mo_k_n, mo_v_e, mo_gf_e, mo_pf_e, mo_ia_e, mo_ba_e, mo_za_e, mo_la_e, mo_aa_e, mo_le_e, mo_is_e, mo_bs_e, mo_zs_0, mo_zs_1, mo_ls_e, mo_as_e, mo_na_e, mo_aci_e, mo_acb_e, mo_acj_e, hp_gs, hp_gn, hp_ss, List.getElem?_cons_zero, List.getElem?_cons_succ, List.set_cons_zero, List.set_cons_succ]
end
/-- records of a row, block by block -/
theorem ct_blocks (W : Nat → Int32) : ∀ n, fb_ct (pb W) (32 * n) = fb_sm (fun b => pc (W b)) n
  | 0 => rfl
  | n + 1 => by
    rw [show 32 * (n + 1) = 32 * n + 32 by omega, fb_ct_split, ct_blocks W n, fb_sm_succ]
    congr 1
    apply fb_ct_cong
    intro k hk
    unfold pb
    rw [show (32 * n + k) / 32 = n by omega, show (32 * n + k) % 32 = k by omega]
theorem ct_in (W : Nat → Int32) (n : Nat) {i : Nat} (hi : i ≤ 32) : fb_ct (pb W) (32 * n + i) = fb_sm (fun b => pc (W b)) n + fb_ct (bt (W n)) i := by
  rw [fb_ct_split, ct_blocks]
  congr 1
  apply fb_ct_cong
  intro k hk
  unfold pb
  rw [show (32 * n + k) / 32 = n by omega, show (32 * n + k) % 32 = k by omega]
theorem ct_256 (W : Nat → Int32) : fb_ct (pb W) 256 = amt W := ct_blocks W 8
theorem amt_le (W : Nat → Int32) : amt W ≤ 256 := by rw [← ct_256]; exact fb_ct_le _ _
theorem c_recordAt {h : zz_H} {a r : Nat} {f : Nat → Int32} (hs : isSets h a r f) {row : Nat} (hr : row < r) (k : Int32) : zz_run 81 [.ref a, .int (nI row), .int k] h = some (some (.int (KT (pb (rw8 f row)) 256 k)), h) := by
  rw [en81 hs.1]
  simp (disch := first | assumption | exact zz_nl_i _ | exact zz_nl_r _ | exact zz_nl_n | exact okv_i _ | exact okv_j _ | exact okv_0 | exact okv_1 | exact okv_o _ _ | exact okv_a _ _ | omega | exact llt_0 | ((repeat apply llt_s) <;> exact llt_0) | fail) only [x81, mo_k_v, mo_k_n, mo_v_e, mo_gf_e, mo_pf_e, mo_ia_e, mo_ba_e, mo_za_e, mo_la_e, mo_aa_e, mo_le_e, mo_is_e, mo_bs_e, mo_zs_0, mo_zs_1, mo_ls_e, mo_as_e, mo_na_e, mo_aci_e, mo_acb_e, mo_acj_e, hp_gs, hp_gn, hp_ss, List.getElem?_cons_zero, List.getElem?_cons_succ, List.set_cons_zero, List.set_cons_succ]
  have key : ∀ (d b : Nat) (l5 l6 : Option Value), b + d = 8 → zz_nl l5 = true → zz_nl l6 = true → (∀ j, k = nI j → j < 2147483648 → fb_sm (fun b => pc (rw8 f row b)) b ≤ j) → zz_Y 81 (5, [some (.ref a), some (.int (nI row)), some (.int k), some (.int (nI (fb_sm (fun b => pc (rw8 f row b)) b))), some (.int (nI b)), l5, l6], [], h) = some (some (.int (KT (pb (rw8 f row)) 256 k)), h) := by
    intro d
    induction d with
    | zero =>
      intro b l5 l6 hb n5 n6 hj
      have : b = 8 := by omega
      subst this
      rw [x81_c5]
      simp (disch := first | assumption | exact zz_nl_i _ | exact zz_nl_r _ | exact zz_nl_n | exact okv_i _ | exact okv_j _ | exact okv_0 | exact okv_1 | exact okv_o _ _ | exact okv_a _ _ | omega | exact llt_0 | ((repeat apply llt_s) <;> exact llt_0) | fail) only [x81, nI_ltI, Nat.lt_irrefl, if_false, mo_k_v, mo_k_n, mo_v_e, mo_gf_e, mo_pf_e, mo_ia_e, mo_ba_e, mo_za_e, mo_la_e, mo_aa_e, mo_le_e, mo_is_e, mo_bs_e, mo_zs_0, mo_zs_1, mo_ls_e, mo_as_e, mo_na_e, mo_aci_e, mo_acb_e, mo_acj_e, hp_gs, hp_gn, hp_ss, List.getElem?_cons_zero, List.getElem?_cons_succ, List.set_cons_zero, List.set_cons_succ]
      rcases neg_or k with hk | ⟨j, hj2, rfl⟩
      · rw [KT_neg hk]
      · rw [KT_ge (by rw [ct_256]; exact hj j rfl hj2) hj2]
    | succ d ih =>
      intro b l5 l6 hb n5 n6 hj
      have hb8 : b < 8 := by omega
      have hpc := pc_le (f (8 * row + b))
      have hsm : fb_sm (fun b => pc (rw8 f row b)) b ≤ 256 := by
        have := fb_sm_bound (f := fun b => pc (rw8 f row b)) (c := 32) (n := b) (fun k _ => pc_le _)
        omega
      have hsucc := fb_sm_succ (fun b => pc (rw8 f row b)) b
      simp only [rw8] at hsucc
      rw [x81_c5]
      rcases neg_or k with hk | ⟨j, hj2, rfl⟩
      · have hk2 : k < nI (fb_sm (fun b => pc (rw8 f row b)) b) := by
          rw [Int32.lt_iff_toInt_lt] at hk ⊢
          rw [nI_toInt (by omega)] at hk ⊢
          omega
        simp (disch := first | assumption | exact zz_nl_i _ | exact zz_nl_r _ | exact zz_nl_n | exact okv_i _ | exact okv_j _ | exact okv_0 | exact okv_1 | exact okv_o _ _ | exact okv_a _ _ | omega | exact llt_0 | ((repeat apply llt_s) <;> exact llt_0) | fail) only [x81, nI_ltI, hb8, if_true, c_bitsOf hs hr hb8, c_bitCount, nI_add, hk2, mo_k_v, mo_k_n, mo_v_e, mo_gf_e, mo_pf_e, mo_ia_e, mo_ba_e, mo_za_e, mo_la_e, mo_aa_e, mo_le_e, mo_is_e, mo_bs_e, mo_zs_0, mo_zs_1, mo_ls_e, mo_as_e, mo_na_e, mo_aci_e, mo_acb_e, mo_acj_e, hp_gs, hp_gn, hp_ss, List.getElem?_cons_zero, List.getElem?_cons_succ, List.set_cons_zero, List.set_cons_succ]
        refine (congrArg (fun z => zz_Y 81 (5, [some (.ref a), some (.int (nI row)), some (.int k), some (.int (nI z)), some (.int (nI (b + 1))), some (.int (f (8 * row + b))), some (.int (nI (pc (f (8 * row + b)))))], [], h)) hsucc.symm).trans ?_
        exact ih (b + 1) _ _ (by omega) rfl rfl (fun j e => by rw [e] at hk; exact fun hj2 => absurd hk (nI_nlt0 hj2))
      · have h1 := hj j rfl hj2
        have hn1 : ¬ j < fb_sm (fun b => pc (rw8 f row b)) b := by omega
        by_cases h2 : j < fb_sm (fun b => pc (rw8 f row b)) b + pc (f (8 * row + b))
        · have e1 : nI j - nI (fb_sm (fun b => pc (rw8 f row b)) b) = nI (j - fb_sm (fun b => pc (rw8 f row b)) b) := pk_sub h1
          have hin : j - fb_sm (fun b => pc (rw8 f row b)) b < fb_ct (bt (f (8 * row + b))) 32 := by show _ < pc _; omega
          obtain ⟨i, hi, hp, hc⟩ := fb_ct_kth hin
          have e2 : KT (bt (f (8 * row + b))) 32 (nI (j - fb_sm (fun b => pc (rw8 f row b)) b)) = nI i := by rw [KT_lt hin (by omega), kth_of hi hp hc]
          have e3 : KT (pb (rw8 f row)) 256 (nI j) = nI (b * 32 + i) := by
            have c1 : fb_ct (pb (rw8 f row)) (b * 32 + i) = j := by
              rw [Nat.mul_comm, ct_in _ _ (by omega)]
              show _ + fb_ct (bt (f (8 * row + b))) i = j
              omega
            have c2 : pb (rw8 f row) (b * 32 + i) = true := by
              unfold pb
              rw [show (b * 32 + i) / 32 = b by omega, show (b * 32 + i) % 32 = i by omega]
              exact hp
            have c3 : b * 32 + i < 256 := by omega
            have c4 : j < fb_ct (pb (rw8 f row)) 256 := by
              have := fb_ct_succ (pb (rw8 f row)) (b * 32 + i)
              rw [c2, c1] at this
              have := fb_ct_mono (pb (rw8 f row)) (show b * 32 + i + 1 ≤ 256 by omega)
              simp at *
              omega
            rw [KT_lt c4 (by omega), kth_of c3 c2 c1]
          simp (disch := first | assumption | exact zz_nl_i _ | exact zz_nl_r _ | exact zz_nl_n | exact okv_i _ | exact okv_j _ | exact okv_0 | exact okv_1 | exact okv_o _ _ | exact okv_a _ _ | omega | exact llt_0 | ((repeat apply llt_s) <;> exact llt_0) | fail) only [x81, nI_ltI, hb8, if_true, if_false, c_bitsOf hs hr hb8, c_bitCount, nI_add, hn1, h2, e1, c_bitAt, e2, e3, pk_mul, mo_k_v, mo_k_n, mo_v_e, mo_gf_e, mo_pf_e, mo_ia_e, mo_ba_e, mo_za_e, mo_la_e, mo_aa_e, mo_le_e, mo_is_e, mo_bs_e, mo_zs_0, mo_zs_1, mo_ls_e, mo_as_e, mo_na_e, mo_aci_e, mo_acb_e, mo_acj_e, hp_gs, hp_gn, hp_ss, List.getElem?_cons_zero, List.getElem?_cons_succ, List.set_cons_zero, List.set_cons_succ]
        · simp (disch := first | assumption | exact zz_nl_i _ | exact zz_nl_r _ | exact zz_nl_n | exact okv_i _ | exact okv_j _ | exact okv_0 | exact okv_1 | exact okv_o _ _ | exact okv_a _ _ | omega | exact llt_0 | ((repeat apply llt_s) <;> exact llt_0) | fail) only [x81, nI_ltI, hb8, if_true, if_false, c_bitsOf hs hr hb8, c_bitCount, nI_add, hn1, h2, mo_k_v, mo_k_n, mo_v_e, mo_gf_e, mo_pf_e, mo_ia_e, mo_ba_e, mo_za_e, mo_la_e, mo_aa_e, mo_le_e, mo_is_e, mo_bs_e, mo_zs_0, mo_zs_1, mo_ls_e, mo_as_e, mo_na_e, mo_aci_e, mo_acb_e, mo_acj_e, hp_gs, hp_gn, hp_ss, List.getElem?_cons_zero, List.getElem?_cons_succ, List.set_cons_zero, List.set_cons_succ]
          refine (congrArg (fun z => zz_Y 81 (5, [some (.ref a), some (.int (nI row)), some (.int (nI j)), some (.int (nI z)), some (.int (nI (b + 1))), some (.int (f (8 * row + b))), some (.int (nI (pc (f (8 * row + b)))))], [], h)) hsucc.symm).trans ?_
          exact ih (b + 1) _ _ (by omega) rfl rfl (fun j' e hj3 => by
            have : j' = j := ((nI_eq (by omega) (by omega)).mp e).symm
            subst this
            rw [fb_sm_succ]
            show _ + pc (f (8 * row + b)) ≤ _
            omega)
  exact key 8 0 none none rfl rfl rfl (fun j _ _ => Nat.zero_le _)
