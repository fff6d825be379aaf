/-! the stock's methods -/
def thrC (rk : Nat → Int32) (x : Int32) : Bool := isV 256 x && !decide (rk x.toNatClampNeg = -1)
def sbit (x : Int32) (i : Nat) (m : Bool) : Int32 := if m = true then x ||| nI 1 <<< (nI i &&& 31) else x &&& (nI 1 <<< (nI i &&& 31) ^^^ (-1))
theorem b_sbit {x : Int32} {i : Nat} {m : Bool} (hi : i < 32) {j : Nat} (hj : j < 32) : bt (sbit x i m) j = if j = i then m else bt x j := by
  unfold sbit
  cases m
  · simp only [Bool.false_eq_true, if_false]
    rw [b_and, b_not hj, b_one hi hj]
    by_cases h : j = i <;> simp [h]
  · simp only [if_true]
    rw [b_or, b_one hi hj]
    by_cases h : j = i <;> simp [h]
/-- the rows behind put: the first n values' rows, and the row of all -/
def putF (f : Nat → Int32) (n q : Nat) (m : Bool) (lin : Int32) : Nat → Int32 := fun i => if i % 8 = q / 32 ∧ i / 8 < n then sbit (f i) (q % 32) (bt lin (i / 8)) else if i = 160 + q / 32 then sbit (f i) (q % 32) m else f i
theorem putF_0 (f : Nat → Int32) (q : Nat) (m : Bool) (lin : Int32) : upd f (8 * 20 + q / 32) (sbit (f (8 * 20 + q / 32)) (q % 32) m) = putF f 0 q m lin := by
  funext i
  unfold putF upd
  rw [if_neg (show ¬ (i % 8 = q / 32 ∧ i / 8 < 0) by omega)]
  by_cases h1 : i = 160 + q / 32
  · rw [if_pos (by omega), if_pos h1, h1]
  · rw [if_neg (by omega), if_neg h1]
theorem putF_s {f : Nat → Int32} {n q : Nat} {m : Bool} {lin : Int32} (hq : q < 256) (hn : n < 20) : upd (putF f n q m lin) (8 * n + q / 32) (sbit (putF f n q m lin (8 * n + q / 32)) (q % 32) (bt lin n)) = putF f (n + 1) q m lin := by
  have e : putF f n q m lin (8 * n + q / 32) = f (8 * n + q / 32) := by
    unfold putF
    rw [if_neg (by omega), if_neg (by omega)]
  rw [e]
  funext i
  unfold upd
  by_cases h1 : i = 8 * n + q / 32
  · rw [if_pos h1]
    subst h1
    unfold putF
    rw [if_pos (by omega), show (8 * n + q / 32) / 8 = n by omega]
  · rw [if_neg h1]
    unfold putF
    by_cases h2 : i % 8 = q / 32 ∧ i / 8 < n
    · rw [if_pos h2, if_pos (show i % 8 = q / 32 ∧ i / 8 < n + 1 by omega)]
    · rw [if_neg h2, if_neg (show ¬ (i % 8 = q / 32 ∧ i / 8 < n + 1) by omega)]
section
variable {h : zz_H} {a : Nat} {p : Pl} {rk tg f : Nat → Int32}
theorem c_isThere (hs : isStock h a p rk tg f) (x : Int32) : zz_run 47 [.ref a, .int x] h = some (some (.int (bI (thrC rk x))), h) := by
  obtain ⟨s0, s1, s2, s3, s4⟩ := hs
  rw [en47 s0]
  unfold thrC
  cases hv : isV 256 x
  · simp (disch := first | assumption | exact zz_nl_i _ | exact zz_nl_r _ | exact zz_nl_n | exact okv_i _ | exact okv_j _ | exact okv_0 | exact okv_1 | exact okv_o _ _ | exact okv_a _ _ | omega | exact llt_0 | ((repeat apply llt_s) <;> exact llt_0) | fail) only [x47, xb47, s0, c_isRecord, hv, bI_f, if_true, mo_k_v, mo_k_n, mo_v_e, mo_gf_e, mo_pf_e, mo_ia_e, mo_ba_e, mo_za_e, mo_la_e, mo_aa_e, mo_le_e, mo_is_e, mo_bs_e, mo_zs_0, mo_zs_1, mo_ls_e, mo_as_e, mo_na_e, mo_aci_e, mo_acb_e, mo_acj_e, hp_gs, hp_gn, hp_ss, List.getElem?_cons_zero, List.getElem?_cons_succ, List.set_cons_zero, List.set_cons_succ]
    rfl
  · obtain ⟨k, hk, rfl⟩ := (isV_iff (by omega)).mp hv
    rw [nI_clamp (by omega)]
    by_cases h1 : rk k = -1
    · simp (disch := first | assumption | exact zz_nl_i _ | exact zz_nl_r _ | exact zz_nl_n | exact okv_i _ | exact okv_j _ | exact okv_0 | exact okv_1 | exact okv_o _ _ | exact okv_a _ _ | omega | exact llt_0 | ((repeat apply llt_s) <;> exact llt_0) | fail) only [x47, xb47, s0, s2, c_isRecord, hv, bI_t, nI_01, h1, if_true, if_false, mo_k_v, mo_k_n, mo_v_e, mo_gf_e, mo_pf_e, mo_ia_e, mo_ba_e, mo_za_e, mo_la_e, mo_aa_e, mo_le_e, mo_is_e, mo_bs_e, mo_zs_0, mo_zs_1, mo_ls_e, mo_as_e, mo_na_e, mo_aci_e, mo_acb_e, mo_acj_e, hp_gs, hp_gn, hp_ss, List.getElem?_cons_zero, List.getElem?_cons_succ, List.set_cons_zero, List.set_cons_succ]
      simp [h1, bI]
    · simp (disch := first | assumption | exact zz_nl_i _ | exact zz_nl_r _ | exact zz_nl_n | exact okv_i _ | exact okv_j _ | exact okv_0 | exact okv_1 | exact okv_o _ _ | exact okv_a _ _ | omega | exact llt_0 | ((repeat apply llt_s) <;> exact llt_0) | fail) only [x47, xb47, s0, s2, c_isRecord, hv, bI_t, nI_01, h1, if_true, if_false, mo_k_v, mo_k_n, mo_v_e, mo_gf_e, mo_pf_e, mo_ia_e, mo_ba_e, mo_za_e, mo_la_e, mo_aa_e, mo_le_e, mo_is_e, mo_bs_e, mo_zs_0, mo_zs_1, mo_ls_e, mo_as_e, mo_na_e, mo_aci_e, mo_acb_e, mo_acj_e, hp_gs, hp_gn, hp_ss, List.getElem?_cons_zero, List.getElem?_cons_succ, List.set_cons_zero, List.set_cons_succ]
      simp [h1, bI]
theorem c_costOfAll (hs : isStock h a p rk tg f) : zz_run 105 [.ref a] h = some (some (.int (nI (fb_sm (fun v => cs8 (rw8 f v)) (pnv p)))), h) := by
  obtain ⟨s0, s1, s2, s3, s4⟩ := hs
  have q2 := s1.2.2.2.2.2.2.2.2.2.2
  have step : ∀ v s, v < pnv p → zz_Y 105 (4, [some (.ref a), some (.int (nI s)), some (.int (nI v))], [], h) = zz_Y 105 (4, [some (.ref a), some (.int (nI (s + cs8 (rw8 f v)))), some (.int (nI (v + 1)))], [], h) := by
    intro v s hv
    have hv21 : v < 21 := by omega
    rw [x105_c4]
    simp (disch := first | assumption | exact zz_nl_i _ | exact zz_nl_r _ | exact zz_nl_n | exact okv_i _ | exact okv_j _ | exact okv_0 | exact okv_1 | exact okv_o _ _ | exact okv_a _ _ | omega | exact llt_0 | ((repeat apply llt_s) <;> exact llt_0) | fail) only [x105, s0, s1.1, nI_ltI, hv, if_true, c_costRow s4 hv21, nI_add, mo_k_v, mo_k_n, mo_v_e, mo_gf_e, mo_pf_e, mo_ia_e, mo_ba_e, mo_za_e, mo_la_e, mo_aa_e, mo_le_e, mo_is_e, mo_bs_e, mo_zs_0, mo_zs_1, mo_ls_e, mo_as_e, mo_na_e, mo_aci_e, mo_acb_e, mo_acj_e, hp_gs, hp_gn, hp_ss, List.getElem?_cons_zero, List.getElem?_cons_succ, List.set_cons_zero, List.set_cons_succ]
  rw [en105 s0]
  simp (disch := first | assumption | exact zz_nl_i _ | exact zz_nl_r _ | exact zz_nl_n | exact okv_i _ | exact okv_j _ | exact okv_0 | exact okv_1 | exact okv_o _ _ | exact okv_a _ _ | omega | exact llt_0 | ((repeat apply llt_s) <;> exact llt_0) | fail) only [x105, mo_k_v, mo_k_n, mo_v_e, mo_gf_e, mo_pf_e, mo_ia_e, mo_ba_e, mo_za_e, mo_la_e, mo_aa_e, mo_le_e, mo_is_e, mo_bs_e, mo_zs_0, mo_zs_1, mo_ls_e, mo_as_e, mo_na_e, mo_aci_e, mo_acb_e, mo_acj_e, hp_gs, hp_gn, hp_ss, List.getElem?_cons_zero, List.getElem?_cons_succ, List.set_cons_zero, List.set_cons_succ]
  refine (lp_fold (St := fun v s => zz_Y 105 (4, [some (.ref a), some (.int (nI s)), some (.int (nI v))], [], h)) step).trans ?_
  rw [lp_sum]
  try dsimp only
  rw [x105_c4]
  simp (disch := first | assumption | exact zz_nl_i _ | exact zz_nl_r _ | exact zz_nl_n | exact okv_i _ | exact okv_j _ | exact okv_0 | exact okv_1 | exact okv_o _ _ | exact okv_a _ _ | omega | exact llt_0 | ((repeat apply llt_s) <;> exact llt_0) | fail) only [x105, s0, s1.1, nI_ltI, Nat.lt_irrefl, if_false, Nat.zero_add, mo_k_v, mo_k_n, mo_v_e, mo_gf_e, mo_pf_e, mo_ia_e, mo_ba_e, mo_za_e, mo_la_e, mo_aa_e, mo_le_e, mo_is_e, mo_bs_e, mo_zs_0, mo_zs_1, mo_ls_e, mo_as_e, mo_na_e, mo_aci_e, mo_acb_e, mo_acj_e, hp_gs, hp_gn, hp_ss, List.getElem?_cons_zero, List.getElem?_cons_succ, List.set_cons_zero, List.set_cons_succ]
theorem c_boxesOfAll (hs : isStock h a p rk tg f) (k : Int32) : zz_run 106 [.ref a, .int k] h = some (some (.int (nI (fb_sm (fun v => bx8 k (rw8 f v)) (pnv p)))), h) := by
  obtain ⟨s0, s1, s2, s3, s4⟩ := hs
  have q2 := s1.2.2.2.2.2.2.2.2.2.2
  have step : ∀ v s, v < pnv p → zz_Y 106 (4, [some (.ref a), some (.int k), some (.int (nI s)), some (.int (nI v))], [], h) = zz_Y 106 (4, [some (.ref a), some (.int k), some (.int (nI (s + bx8 k (rw8 f v)))), some (.int (nI (v + 1)))], [], h) := by
    intro v s hv
    have hv21 : v < 21 := by omega
    rw [x106_c4]
    simp (disch := first | assumption | exact zz_nl_i _ | exact zz_nl_r _ | exact zz_nl_n | exact okv_i _ | exact okv_j _ | exact okv_0 | exact okv_1 | exact okv_o _ _ | exact okv_a _ _ | omega | exact llt_0 | ((repeat apply llt_s) <;> exact llt_0) | fail) only [x106, s0, s1.1, nI_ltI, hv, if_true, c_boxes s4 hv21, nI_add, mo_k_v, mo_k_n, mo_v_e, mo_gf_e, mo_pf_e, mo_ia_e, mo_ba_e, mo_za_e, mo_la_e, mo_aa_e, mo_le_e, mo_is_e, mo_bs_e, mo_zs_0, mo_zs_1, mo_ls_e, mo_as_e, mo_na_e, mo_aci_e, mo_acb_e, mo_acj_e, hp_gs, hp_gn, hp_ss, List.getElem?_cons_zero, List.getElem?_cons_succ, List.set_cons_zero, List.set_cons_succ]
  rw [en106 s0]
  simp (disch := first | assumption | exact zz_nl_i _ | exact zz_nl_r _ | exact zz_nl_n | exact okv_i _ | exact okv_j _ | exact okv_0 | exact okv_1 | exact okv_o _ _ | exact okv_a _ _ | omega | exact llt_0 | ((repeat apply llt_s) <;> exact llt_0) | fail) only [x106, mo_k_v, mo_k_n, mo_v_e, mo_gf_e, mo_pf_e, mo_ia_e, mo_ba_e, mo_za_e, mo_la_e, mo_aa_e, mo_le_e, mo_is_e, mo_bs_e, mo_zs_0, mo_zs_1, mo_ls_e, mo_as_e, mo_na_e, mo_aci_e, mo_acb_e, mo_acj_e, hp_gs, hp_gn, hp_ss, List.getElem?_cons_zero, List.getElem?_cons_succ, List.set_cons_zero, List.set_cons_succ]
  refine (lp_fold (St := fun v s => zz_Y 106 (4, [some (.ref a), some (.int k), some (.int (nI s)), some (.int (nI v))], [], h)) step).trans ?_
  rw [lp_sum]
  try dsimp only
  rw [x106_c4]
  simp (disch := first | assumption | exact zz_nl_i _ | exact zz_nl_r _ | exact zz_nl_n | exact okv_i _ | exact okv_j _ | exact okv_0 | exact okv_1 | exact okv_o _ _ | exact okv_a _ _ | omega | exact llt_0 | ((repeat apply llt_s) <;> exact llt_0) | fail) only [x106, s0, s1.1, nI_ltI, Nat.lt_irrefl, if_false, Nat.zero_add, mo_k_v, mo_k_n, mo_v_e, mo_gf_e, mo_pf_e, mo_ia_e, mo_ba_e, mo_za_e, mo_la_e, mo_aa_e, mo_le_e, mo_is_e, mo_bs_e, mo_zs_0, mo_zs_1, mo_ls_e, mo_as_e, mo_na_e, mo_aci_e, mo_acb_e, mo_acj_e, hp_gs, hp_gn, hp_ss, List.getElem?_cons_zero, List.getElem?_cons_succ, List.set_cons_zero, List.set_cons_succ]
theorem c_allTags (hs : isStock h a p rk tg f) : zz_run 110 [.ref a] h = some (some (.int (nI (fb_sm (fun q => pc (tg q)) 256))), h) := by
  obtain ⟨s0, s1, s2, s3, s4⟩ := hs
  have step : ∀ v s, v < 256 → zz_Y 110 (4, [some (.ref a), some (.int (nI s)), some (.int (nI v))], [], h) = zz_Y 110 (4, [some (.ref a), some (.int (nI (s + pc (tg v)))), some (.int (nI (v + 1)))], [], h) := by
    intro v s hv
    rw [x110_c4]
    simp (disch := first | assumption | exact zz_nl_i _ | exact zz_nl_r _ | exact zz_nl_n | exact okv_i _ | exact okv_j _ | exact okv_0 | exact okv_1 | exact okv_o _ _ | exact okv_a _ _ | omega | exact llt_0 | ((repeat apply llt_s) <;> exact llt_0) | fail) only [x110, s0, s3, nI_ltI, hv, if_true, c_bitCount, nI_add, mo_k_v, mo_k_n, mo_v_e, mo_gf_e, mo_pf_e, mo_ia_e, mo_ba_e, mo_za_e, mo_la_e, mo_aa_e, mo_le_e, mo_is_e, mo_bs_e, mo_zs_0, mo_zs_1, mo_ls_e, mo_as_e, mo_na_e, mo_aci_e, mo_acb_e, mo_acj_e, hp_gs, hp_gn, hp_ss, List.getElem?_cons_zero, List.getElem?_cons_succ, List.set_cons_zero, List.set_cons_succ]
  rw [en110 s0]
  simp (disch := first | assumption | exact zz_nl_i _ | exact zz_nl_r _ | exact zz_nl_n | exact okv_i _ | exact okv_j _ | exact okv_0 | exact okv_1 | exact okv_o _ _ | exact okv_a _ _ | omega | exact llt_0 | ((repeat apply llt_s) <;> exact llt_0) | fail) only [x110, mo_k_v, mo_k_n, mo_v_e, mo_gf_e, mo_pf_e, mo_ia_e, mo_ba_e, mo_za_e, mo_la_e, mo_aa_e, mo_le_e, mo_is_e, mo_bs_e, mo_zs_0, mo_zs_1, mo_ls_e, mo_as_e, mo_na_e, mo_aci_e, mo_acb_e, mo_acj_e, hp_gs, hp_gn, hp_ss, List.getElem?_cons_zero, List.getElem?_cons_succ, List.set_cons_zero, List.set_cons_succ]
  refine (lp_fold (N := 256) (St := fun v s => zz_Y 110 (4, [some (.ref a), some (.int (nI s)), some (.int (nI v))], [], h)) step).trans ?_
  rw [lp_sum]
  try dsimp only
  rw [x110_c4]
  simp (disch := first | assumption | exact zz_nl_i _ | exact zz_nl_r _ | exact zz_nl_n | exact okv_i _ | exact okv_j _ | exact okv_0 | exact okv_1 | exact okv_o _ _ | exact okv_a _ _ | omega | exact llt_0 | ((repeat apply llt_s) <;> exact llt_0) | fail) only [x110, s0, nI_ltI, Nat.lt_irrefl, if_false, Nat.zero_add, mo_k_v, mo_k_n, mo_v_e, mo_gf_e, mo_pf_e, mo_ia_e, mo_ba_e, mo_za_e, mo_la_e, mo_aa_e, mo_le_e, mo_is_e, mo_bs_e, mo_zs_0, mo_zs_1, mo_ls_e, mo_as_e, mo_na_e, mo_aci_e, mo_acb_e, mo_acj_e, hp_gs, hp_gn, hp_ss, List.getElem?_cons_zero, List.getElem?_cons_succ, List.set_cons_zero, List.set_cons_succ]
theorem lp_it_s {σ : Type} (f : Nat → σ → σ) (n : Nat) (s : σ) : lp_it f (n + 1) s = f n (lp_it f n s) := rfl
theorem lp_ct (q : Nat → Bool) (s0 : Nat) : ∀ n, lp_it (fun b s => s + if q b = true then 1 else 0) n s0 = s0 + fb_ct q n
  | 0 => rfl
  | n + 1 => by
    show lp_it (fun b s => s + if q b = true then 1 else 0) n s0 + (if q n = true then 1 else 0) = _
    rw [lp_ct q s0 n, fb_ct_succ]
    omega
theorem c_tagsOf (hs : isStock h a p rk tg f) {v : Nat} (hv : v < 32) : zz_run 121 [.ref a, .int (nI v)] h = some (some (.int (nI (fb_ct (fun q => bt (tg q) v) 256))), h) := by
  obtain ⟨s0, s1, s2, s3, s4⟩ := hs
  have step : ∀ q s, q < 256 → zz_Y 121 (4, [some (.ref a), some (.int (nI v)), some (.int (nI s)), some (.int (nI q))], [], h) = zz_Y 121 (4, [some (.ref a), some (.int (nI v)), some (.int (nI (s + if bt (tg q) v = true then 1 else 0))), some (.int (nI (q + 1)))], [], h) := by
    intro q s hq
    rw [x121_c4]
    simp (disch := first | assumption | exact zz_nl_i _ | exact zz_nl_r _ | exact zz_nl_n | exact okv_i _ | exact okv_j _ | exact okv_0 | exact okv_1 | exact okv_o _ _ | exact okv_a _ _ | omega | exact llt_0 | ((repeat apply llt_s) <;> exact llt_0) | fail) only [x121, s0, s3, nI_ltI, hq, if_true, c_hasBit hv, nI_add, mo_k_v, mo_k_n, mo_v_e, mo_gf_e, mo_pf_e, mo_ia_e, mo_ba_e, mo_za_e, mo_la_e, mo_aa_e, mo_le_e, mo_is_e, mo_bs_e, mo_zs_0, mo_zs_1, mo_ls_e, mo_as_e, mo_na_e, mo_aci_e, mo_acb_e, mo_acj_e, hp_gs, hp_gn, hp_ss, List.getElem?_cons_zero, List.getElem?_cons_succ, List.set_cons_zero, List.set_cons_succ]
    cases bt (tg q) v
    · simp only [Bool.false_eq_true, if_false, if_true, Nat.add_zero]
    · simp only [nI_01, if_true, if_false]
  rw [en121 s0]
  simp (disch := first | assumption | exact zz_nl_i _ | exact zz_nl_r _ | exact zz_nl_n | exact okv_i _ | exact okv_j _ | exact okv_0 | exact okv_1 | exact okv_o _ _ | exact okv_a _ _ | omega | exact llt_0 | ((repeat apply llt_s) <;> exact llt_0) | fail) only [x121, mo_k_v, mo_k_n, mo_v_e, mo_gf_e, mo_pf_e, mo_ia_e, mo_ba_e, mo_za_e, mo_la_e, mo_aa_e, mo_le_e, mo_is_e, mo_bs_e, mo_zs_0, mo_zs_1, mo_ls_e, mo_as_e, mo_na_e, mo_aci_e, mo_acb_e, mo_acj_e, hp_gs, hp_gn, hp_ss, List.getElem?_cons_zero, List.getElem?_cons_succ, List.set_cons_zero, List.set_cons_succ]
  refine (lp_fold (N := 256) (St := fun q s => zz_Y 121 (4, [some (.ref a), some (.int (nI v)), some (.int (nI s)), some (.int (nI q))], [], h)) step).trans ?_
  rw [lp_ct]
  try dsimp only
  rw [x121_c4]
  simp (disch := first | assumption | exact zz_nl_i _ | exact zz_nl_r _ | exact zz_nl_n | exact okv_i _ | exact okv_j _ | exact okv_0 | exact okv_1 | exact okv_o _ _ | exact okv_a _ _ | omega | exact llt_0 | ((repeat apply llt_s) <;> exact llt_0) | fail) only [x121, s0, nI_ltI, Nat.lt_irrefl, if_false, Nat.zero_add, mo_k_v, mo_k_n, mo_v_e, mo_gf_e, mo_pf_e, mo_ia_e, mo_ba_e, mo_za_e, mo_la_e, mo_aa_e, mo_le_e, mo_is_e, mo_bs_e, mo_zs_0, mo_zs_1, mo_ls_e, mo_as_e, mo_na_e, mo_aci_e, mo_acb_e, mo_acj_e, hp_gs, hp_gn, hp_ss, List.getElem?_cons_zero, List.getElem?_cons_succ, List.set_cons_zero, List.set_cons_succ]
theorem c_setsAround (hs : isStock h a p rk tg f) {q : Nat} (hq : q < 256) : zz_run 146 [.ref a, .int (nI q)] h = some (some (.int (nI (pc (linOf p (tg q) (pnv p))))), h) := by
  obtain ⟨s0, s1, s2, s3, s4⟩ := hs
  rw [en146 s0]
  simp (disch := first | assumption | exact zz_nl_i _ | exact zz_nl_r _ | exact zz_nl_n | exact okv_i _ | exact okv_j _ | exact okv_0 | exact okv_1 | exact okv_o _ _ | exact okv_a _ _ | omega | exact llt_0 | ((repeat apply llt_s) <;> exact llt_0) | fail) only [x146, s0, s3, c_lineage s1, c_bitCount, mo_k_v, mo_k_n, mo_v_e, mo_gf_e, mo_pf_e, mo_ia_e, mo_ba_e, mo_za_e, mo_la_e, mo_aa_e, mo_le_e, mo_is_e, mo_bs_e, mo_zs_0, mo_zs_1, mo_ls_e, mo_as_e, mo_na_e, mo_aci_e, mo_acb_e, mo_acj_e, hp_gs, hp_gn, hp_ss, List.getElem?_cons_zero, List.getElem?_cons_succ, List.set_cons_zero, List.set_cons_succ]
theorem c_withTags (hs : isStock h a p rk tg f) {q : Nat} (hq : q < 256) : zz_run 144 [.ref a, .int (nI q)] h = some (some (.int (nI (fb_ct (fun o => !decide (rk o = -1) && decide (tg o &&& tg q = tg q)) 256))), h) := by
  obtain ⟨s0, s1, s2, s3, s4⟩ := hs
  have step : ∀ o s, o < 256 → zz_Y 144 (12, [some (.ref a), some (.int (nI q)), some (.int (tg q)), some (.int (nI s)), some (.int (nI o))], [], h) = zz_Y 144 (12, [some (.ref a), some (.int (nI q)), some (.int (tg q)), some (.int (nI (s + if (!decide (rk o = -1) && decide (tg o &&& tg q = tg q)) = true then 1 else 0))), some (.int (nI (o + 1)))], [], h) := by
    intro o s ho
    rw [x144_c12]
    simp (disch := first | assumption | exact zz_nl_i _ | exact zz_nl_r _ | exact zz_nl_n | exact okv_i _ | exact okv_j _ | exact okv_0 | exact okv_1 | exact okv_o _ _ | exact okv_a _ _ | omega | exact llt_0 | ((repeat apply llt_s) <;> exact llt_0) | fail) only [x144, s0, s2, s3, nI_ltI, ho, if_true, nI_add, mo_k_v, mo_k_n, mo_v_e, mo_gf_e, mo_pf_e, mo_ia_e, mo_ba_e, mo_za_e, mo_la_e, mo_aa_e, mo_le_e, mo_is_e, mo_bs_e, mo_zs_0, mo_zs_1, mo_ls_e, mo_as_e, mo_na_e, mo_aci_e, mo_acb_e, mo_acj_e, hp_gs, hp_gn, hp_ss, List.getElem?_cons_zero, List.getElem?_cons_succ, List.set_cons_zero, List.set_cons_succ]
    by_cases h1 : rk o = -1
    · simp [h1]
    · by_cases h2 : tg o &&& tg q = tg q <;> simp [h1, h2]
  rw [en144 s0]
  simp (disch := first | assumption | exact zz_nl_i _ | exact zz_nl_r _ | exact zz_nl_n | exact okv_i _ | exact okv_j _ | exact okv_0 | exact okv_1 | exact okv_o _ _ | exact okv_a _ _ | omega | exact llt_0 | ((repeat apply llt_s) <;> exact llt_0) | fail) only [x144, s0, s3, mo_k_v, mo_k_n, mo_v_e, mo_gf_e, mo_pf_e, mo_ia_e, mo_ba_e, mo_za_e, mo_la_e, mo_aa_e, mo_le_e, mo_is_e, mo_bs_e, mo_zs_0, mo_zs_1, mo_ls_e, mo_as_e, mo_na_e, mo_aci_e, mo_acb_e, mo_acj_e, hp_gs, hp_gn, hp_ss, List.getElem?_cons_zero, List.getElem?_cons_succ, List.set_cons_zero, List.set_cons_succ]
  refine (lp_fold (N := 256) (St := fun o s => zz_Y 144 (12, [some (.ref a), some (.int (nI q)), some (.int (tg q)), some (.int (nI s)), some (.int (nI o))], [], h)) step).trans ?_
  rw [lp_ct]
  try dsimp only
  rw [x144_c12]
  simp (disch := first | assumption | exact zz_nl_i _ | exact zz_nl_r _ | exact zz_nl_n | exact okv_i _ | exact okv_j _ | exact okv_0 | exact okv_1 | exact okv_o _ _ | exact okv_a _ _ | omega | exact llt_0 | ((repeat apply llt_s) <;> exact llt_0) | fail) only [x144, s0, nI_ltI, Nat.lt_irrefl, if_false, Nat.zero_add, mo_k_v, mo_k_n, mo_v_e, mo_gf_e, mo_pf_e, mo_ia_e, mo_ba_e, mo_za_e, mo_la_e, mo_aa_e, mo_le_e, mo_is_e, mo_bs_e, mo_zs_0, mo_zs_1, mo_ls_e, mo_as_e, mo_na_e, mo_aci_e, mo_acb_e, mo_acj_e, hp_gs, hp_gn, hp_ss, List.getElem?_cons_zero, List.getElem?_cons_succ, List.set_cons_zero, List.set_cons_succ]
/-- a record put: its rank, its tags, the rows -/
theorem c_put (hs : isStock h a p rk tg f) {q : Nat} (hq : q < 256) (x t : Int32) : zz_run 52 [.ref a, .int (nI q), .int x, .int t] h = some (none, hp_s (hp_s (hp_s h (a + 10) (.inl (.int, 256, .inl (upd rk q x)))) (a + 11) (.inl (.int, 256, .inl (upd tg q t)))) (a + 12 + 1) (.inl (.int, 8 * 21, .inl (putF f (pnv p) q (!decide (x = -1)) (linOf p t (pnv p)))))) := by
  obtain ⟨s0, s1, s2, s3, s4⟩ := hs
  have q2 := s1.2.2.2.2.2.2.2.2.2.2
  have hv := isV_nI (n := 256) (by omega) hq
  have key : ∀ g : Nat → Int32, isSets (hp_s (hp_s (hp_s h (a + 10) (.inl (.int, 256, .inl (upd rk q x)))) (a + 11) (.inl (.int, 256, .inl (upd tg q t)))) (a + 12 + 1) (.inl (.int, 8 * 21, .inl g))) (a + 12) 21 g := fun g => isSets_set (isSets_off (isSets_off s4 (by omega) (by omega)) (by omega) (by omega))
  have hs2 : isSets (hp_s (hp_s h (a + 10) (.inl (.int, 256, .inl (upd rk q x)))) (a + 11) (.inl (.int, 256, .inl (upd tg q t)))) (a + 12) 21 f := isSets_off (isSets_off s4 (by omega) (by omega)) (by omega) (by omega)
  have hpl : ∀ {h1 : zz_H} {b : Nat} {e : zz_E}, isPlan h1 (a + 1) p → (b < a + 1 ∨ a + 10 ≤ b) → isPlan (hp_s h1 b e) (a + 1) p := by
    intro h1 b e hp hb
    obtain ⟨p0, p1, p2, p3, p4, p5, p6, p7, p8, r1, r2⟩ := hp
    exact ⟨by rw [hp_gn (by omega)]; exact p0, by rw [hp_gn (by omega)]; exact p1, by rw [hp_gn (by omega)]; exact p2, by rw [hp_gn (by omega)]; exact p3, by rw [hp_gn (by omega)]; exact p4, by rw [hp_gn (by omega)]; exact p5, by rw [hp_gn (by omega)]; exact p6, by rw [hp_gn (by omega)]; exact p7, by rw [hp_gn (by omega)]; exact p8, r1, r2⟩
  have step : ∀ v (g : Nat → Int32), v < pnv p → zz_Y 52 (55, [some (.ref a), some (.int (nI q)), some (.int x), some (.int t), some (.int (linOf p t (pnv p))), some (.int (nI v))], [], hp_s (hp_s (hp_s h (a + 10) (.inl (.int, 256, .inl (upd rk q x)))) (a + 11) (.inl (.int, 256, .inl (upd tg q t)))) (a + 12 + 1) (.inl (.int, 8 * 21, .inl g))) =
      zz_Y 52 (55, [some (.ref a), some (.int (nI q)), some (.int x), some (.int t), some (.int (linOf p t (pnv p))), some (.int (nI (v + 1)))], [], hp_s (hp_s (hp_s h (a + 10) (.inl (.int, 256, .inl (upd rk q x)))) (a + 11) (.inl (.int, 256, .inl (upd tg q t)))) (a + 12 + 1) (.inl (.int, 8 * 21, .inl (upd g (8 * v + q / 32) (sbit (g (8 * v + q / 32)) (q % 32) (bt (linOf p t (pnv p)) v)))))) := by
    intro v g hv
    have hv21 : v < 21 := by omega
    have hv32 : v < 32 := by omega
    have e := c_setMember (key g) hv21 hq (bt (linOf p t (pnv p)) v)
    rw [x52_c55]
    simp (disch := first | assumption | exact zz_nl_i _ | exact zz_nl_r _ | exact zz_nl_n | exact okv_i _ | exact okv_j _ | exact okv_0 | exact okv_1 | exact okv_o _ _ | exact okv_a _ _ | omega | exact llt_0 | ((repeat apply llt_s) <;> exact llt_0) | fail) only [x52, s0, s1.1, nI_ltI, hv, if_true, c_hasBit hv32, e, nI_add, mo_k_v, mo_k_n, mo_v_e, mo_gf_e, mo_pf_e, mo_ia_e, mo_ba_e, mo_za_e, mo_la_e, mo_aa_e, mo_le_e, mo_is_e, mo_bs_e, mo_zs_0, mo_zs_1, mo_ls_e, mo_as_e, mo_na_e, mo_aci_e, mo_acb_e, mo_acj_e, hp_gs, hp_gn, hp_ss, List.getElem?_cons_zero, List.getElem?_cons_succ, List.set_cons_zero, List.set_cons_succ]
    rfl
  rw [en52 s0]
  have e20 := c_setMember hs2 (row := 20) (by omega) hq (!decide (x = -1))
  have hpl2 := c_lineage (hpl (e := .inl (.int, 8 * 21, .inl (upd f (8 * 20 + q / 32) (if (!decide (x = -1)) = true then f (8 * 20 + q / 32) ||| nI 1 <<< (nI (q % 32) &&& 31) else f (8 * 20 + q / 32) &&& (nI 1 <<< (nI (q % 32) &&& 31) ^^^ (-1)))))) (b := a + 12 + 1) (hpl (e := .inl (.int, 256, .inl (upd tg q t))) (b := a + 11) (hpl (e := .inl (.int, 256, .inl (upd rk q x))) (b := a + 10) s1 (by omega)) (by omega)) (by omega)) t
  have start : zz_Y 52 (0, [some (.ref a), some (.int (nI q)), some (.int x), some (.int t), none, none], [], h) = zz_Y 52 (55, [some (.ref a), some (.int (nI q)), some (.int x), some (.int t), some (.int (linOf p t (pnv p))), some (.int (nI 0))], [], hp_s (hp_s (hp_s h (a + 10) (.inl (.int, 256, .inl (upd rk q x)))) (a + 11) (.inl (.int, 256, .inl (upd tg q t)))) (a + 12 + 1) (.inl (.int, 8 * 21, .inl (putF f 0 q (!decide (x = -1)) (linOf p t (pnv p)))))) := by
    rw [← putF_0]
    by_cases hx : x = -1
    · simp only [hx, decide_true, Bool.not_true, Bool.false_eq_true, if_false] at e20 hpl2
      simp (disch := first | assumption | exact zz_nl_i _ | exact zz_nl_r _ | exact zz_nl_n | exact okv_i _ | exact okv_j _ | exact okv_0 | exact okv_1 | exact okv_o _ _ | exact okv_a _ _ | omega | exact llt_0 | ((repeat apply llt_s) <;> exact llt_0) | fail) only [x52, s0, s2, s3, c_isRecord, hv, bI_t, nI_01, if_false, if_true, hx, e20, hpl2, decide_true, Bool.not_true, mo_k_v, mo_k_n, mo_v_e, mo_gf_e, mo_pf_e, mo_ia_e, mo_ba_e, mo_za_e, mo_la_e, mo_aa_e, mo_le_e, mo_is_e, mo_bs_e, mo_zs_0, mo_zs_1, mo_ls_e, mo_as_e, mo_na_e, mo_aci_e, mo_acb_e, mo_acj_e, hp_gs, hp_gn, hp_ss, List.getElem?_cons_zero, List.getElem?_cons_succ, List.set_cons_zero, List.set_cons_succ]
      rfl
    · simp only [hx, decide_false, Bool.not_false, if_true] at e20 hpl2
      simp (disch := first | assumption | exact zz_nl_i _ | exact zz_nl_r _ | exact zz_nl_n | exact okv_i _ | exact okv_j _ | exact okv_0 | exact okv_1 | exact okv_o _ _ | exact okv_a _ _ | omega | exact llt_0 | ((repeat apply llt_s) <;> exact llt_0) | fail) only [x52, s0, s2, s3, c_isRecord, hv, bI_t, nI_01, if_false, if_true, hx, e20, hpl2, decide_false, Bool.not_false, mo_k_v, mo_k_n, mo_v_e, mo_gf_e, mo_pf_e, mo_ia_e, mo_ba_e, mo_za_e, mo_la_e, mo_aa_e, mo_le_e, mo_is_e, mo_bs_e, mo_zs_0, mo_zs_1, mo_ls_e, mo_as_e, mo_na_e, mo_aci_e, mo_acb_e, mo_acj_e, hp_gs, hp_gn, hp_ss, List.getElem?_cons_zero, List.getElem?_cons_succ, List.set_cons_zero, List.set_cons_succ]
      rfl
  rw [start]
  refine (lp_fold (N := pnv p) (St := fun v g => zz_Y 52 (55, [some (.ref a), some (.int (nI q)), some (.int x), some (.int t), some (.int (linOf p t (pnv p))), some (.int (nI v))], [], hp_s (hp_s (hp_s h (a + 10) (.inl (.int, 256, .inl (upd rk q x)))) (a + 11) (.inl (.int, 256, .inl (upd tg q t)))) (a + 12 + 1) (.inl (.int, 8 * 21, .inl g)))) (f := fun v g => upd g (8 * v + q / 32) (sbit (g (8 * v + q / 32)) (q % 32) (bt (linOf p t (pnv p)) v))) step).trans ?_
  have e : ∀ n, n ≤ pnv p → lp_it (fun v (g : Nat → Int32) => upd g (8 * v + q / 32) (sbit (g (8 * v + q / 32)) (q % 32) (bt (linOf p t (pnv p)) v))) n (putF f 0 q (!decide (x = -1)) (linOf p t (pnv p))) = putF f n q (!decide (x = -1)) (linOf p t (pnv p)) := by
    intro n
    induction n with
    | zero => exact fun _ => rfl
    | succ n ih =>
      intro hn
      rw [lp_it_s, ih (by omega)]
      exact putF_s hq (by omega)
  rw [e _ (Nat.le_refl _)]
  try dsimp only
  rw [x52_c55]
  simp (disch := first | assumption | exact zz_nl_i _ | exact zz_nl_r _ | exact zz_nl_n | exact okv_i _ | exact okv_j _ | exact okv_0 | exact okv_1 | exact okv_o _ _ | exact okv_a _ _ | omega | exact llt_0 | ((repeat apply llt_s) <;> exact llt_0) | fail) only [x52, s0, s1.1, nI_ltI, Nat.lt_irrefl, if_false, mo_k_v, mo_k_n, mo_v_e, mo_gf_e, mo_pf_e, mo_ia_e, mo_ba_e, mo_za_e, mo_la_e, mo_aa_e, mo_le_e, mo_is_e, mo_bs_e, mo_zs_0, mo_zs_1, mo_ls_e, mo_as_e, mo_na_e, mo_aci_e, mo_acb_e, mo_acj_e, hp_gs, hp_gn, hp_ss, List.getElem?_cons_zero, List.getElem?_cons_succ, List.set_cons_zero, List.set_cons_succ]
end
