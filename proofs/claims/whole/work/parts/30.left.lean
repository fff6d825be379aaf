/-! what is left: helpers -/
/-- a loop that looks for the k-th -/
theorem lp_kth {ρ : Type} {N : Nat} {St : Nat → Nat → ρ} {p : Nat → Bool} {k : Int32} {R : Nat → ρ} {Z : ρ} (hN : N < 2147483648) (hs : ∀ q c, q < N → c ≤ q → St q c = if p q = true then (if nI c = k then R q else St (q + 1) (c + 1)) else St (q + 1) c) (hz : ∀ c, c ≤ N → St N c = Z) : (∃ i, i < N ∧ KT p N k = nI i ∧ St 0 0 = R i) ∨ (KT p N k = -1 ∧ St 0 0 = Z) := by
  have hle := fun q => fb_ct_le p q
  have key : ∀ m, m ≤ N → (∀ i, i < m → ¬ (p i = true ∧ nI (fb_ct p i) = k)) → St 0 0 = St m (fb_ct p m) := by
    intro m
    induction m with
    | zero => exact fun _ _ => rfl
    | succ m ih =>
      intro hm hno
      rw [ih (by omega) (fun i hi => hno i (by omega)), hs m _ (by omega) (hle m), fb_ct_succ]
      have h1 := hno m (by omega)
      cases hp : p m
      · simp
      · have h2 : ¬ nI (fb_ct p m) = k := fun e => h1 ⟨hp, e⟩
        simp [h2]
  have none_case : (∀ i, i < N → ¬ (p i = true ∧ nI (fb_ct p i) = k)) → St 0 0 = Z := fun hno => (key N (Nat.le_refl N) hno).trans (hz _ (hle N))
  rcases neg_or k with hk | ⟨j, hj, rfl⟩
  · refine Or.inr ⟨KT_neg hk, none_case (fun i hi hc => ?_)⟩
    rw [← hc.2] at hk
    exact absurd hk (nI_nlt0 (by have := hle i; omega))
  · by_cases hlt : j < fb_ct p N
    · obtain ⟨i, hi, hp, hc⟩ := fb_ct_kth hlt
      refine Or.inl ⟨i, hi, by rw [KT_lt hlt hN, kth_of hi hp hc], ?_⟩
      rw [key i (by omega) (fun i' hi' hc' => ?_), hs i _ hi (hle i), hp, if_pos rfl, if_pos (by rw [hc])]
      have e1 := (nI_eq (by have := hle i'; omega) hj).mp hc'.2
      have e2 := fb_ct_kth_one hc'.1 hp (e1.trans hc.symm)
      omega
    · refine Or.inr ⟨KT_ge (by omega) hj, none_case (fun i hi hc => ?_)⟩
      have e1 := (nI_eq (by have := hle i; omega) hj).mp hc.2
      have e2 := fb_ct_mono p (show i + 1 ≤ N by omega)
      rw [fb_ct_succ, hc.1] at e2
      simp at e2
      omega
/-- a set of small numbers as bits -/
def setOf (q : Nat → Bool) (n : Nat) : Int32 := lp_it (fun v s => if q v = true then s ||| sh1 v else s) n (nI 0)
theorem bt_sh1 {v i : Nat} (hv : v < 32) (hi : i < 32) : bt (sh1 v) i = decide (i = v) := by
  unfold sh1
  rw [b_one hv hi]
theorem bt_setOf (q : Nat → Bool) {i : Nat} (hi : i < 32) : ∀ n, n ≤ 32 → bt (setOf q n) i = (decide (i < n) && q i)
  | 0, _ => by
    show bt (nI 0) i = _
    rw [nI_0, b_0]
    simp
  | n + 1, hn => by
    have ih := bt_setOf q hi n (by omega)
    unfold setOf at *
    rw [lp_it_s]
    cases hq : q n
    · rw [if_neg (by simp), ih]
      by_cases h1 : i = n
      · subst h1
        simp [hq]
      · congr 1
        simp
        omega
    · rw [if_pos rfl, b_or, ih, bt_sh1 (by omega) hi]
      by_cases h1 : i = n
      · subst h1
        simp [hq]
      · have : (i < n) = (i < n + 1) := by apply propext; omega
        simp [h1, this]
theorem setOf_false {q : Nat → Bool} {n : Nat} (h : ∀ v, v < n → q v = false) : setOf q n = nI 0 := by
  induction n with
  | zero => rfl
  | succ n ih =>
    unfold setOf at *
    rw [lp_it_s, h n (by omega), if_neg (by simp), ih (fun v hv => h v (by omega))]
theorem pc_and_le (x y : Int32) : pc (x &&& y) ≤ pc x := fb_ct_sub (fun k _ hk => by rw [b_and] at hk; exact (Bool.and_eq_true_iff.mp hk).1)
theorem amt_and_le (W V : Nat → Int32) : amt (fun b => W b &&& V b) ≤ amt W := fb_sm_le (fun k _ => pc_and_le _ _)
theorem amt_cong {W V : Nat → Int32} (h : ∀ b, b < 8 → W b = V b) : amt W = amt V := fb_sm_cong (fun k hk => by rw [h k hk])
section
variable {h : zz_H} {X : Nat} {J : Jn} {im : Nat → Option Nat} {tb : Nat → Int32} {tl : Nat} {p : Pl} {rk tg f ch ba : Nat → Int32} {fk fp : Int32} {an : Bool} {aw : Int32} {af : Nat → Int32} {rs hd : Int32} {kn pl bf jt : Nat → Int32} {nx am : Nat} {lf : Nat → Int32}
theorem cW_lf (hw : cW h X ((tb, tl), (p, rk, tg, f), (ch, ba), (fk, fp), (an, aw, af), (rs, hd)) J im) (hl : isSets h (X + 55) 1 lf) (g : Nat → Int32) : cW (hp_s h (X + 55 + 1) (.inl (.int, 8 * 1, .inl g))) X ((tb, tl), (p, rk, tg, f), (ch, ba), (fk, fp), (an, aw, af), (rs, hd)) J im ∧ isSets (hp_s h (X + 55 + 1) (.inl (.int, 8 * 1, .inl g))) (X + 55) 1 g ∧ frm h (hp_s h (X + 55 + 1) (.inl (.int, 8 * 1, .inl g))) X (X + 57) := by
  obtain ⟨w0, w1, w2, w3, w4⟩ := hw
  have hl2 := isSets_set (g := g) hl
  refine ⟨⟨?_, isEv_sam w1 (fun b h1 h2 => hp_gn (by omega)), ?_, isJn_sam w3 (fun b h1 h2 => hp_gn (by omega)), ?_⟩, hl2, ?_⟩
  · simp (disch := first | assumption | exact zz_nl_i _ | exact zz_nl_r _ | exact zz_nl_n | exact okv_i _ | exact okv_j _ | exact okv_0 | exact okv_1 | exact okv_o _ _ | exact okv_a _ _ | omega | exact llt_0 | ((repeat apply llt_s) <;> exact llt_0) | fail) only [w0, mo_k_v, mo_k_n, mo_v_e, mo_gf_e, mo_pf_e, mo_ia_e, mo_ba_e, mo_za_e, mo_la_e, mo_aa_e, mo_le_e, mo_is_e, mo_bs_e, mo_zs_0, mo_zs_1, mo_ls_e, mo_as_e, mo_na_e, mo_aci_e, mo_acb_e, mo_acj_e, hp_gs, hp_gn, hp_ss, List.getElem?_cons_zero, List.getElem?_cons_succ, List.set_cons_zero, List.set_cons_succ]
  · simp (disch := first | assumption | exact zz_nl_i _ | exact zz_nl_r _ | exact zz_nl_n | exact okv_i _ | exact okv_j _ | exact okv_0 | exact okv_1 | exact okv_o _ _ | exact okv_a _ _ | omega | exact llt_0 | ((repeat apply llt_s) <;> exact llt_0) | fail) only [w2, mo_k_v, mo_k_n, mo_v_e, mo_gf_e, mo_pf_e, mo_ia_e, mo_ba_e, mo_za_e, mo_la_e, mo_aa_e, mo_le_e, mo_is_e, mo_bs_e, mo_zs_0, mo_zs_1, mo_ls_e, mo_as_e, mo_na_e, mo_aci_e, mo_acb_e, mo_acj_e, hp_gs, hp_gn, hp_ss, List.getElem?_cons_zero, List.getElem?_cons_succ, List.set_cons_zero, List.set_cons_succ]
  · obtain ⟨⟨r1, r1'⟩, r2, ⟨b1, b2, b3, b4, r3⟩, ⟨c1, c2, c3, c4, c5, r4⟩, ⟨d1, r5⟩, ⟨e1, r6⟩, ⟨f1, r7⟩, ⟨g1, r8⟩⟩ := w4
    exact ⟨⟨tkX_sam r1 (fun b h1 h2 => hp_gn (by omega)), tkX_sam r1' (fun b h1 h2 => hp_gn (by omega))⟩, by rw [hp_gn (by omega)]; exact r2, ⟨b1, b2, b3, b4, isStock_s r3 (by omega)⟩, ⟨c1, c2, c3, c4, c5, by rw [hp_gn (by omega)]; exact r4⟩, ⟨d1, isSets_s r5 (by omega)⟩, ⟨e1, by rw [hp_gn (by omega)]; exact r6⟩, ⟨f1, by rw [hp_gn (by omega)]; exact r7⟩, ⟨g, hl2⟩⟩
  · repeat (first | exact frm_refl _ _ _ | refine frm_s (by omega) ?_)
theorem c_look (hw : cW h X ((tb, tl), (p, rk, tg, f), (ch, ba), (fk, fp), (an, aw, af), (rs, hd)) J im) (hwf : wfP p) : ∃ k lf, zz_run 112 [.ref X] h = some (none, k) ∧ cW k X ((tb, tl), (p, rk, tg, f), (ch, ba), (fk, fp), (an, aw, af), (rs, hd)) J im ∧ frm h k X (X + 57) ∧ isSets k (X + 55) 1 lf ∧ ∀ b, b < 8 → lf b = lfW p f ch ba b (-1) (-1) := by
  obtain ⟨lf, hl⟩ := hw.2.2.2.2.2.2.2.2.2.2.2
  have step : ∀ b g, b < 8 → zz_Y 112 (2, [some (.ref (X)), some (.int (nI (b)))], [], hp_s h (X + 55 + 1) (.inl (.int, 8 * 1, .inl g))) = zz_Y 112 (2, [some (.ref (X)), some (.int (nI (b + 1)))], [], hp_s h (X + 55 + 1) (.inl (.int, 8 * 1, .inl (upd g (8 * 0 + b) (lfW p f ch ba b (-1) (-1)))))) := by
    intro b g hb
    obtain ⟨A, hl2, _⟩ := cW_lf hw hl g
    obtain ⟨w0, ⟨e0, e1, e2, e3, e4⟩, w2, w3, w4⟩ := A
    have r1 := c_leftIn e0 e2 e3 (wfP_F hwf) hb (-1) (-1)
    have r2 := c_setBits hl2 (row := 0) (by omega) hb (lfW p f ch ba b (-1) (-1))
    unfold fsO at w0
    rw [x112_c2]
    simp (disch := first | assumption | exact zz_nl_i _ | exact zz_nl_r _ | exact zz_nl_n | exact okv_i _ | exact okv_j _ | exact okv_0 | exact okv_1 | exact okv_o _ _ | exact okv_a _ _ | omega | exact llt_0 | ((repeat apply llt_s) <;> exact llt_0) | fail) only [x112, nI_ltI, hb, if_true, w0, r1, r2, nI_add, mo_k_v, mo_k_n, mo_v_e, mo_gf_e, mo_pf_e, mo_ia_e, mo_ba_e, mo_za_e, mo_la_e, mo_aa_e, mo_le_e, mo_is_e, mo_bs_e, mo_zs_0, mo_zs_1, mo_ls_e, mo_as_e, mo_na_e, mo_aci_e, mo_acb_e, mo_acj_e, hp_gs, hp_gn, hp_ss, List.getElem?_cons_zero, List.getElem?_cons_succ, List.set_cons_zero, List.set_cons_succ]
  obtain ⟨A, hl2, g⟩ := cW_lf hw hl (lay8 lf 0 (fun b => lfW p f ch ba b (-1) (-1)) 8)
  refine ⟨_, _, ?_, A, g, hl2, ?_⟩
  · rw [en112 hw.1]
    simp (disch := first | assumption | exact zz_nl_i _ | exact zz_nl_r _ | exact zz_nl_n | exact okv_i _ | exact okv_j _ | exact okv_0 | exact okv_1 | exact okv_o _ _ | exact okv_a _ _ | omega | exact llt_0 | ((repeat apply llt_s) <;> exact llt_0) | fail) only [x112, mo_k_v, mo_k_n, mo_v_e, mo_gf_e, mo_pf_e, mo_ia_e, mo_ba_e, mo_za_e, mo_la_e, mo_aa_e, mo_le_e, mo_is_e, mo_bs_e, mo_zs_0, mo_zs_1, mo_ls_e, mo_as_e, mo_na_e, mo_aci_e, mo_acb_e, mo_acj_e, hp_gs, hp_gn, hp_ss, List.getElem?_cons_zero, List.getElem?_cons_succ, List.set_cons_zero, List.set_cons_succ]
    have e := lp_fold (N := 8) (St := fun b g => zz_Y 112 (2, [some (.ref (X)), some (.int (nI (b)))], [], hp_s h (X + 55 + 1) (.inl (.int, 8 * 1, .inl g)))) (s := lf) step
    rw [lp_lay, hp_same hl.2.1] at e
    refine e.trans ?_
    ((try dsimp only); rw [x112_c2]; simp (disch := first | assumption | exact zz_nl_i _ | exact zz_nl_r _ | exact zz_nl_n | exact okv_i _ | exact okv_j _ | exact okv_0 | exact okv_1 | exact okv_o _ _ | exact okv_a _ _ | omega | exact llt_0 | ((repeat apply llt_s) <;> exact llt_0) | fail) only [x112, nI_ltI, Nat.lt_irrefl, if_false, mo_k_v, mo_k_n, mo_v_e, mo_gf_e, mo_pf_e, mo_ia_e, mo_ba_e, mo_za_e, mo_la_e, mo_aa_e, mo_le_e, mo_is_e, mo_bs_e, mo_zs_0, mo_zs_1, mo_ls_e, mo_as_e, mo_na_e, mo_aci_e, mo_acb_e, mo_acj_e, hp_gs, hp_gn, hp_ss, List.getElem?_cons_zero, List.getElem?_cons_succ, List.set_cons_zero, List.set_cons_succ])
  · intro b hb
    unfold lay8
    rw [if_pos (by omega)]
    rfl
theorem c_withLeft (hw : cW h X ((tb, tl), (p, rk, tg, f), (ch, ba), (fk, fp), (an, aw, af), (rs, hd)) J im) (hl : isSets h (X + 55) 1 lf) {v : Nat} (hv : v < 21) : zz_run 113 [.ref X, .int (nI v)] h = some (some (.int (nI (amt (fun b => lf b &&& f (8 * v + b))))), h) := by
  obtain ⟨w0, ⟨e0, e1, ⟨t0, t1, t2, t3, t4⟩, e3, e4⟩, w2, w3, w4⟩ := hw
  unfold fsO at w0
  unfold evO at e0
  have step : ∀ b s, b < 8 → zz_Y 113 (4, [some (.ref (X)), some (.int (nI (v))), some (.int (nI (s))), some (.int (nI (b)))], [], h) = zz_Y 113 (4, [some (.ref (X)), some (.int (nI (v))), some (.int (nI (s + pc (lf b &&& f (8 * v + b))))), some (.int (nI (b + 1)))], [], h) := by
    intro b s hb
    have r1 := c_bitsOf hl (row := 0) (by omega) hb
    rw [show 8 * 0 + b = b by omega] at r1
    rw [x113_c4]
    simp (disch := first | assumption | exact zz_nl_i _ | exact zz_nl_r _ | exact zz_nl_n | exact okv_i _ | exact okv_j _ | exact okv_0 | exact okv_1 | exact okv_o _ _ | exact okv_a _ _ | omega | exact llt_0 | ((repeat apply llt_s) <;> exact llt_0) | fail) only [x113, w0, e0, t0, nI_ltI, hb, if_true, r1, c_bitsOf t4 hv hb, c_bitCount, nI_add, mo_k_v, mo_k_n, mo_v_e, mo_gf_e, mo_pf_e, mo_ia_e, mo_ba_e, mo_za_e, mo_la_e, mo_aa_e, mo_le_e, mo_is_e, mo_bs_e, mo_zs_0, mo_zs_1, mo_ls_e, mo_as_e, mo_na_e, mo_aci_e, mo_acb_e, mo_acj_e, hp_gs, hp_gn, hp_ss, List.getElem?_cons_zero, List.getElem?_cons_succ, List.set_cons_zero, List.set_cons_succ]
  rw [en113 w0]
  simp (disch := first | assumption | exact zz_nl_i _ | exact zz_nl_r _ | exact zz_nl_n | exact okv_i _ | exact okv_j _ | exact okv_0 | exact okv_1 | exact okv_o _ _ | exact okv_a _ _ | omega | exact llt_0 | ((repeat apply llt_s) <;> exact llt_0) | fail) only [x113, mo_k_v, mo_k_n, mo_v_e, mo_gf_e, mo_pf_e, mo_ia_e, mo_ba_e, mo_za_e, mo_la_e, mo_aa_e, mo_le_e, mo_is_e, mo_bs_e, mo_zs_0, mo_zs_1, mo_ls_e, mo_as_e, mo_na_e, mo_aci_e, mo_acb_e, mo_acj_e, hp_gs, hp_gn, hp_ss, List.getElem?_cons_zero, List.getElem?_cons_succ, List.set_cons_zero, List.set_cons_succ]
  refine (lp_fold (N := 8) (St := fun b s => zz_Y 113 (4, [some (.ref (X)), some (.int (nI (v))), some (.int (nI (s))), some (.int (nI (b)))], [], h)) step).trans ?_
  rw [lp_sum]
  ((try dsimp only); rw [x113_c4]; simp (disch := first | assumption | exact zz_nl_i _ | exact zz_nl_r _ | exact zz_nl_n | exact okv_i _ | exact okv_j _ | exact okv_0 | exact okv_1 | exact okv_o _ _ | exact okv_a _ _ | omega | exact llt_0 | ((repeat apply llt_s) <;> exact llt_0) | fail) only [x113, nI_ltI, Nat.lt_irrefl, if_false, Nat.zero_add, mo_k_v, mo_k_n, mo_v_e, mo_gf_e, mo_pf_e, mo_ia_e, mo_ba_e, mo_za_e, mo_la_e, mo_aa_e, mo_le_e, mo_is_e, mo_bs_e, mo_zs_0, mo_zs_1, mo_ls_e, mo_as_e, mo_na_e, mo_aci_e, mo_acb_e, mo_acj_e, hp_gs, hp_gn, hp_ss, List.getElem?_cons_zero, List.getElem?_cons_succ, List.set_cons_zero, List.set_cons_succ])
  rfl
theorem lf_amount (hl : isSets h (X + 55) 1 lf) : zz_run 62 [.ref (X + 55), .int (nI 0)] h = some (some (.int (nI (amt lf))), h) := by
  have r := c_amount hl (row := 0) (by omega)
  rw [show rw8 lf 0 = lf from funext fun b => by unfold rw8; rw [show 8 * 0 + b = b by omega]] at r
  exact r
def suB (lf f ch : Nat → Int32) (v : Nat) : Bool := decide (ch v = nI 0) && decide (amt (fun b => lf b &&& f (8 * v + b)) = amt lf) && decide (0 < amt lf)
theorem c_sure (hw : cW h X ((tb, tl), (p, rk, tg, f), (ch, ba), (fk, fp), (an, aw, af), (rs, hd)) J im) (hwf : wfP p) : ∃ k lf, zz_run 111 [.ref X] h = some (some (.int (setOf (suB lf f ch) (pnv p))), k) ∧ cW k X ((tb, tl), (p, rk, tg, f), (ch, ba), (fk, fp), (an, aw, af), (rs, hd)) J im ∧ frm h k X (X + 57) ∧ ∀ b, b < 8 → lf b = lfW p f ch ba b (-1) (-1) := by
  obtain ⟨k, lf, r, A, g, hl, hlf⟩ := c_look hw hwf
  have ra := lf_amount hl
  have hal := amt_le lf
  have rw' := fun v (hv : v < 21) => c_withLeft A hl hv
  have A' := A
  obtain ⟨w0, ⟨e0, e1, ⟨t0, t1, t2, t3, t4⟩, ⟨c0, c1, c2⟩, e4⟩, w2, w3, w4⟩ := A
  have q2 := t1.2.2.2.2.2.2.2.2.2.2
  unfold fsO at w0
  unfold evO at e0
  refine ⟨k, lf, ?_, A', g, hlf⟩
  rw [en111 hw.1]
  simp (disch := first | assumption | exact zz_nl_i _ | exact zz_nl_r _ | exact zz_nl_n | exact okv_i _ | exact okv_j _ | exact okv_0 | exact okv_1 | exact okv_o _ _ | exact okv_a _ _ | omega | exact llt_0 | ((repeat apply llt_s) <;> exact llt_0) | fail) only [x111, r, w0, ra, mo_k_v, mo_k_n, mo_v_e, mo_gf_e, mo_pf_e, mo_ia_e, mo_ba_e, mo_za_e, mo_la_e, mo_aa_e, mo_le_e, mo_is_e, mo_bs_e, mo_zs_0, mo_zs_1, mo_ls_e, mo_as_e, mo_na_e, mo_aci_e, mo_acb_e, mo_acj_e, hp_gs, hp_gn, hp_ss, List.getElem?_cons_zero, List.getElem?_cons_succ, List.set_cons_zero, List.set_cons_succ]
  by_cases h0 : 0 < amt lf
  · have step : ∀ v s, v < pnv p → zz_Y 111 (17, [some (.ref (X)), some (.int (nI (amt lf))), some (.int (s)), some (.int (nI (v)))], [], k) = zz_Y 111 (17, [some (.ref (X)), some (.int (nI (amt lf))), some (.int ((if suB lf f ch v = true then s ||| sh1 v else s))), some (.int (nI (v + 1)))], [], k) := by
      intro v s hv
      have r2 := rw' v (by omega)
      have hle2 := amt_and_le lf (fun b => f (8 * v + b))
      rw [x111_c17]
      unfold suB
      by_cases h1 : ch v = nI 0
      · by_cases h2 : amt (fun b => lf b &&& f (8 * v + b)) = amt lf
        · simp (disch := first | assumption | exact zz_nl_i _ | exact zz_nl_r _ | exact zz_nl_n | exact okv_i _ | exact okv_j _ | exact okv_0 | exact okv_1 | exact okv_o _ _ | exact okv_a _ _ | omega | exact llt_0 | ((repeat apply llt_s) <;> exact llt_0) | fail) only [x111, nI_ltI, h0, if_true, w0, e0, t0, t1.1, hv, c0, c1, h1, r2, h2, decide_true, Bool.and_self, nI_add, mo_k_v, mo_k_n, mo_v_e, mo_gf_e, mo_pf_e, mo_ia_e, mo_ba_e, mo_za_e, mo_la_e, mo_aa_e, mo_le_e, mo_is_e, mo_bs_e, mo_zs_0, mo_zs_1, mo_ls_e, mo_as_e, mo_na_e, mo_aci_e, mo_acb_e, mo_acj_e, hp_gs, hp_gn, hp_ss, List.getElem?_cons_zero, List.getElem?_cons_succ, List.set_cons_zero, List.set_cons_succ]
          rfl
        · have h2' : ¬ nI (amt (fun b => lf b &&& f (8 * v + b))) = nI (amt lf) := by
            rw [nI_eq (by omega) (by omega)]
            exact h2
          simp (disch := first | assumption | exact zz_nl_i _ | exact zz_nl_r _ | exact zz_nl_n | exact okv_i _ | exact okv_j _ | exact okv_0 | exact okv_1 | exact okv_o _ _ | exact okv_a _ _ | omega | exact llt_0 | ((repeat apply llt_s) <;> exact llt_0) | fail) only [x111, nI_ltI, h0, if_true, w0, e0, t0, t1.1, hv, c0, c1, h1, r2, h2, h2', if_false, decide_true, decide_false, Bool.and_false, Bool.false_and, Bool.false_eq_true, nI_add, mo_k_v, mo_k_n, mo_v_e, mo_gf_e, mo_pf_e, mo_ia_e, mo_ba_e, mo_za_e, mo_la_e, mo_aa_e, mo_le_e, mo_is_e, mo_bs_e, mo_zs_0, mo_zs_1, mo_ls_e, mo_as_e, mo_na_e, mo_aci_e, mo_acb_e, mo_acj_e, hp_gs, hp_gn, hp_ss, List.getElem?_cons_zero, List.getElem?_cons_succ, List.set_cons_zero, List.set_cons_succ]
      · simp (disch := first | assumption | exact zz_nl_i _ | exact zz_nl_r _ | exact zz_nl_n | exact okv_i _ | exact okv_j _ | exact okv_0 | exact okv_1 | exact okv_o _ _ | exact okv_a _ _ | omega | exact llt_0 | ((repeat apply llt_s) <;> exact llt_0) | fail) only [x111, nI_ltI, h0, if_true, w0, e0, t0, t1.1, hv, c0, c1, h1, if_false, decide_false, Bool.false_and, Bool.false_eq_true, nI_add, mo_k_v, mo_k_n, mo_v_e, mo_gf_e, mo_pf_e, mo_ia_e, mo_ba_e, mo_za_e, mo_la_e, mo_aa_e, mo_le_e, mo_is_e, mo_bs_e, mo_zs_0, mo_zs_1, mo_ls_e, mo_as_e, mo_na_e, mo_aci_e, mo_acb_e, mo_acj_e, hp_gs, hp_gn, hp_ss, List.getElem?_cons_zero, List.getElem?_cons_succ, List.set_cons_zero, List.set_cons_succ]
    refine (lp_fold (N := pnv p) (St := fun v s => zz_Y 111 (17, [some (.ref (X)), some (.int (nI (amt lf))), some (.int (s)), some (.int (nI (v)))], [], k)) step).trans ?_
    ((try dsimp only); rw [x111_c17]; simp (disch := first | assumption | exact zz_nl_i _ | exact zz_nl_r _ | exact zz_nl_n | exact okv_i _ | exact okv_j _ | exact okv_0 | exact okv_1 | exact okv_o _ _ | exact okv_a _ _ | omega | exact llt_0 | ((repeat apply llt_s) <;> exact llt_0) | fail) only [x111, nI_ltI, Nat.lt_irrefl, if_false, h0, if_true, w0, e0, t0, t1.1, mo_k_v, mo_k_n, mo_v_e, mo_gf_e, mo_pf_e, mo_ia_e, mo_ba_e, mo_za_e, mo_la_e, mo_aa_e, mo_le_e, mo_is_e, mo_bs_e, mo_zs_0, mo_zs_1, mo_ls_e, mo_as_e, mo_na_e, mo_aci_e, mo_acb_e, mo_acj_e, hp_gs, hp_gn, hp_ss, List.getElem?_cons_zero, List.getElem?_cons_succ, List.set_cons_zero, List.set_cons_succ])
    rfl
  · rw [x111_c17]
    simp (disch := first | assumption | exact zz_nl_i _ | exact zz_nl_r _ | exact zz_nl_n | exact okv_i _ | exact okv_j _ | exact okv_0 | exact okv_1 | exact okv_o _ _ | exact okv_a _ _ | omega | exact llt_0 | ((repeat apply llt_s) <;> exact llt_0) | fail) only [x111, nI_ltI, h0, if_false, mo_k_v, mo_k_n, mo_v_e, mo_gf_e, mo_pf_e, mo_ia_e, mo_ba_e, mo_za_e, mo_la_e, mo_aa_e, mo_le_e, mo_is_e, mo_bs_e, mo_zs_0, mo_zs_1, mo_ls_e, mo_as_e, mo_na_e, mo_aci_e, mo_acb_e, mo_acj_e, hp_gs, hp_gn, hp_ss, List.getElem?_cons_zero, List.getElem?_cons_succ, List.set_cons_zero, List.set_cons_succ]
    rw [setOf_false (fun v _ => by unfold suB; simp [h0])]
def idB (p : Pl) (f ch ba : Nat → Int32) (v : Nat) : Bool := decide (ch v = nI 0) && decide (amt (fun blk => lfW p f ch ba blk (-1) (nI v) &&& f (8 * 20 + blk)) = 0)
theorem c_idle (hw : cW h X ((tb, tl), (p, rk, tg, f), (ch, ba), (fk, fp), (an, aw, af), (rs, hd)) J im) (hwf : wfP p) : zz_run 114 [.ref X] h = some (some (.int (setOf (idB p f ch ba) (pnv p))), h) := by
  obtain ⟨w0, ⟨e0, e1, e2, e3, e4⟩, w2, w3, w4⟩ := hw
  have rl := fun v => c_amountLeft e0 e2 e3 (wfP_F hwf) (row := 20) (by omega) (-1) (nI v)
  obtain ⟨t0, t1, t2, t3, t4⟩ := e2
  obtain ⟨c0, c1, c2⟩ := e3
  have q2 := t1.2.2.2.2.2.2.2.2.2.2
  unfold fsO at w0
  unfold evO at e0
  have step : ∀ v s, v < pnv p → zz_Y 114 (4, [some (.ref (X)), some (.int (s)), some (.int (nI (v)))], [], h) = zz_Y 114 (4, [some (.ref (X)), some (.int ((if idB p f ch ba v = true then s ||| sh1 v else s))), some (.int (nI (v + 1)))], [], h) := by
    intro v s hv
    have r2 := rl v
    have hle2 := amt_le (fun blk => lfW p f ch ba blk (-1) (nI v) &&& f (8 * 20 + blk))
    rw [x114_c4]
    unfold idB
    by_cases h1 : ch v = nI 0
    · by_cases h2 : amt (fun blk => lfW p f ch ba blk (-1) (nI v) &&& f (8 * 20 + blk)) = 0
      · simp (disch := first | assumption | exact zz_nl_i _ | exact zz_nl_r _ | exact zz_nl_n | exact okv_i _ | exact okv_j _ | exact okv_0 | exact okv_1 | exact okv_o _ _ | exact okv_a _ _ | omega | exact llt_0 | ((repeat apply llt_s) <;> exact llt_0) | fail) only [x114, nI_ltI, if_true, w0, e0, t0, t1.1, hv, c0, c1, h1, r2, h2, decide_true, Bool.and_self, nI_add, mo_k_v, mo_k_n, mo_v_e, mo_gf_e, mo_pf_e, mo_ia_e, mo_ba_e, mo_za_e, mo_la_e, mo_aa_e, mo_le_e, mo_is_e, mo_bs_e, mo_zs_0, mo_zs_1, mo_ls_e, mo_as_e, mo_na_e, mo_aci_e, mo_acb_e, mo_acj_e, hp_gs, hp_gn, hp_ss, List.getElem?_cons_zero, List.getElem?_cons_succ, List.set_cons_zero, List.set_cons_succ]
        rfl
      · have h2' : ¬ nI (amt (fun blk => lfW p f ch ba blk (-1) (nI v) &&& f (8 * 20 + blk))) = nI 0 := by
          rw [nI_eq (by omega) (by omega)]
          exact h2
        simp (disch := first | assumption | exact zz_nl_i _ | exact zz_nl_r _ | exact zz_nl_n | exact okv_i _ | exact okv_j _ | exact okv_0 | exact okv_1 | exact okv_o _ _ | exact okv_a _ _ | omega | exact llt_0 | ((repeat apply llt_s) <;> exact llt_0) | fail) only [x114, nI_ltI, if_true, w0, e0, t0, t1.1, hv, c0, c1, h1, r2, h2, h2', if_false, decide_true, decide_false, Bool.and_false, Bool.false_eq_true, nI_add, mo_k_v, mo_k_n, mo_v_e, mo_gf_e, mo_pf_e, mo_ia_e, mo_ba_e, mo_za_e, mo_la_e, mo_aa_e, mo_le_e, mo_is_e, mo_bs_e, mo_zs_0, mo_zs_1, mo_ls_e, mo_as_e, mo_na_e, mo_aci_e, mo_acb_e, mo_acj_e, hp_gs, hp_gn, hp_ss, List.getElem?_cons_zero, List.getElem?_cons_succ, List.set_cons_zero, List.set_cons_succ]
    · simp (disch := first | assumption | exact zz_nl_i _ | exact zz_nl_r _ | exact zz_nl_n | exact okv_i _ | exact okv_j _ | exact okv_0 | exact okv_1 | exact okv_o _ _ | exact okv_a _ _ | omega | exact llt_0 | ((repeat apply llt_s) <;> exact llt_0) | fail) only [x114, nI_ltI, if_true, w0, e0, t0, t1.1, hv, c0, c1, h1, if_false, decide_false, Bool.false_and, Bool.false_eq_true, nI_add, mo_k_v, mo_k_n, mo_v_e, mo_gf_e, mo_pf_e, mo_ia_e, mo_ba_e, mo_za_e, mo_la_e, mo_aa_e, mo_le_e, mo_is_e, mo_bs_e, mo_zs_0, mo_zs_1, mo_ls_e, mo_as_e, mo_na_e, mo_aci_e, mo_acb_e, mo_acj_e, hp_gs, hp_gn, hp_ss, List.getElem?_cons_zero, List.getElem?_cons_succ, List.set_cons_zero, List.set_cons_succ]
  rw [en114 w0]
  simp (disch := first | assumption | exact zz_nl_i _ | exact zz_nl_r _ | exact zz_nl_n | exact okv_i _ | exact okv_j _ | exact okv_0 | exact okv_1 | exact okv_o _ _ | exact okv_a _ _ | omega | exact llt_0 | ((repeat apply llt_s) <;> exact llt_0) | fail) only [x114, mo_k_v, mo_k_n, mo_v_e, mo_gf_e, mo_pf_e, mo_ia_e, mo_ba_e, mo_za_e, mo_la_e, mo_aa_e, mo_le_e, mo_is_e, mo_bs_e, mo_zs_0, mo_zs_1, mo_ls_e, mo_as_e, mo_na_e, mo_aci_e, mo_acb_e, mo_acj_e, hp_gs, hp_gn, hp_ss, List.getElem?_cons_zero, List.getElem?_cons_succ, List.set_cons_zero, List.set_cons_succ]
  refine (lp_fold (N := pnv p) (St := fun v s => zz_Y 114 (4, [some (.ref (X)), some (.int (s)), some (.int (nI (v)))], [], h)) step).trans ?_
  ((try dsimp only); rw [x114_c4]; simp (disch := first | assumption | exact zz_nl_i _ | exact zz_nl_r _ | exact zz_nl_n | exact okv_i _ | exact okv_j _ | exact okv_0 | exact okv_1 | exact okv_o _ _ | exact okv_a _ _ | omega | exact llt_0 | ((repeat apply llt_s) <;> exact llt_0) | fail) only [x114, nI_ltI, Nat.lt_irrefl, if_false, w0, e0, t0, t1.1, mo_k_v, mo_k_n, mo_v_e, mo_gf_e, mo_pf_e, mo_ia_e, mo_ba_e, mo_za_e, mo_la_e, mo_aa_e, mo_le_e, mo_is_e, mo_bs_e, mo_zs_0, mo_zs_1, mo_ls_e, mo_as_e, mo_na_e, mo_aci_e, mo_acb_e, mo_acj_e, hp_gs, hp_gn, hp_ss, List.getElem?_cons_zero, List.getElem?_cons_succ, List.set_cons_zero, List.set_cons_succ])
  rfl
end
