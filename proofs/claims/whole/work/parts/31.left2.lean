/-! what parts best, what is behind a value, the k-th shown -/
/-- best and least -/
def ptS (lf f ch : Nat → Int32) (v : Nat) (s : Int32 × Int32) : Int32 × Int32 :=
  if ch v = nI 0 ∧ nI (max (amt (fun b => lf b &&& f (8 * v + b))) (amt lf - amt (fun b => lf b &&& f (8 * v + b)))) < s.2 then (nI v, nI (max (amt (fun b => lf b &&& f (8 * v + b))) (amt lf - amt (fun b => lf b &&& f (8 * v + b))))) else s
def ptV (lf f ch : Nat → Int32) (nv : Nat) : Int32 := if 0 < amt lf then (lp_it (ptS lf f ch) nv (-1, nI (amt lf + 1))).1 else -1
def frC (rk lf : Nat → Int32) (x : Int32) : Nat := fb_ct (fun q => !decide (rk q < x) && pb lf q) 256
section
variable {h : zz_H} {X : Nat} {J : Jn} {im : Nat → Option Nat} {tb : Nat → Int32} {tl : Nat} {p : Pl} {rk tg f ch ba : Nat → Int32} {fk fp : Int32} {an : Bool} {aw : Int32} {af : Nat → Int32} {rs hd : Int32} {kn pl bf jt : Nat → Int32} {nx am : Nat} {lf : Nat → Int32}
theorem c_parting (hw : cW h X ((tb, tl), (p, rk, tg, f), (ch, ba), (fk, fp), (an, aw, af), (rs, hd)) J im) (hwf : wfP p) : ∃ k lf, zz_run 115 [.ref X] h = some (some (.int (ptV lf f ch (pnv p))), k) ∧ cW k X ((tb, tl), (p, rk, tg, f), (ch, ba), (fk, fp), (an, aw, af), (rs, hd)) J im ∧ frm h k X (X + 57) ∧ ∀ b, b < 8 → lf b = lfW p f ch ba b (-1) (-1) := by
  obtain ⟨k, lf, r, A, g, hl, hlf⟩ := c_look hw hwf
  have ra := lf_amount hl
  have hal := amt_le lf
  have rw' := fun v (hv : v < 21) => c_withLeft A hl hv
  have A' := A
  obtain ⟨w0, ⟨e0, e1, ⟨t0, t1, t2, t3, t4⟩, ⟨c0, c1, c2⟩, e4⟩, w2, w3, w4⟩ := A
  have q2 := t1.2.2.2.2.2.2.2.2.2.2
  unfold fsO at w0
  unfold evO at e0
  refine ⟨k, lf, ?_, A', g, hlf⟩
  rw [en115 hw.1]
  simp (disch := first | assumption | exact zz_nl_i _ | exact zz_nl_r _ | exact zz_nl_n | exact okv_i _ | exact okv_j _ | exact okv_0 | exact okv_1 | exact okv_o _ _ | exact okv_a _ _ | omega | exact llt_0 | ((repeat apply llt_s) <;> exact llt_0) | fail) only [x115, r, w0, ra, nI_add, mo_k_v, mo_k_n, mo_v_e, mo_gf_e, mo_pf_e, mo_ia_e, mo_ba_e, mo_za_e, mo_la_e, mo_aa_e, mo_le_e, mo_is_e, mo_bs_e, mo_zs_0, mo_zs_1, mo_ls_e, mo_as_e, mo_na_e, mo_aci_e, mo_acb_e, mo_acj_e, hp_gs, hp_gn, hp_ss, List.getElem?_cons_zero, List.getElem?_cons_succ, List.set_cons_zero, List.set_cons_succ]
  unfold ptV
  by_cases h0 : 0 < amt lf
  · rw [if_pos h0]
    have step : ∀ v (s : Int32 × Int32) (l : Option Value × Option Value), v < pnv p → (zz_nl l.1 = true ∧ zz_nl l.2 = true) → ∃ l' : Option Value × Option Value, (zz_nl l'.1 = true ∧ zz_nl l'.2 = true) ∧ zz_Y 115 (22, [some (.ref (X)), some (.int (nI (amt lf))), some (.int (s.1)), some (.int (s.2)), some (.int (nI (v))), l.1, l.2], [], k) = zz_Y 115 (22, [some (.ref (X)), some (.int (nI (amt lf))), some (.int ((ptS lf f ch v s).1)), some (.int ((ptS lf f ch v s).2)), some (.int (nI (v + 1))), l'.1, l'.2], [], k) := by
      rintro v ⟨s1, s2⟩ ⟨l5, l6⟩ hv ⟨n5, n6⟩
      have r2 := rw' v (by omega)
      have hle2 := amt_and_le lf (fun b => f (8 * v + b))
      dsimp only at n5 n6 ⊢
      rw [x115_c22]
      unfold ptS
      by_cases h1 : ch v = nI 0
      · refine ⟨(some (.int (nI (amt (fun b => lf b &&& f (8 * v + b))))), some (.int (nI (max (amt (fun b => lf b &&& f (8 * v + b))) (amt lf - amt (fun b => lf b &&& f (8 * v + b))))))), ⟨rfl, rfl⟩, ?_⟩
        have es : nI (amt lf) - nI (amt (fun b => lf b &&& f (8 * v + b))) = nI (amt lf - amt (fun b => lf b &&& f (8 * v + b))) := pk_sub hle2
        have em : (if amt (fun b => lf b &&& f (8 * v + b)) < amt lf - amt (fun b => lf b &&& f (8 * v + b)) then nI (amt lf - amt (fun b => lf b &&& f (8 * v + b))) else nI (amt (fun b => lf b &&& f (8 * v + b)))) = nI (max (amt (fun b => lf b &&& f (8 * v + b))) (amt lf - amt (fun b => lf b &&& f (8 * v + b)))) := by
          by_cases h5 : amt (fun b => lf b &&& f (8 * v + b)) < amt lf - amt (fun b => lf b &&& f (8 * v + b))
          · rw [if_pos h5, Nat.max_eq_right (by omega)]
          · rw [if_neg h5, Nat.max_eq_left (by omega)]
        by_cases h2 : nI (max (amt (fun b => lf b &&& f (8 * v + b))) (amt lf - amt (fun b => lf b &&& f (8 * v + b)))) < s2
        · simp (disch := first | assumption | exact zz_nl_i _ | exact zz_nl_r _ | exact zz_nl_n | exact okv_i _ | exact okv_j _ | exact okv_0 | exact okv_1 | exact okv_o _ _ | exact okv_a _ _ | omega | exact llt_0 | ((repeat apply llt_s) <;> exact llt_0) | fail) only [x115, nI_ltI, h0, if_true, w0, e0, t0, t1.1, hv, c0, c1, h1, r2, es, em, h2, nI_add, and_self, mo_k_v, mo_k_n, mo_v_e, mo_gf_e, mo_pf_e, mo_ia_e, mo_ba_e, mo_za_e, mo_la_e, mo_aa_e, mo_le_e, mo_is_e, mo_bs_e, mo_zs_0, mo_zs_1, mo_ls_e, mo_as_e, mo_na_e, mo_aci_e, mo_acb_e, mo_acj_e, hp_gs, hp_gn, hp_ss, List.getElem?_cons_zero, List.getElem?_cons_succ, List.set_cons_zero, List.set_cons_succ]
        · simp (disch := first | assumption | exact zz_nl_i _ | exact zz_nl_r _ | exact zz_nl_n | exact okv_i _ | exact okv_j _ | exact okv_0 | exact okv_1 | exact okv_o _ _ | exact okv_a _ _ | omega | exact llt_0 | ((repeat apply llt_s) <;> exact llt_0) | fail) only [x115, nI_ltI, h0, if_true, w0, e0, t0, t1.1, hv, c0, c1, h1, r2, es, em, h2, if_false, nI_add, and_false, mo_k_v, mo_k_n, mo_v_e, mo_gf_e, mo_pf_e, mo_ia_e, mo_ba_e, mo_za_e, mo_la_e, mo_aa_e, mo_le_e, mo_is_e, mo_bs_e, mo_zs_0, mo_zs_1, mo_ls_e, mo_as_e, mo_na_e, mo_aci_e, mo_acb_e, mo_acj_e, hp_gs, hp_gn, hp_ss, List.getElem?_cons_zero, List.getElem?_cons_succ, List.set_cons_zero, List.set_cons_succ]
      · refine ⟨(l5, l6), ⟨n5, n6⟩, ?_⟩
        simp (disch := first | assumption | exact zz_nl_i _ | exact zz_nl_r _ | exact zz_nl_n | exact okv_i _ | exact okv_j _ | exact okv_0 | exact okv_1 | exact okv_o _ _ | exact okv_a _ _ | omega | exact llt_0 | ((repeat apply llt_s) <;> exact llt_0) | fail) only [x115, nI_ltI, h0, if_true, w0, e0, t0, t1.1, hv, c0, c1, h1, if_false, nI_add, false_and, mo_k_v, mo_k_n, mo_v_e, mo_gf_e, mo_pf_e, mo_ia_e, mo_ba_e, mo_za_e, mo_la_e, mo_aa_e, mo_le_e, mo_is_e, mo_bs_e, mo_zs_0, mo_zs_1, mo_ls_e, mo_as_e, mo_na_e, mo_aci_e, mo_acb_e, mo_acj_e, hp_gs, hp_gn, hp_ss, List.getElem?_cons_zero, List.getElem?_cons_succ, List.set_cons_zero, List.set_cons_succ]
    obtain ⟨l', ⟨n5, n6⟩, e⟩ := lp_foldE (N := pnv p) (St := fun v (s : Int32 × Int32) (l : Option Value × Option Value) => zz_Y 115 (22, [some (.ref (X)), some (.int (nI (amt lf))), some (.int (s.1)), some (.int (s.2)), some (.int (nI (v))), l.1, l.2], [], k)) (s := (-1, nI (amt lf + 1))) (Inv := fun l => zz_nl l.1 = true ∧ zz_nl l.2 = true) step (t := (none, none)) ⟨rfl, rfl⟩
    refine e.trans ?_
    ((try dsimp only); rw [x115_c22]; simp (disch := first | assumption | exact zz_nl_i _ | exact zz_nl_r _ | exact zz_nl_n | exact okv_i _ | exact okv_j _ | exact okv_0 | exact okv_1 | exact okv_o _ _ | exact okv_a _ _ | omega | exact llt_0 | ((repeat apply llt_s) <;> exact llt_0) | fail) only [x115, nI_ltI, Nat.lt_irrefl, if_false, h0, if_true, w0, e0, t0, t1.1, mo_k_v, mo_k_n, mo_v_e, mo_gf_e, mo_pf_e, mo_ia_e, mo_ba_e, mo_za_e, mo_la_e, mo_aa_e, mo_le_e, mo_is_e, mo_bs_e, mo_zs_0, mo_zs_1, mo_ls_e, mo_as_e, mo_na_e, mo_aci_e, mo_acb_e, mo_acj_e, hp_gs, hp_gn, hp_ss, List.getElem?_cons_zero, List.getElem?_cons_succ, List.set_cons_zero, List.set_cons_succ])
  · rw [if_neg h0, x115_c22]
    simp (disch := first | assumption | exact zz_nl_i _ | exact zz_nl_r _ | exact zz_nl_n | exact okv_i _ | exact okv_j _ | exact okv_0 | exact okv_1 | exact okv_o _ _ | exact okv_a _ _ | omega | exact llt_0 | ((repeat apply llt_s) <;> exact llt_0) | fail) only [x115, nI_ltI, h0, if_false, mo_k_v, mo_k_n, mo_v_e, mo_gf_e, mo_pf_e, mo_ia_e, mo_ba_e, mo_za_e, mo_la_e, mo_aa_e, mo_le_e, mo_is_e, mo_bs_e, mo_zs_0, mo_zs_1, mo_ls_e, mo_as_e, mo_na_e, mo_aci_e, mo_acb_e, mo_acj_e, hp_gs, hp_gn, hp_ss, List.getElem?_cons_zero, List.getElem?_cons_succ, List.set_cons_zero, List.set_cons_succ]
theorem c_behind (hw : cW h X ((tb, tl), (p, rk, tg, f), (ch, ba), (fk, fp), (an, aw, af), (rs, hd)) J im) (hwf : wfP p) {v d : Nat} (hv : v < pnv p) (hd : d < pnh p) (ho : pho p v = nI d) : zz_run 122 [.ref X, .int (nI v)] h = some (some (.int (nI (amt (fun blk => lfW p f ch ba blk (if ba d = nI 1 then -1 else nI d) (-1) &&& f (8 * v + blk))))), h) := by
  obtain ⟨w0, ⟨e0, e1, e2, e3, e4⟩, w2, w3, w4⟩ := hw
  have q1 := e2.2.1.2.2.2.2.2.2.2.2.2.1
  have q2 := e2.2.1.2.2.2.2.2.2.2.2.2.2
  have rl := fun o => c_amountLeft e0 e2 e3 (wfP_F hwf) (row := v) (by omega) o (-1)
  obtain ⟨t0, t1, t2, t3, t4⟩ := e2
  obtain ⟨p0, p1, p2, p3, p4, p5, p6, p7, p8, _, _⟩ := t1
  obtain ⟨c0, c1, c2⟩ := e3
  unfold fsO at w0
  unfold evO at e0
  rw [en122 w0]
  by_cases h1 : ba d = nI 1
  · simp (disch := first | assumption | exact zz_nl_i _ | exact zz_nl_r _ | exact zz_nl_n | exact okv_i _ | exact okv_j _ | exact okv_0 | exact okv_1 | exact okv_o _ _ | exact okv_a _ _ | omega | exact llt_0 | ((repeat apply llt_s) <;> exact llt_0) | fail) only [x122, w0, e0, t0, p0, p6, ho, c0, c2, h1, if_true, nI_01, if_false, rl (-1), mo_k_v, mo_k_n, mo_v_e, mo_gf_e, mo_pf_e, mo_ia_e, mo_ba_e, mo_za_e, mo_la_e, mo_aa_e, mo_le_e, mo_is_e, mo_bs_e, mo_zs_0, mo_zs_1, mo_ls_e, mo_as_e, mo_na_e, mo_aci_e, mo_acb_e, mo_acj_e, hp_gs, hp_gn, hp_ss, List.getElem?_cons_zero, List.getElem?_cons_succ, List.set_cons_zero, List.set_cons_succ]
  · simp (disch := first | assumption | exact zz_nl_i _ | exact zz_nl_r _ | exact zz_nl_n | exact okv_i _ | exact okv_j _ | exact okv_0 | exact okv_1 | exact okv_o _ _ | exact okv_a _ _ | omega | exact llt_0 | ((repeat apply llt_s) <;> exact llt_0) | fail) only [x122, w0, e0, t0, p0, p6, ho, c0, c2, h1, if_true, if_false, rl (nI d), mo_k_v, mo_k_n, mo_v_e, mo_gf_e, mo_pf_e, mo_ia_e, mo_ba_e, mo_za_e, mo_la_e, mo_aa_e, mo_le_e, mo_is_e, mo_bs_e, mo_zs_0, mo_zs_1, mo_ls_e, mo_as_e, mo_na_e, mo_aci_e, mo_acb_e, mo_acj_e, hp_gs, hp_gn, hp_ss, List.getElem?_cons_zero, List.getElem?_cons_succ, List.set_cons_zero, List.set_cons_succ]
theorem c_rankFrom (hw : cW h X ((tb, tl), (p, rk, tg, f), (ch, ba), (fk, fp), (an, aw, af), (rs, hd)) J im) (hl : isSets h (X + 55) 1 lf) (x : Int32) : zz_run 129 [.ref X, .int x] h = some (some (.int (nI (frC rk lf x))), h) := by
  obtain ⟨w0, ⟨e0, e1, ⟨t0, t1, t2, t3, t4⟩, e3, e4⟩, w2, w3, w4⟩ := hw
  unfold fsO at w0
  unfold evO at e0
  have step : ∀ q s, q < 256 → zz_Y 129 (4, [some (.ref (X)), some (.int (x)), some (.int (nI (s))), some (.int (nI (q)))], [], h) = zz_Y 129 (4, [some (.ref (X)), some (.int (x)), some (.int (nI (s + if (!decide (rk q < x) && pb lf q) = true then 1 else 0))), some (.int (nI (q + 1)))], [], h) := by
    intro q s hq
    have r1 := c_holds hl (row := 0) (by omega) hq
    rw [show rw8 lf 0 = lf from funext fun b => by unfold rw8; rw [show 8 * 0 + b = b by omega]] at r1
    rw [x129_c4]
    by_cases h1 : rk q < x
    · simp (disch := first | assumption | exact zz_nl_i _ | exact zz_nl_r _ | exact zz_nl_n | exact okv_i _ | exact okv_j _ | exact okv_0 | exact okv_1 | exact okv_o _ _ | exact okv_a _ _ | omega | exact llt_0 | ((repeat apply llt_s) <;> exact llt_0) | fail) only [x129, w0, e0, t0, t2, nI_ltI, hq, if_true, h1, decide_true, Bool.not_true, Bool.false_and, Bool.false_eq_true, if_false, nI_add, Nat.add_zero, mo_k_v, mo_k_n, mo_v_e, mo_gf_e, mo_pf_e, mo_ia_e, mo_ba_e, mo_za_e, mo_la_e, mo_aa_e, mo_le_e, mo_is_e, mo_bs_e, mo_zs_0, mo_zs_1, mo_ls_e, mo_as_e, mo_na_e, mo_aci_e, mo_acb_e, mo_acj_e, hp_gs, hp_gn, hp_ss, List.getElem?_cons_zero, List.getElem?_cons_succ, List.set_cons_zero, List.set_cons_succ]
    · cases h2 : pb lf q
      · rw [h2] at r1
        simp (disch := first | assumption | exact zz_nl_i _ | exact zz_nl_r _ | exact zz_nl_n | exact okv_i _ | exact okv_j _ | exact okv_0 | exact okv_1 | exact okv_o _ _ | exact okv_a _ _ | omega | exact llt_0 | ((repeat apply llt_s) <;> exact llt_0) | fail) only [x129, w0, e0, t0, t2, nI_ltI, hq, if_true, h1, r1, decide_false, Bool.not_false, Bool.and_false, Bool.false_eq_true, if_false, nI_add, Nat.add_zero, mo_k_v, mo_k_n, mo_v_e, mo_gf_e, mo_pf_e, mo_ia_e, mo_ba_e, mo_za_e, mo_la_e, mo_aa_e, mo_le_e, mo_is_e, mo_bs_e, mo_zs_0, mo_zs_1, mo_ls_e, mo_as_e, mo_na_e, mo_aci_e, mo_acb_e, mo_acj_e, hp_gs, hp_gn, hp_ss, List.getElem?_cons_zero, List.getElem?_cons_succ, List.set_cons_zero, List.set_cons_succ]
      · rw [h2] at r1
        simp (disch := first | assumption | exact zz_nl_i _ | exact zz_nl_r _ | exact zz_nl_n | exact okv_i _ | exact okv_j _ | exact okv_0 | exact okv_1 | exact okv_o _ _ | exact okv_a _ _ | omega | exact llt_0 | ((repeat apply llt_s) <;> exact llt_0) | fail) only [x129, w0, e0, t0, t2, nI_ltI, hq, if_true, h1, r1, decide_false, Bool.not_false, Bool.and_self, if_false, nI_01, nI_add, mo_k_v, mo_k_n, mo_v_e, mo_gf_e, mo_pf_e, mo_ia_e, mo_ba_e, mo_za_e, mo_la_e, mo_aa_e, mo_le_e, mo_is_e, mo_bs_e, mo_zs_0, mo_zs_1, mo_ls_e, mo_as_e, mo_na_e, mo_aci_e, mo_acb_e, mo_acj_e, hp_gs, hp_gn, hp_ss, List.getElem?_cons_zero, List.getElem?_cons_succ, List.set_cons_zero, List.set_cons_succ]
  rw [en129 w0]
  simp (disch := first | assumption | exact zz_nl_i _ | exact zz_nl_r _ | exact zz_nl_n | exact okv_i _ | exact okv_j _ | exact okv_0 | exact okv_1 | exact okv_o _ _ | exact okv_a _ _ | omega | exact llt_0 | ((repeat apply llt_s) <;> exact llt_0) | fail) only [x129, mo_k_v, mo_k_n, mo_v_e, mo_gf_e, mo_pf_e, mo_ia_e, mo_ba_e, mo_za_e, mo_la_e, mo_aa_e, mo_le_e, mo_is_e, mo_bs_e, mo_zs_0, mo_zs_1, mo_ls_e, mo_as_e, mo_na_e, mo_aci_e, mo_acb_e, mo_acj_e, hp_gs, hp_gn, hp_ss, List.getElem?_cons_zero, List.getElem?_cons_succ, List.set_cons_zero, List.set_cons_succ]
  refine (lp_fold (N := 256) (St := fun q s => zz_Y 129 (4, [some (.ref (X)), some (.int (x)), some (.int (nI (s))), some (.int (nI (q)))], [], h)) step).trans ?_
  rw [lp_ct]
  ((try dsimp only); rw [x129_c4]; simp (disch := first | assumption | exact zz_nl_i _ | exact zz_nl_r _ | exact zz_nl_n | exact okv_i _ | exact okv_j _ | exact okv_0 | exact okv_1 | exact okv_o _ _ | exact okv_a _ _ | omega | exact llt_0 | ((repeat apply llt_s) <;> exact llt_0) | fail) only [x129, nI_ltI, Nat.lt_irrefl, if_false, Nat.zero_add, mo_k_v, mo_k_n, mo_v_e, mo_gf_e, mo_pf_e, mo_ia_e, mo_ba_e, mo_za_e, mo_la_e, mo_aa_e, mo_le_e, mo_is_e, mo_bs_e, mo_zs_0, mo_zs_1, mo_ls_e, mo_as_e, mo_na_e, mo_aci_e, mo_acb_e, mo_acj_e, hp_gs, hp_gn, hp_ss, List.getElem?_cons_zero, List.getElem?_cons_succ, List.set_cons_zero, List.set_cons_succ])
  rfl
theorem c_ofRank (hw : cW h X ((tb, tl), (p, rk, tg, f), (ch, ba), (fk, fp), (an, aw, af), (rs, hd)) J im) (hl : isSets h (X + 55) 1 lf) (x k : Int32) : zz_run 130 [.ref X, .int x, .int k] h = some (some (.int (KT (fun q => decide (rk q = x) && pb lf q) 256 k)), h) := by
  obtain ⟨w0, ⟨e0, e1, ⟨t0, t1, t2, t3, t4⟩, e3, e4⟩, w2, w3, w4⟩ := hw
  unfold fsO at w0
  unfold evO at e0
  have step : ∀ q c, q < 256 → c ≤ q → zz_Y 130 (5, [some (.ref (X)), some (.int (x)), some (.int (k)), some (.int (nI (c))), some (.int (nI (q)))], [], h) = if (decide (rk q = x) && pb lf q) = true then (if nI c = k then some (some (.int (nI q)), h) else zz_Y 130 (5, [some (.ref (X)), some (.int (x)), some (.int (k)), some (.int (nI (c + 1))), some (.int (nI (q + 1)))], [], h)) else zz_Y 130 (5, [some (.ref (X)), some (.int (x)), some (.int (k)), some (.int (nI (c))), some (.int (nI (q + 1)))], [], h) := by
    intro q c hq hc
    have r1 := c_holds hl (row := 0) (by omega) hq
    rw [show rw8 lf 0 = lf from funext fun b => by unfold rw8; rw [show 8 * 0 + b = b by omega]] at r1
    rw [x130_c5]
    by_cases h1 : rk q = x
    · cases h2 : pb lf q
      · rw [h2] at r1
        simp (disch := first | assumption | exact zz_nl_i _ | exact zz_nl_r _ | exact zz_nl_n | exact okv_i _ | exact okv_j _ | exact okv_0 | exact okv_1 | exact okv_o _ _ | exact okv_a _ _ | omega | exact llt_0 | ((repeat apply llt_s) <;> exact llt_0) | fail) only [x130, w0, e0, t0, t2, nI_ltI, hq, if_true, h1, r1, decide_true, Bool.and_false, Bool.false_eq_true, if_false, nI_add, mo_k_v, mo_k_n, mo_v_e, mo_gf_e, mo_pf_e, mo_ia_e, mo_ba_e, mo_za_e, mo_la_e, mo_aa_e, mo_le_e, mo_is_e, mo_bs_e, mo_zs_0, mo_zs_1, mo_ls_e, mo_as_e, mo_na_e, mo_aci_e, mo_acb_e, mo_acj_e, hp_gs, hp_gn, hp_ss, List.getElem?_cons_zero, List.getElem?_cons_succ, List.set_cons_zero, List.set_cons_succ]
      · rw [h2] at r1
        simp (disch := first | assumption | exact zz_nl_i _ | exact zz_nl_r _ | exact zz_nl_n | exact okv_i _ | exact okv_j _ | exact okv_0 | exact okv_1 | exact okv_o _ _ | exact okv_a _ _ | omega | exact llt_0 | ((repeat apply llt_s) <;> exact llt_0) | fail) only [x130, w0, e0, t0, t2, nI_ltI, hq, if_true, h1, r1, decide_true, Bool.and_self, if_false, nI_01, nI_add, mo_k_v, mo_k_n, mo_v_e, mo_gf_e, mo_pf_e, mo_ia_e, mo_ba_e, mo_za_e, mo_la_e, mo_aa_e, mo_le_e, mo_is_e, mo_bs_e, mo_zs_0, mo_zs_1, mo_ls_e, mo_as_e, mo_na_e, mo_aci_e, mo_acb_e, mo_acj_e, hp_gs, hp_gn, hp_ss, List.getElem?_cons_zero, List.getElem?_cons_succ, List.set_cons_zero, List.set_cons_succ]
    · simp (disch := first | assumption | exact zz_nl_i _ | exact zz_nl_r _ | exact zz_nl_n | exact okv_i _ | exact okv_j _ | exact okv_0 | exact okv_1 | exact okv_o _ _ | exact okv_a _ _ | omega | exact llt_0 | ((repeat apply llt_s) <;> exact llt_0) | fail) only [x130, w0, e0, t0, t2, nI_ltI, hq, if_true, h1, decide_false, Bool.false_and, Bool.false_eq_true, if_false, nI_add, mo_k_v, mo_k_n, mo_v_e, mo_gf_e, mo_pf_e, mo_ia_e, mo_ba_e, mo_za_e, mo_la_e, mo_aa_e, mo_le_e, mo_is_e, mo_bs_e, mo_zs_0, mo_zs_1, mo_ls_e, mo_as_e, mo_na_e, mo_aci_e, mo_acb_e, mo_acj_e, hp_gs, hp_gn, hp_ss, List.getElem?_cons_zero, List.getElem?_cons_succ, List.set_cons_zero, List.set_cons_succ]
  rw [en130 w0]
  simp (disch := first | assumption | exact zz_nl_i _ | exact zz_nl_r _ | exact zz_nl_n | exact okv_i _ | exact okv_j _ | exact okv_0 | exact okv_1 | exact okv_o _ _ | exact okv_a _ _ | omega | exact llt_0 | ((repeat apply llt_s) <;> exact llt_0) | fail) only [x130, mo_k_v, mo_k_n, mo_v_e, mo_gf_e, mo_pf_e, mo_ia_e, mo_ba_e, mo_za_e, mo_la_e, mo_aa_e, mo_le_e, mo_is_e, mo_bs_e, mo_zs_0, mo_zs_1, mo_ls_e, mo_as_e, mo_na_e, mo_aci_e, mo_acb_e, mo_acj_e, hp_gs, hp_gn, hp_ss, List.getElem?_cons_zero, List.getElem?_cons_succ, List.set_cons_zero, List.set_cons_succ]
  rcases lp_kth (N := 256) (St := fun q c => zz_Y 130 (5, [some (.ref (X)), some (.int (x)), some (.int (k)), some (.int (nI (c))), some (.int (nI (q)))], [], h)) (R := fun q => some (some (.int (nI q)), h)) (Z := some (some (.int (-1)), h)) (by omega) step (fun c _ => by ((try dsimp only); rw [x130_c5]; simp (disch := first | assumption | exact zz_nl_i _ | exact zz_nl_r _ | exact zz_nl_n | exact okv_i _ | exact okv_j _ | exact okv_0 | exact okv_1 | exact okv_o _ _ | exact okv_a _ _ | omega | exact llt_0 | ((repeat apply llt_s) <;> exact llt_0) | fail) only [x130, nI_ltI, Nat.lt_irrefl, if_false, mo_k_v, mo_k_n, mo_v_e, mo_gf_e, mo_pf_e, mo_ia_e, mo_ba_e, mo_za_e, mo_la_e, mo_aa_e, mo_le_e, mo_is_e, mo_bs_e, mo_zs_0, mo_zs_1, mo_ls_e, mo_as_e, mo_na_e, mo_aci_e, mo_acb_e, mo_acj_e, hp_gs, hp_gn, hp_ss, List.getElem?_cons_zero, List.getElem?_cons_succ, List.set_cons_zero, List.set_cons_succ])) with ⟨i, hi, e1, e2⟩ | ⟨e1, e2⟩
  · rw [e1]
    exact e2
  · rw [e1]
    exact e2
/-- the greatest rank that more than j of those left reach, bit by bit -/
def shS (rk lf : Nat → Int32) (j st r : Nat) : Nat := if r + st ≤ 999 ∧ j < frC rk lf (nI (r + st)) then r + st else r
def shR (rk lf : Nat → Int32) (j : Nat) : Nat := shS rk lf j 1 (shS rk lf j 2 (shS rk lf j 4 (shS rk lf j 8 (shS rk lf j 16 (shS rk lf j 32 (shS rk lf j 64 (shS rk lf j 128 (shS rk lf j 256 (shS rk lf j 512 0)))))))))
theorem shS_le (rk lf : Nat → Int32) (j st r : Nat) (hr : r ≤ 999) : shS rk lf j st r ≤ 999 := by
  unfold shS
  split
  · omega
  · exact hr
theorem frC_le (rk lf : Nat → Int32) (x : Int32) : frC rk lf x ≤ 256 := fb_ct_le _ _
theorem c_shownAt (hw : cW h X ((tb, tl), (p, rk, tg, f), (ch, ba), (fk, fp), (an, aw, af), (rs, hd)) J im) (hl : isSets h (X + 55) 1 lf) {j : Nat} (hj : j < amt lf) : zz_run 128 [.ref X, .int (nI j)] h = some (some (.int (KT (fun q => decide (rk q = nI (shR rk lf j)) && pb lf q) 256 (nI j - nI (frC rk lf (nI (shR rk lf j + 1)))))), h) := by
  have rf := fun x => c_rankFrom hw hl x
  have ro := fun x k => c_ofRank hw hl x k
  have ra := lf_amount hl
  have hal := amt_le lf
  have n2 : ¬ nI 2 = 0 := by decide +kernel
  have w0 := hw.1
  unfold fsO at w0
  have step : ∀ st r, 0 < st → st ≤ 512 → r ≤ 999 → zz_Y 128 (20, [some (.ref (X)), some (.int (nI (j))), some (.int (nI (r))), some (.int (nI (st)))], [], h) = zz_Y 128 (20, [some (.ref (X)), some (.int (nI (j))), some (.int (nI (shS rk lf j st r))), some (.int (nI (st / 2)))], [], h) := by
    intro st r h1 h2 h3
    have r1 := rf (nI (r + st))
    have hf := frC_le rk lf (nI (r + st))
    have ed : nI st / nI 2 = nI (st / 2) := pk_div (by omega) (by omega) (by omega)
    rw [x128_c20]
    unfold shS
    by_cases h4 : 999 < r + st
    · have h4' : ¬ r + st ≤ 999 := by omega
      simp (disch := first | assumption | exact zz_nl_i _ | exact zz_nl_r _ | exact zz_nl_n | exact okv_i _ | exact okv_j _ | exact okv_0 | exact okv_1 | exact okv_o _ _ | exact okv_a _ _ | omega | exact llt_0 | ((repeat apply llt_s) <;> exact llt_0) | fail) only [x128, nI_ltI, h1, if_true, nI_add, h4, h4', n2, ed, if_false, false_and, mo_k_v, mo_k_n, mo_v_e, mo_gf_e, mo_pf_e, mo_ia_e, mo_ba_e, mo_za_e, mo_la_e, mo_aa_e, mo_le_e, mo_is_e, mo_bs_e, mo_zs_0, mo_zs_1, mo_ls_e, mo_as_e, mo_na_e, mo_aci_e, mo_acb_e, mo_acj_e, hp_gs, hp_gn, hp_ss, List.getElem?_cons_zero, List.getElem?_cons_succ, List.set_cons_zero, List.set_cons_succ]
    · have h4' : r + st ≤ 999 := by omega
      by_cases h5 : j < frC rk lf (nI (r + st))
      · simp (disch := first | assumption | exact zz_nl_i _ | exact zz_nl_r _ | exact zz_nl_n | exact okv_i _ | exact okv_j _ | exact okv_0 | exact okv_1 | exact okv_o _ _ | exact okv_a _ _ | omega | exact llt_0 | ((repeat apply llt_s) <;> exact llt_0) | fail) only [x128, nI_ltI, h1, if_true, nI_add, h4, h4', n2, ed, if_false, r1, h5, and_self, mo_k_v, mo_k_n, mo_v_e, mo_gf_e, mo_pf_e, mo_ia_e, mo_ba_e, mo_za_e, mo_la_e, mo_aa_e, mo_le_e, mo_is_e, mo_bs_e, mo_zs_0, mo_zs_1, mo_ls_e, mo_as_e, mo_na_e, mo_aci_e, mo_acb_e, mo_acj_e, hp_gs, hp_gn, hp_ss, List.getElem?_cons_zero, List.getElem?_cons_succ, List.set_cons_zero, List.set_cons_succ]
      · simp (disch := first | assumption | exact zz_nl_i _ | exact zz_nl_r _ | exact zz_nl_n | exact okv_i _ | exact okv_j _ | exact okv_0 | exact okv_1 | exact okv_o _ _ | exact okv_a _ _ | omega | exact llt_0 | ((repeat apply llt_s) <;> exact llt_0) | fail) only [x128, nI_ltI, h1, if_true, nI_add, h4, h4', n2, ed, if_false, r1, h5, and_false, mo_k_v, mo_k_n, mo_v_e, mo_gf_e, mo_pf_e, mo_ia_e, mo_ba_e, mo_za_e, mo_la_e, mo_aa_e, mo_le_e, mo_is_e, mo_bs_e, mo_zs_0, mo_zs_1, mo_ls_e, mo_as_e, mo_na_e, mo_aci_e, mo_acb_e, mo_acj_e, hp_gs, hp_gn, hp_ss, List.getElem?_cons_zero, List.getElem?_cons_succ, List.set_cons_zero, List.set_cons_succ]
  have b0 : 0 ≤ 999 := by omega
  have b1 := shS_le rk lf j 512 _ b0
  have b2 := shS_le rk lf j 256 _ b1
  have b3 := shS_le rk lf j 128 _ b2
  have b4 := shS_le rk lf j 64 _ b3
  have b5 := shS_le rk lf j 32 _ b4
  have b6 := shS_le rk lf j 16 _ b5
  have b7 := shS_le rk lf j 8 _ b6
  have b8 := shS_le rk lf j 4 _ b7
  have b9 := shS_le rk lf j 2 _ b8
  have b10 := shS_le rk lf j 1 _ b9
  rw [en128 w0]
  simp (disch := first | assumption | exact zz_nl_i _ | exact zz_nl_r _ | exact zz_nl_n | exact okv_i _ | exact okv_j _ | exact okv_0 | exact okv_1 | exact okv_o _ _ | exact okv_a _ _ | omega | exact llt_0 | ((repeat apply llt_s) <;> exact llt_0) | fail) only [x128, w0, ra, nI_ltI, hj, if_true, mo_k_v, mo_k_n, mo_v_e, mo_gf_e, mo_pf_e, mo_ia_e, mo_ba_e, mo_za_e, mo_la_e, mo_aa_e, mo_le_e, mo_is_e, mo_bs_e, mo_zs_0, mo_zs_1, mo_ls_e, mo_as_e, mo_na_e, mo_aci_e, mo_acb_e, mo_acj_e, hp_gs, hp_gn, hp_ss, List.getElem?_cons_zero, List.getElem?_cons_succ, List.set_cons_zero, List.set_cons_succ]
  rw [step 512 0 (by omega) (by omega) b0, step (512 / 2) _ (by omega) (by omega) b1, step (512 / 2 / 2) _ (by omega) (by omega) b2, step (512 / 2 / 2 / 2) _ (by omega) (by omega) b3, step (512 / 2 / 2 / 2 / 2) _ (by omega) (by omega) b4, step (512 / 2 / 2 / 2 / 2 / 2) _ (by omega) (by omega) b5, step (512 / 2 / 2 / 2 / 2 / 2 / 2) _ (by omega) (by omega) b6, step (512 / 2 / 2 / 2 / 2 / 2 / 2 / 2) _ (by omega) (by omega) b7, step (512 / 2 / 2 / 2 / 2 / 2 / 2 / 2 / 2) _ (by omega) (by omega) b8, step (512 / 2 / 2 / 2 / 2 / 2 / 2 / 2 / 2 / 2) _ (by omega) (by omega) b9]
  have e : shS rk lf j (512 / 2 / 2 / 2 / 2 / 2 / 2 / 2 / 2 / 2) (shS rk lf j (512 / 2 / 2 / 2 / 2 / 2 / 2 / 2 / 2) (shS rk lf j (512 / 2 / 2 / 2 / 2 / 2 / 2 / 2) (shS rk lf j (512 / 2 / 2 / 2 / 2 / 2 / 2) (shS rk lf j (512 / 2 / 2 / 2 / 2 / 2) (shS rk lf j (512 / 2 / 2 / 2 / 2) (shS rk lf j (512 / 2 / 2 / 2) (shS rk lf j (512 / 2 / 2) (shS rk lf j (512 / 2) (shS rk lf j 512 0))))))))) = shR rk lf j := rfl
  have e2 : 512 / 2 / 2 / 2 / 2 / 2 / 2 / 2 / 2 / 2 / 2 = 0 := by decide
  have hb : shR rk lf j ≤ 999 := b10
  rw [e, e2, x128_c20]
  simp (disch := first | assumption | exact zz_nl_i _ | exact zz_nl_r _ | exact zz_nl_n | exact okv_i _ | exact okv_j _ | exact okv_0 | exact okv_1 | exact okv_o _ _ | exact okv_a _ _ | omega | exact llt_0 | ((repeat apply llt_s) <;> exact llt_0) | fail) only [x128, nI_ltI, Nat.lt_irrefl, if_false, nI_add, rf, ro, mo_k_v, mo_k_n, mo_v_e, mo_gf_e, mo_pf_e, mo_ia_e, mo_ba_e, mo_za_e, mo_la_e, mo_aa_e, mo_le_e, mo_is_e, mo_bs_e, mo_zs_0, mo_zs_1, mo_ls_e, mo_as_e, mo_na_e, mo_aci_e, mo_acb_e, mo_acj_e, hp_gs, hp_gn, hp_ss, List.getElem?_cons_zero, List.getElem?_cons_succ, List.set_cons_zero, List.set_cons_succ]
end
