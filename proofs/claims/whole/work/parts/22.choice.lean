/-! what was chosen, and what is left -/
def isChoice (h : zz_H) (a : Nat) (ch ba : Nat → Int32) : Prop := hp_g h a = some (.inr (0, [.ref (a + 1), .ref (a + 2)])) ∧ hp_g h (a + 1) = some (.inl (.int, 20, .inl ch)) ∧ hp_g h (a + 2) = some (.inl (.int, 4, .inl ba))
theorem c_wantedOf {h : zz_H} {a b : Nat} {ch ba : Nat → Int32} {p : Pl} (hc : isChoice h a ch ba) (hp : isPlan h b p) {hd fi si : Nat} (hh : hd < 4) (e2 : pfi p hd = nI fi) (e3 : psi p hd = nI si) (hs : fi + si ≤ 20) : zz_run 117 [.ref a, .ref b, .int (nI hd)] h = some (some (.int (nI (fb_ct (fun i => decide (ch (fi + i) = nI 1)) si))), h) := by
  obtain ⟨c0, c1, c2⟩ := hc
  obtain ⟨p0, p1, p2, p3, p4, p5, p6, p7, p8, q1, q2⟩ := hp
  have step : ∀ i s, i < si → zz_Y 117 (10, [some (.ref (a)), some (.ref (b)), some (.int (nI (hd))), some (.int (nI (s))), some (.int (nI (fi + i)))], [], h) = zz_Y 117 (10, [some (.ref (a)), some (.ref (b)), some (.int (nI (hd))), some (.int (nI (s + if decide (ch (fi + i) = nI 1) = true then 1 else 0))), some (.int (nI (fi + (i + 1))))], [], h) := by
    intro i s hi
    have hlt : fi + i < fi + si := by omega
    rw [x117_c10]
    by_cases h1 : ch (fi + i) = nI 1
    · simp (disch := first | assumption | exact zz_nl_i _ | exact zz_nl_r _ | exact zz_nl_n | exact okv_i _ | exact okv_j _ | exact okv_0 | exact okv_1 | exact okv_o _ _ | exact okv_a _ _ | omega | exact llt_0 | ((repeat apply llt_s) <;> exact llt_0) | fail) only [x117, c0, c1, p0, p3, p4, e2, e3, nI_add, nI_ltI, hlt, if_true, h1, decide_true, mo_k_v, mo_k_n, mo_v_e, mo_gf_e, mo_pf_e, mo_ia_e, mo_ba_e, mo_za_e, mo_la_e, mo_aa_e, mo_le_e, mo_is_e, mo_bs_e, mo_zs_0, mo_zs_1, mo_ls_e, mo_as_e, mo_na_e, mo_aci_e, mo_acb_e, mo_acj_e, hp_gs, hp_gn, hp_ss, List.getElem?_cons_zero, List.getElem?_cons_succ, List.set_cons_zero, List.set_cons_succ]
      rfl
    · simp (disch := first | assumption | exact zz_nl_i _ | exact zz_nl_r _ | exact zz_nl_n | exact okv_i _ | exact okv_j _ | exact okv_0 | exact okv_1 | exact okv_o _ _ | exact okv_a _ _ | omega | exact llt_0 | ((repeat apply llt_s) <;> exact llt_0) | fail) only [x117, c0, c1, p0, p3, p4, e2, e3, nI_add, nI_ltI, hlt, if_true, if_false, h1, decide_false, Bool.false_eq_true, mo_k_v, mo_k_n, mo_v_e, mo_gf_e, mo_pf_e, mo_ia_e, mo_ba_e, mo_za_e, mo_la_e, mo_aa_e, mo_le_e, mo_is_e, mo_bs_e, mo_zs_0, mo_zs_1, mo_ls_e, mo_as_e, mo_na_e, mo_aci_e, mo_acb_e, mo_acj_e, hp_gs, hp_gn, hp_ss, List.getElem?_cons_zero, List.getElem?_cons_succ, List.set_cons_zero, List.set_cons_succ]
      rfl
  rw [en117 c0]
  simp (disch := first | assumption | exact zz_nl_i _ | exact zz_nl_r _ | exact zz_nl_n | exact okv_i _ | exact okv_j _ | exact okv_0 | exact okv_1 | exact okv_o _ _ | exact okv_a _ _ | omega | exact llt_0 | ((repeat apply llt_s) <;> exact llt_0) | fail) only [x117, p0, p3, e2, mo_k_v, mo_k_n, mo_v_e, mo_gf_e, mo_pf_e, mo_ia_e, mo_ba_e, mo_za_e, mo_la_e, mo_aa_e, mo_le_e, mo_is_e, mo_bs_e, mo_zs_0, mo_zs_1, mo_ls_e, mo_as_e, mo_na_e, mo_aci_e, mo_acb_e, mo_acj_e, hp_gs, hp_gn, hp_ss, List.getElem?_cons_zero, List.getElem?_cons_succ, List.set_cons_zero, List.set_cons_succ]
  refine (lp_fold (N := si) (St := fun i s => zz_Y 117 (10, [some (.ref (a)), some (.ref (b)), some (.int (nI (hd))), some (.int (nI (s))), some (.int (nI (fi + i)))], [], h)) step).trans ?_
  rw [lp_ct]
  ((try dsimp only); rw [x117_c10]; simp (disch := first | assumption | exact zz_nl_i _ | exact zz_nl_r _ | exact zz_nl_n | exact okv_i _ | exact okv_j _ | exact okv_0 | exact okv_1 | exact okv_o _ _ | exact okv_a _ _ | omega | exact llt_0 | ((repeat apply llt_s) <;> exact llt_0) | fail) only [x117, nI_ltI, Nat.lt_irrefl, if_false, p0, p3, p4, e2, e3, nI_add, Nat.zero_add, mo_k_v, mo_k_n, mo_v_e, mo_gf_e, mo_pf_e, mo_ia_e, mo_ba_e, mo_za_e, mo_la_e, mo_aa_e, mo_le_e, mo_is_e, mo_bs_e, mo_zs_0, mo_zs_1, mo_ls_e, mo_as_e, mo_na_e, mo_aci_e, mo_acb_e, mo_acj_e, hp_gs, hp_gn, hp_ss, List.getElem?_cons_zero, List.getElem?_cons_succ, List.set_cons_zero, List.set_cons_succ])
/-- what a head lets through: some, each, shut, any -/
abbrev P4 : Type := Int32 × Int32 × Int32 × Bool
def psS (f ch : Nat → Int32) (blk : Nat) (op : Bool) (ex : Int32) (v : Nat) (s : P4) : P4 :=
  if (if nI v = ex then nI 1 else ch v) = nI 2 then (s.1, s.2.1, s.2.2.1 ||| f (8 * v + blk), s.2.2.2)
  else if (if nI v = ex then nI 1 else ch v) = nI 1 ∧ op = false then (s.1 ||| f (8 * v + blk), s.2.1 &&& f (8 * v + blk), s.2.2.1, true) else s
def psI (f ch : Nat → Int32) (fi si blk : Nat) (op : Bool) (ex : Int32) : P4 := lp_it (fun i => psS f ch blk op ex (fi + i)) si (nI 0, -1, nI 0, false)
def psE (al : Bool) (s : P4) : Int32 := if s.2.2.2 = false then s.2.2.1 ^^^ (-1) else (if al = true then s.2.1 else s.1) &&& (s.2.2.1 ^^^ (-1))
section
variable {h : zz_H} {a b : Nat} {ch ba : Nat → Int32} {p : Pl} {rk tg f : Nat → Int32}
theorem c_passedBy (hc : isChoice h a ch ba) (hs : isStock h b p rk tg f) {hd fi si : Nat} (hh : hd < 4) (e2 : pfi p hd = nI fi) (e3 : psi p hd = nI si) (hfs : fi + si ≤ 20) {blk : Nat} (hb : blk < 8) (op : Bool) (ex : Int32) : zz_run 104 [.ref a, .ref b, .int (nI hd), .int (nI blk), .int (bI op), .int ex] h = some (some (.int (psE (decide (ba hd = nI 1)) (psI f ch fi si blk op ex))), h) := by
  obtain ⟨c0, c1, c2⟩ := hc
  obtain ⟨t0, t1, t2, t3, t4⟩ := hs
  obtain ⟨p0, p1, p2, p3, p4, p5, p6, p7, p8, q1, q2⟩ := t1
  have step : ∀ i (s : P4) l, i < si → zz_nl l = true → ∃ l', zz_nl l' = true ∧ zz_Y 104 (27, [some (.ref (a)), some (.ref (b)), some (.int (nI (hd))), some (.int (nI (blk))), some (.int (bI (op))), some (.int (ex)), some (.ref (b + 1)), some (.int (s.1)), some (.int (s.2.1)), some (.int (s.2.2.1)), some (.int (bI (s.2.2.2))), some (.int (nI (fi + i))), l], [], h) = zz_Y 104 (27, [some (.ref (a)), some (.ref (b)), some (.int (nI (hd))), some (.int (nI (blk))), some (.int (bI (op))), some (.int (ex)), some (.ref (b + 1)), some (.int ((psS f ch blk op ex (fi + i) s).1)), some (.int ((psS f ch blk op ex (fi + i) s).2.1)), some (.int ((psS f ch blk op ex (fi + i) s).2.2.1)), some (.int (bI ((psS f ch blk op ex (fi + i) s).2.2.2))), some (.int (nI (fi + (i + 1)))), l'], [], h) := by
    rintro i ⟨s1, s2, s3, s4⟩ l hi nl
    refine ⟨_, zz_nl_i (if nI (fi + i) = ex then nI 1 else ch (fi + i)), ?_⟩
    have hlt : fi + i < fi + si := by omega
    have hv : fi + i < 21 := by omega
    have eb := c_bitsOf t4 hv hb
    have n21 : ¬ nI 2 = nI 1 := by decide +kernel
    have n12 : ¬ nI 1 = nI 2 := by decide +kernel
    dsimp only
    rw [x104_c27]
    unfold psS
    by_cases h0 : nI (fi + i) = ex
    · subst h0
      cases op
      · simp (disch := first | assumption | exact zz_nl_i _ | exact zz_nl_r _ | exact zz_nl_n | exact okv_i _ | exact okv_j _ | exact okv_0 | exact okv_1 | exact okv_o _ _ | exact okv_a _ _ | omega | exact llt_0 | ((repeat apply llt_s) <;> exact llt_0) | fail) only [x104_p0, x104_p1, c0, c1, p0, p3, p4, e2, e3, nI_add, nI_ltI, hlt, if_true, if_false, t0, n12, eb, bI_f, bI_t, and_self, mo_k_v, mo_k_n, mo_v_e, mo_gf_e, mo_pf_e, mo_ia_e, mo_ba_e, mo_za_e, mo_la_e, mo_aa_e, mo_le_e, mo_is_e, mo_bs_e, mo_zs_0, mo_zs_1, mo_ls_e, mo_as_e, mo_na_e, mo_aci_e, mo_acb_e, mo_acj_e, hp_gs, hp_gn, hp_ss, List.getElem?_cons_zero, List.getElem?_cons_succ, List.set_cons_zero, List.set_cons_succ]
        rfl
      · simp (disch := first | assumption | exact zz_nl_i _ | exact zz_nl_r _ | exact zz_nl_n | exact okv_i _ | exact okv_j _ | exact okv_0 | exact okv_1 | exact okv_o _ _ | exact okv_a _ _ | omega | exact llt_0 | ((repeat apply llt_s) <;> exact llt_0) | fail) only [x104_p0, x104_p1, c0, c1, p0, p3, p4, e2, e3, nI_add, nI_ltI, hlt, if_true, if_false, t0, n12, eb, bI_f, bI_t, nI_01, and_false, Bool.true_eq_false, mo_k_v, mo_k_n, mo_v_e, mo_gf_e, mo_pf_e, mo_ia_e, mo_ba_e, mo_za_e, mo_la_e, mo_aa_e, mo_le_e, mo_is_e, mo_bs_e, mo_zs_0, mo_zs_1, mo_ls_e, mo_as_e, mo_na_e, mo_aci_e, mo_acb_e, mo_acj_e, hp_gs, hp_gn, hp_ss, List.getElem?_cons_zero, List.getElem?_cons_succ, List.set_cons_zero, List.set_cons_succ]
        rfl
    · by_cases h1 : ch (fi + i) = nI 2
      · simp (disch := first | assumption | exact zz_nl_i _ | exact zz_nl_r _ | exact zz_nl_n | exact okv_i _ | exact okv_j _ | exact okv_0 | exact okv_1 | exact okv_o _ _ | exact okv_a _ _ | omega | exact llt_0 | ((repeat apply llt_s) <;> exact llt_0) | fail) only [x104_p0, x104_p1, c0, c1, p0, p3, p4, e2, e3, nI_add, nI_ltI, hlt, if_true, if_false, h0, h1, t0, eb, mo_k_v, mo_k_n, mo_v_e, mo_gf_e, mo_pf_e, mo_ia_e, mo_ba_e, mo_za_e, mo_la_e, mo_aa_e, mo_le_e, mo_is_e, mo_bs_e, mo_zs_0, mo_zs_1, mo_ls_e, mo_as_e, mo_na_e, mo_aci_e, mo_acb_e, mo_acj_e, hp_gs, hp_gn, hp_ss, List.getElem?_cons_zero, List.getElem?_cons_succ, List.set_cons_zero, List.set_cons_succ]
        rfl
      · by_cases h2 : ch (fi + i) = nI 1
        · cases op
          · simp (disch := first | assumption | exact zz_nl_i _ | exact zz_nl_r _ | exact zz_nl_n | exact okv_i _ | exact okv_j _ | exact okv_0 | exact okv_1 | exact okv_o _ _ | exact okv_a _ _ | omega | exact llt_0 | ((repeat apply llt_s) <;> exact llt_0) | fail) only [x104_p0, x104_p1, c0, c1, p0, p3, p4, e2, e3, nI_add, nI_ltI, hlt, if_true, if_false, h0, h1, h2, n12, t0, eb, bI_f, bI_t, and_self, mo_k_v, mo_k_n, mo_v_e, mo_gf_e, mo_pf_e, mo_ia_e, mo_ba_e, mo_za_e, mo_la_e, mo_aa_e, mo_le_e, mo_is_e, mo_bs_e, mo_zs_0, mo_zs_1, mo_ls_e, mo_as_e, mo_na_e, mo_aci_e, mo_acb_e, mo_acj_e, hp_gs, hp_gn, hp_ss, List.getElem?_cons_zero, List.getElem?_cons_succ, List.set_cons_zero, List.set_cons_succ]
            rfl
          · simp (disch := first | assumption | exact zz_nl_i _ | exact zz_nl_r _ | exact zz_nl_n | exact okv_i _ | exact okv_j _ | exact okv_0 | exact okv_1 | exact okv_o _ _ | exact okv_a _ _ | omega | exact llt_0 | ((repeat apply llt_s) <;> exact llt_0) | fail) only [x104_p0, x104_p1, c0, c1, p0, p3, p4, e2, e3, nI_add, nI_ltI, hlt, if_true, if_false, h0, h1, h2, n12, t0, eb, bI_f, bI_t, nI_01, and_false, Bool.true_eq_false, mo_k_v, mo_k_n, mo_v_e, mo_gf_e, mo_pf_e, mo_ia_e, mo_ba_e, mo_za_e, mo_la_e, mo_aa_e, mo_le_e, mo_is_e, mo_bs_e, mo_zs_0, mo_zs_1, mo_ls_e, mo_as_e, mo_na_e, mo_aci_e, mo_acb_e, mo_acj_e, hp_gs, hp_gn, hp_ss, List.getElem?_cons_zero, List.getElem?_cons_succ, List.set_cons_zero, List.set_cons_succ]
            rfl
        · simp (disch := first | assumption | exact zz_nl_i _ | exact zz_nl_r _ | exact zz_nl_n | exact okv_i _ | exact okv_j _ | exact okv_0 | exact okv_1 | exact okv_o _ _ | exact okv_a _ _ | omega | exact llt_0 | ((repeat apply llt_s) <;> exact llt_0) | fail) only [x104_p0, x104_p1, c0, c1, p0, p3, p4, e2, e3, nI_add, nI_ltI, hlt, if_true, if_false, h0, h1, h2, false_and, mo_k_v, mo_k_n, mo_v_e, mo_gf_e, mo_pf_e, mo_ia_e, mo_ba_e, mo_za_e, mo_la_e, mo_aa_e, mo_le_e, mo_is_e, mo_bs_e, mo_zs_0, mo_zs_1, mo_ls_e, mo_as_e, mo_na_e, mo_aci_e, mo_acb_e, mo_acj_e, hp_gs, hp_gn, hp_ss, List.getElem?_cons_zero, List.getElem?_cons_succ, List.set_cons_zero, List.set_cons_succ]
          rfl
  rw [en104 c0]
  simp (disch := first | assumption | exact zz_nl_i _ | exact zz_nl_r _ | exact zz_nl_n | exact okv_i _ | exact okv_j _ | exact okv_0 | exact okv_1 | exact okv_o _ _ | exact okv_a _ _ | omega | exact llt_0 | ((repeat apply llt_s) <;> exact llt_0) | fail) only [x104_p0, x104_p1, t0, p0, p3, e2, mo_k_v, mo_k_n, mo_v_e, mo_gf_e, mo_pf_e, mo_ia_e, mo_ba_e, mo_za_e, mo_la_e, mo_aa_e, mo_le_e, mo_is_e, mo_bs_e, mo_zs_0, mo_zs_1, mo_ls_e, mo_as_e, mo_na_e, mo_aci_e, mo_acb_e, mo_acj_e, hp_gs, hp_gn, hp_ss, List.getElem?_cons_zero, List.getElem?_cons_succ, List.set_cons_zero, List.set_cons_succ]
  obtain ⟨l', nl', e⟩ := lp_foldE (N := si) (St := fun i (s : P4) l => zz_Y 104 (27, [some (.ref (a)), some (.ref (b)), some (.int (nI (hd))), some (.int (nI (blk))), some (.int (bI (op))), some (.int (ex)), some (.ref (b + 1)), some (.int (s.1)), some (.int (s.2.1)), some (.int (s.2.2.1)), some (.int (bI (s.2.2.2))), some (.int (nI (fi + i))), l], [], h)) (s := (nI 0, -1, nI 0, false)) (Inv := fun l => zz_nl l = true) step (t := none) rfl
  refine e.trans ?_
  have el : lp_it (fun i => psS f ch blk op ex (fi + i)) si (nI 0, -1, nI 0, false) = psI f ch fi si blk op ex := rfl
  rw [el]
  generalize psI f ch fi si blk op ex = s
  obtain ⟨s1, s2, s3, s4⟩ := s
  dsimp only
  rw [x104_c27]
  unfold psE
  cases s4
  · simp (disch := first | assumption | exact zz_nl_i _ | exact zz_nl_r _ | exact zz_nl_n | exact okv_i _ | exact okv_j _ | exact okv_0 | exact okv_1 | exact okv_o _ _ | exact okv_a _ _ | omega | exact llt_0 | ((repeat apply llt_s) <;> exact llt_0) | fail) only [x104_p0, x104_p1, p0, p3, p4, e2, e3, nI_add, nI_ltI, Nat.lt_irrefl, if_false, if_true, bI_f, mo_k_v, mo_k_n, mo_v_e, mo_gf_e, mo_pf_e, mo_ia_e, mo_ba_e, mo_za_e, mo_la_e, mo_aa_e, mo_le_e, mo_is_e, mo_bs_e, mo_zs_0, mo_zs_1, mo_ls_e, mo_as_e, mo_na_e, mo_aci_e, mo_acb_e, mo_acj_e, hp_gs, hp_gn, hp_ss, List.getElem?_cons_zero, List.getElem?_cons_succ, List.set_cons_zero, List.set_cons_succ]
  · by_cases h1 : ba hd = nI 1
    · simp (disch := first | assumption | exact zz_nl_i _ | exact zz_nl_r _ | exact zz_nl_n | exact okv_i _ | exact okv_j _ | exact okv_0 | exact okv_1 | exact okv_o _ _ | exact okv_a _ _ | omega | exact llt_0 | ((repeat apply llt_s) <;> exact llt_0) | fail) only [x104_p0, x104_p1, p0, p3, p4, e2, e3, nI_add, nI_ltI, Nat.lt_irrefl, if_false, if_true, bI_t, nI_01, c0, c2, h1, decide_true, Bool.true_eq_false, mo_k_v, mo_k_n, mo_v_e, mo_gf_e, mo_pf_e, mo_ia_e, mo_ba_e, mo_za_e, mo_la_e, mo_aa_e, mo_le_e, mo_is_e, mo_bs_e, mo_zs_0, mo_zs_1, mo_ls_e, mo_as_e, mo_na_e, mo_aci_e, mo_acb_e, mo_acj_e, hp_gs, hp_gn, hp_ss, List.getElem?_cons_zero, List.getElem?_cons_succ, List.set_cons_zero, List.set_cons_succ]
    · simp (disch := first | assumption | exact zz_nl_i _ | exact zz_nl_r _ | exact zz_nl_n | exact okv_i _ | exact okv_j _ | exact okv_0 | exact okv_1 | exact okv_o _ _ | exact okv_a _ _ | omega | exact llt_0 | ((repeat apply llt_s) <;> exact llt_0) | fail) only [x104_p0, x104_p1, p0, p3, p4, e2, e3, nI_add, nI_ltI, Nat.lt_irrefl, if_false, if_true, bI_t, nI_01, c0, c2, h1, decide_false, Bool.true_eq_false, Bool.false_eq_true, mo_k_v, mo_k_n, mo_v_e, mo_gf_e, mo_pf_e, mo_ia_e, mo_ba_e, mo_za_e, mo_la_e, mo_aa_e, mo_le_e, mo_is_e, mo_bs_e, mo_zs_0, mo_zs_1, mo_ls_e, mo_as_e, mo_na_e, mo_aci_e, mo_acb_e, mo_acj_e, hp_gs, hp_gn, hp_ss, List.getElem?_cons_zero, List.getElem?_cons_succ, List.set_cons_zero, List.set_cons_succ]
/-- what is left of a block -/
def lfS (p : Pl) (f ch ba : Nat → Int32) (blk : Nat) (op ex : Int32) (hd : Nat) (w : Int32) : Int32 := w &&& psE (decide (ba hd = nI 1)) (psI f ch (pfi p hd).toNatClampNeg (psi p hd).toNatClampNeg blk (decide (nI hd = op)) ex)
def lfW (p : Pl) (f ch ba : Nat → Int32) (blk : Nat) (op ex : Int32) : Int32 := lp_it (lfS p f ch ba blk op ex) (pnh p) (f (8 * 20 + blk))
def wfF (p : Pl) : Prop := ∀ hd, hd < pnh p → ∃ fi si, pfi p hd = nI fi ∧ psi p hd = nI si ∧ fi + si ≤ pnv p
theorem lfS_0 (p : Pl) (f ch ba : Nat → Int32) (blk : Nat) (op ex : Int32) (hd : Nat) : lfS p f ch ba blk op ex hd (nI 0) = nI 0 := by
  unfold lfS
  exact b_ext (fun i _ => by rw [b_and, nI_0, b_0, Bool.false_and])
theorem c_leftIn {tp : Nat} {v3 v4 v5 v6 v8 v9 : Value} {an : Nat} (h0 : hp_g h a = some (.inr (1, [.ref tp, .ref (a + 3), .ref (a + 17), v3, v4, v5, v6, .ref an, v8, v9]))) (hs : isStock h (a + 3) p rk tg f) (hc : isChoice h (a + 17) ch ba) (hw : wfF p) {blk : Nat} (hb : blk < 8) (op ex : Int32) : zz_run 103 [.ref a, .int (nI blk), .int op, .int ex] h = some (some (.int (lfW p f ch ba blk op ex)), h) := by
  have hps := fun (hd fi si : Nat) (hh : hd < 4) (e2 : pfi p hd = nI fi) (e3 : psi p hd = nI si) (hfs : fi + si ≤ 20) (o : Bool) => c_passedBy hc hs hh e2 e3 hfs hb o ex
  obtain ⟨t0, t1, t2, t3, t4⟩ := hs
  have q1 := t1.2.2.2.2.2.2.2.2.2.1
  have q2 := t1.2.2.2.2.2.2.2.2.2.2
  have eb := c_bitsOf t4 (show 20 < 21 by omega) hb
  have key : ∀ d hd w, hd + d = pnh p → zz_Y 103 (18, [some (.ref (a)), some (.int (nI (blk))), some (.int (op)), some (.int (ex)), some (.int (w)), some (.int (nI (hd)))], [], h) = some (some (.int (lp_it (fun j => lfS p f ch ba blk op ex (hd + j)) d w)), h) := by
    intro d
    induction d with
    | zero =>
      intro hd w e
      have : hd = pnh p := by omega
      subst this
      rw [x103_c18]
      by_cases h1 : w = nI 0
      · simp (disch := first | assumption | exact zz_nl_i _ | exact zz_nl_r _ | exact zz_nl_n | exact okv_i _ | exact okv_j _ | exact okv_0 | exact okv_1 | exact okv_o _ _ | exact okv_a _ _ | omega | exact llt_0 | ((repeat apply llt_s) <;> exact llt_0) | fail) only [x103, h1, if_true, mo_k_v, mo_k_n, mo_v_e, mo_gf_e, mo_pf_e, mo_ia_e, mo_ba_e, mo_za_e, mo_la_e, mo_aa_e, mo_le_e, mo_is_e, mo_bs_e, mo_zs_0, mo_zs_1, mo_ls_e, mo_as_e, mo_na_e, mo_aci_e, mo_acb_e, mo_acj_e, hp_gs, hp_gn, hp_ss, List.getElem?_cons_zero, List.getElem?_cons_succ, List.set_cons_zero, List.set_cons_succ]
        rfl
      · simp (disch := first | assumption | exact zz_nl_i _ | exact zz_nl_r _ | exact zz_nl_n | exact okv_i _ | exact okv_j _ | exact okv_0 | exact okv_1 | exact okv_o _ _ | exact okv_a _ _ | omega | exact llt_0 | ((repeat apply llt_s) <;> exact llt_0) | fail) only [x103, h0, t0, t1.1, h1, if_false, nI_ltI, Nat.lt_irrefl, mo_k_v, mo_k_n, mo_v_e, mo_gf_e, mo_pf_e, mo_ia_e, mo_ba_e, mo_za_e, mo_la_e, mo_aa_e, mo_le_e, mo_is_e, mo_bs_e, mo_zs_0, mo_zs_1, mo_ls_e, mo_as_e, mo_na_e, mo_aci_e, mo_acb_e, mo_acj_e, hp_gs, hp_gn, hp_ss, List.getElem?_cons_zero, List.getElem?_cons_succ, List.set_cons_zero, List.set_cons_succ]
        rfl
    | succ d ih =>
      intro hd w e
      have hlt : hd < pnh p := by omega
      have hh4 : hd < 4 := by omega
      rw [x103_c18]
      by_cases h1 : w = nI 0
      · subst h1
        simp (disch := first | assumption | exact zz_nl_i _ | exact zz_nl_r _ | exact zz_nl_n | exact okv_i _ | exact okv_j _ | exact okv_0 | exact okv_1 | exact okv_o _ _ | exact okv_a _ _ | omega | exact llt_0 | ((repeat apply llt_s) <;> exact llt_0) | fail) only [x103, if_true, mo_k_v, mo_k_n, mo_v_e, mo_gf_e, mo_pf_e, mo_ia_e, mo_ba_e, mo_za_e, mo_la_e, mo_aa_e, mo_le_e, mo_is_e, mo_bs_e, mo_zs_0, mo_zs_1, mo_ls_e, mo_as_e, mo_na_e, mo_aci_e, mo_acb_e, mo_acj_e, hp_gs, hp_gn, hp_ss, List.getElem?_cons_zero, List.getElem?_cons_succ, List.set_cons_zero, List.set_cons_succ]
        have : ∀ m, lp_it (fun j => lfS p f ch ba blk op ex (hd + j)) m (nI 0) = nI 0 := by
          intro m
          induction m with
          | zero => rfl
          | succ m ihm => rw [lp_it_s, ihm, lfS_0]
        rw [this]
      · obtain ⟨fi, si, e2, e3, hfs⟩ := hw hd hlt
        have hp1 := hps hd fi si hh4 e2 e3 (by omega) true
        have hp0 := hps hd fi si hh4 e2 e3 (by omega) false
        rw [bI_t] at hp1
        rw [bI_f] at hp0
        have e4 : ∀ m, lp_it (fun j => lfS p f ch ba blk op ex (hd + j)) (m + 1) w = lp_it (fun j => lfS p f ch ba blk op ex (hd + 1 + j)) m (lfS p f ch ba blk op ex hd w) := by
          intro m
          induction m with
          | zero => rfl
          | succ m ihm => rw [lp_it_s, ihm, lp_it_s, show hd + (m + 1) = hd + 1 + m by omega]
        rw [e4]
        by_cases h2 : nI hd = op
        · have h2t := eq_true h2
          simp (disch := first | assumption | exact zz_nl_i _ | exact zz_nl_r _ | exact zz_nl_n | exact okv_i _ | exact okv_j _ | exact okv_0 | exact okv_1 | exact okv_o _ _ | exact okv_a _ _ | omega | exact llt_0 | ((repeat apply llt_s) <;> exact llt_0) | fail) only [x103, h0, t0, t1.1, h1, if_false, nI_ltI, hlt, if_true, h2t, hp1, nI_add, mo_k_v, mo_k_n, mo_v_e, mo_gf_e, mo_pf_e, mo_ia_e, mo_ba_e, mo_za_e, mo_la_e, mo_aa_e, mo_le_e, mo_is_e, mo_bs_e, mo_zs_0, mo_zs_1, mo_ls_e, mo_as_e, mo_na_e, mo_aci_e, mo_acb_e, mo_acj_e, hp_gs, hp_gn, hp_ss, List.getElem?_cons_zero, List.getElem?_cons_succ, List.set_cons_zero, List.set_cons_succ]
          refine (ih (hd + 1) _ (by omega)).trans ?_
          unfold lfS
          simp only [e2, e3, nI_clamp (show fi < 2147483648 by omega), nI_clamp (show si < 2147483648 by omega), h2t, decide_true]
        · simp (disch := first | assumption | exact zz_nl_i _ | exact zz_nl_r _ | exact zz_nl_n | exact okv_i _ | exact okv_j _ | exact okv_0 | exact okv_1 | exact okv_o _ _ | exact okv_a _ _ | omega | exact llt_0 | ((repeat apply llt_s) <;> exact llt_0) | fail) only [x103, h0, t0, t1.1, h1, if_false, nI_ltI, hlt, if_true, h2, hp0, nI_add, mo_k_v, mo_k_n, mo_v_e, mo_gf_e, mo_pf_e, mo_ia_e, mo_ba_e, mo_za_e, mo_la_e, mo_aa_e, mo_le_e, mo_is_e, mo_bs_e, mo_zs_0, mo_zs_1, mo_ls_e, mo_as_e, mo_na_e, mo_aci_e, mo_acb_e, mo_acj_e, hp_gs, hp_gn, hp_ss, List.getElem?_cons_zero, List.getElem?_cons_succ, List.set_cons_zero, List.set_cons_succ]
          refine (ih (hd + 1) _ (by omega)).trans ?_
          unfold lfS
          simp only [e2, e3, nI_clamp (show fi < 2147483648 by omega), nI_clamp (show si < 2147483648 by omega), h2, decide_false]
  rw [en103 h0]
  simp (disch := first | assumption | exact zz_nl_i _ | exact zz_nl_r _ | exact zz_nl_n | exact okv_i _ | exact okv_j _ | exact okv_0 | exact okv_1 | exact okv_o _ _ | exact okv_a _ _ | omega | exact llt_0 | ((repeat apply llt_s) <;> exact llt_0) | fail) only [x103, h0, t0, eb, mo_k_v, mo_k_n, mo_v_e, mo_gf_e, mo_pf_e, mo_ia_e, mo_ba_e, mo_za_e, mo_la_e, mo_aa_e, mo_le_e, mo_is_e, mo_bs_e, mo_zs_0, mo_zs_1, mo_ls_e, mo_as_e, mo_na_e, mo_aci_e, mo_acb_e, mo_acj_e, hp_gs, hp_gn, hp_ss, List.getElem?_cons_zero, List.getElem?_cons_succ, List.set_cons_zero, List.set_cons_succ]
  refine (key (pnh p) 0 _ (by omega)).trans ?_
  unfold lfW
  simp only [Nat.zero_add]
theorem c_amountLeft {tp : Nat} {v3 v4 v5 v6 v8 v9 : Value} {an : Nat} (h0 : hp_g h a = some (.inr (1, [.ref tp, .ref (a + 3), .ref (a + 17), v3, v4, v5, v6, .ref an, v8, v9]))) (hs : isStock h (a + 3) p rk tg f) (hc : isChoice h (a + 17) ch ba) (hw : wfF p) {row : Nat} (hr : row < 21) (op ex : Int32) : zz_run 102 [.ref a, .int op, .int ex, .int (nI row)] h = some (some (.int (nI (amt (fun blk => lfW p f ch ba blk op ex &&& f (8 * row + blk))))), h) := by
  have hlf := fun (blk : Nat) (hb : blk < 8) => c_leftIn h0 hs hc hw hb op ex
  obtain ⟨t0, t1, t2, t3, t4⟩ := hs
  have step : ∀ b s, b < 8 → zz_Y 102 (6, [some (.ref (a)), some (.int (op)), some (.int (ex)), some (.int (nI (row))), some (.int (nI (s))), some (.int (nI (b)))], [], h) = zz_Y 102 (6, [some (.ref (a)), some (.int (op)), some (.int (ex)), some (.int (nI (row))), some (.int (nI (s + pc (lfW p f ch ba b op ex &&& f (8 * row + b))))), some (.int (nI (b + 1)))], [], h) := by
    intro b s hb
    rw [x102_c6]
    simp (disch := first | assumption | exact zz_nl_i _ | exact zz_nl_r _ | exact zz_nl_n | exact okv_i _ | exact okv_j _ | exact okv_0 | exact okv_1 | exact okv_o _ _ | exact okv_a _ _ | omega | exact llt_0 | ((repeat apply llt_s) <;> exact llt_0) | fail) only [x102, h0, t0, nI_ltI, hb, if_true, hlf b hb, c_bitsOf t4 hr hb, c_bitCount, nI_add, mo_k_v, mo_k_n, mo_v_e, mo_gf_e, mo_pf_e, mo_ia_e, mo_ba_e, mo_za_e, mo_la_e, mo_aa_e, mo_le_e, mo_is_e, mo_bs_e, mo_zs_0, mo_zs_1, mo_ls_e, mo_as_e, mo_na_e, mo_aci_e, mo_acb_e, mo_acj_e, hp_gs, hp_gn, hp_ss, List.getElem?_cons_zero, List.getElem?_cons_succ, List.set_cons_zero, List.set_cons_succ]
  rw [en102 h0]
  simp (disch := first | assumption | exact zz_nl_i _ | exact zz_nl_r _ | exact zz_nl_n | exact okv_i _ | exact okv_j _ | exact okv_0 | exact okv_1 | exact okv_o _ _ | exact okv_a _ _ | omega | exact llt_0 | ((repeat apply llt_s) <;> exact llt_0) | fail) only [x102, mo_k_v, mo_k_n, mo_v_e, mo_gf_e, mo_pf_e, mo_ia_e, mo_ba_e, mo_za_e, mo_la_e, mo_aa_e, mo_le_e, mo_is_e, mo_bs_e, mo_zs_0, mo_zs_1, mo_ls_e, mo_as_e, mo_na_e, mo_aci_e, mo_acb_e, mo_acj_e, hp_gs, hp_gn, hp_ss, List.getElem?_cons_zero, List.getElem?_cons_succ, List.set_cons_zero, List.set_cons_succ]
  refine (lp_fold (N := 8) (St := fun b s => zz_Y 102 (6, [some (.ref (a)), some (.int (op)), some (.int (ex)), some (.int (nI (row))), some (.int (nI (s))), some (.int (nI (b)))], [], h)) step).trans ?_
  rw [lp_sum]
  ((try dsimp only); rw [x102_c6]; simp (disch := first | assumption | exact zz_nl_i _ | exact zz_nl_r _ | exact zz_nl_n | exact okv_i _ | exact okv_j _ | exact okv_0 | exact okv_1 | exact okv_o _ _ | exact okv_a _ _ | omega | exact llt_0 | ((repeat apply llt_s) <;> exact llt_0) | fail) only [x102, nI_ltI, Nat.lt_irrefl, if_false, Nat.zero_add, mo_k_v, mo_k_n, mo_v_e, mo_gf_e, mo_pf_e, mo_ia_e, mo_ba_e, mo_za_e, mo_la_e, mo_aa_e, mo_le_e, mo_is_e, mo_bs_e, mo_zs_0, mo_zs_1, mo_ls_e, mo_as_e, mo_na_e, mo_aci_e, mo_acb_e, mo_acj_e, hp_gs, hp_gn, hp_ss, List.getElem?_cons_zero, List.getElem?_cons_succ, List.set_cons_zero, List.set_cons_succ])
  rfl
end
