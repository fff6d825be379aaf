/-! what changes, and what stays -/
def frm (h k : zz_H) (lo hi : Nat) : Prop := k.1 = h.1 ∧ k.2.1 = h.2.1 ∧ k.2.2.2 = h.2.2.2 ∧ ∀ b, (b < lo ∨ hi ≤ b) → hp_g k b = hp_g h b
theorem frm_refl (h : zz_H) (lo hi : Nat) : frm h h lo hi := ⟨rfl, rfl, rfl, fun _ _ => rfl⟩
theorem frm_s {h k : zz_H} {lo hi b : Nat} {e : zz_E} (hb : lo ≤ b ∧ b < hi) (hf : frm h k lo hi) : frm h (hp_s k b e) lo hi := ⟨hf.1, hf.2.1, hf.2.2.1, fun c hc => by rw [hp_gn (by omega)]; exact hf.2.2.2 c hc⟩
theorem frm_trans {h k l : zz_H} {lo hi : Nat} (h1 : frm h k lo hi) (h2 : frm k l lo hi) : frm h l lo hi := ⟨h2.1.trans h1.1, h2.2.1.trans h1.2.1, h2.2.2.1.trans h1.2.2.1, fun b hb => (h2.2.2.2 b hb).trans (h1.2.2.2 b hb)⟩
theorem frm_mono {h k : zz_H} {lo hi lo' hi' : Nat} (h1 : frm h k lo hi) (hl : lo' ≤ lo) (hh : hi ≤ hi') : frm h k lo' hi' := ⟨h1.1, h1.2.1, h1.2.2.1, fun b hb => h1.2.2.2 b (by omega)⟩
/-- the same from lo up to hi -/
def sam (h k : zz_H) (lo hi : Nat) : Prop := ∀ b, lo ≤ b → b < hi → hp_g k b = hp_g h b
theorem frm_sam {h k : zz_H} {lo hi lo' hi' : Nat} (h1 : frm h k lo hi) (hd : hi' ≤ lo ∨ hi ≤ lo') : sam h k lo' hi' := fun b h2 h3 => h1.2.2.2 b (by omega)
theorem sam_sub {h k : zz_H} {lo hi lo' hi' : Nat} (h1 : sam h k lo hi) (hl : lo ≤ lo') (hh : hi' ≤ hi) : sam h k lo' hi' := fun b h2 h3 => h1 b (by omega) (by omega)
section
variable {h k : zz_H} {a : Nat}
theorem isPlan_sam {p : Pl} (hp : isPlan h a p) (hs : sam h k a (a + 9)) : isPlan k a p := by
  obtain ⟨p0, p1, p2, p3, p4, p5, p6, p7, p8, q1, q2⟩ := hp
  exact ⟨(hs _ (by omega) (by omega)).trans p0, (hs _ (by omega) (by omega)).trans p1, (hs _ (by omega) (by omega)).trans p2, (hs _ (by omega) (by omega)).trans p3, (hs _ (by omega) (by omega)).trans p4, (hs _ (by omega) (by omega)).trans p5, (hs _ (by omega) (by omega)).trans p6, (hs _ (by omega) (by omega)).trans p7, (hs _ (by omega) (by omega)).trans p8, q1, q2⟩
theorem isSets_sam {r : Nat} {f : Nat → Int32} (hp : isSets h a r f) (hs : sam h k a (a + 2)) : isSets k a r f := ⟨(hs _ (by omega) (by omega)).trans hp.1, (hs _ (by omega) (by omega)).trans hp.2.1, hp.2.2⟩
theorem isTape_sam {tb : Nat → Int32} {tl : Nat} (hp : isTape h a tb tl) (hs : sam h k a (a + 2)) : isTape k a tb tl := ⟨(hs _ (by omega) (by omega)).trans hp.1, (hs _ (by omega) (by omega)).trans hp.2.1, hp.2.2⟩
theorem isChoice_sam {ch ba : Nat → Int32} (hp : isChoice h a ch ba) (hs : sam h k a (a + 3)) : isChoice k a ch ba := ⟨(hs _ (by omega) (by omega)).trans hp.1, (hs _ (by omega) (by omega)).trans hp.2.1, (hs _ (by omega) (by omega)).trans hp.2.2⟩
theorem isStock_sam {p : Pl} {rk tg f : Nat → Int32} (hp : isStock h a p rk tg f) (hs : sam h k a (a + 14)) : isStock k a p rk tg f := by
  obtain ⟨t0, t1, t2, t3, t4⟩ := hp
  exact ⟨(hs _ (by omega) (by omega)).trans t0, isPlan_sam t1 (sam_sub hs (by omega) (by omega)), (hs _ (by omega) (by omega)).trans t2, (hs _ (by omega) (by omega)).trans t3, isSets_sam t4 (sam_sub hs (by omega) (by omega))⟩
end
/-! the plan's changes -/
def addH (p : Pl) (w : Int64) (m : Bool) : Pl := (pnh p + 1, pnv p, vp_updL (phn p) (pnh p) w, upd (pmn p) (pnh p) (bI m), upd (pfi p) (pnh p) (nI (pnv p)), upd (psi p) (pnh p) (nI 0), pvn p, pho p, ppa p, pli p)
def addV (p : Pl) (w : Int64) (par : Int32) : Pl := (pnh p, pnv p + 1, phn p, pmn p, pfi p, upd (psi p) (pnh p - 1) (psi p (pnh p - 1) + nI 1), vp_updL (pvn p) (pnv p) w, upd (pho p) (pnv p) (nI (pnh p - 1)), upd (ppa p) (pnv p) par, upd (pli p) (pnv p) (sh1 (pnv p) ||| if isV (pnv p) par = true then pli p par.toNatClampNeg else nI 0))
section
variable {h : zz_H} {a : Nat} {p : Pl}
theorem c_roomHead (hp : isPlan h a p) : zz_run 34 [.ref a] h = some (some (.int (bI (decide (pnh p < 4)))), h) := by
  obtain ⟨p0, p1, p2, p3, p4, p5, p6, p7, p8, q1, q2⟩ := hp
  rw [en34 p0]
  by_cases h1 : pnh p < 4
  · simp (disch := first | assumption | exact zz_nl_i _ | exact zz_nl_r _ | exact zz_nl_n | exact okv_i _ | exact okv_j _ | exact okv_0 | exact okv_1 | exact okv_o _ _ | exact okv_a _ _ | omega | exact llt_0 | ((repeat apply llt_s) <;> exact llt_0) | fail) only [x34, xb34, p0, nI_ltI, h1, if_true, decide_true, bI_t, mo_k_v, mo_k_n, mo_v_e, mo_gf_e, mo_pf_e, mo_ia_e, mo_ba_e, mo_za_e, mo_la_e, mo_aa_e, mo_le_e, mo_is_e, mo_bs_e, mo_zs_0, mo_zs_1, mo_ls_e, mo_as_e, mo_na_e, mo_aci_e, mo_acb_e, mo_acj_e, hp_gs, hp_gn, hp_ss, List.getElem?_cons_zero, List.getElem?_cons_succ, List.set_cons_zero, List.set_cons_succ]
  · simp (disch := first | assumption | exact zz_nl_i _ | exact zz_nl_r _ | exact zz_nl_n | exact okv_i _ | exact okv_j _ | exact okv_0 | exact okv_1 | exact okv_o _ _ | exact okv_a _ _ | omega | exact llt_0 | ((repeat apply llt_s) <;> exact llt_0) | fail) only [x34, xb34, p0, nI_ltI, h1, if_false, decide_false, bI_f, mo_k_v, mo_k_n, mo_v_e, mo_gf_e, mo_pf_e, mo_ia_e, mo_ba_e, mo_za_e, mo_la_e, mo_aa_e, mo_le_e, mo_is_e, mo_bs_e, mo_zs_0, mo_zs_1, mo_ls_e, mo_as_e, mo_na_e, mo_aci_e, mo_acb_e, mo_acj_e, hp_gs, hp_gn, hp_ss, List.getElem?_cons_zero, List.getElem?_cons_succ, List.set_cons_zero, List.set_cons_succ]
theorem c_roomValue (hp : isPlan h a p) : zz_run 41 [.ref a] h = some (some (.int (bI (decide (0 < pnh p ∧ pnv p < 20)))), h) := by
  obtain ⟨p0, p1, p2, p3, p4, p5, p6, p7, p8, q1, q2⟩ := hp
  rw [en41 p0]
  by_cases h1 : 0 < pnh p
  · by_cases h2 : pnv p < 20
    · simp (disch := first | assumption | exact zz_nl_i _ | exact zz_nl_r _ | exact zz_nl_n | exact okv_i _ | exact okv_j _ | exact okv_0 | exact okv_1 | exact okv_o _ _ | exact okv_a _ _ | omega | exact llt_0 | ((repeat apply llt_s) <;> exact llt_0) | fail) only [x41, xb41, p0, nI_ltI, h1, h2, if_true, decide_true, bI_t, and_self, mo_k_v, mo_k_n, mo_v_e, mo_gf_e, mo_pf_e, mo_ia_e, mo_ba_e, mo_za_e, mo_la_e, mo_aa_e, mo_le_e, mo_is_e, mo_bs_e, mo_zs_0, mo_zs_1, mo_ls_e, mo_as_e, mo_na_e, mo_aci_e, mo_acb_e, mo_acj_e, hp_gs, hp_gn, hp_ss, List.getElem?_cons_zero, List.getElem?_cons_succ, List.set_cons_zero, List.set_cons_succ]
    · simp (disch := first | assumption | exact zz_nl_i _ | exact zz_nl_r _ | exact zz_nl_n | exact okv_i _ | exact okv_j _ | exact okv_0 | exact okv_1 | exact okv_o _ _ | exact okv_a _ _ | omega | exact llt_0 | ((repeat apply llt_s) <;> exact llt_0) | fail) only [x41, xb41, p0, nI_ltI, h1, h2, if_true, if_false, decide_false, bI_f, and_false, mo_k_v, mo_k_n, mo_v_e, mo_gf_e, mo_pf_e, mo_ia_e, mo_ba_e, mo_za_e, mo_la_e, mo_aa_e, mo_le_e, mo_is_e, mo_bs_e, mo_zs_0, mo_zs_1, mo_ls_e, mo_as_e, mo_na_e, mo_aci_e, mo_acb_e, mo_acj_e, hp_gs, hp_gn, hp_ss, List.getElem?_cons_zero, List.getElem?_cons_succ, List.set_cons_zero, List.set_cons_succ]
  · simp (disch := first | assumption | exact zz_nl_i _ | exact zz_nl_r _ | exact zz_nl_n | exact okv_i _ | exact okv_j _ | exact okv_0 | exact okv_1 | exact okv_o _ _ | exact okv_a _ _ | omega | exact llt_0 | ((repeat apply llt_s) <;> exact llt_0) | fail) only [x41, xb41, p0, nI_ltI, h1, if_false, decide_false, bI_f, false_and, mo_k_v, mo_k_n, mo_v_e, mo_gf_e, mo_pf_e, mo_ia_e, mo_ba_e, mo_za_e, mo_la_e, mo_aa_e, mo_le_e, mo_is_e, mo_bs_e, mo_zs_0, mo_zs_1, mo_ls_e, mo_as_e, mo_na_e, mo_aci_e, mo_acb_e, mo_acj_e, hp_gs, hp_gn, hp_ss, List.getElem?_cons_zero, List.getElem?_cons_succ, List.set_cons_zero, List.set_cons_succ]
theorem c_addHead (hp : isPlan h a p) (w : Int64) (m : Bool) (hr : pnh p < 4) : ∃ k, zz_run 39 [.ref a, .long w, .int (bI m)] h = some (none, k) ∧ isPlan k a (addH p w m) ∧ frm h k a (a + 9) := by
  have e1 := c_roomHead hp
  obtain ⟨p0, p1, p2, p3, p4, p5, p6, p7, p8, q1, q2⟩ := hp
  simp only [hr, decide_true, bI_t] at e1
  rw [en39 p0]
  cases m
  · simp (disch := first | assumption | exact zz_nl_i _ | exact zz_nl_r _ | exact zz_nl_n | exact okv_i _ | exact okv_j _ | exact okv_0 | exact okv_1 | exact okv_o _ _ | exact okv_a _ _ | omega | exact llt_0 | ((repeat apply llt_s) <;> exact llt_0) | fail) only [x39, p0, p1, p2, p3, p4, e1, nI_01, nI_add, if_true, if_false, bI_f, mo_k_v, mo_k_n, mo_v_e, mo_gf_e, mo_pf_e, mo_ia_e, mo_ba_e, mo_za_e, mo_la_e, mo_aa_e, mo_le_e, mo_is_e, mo_bs_e, mo_zs_0, mo_zs_1, mo_ls_e, mo_as_e, mo_na_e, mo_aci_e, mo_acb_e, mo_acj_e, hp_gs, hp_gn, hp_ss, List.getElem?_cons_zero, List.getElem?_cons_succ, List.set_cons_zero, List.set_cons_succ]
    refine ⟨_, rfl, ?_, ?_⟩
    · unfold addH isPlan
      simp only [pnh, pnv, phn, pmn, pfi, psi, pvn, pho, ppa, pli] at *
      simp (disch := first | assumption | exact zz_nl_i _ | exact zz_nl_r _ | exact zz_nl_n | exact okv_i _ | exact okv_j _ | exact okv_0 | exact okv_1 | exact okv_o _ _ | exact okv_a _ _ | omega | exact llt_0 | ((repeat apply llt_s) <;> exact llt_0) | fail) only [p0, p1, p2, p3, p4, p5, p6, p7, p8, bI_f, true_and, and_true, mo_k_v, mo_k_n, mo_v_e, mo_gf_e, mo_pf_e, mo_ia_e, mo_ba_e, mo_za_e, mo_la_e, mo_aa_e, mo_le_e, mo_is_e, mo_bs_e, mo_zs_0, mo_zs_1, mo_ls_e, mo_as_e, mo_na_e, mo_aci_e, mo_acb_e, mo_acj_e, hp_gs, hp_gn, hp_ss, List.getElem?_cons_zero, List.getElem?_cons_succ, List.set_cons_zero, List.set_cons_succ]
      exact ⟨by omega, by omega⟩
    · repeat (first | exact frm_refl _ _ _ | refine frm_s (by omega) ?_)
  · simp (disch := first | assumption | exact zz_nl_i _ | exact zz_nl_r _ | exact zz_nl_n | exact okv_i _ | exact okv_j _ | exact okv_0 | exact okv_1 | exact okv_o _ _ | exact okv_a _ _ | omega | exact llt_0 | ((repeat apply llt_s) <;> exact llt_0) | fail) only [x39, p0, p1, p2, p3, p4, e1, nI_01, nI_add, if_true, if_false, bI_t, mo_k_v, mo_k_n, mo_v_e, mo_gf_e, mo_pf_e, mo_ia_e, mo_ba_e, mo_za_e, mo_la_e, mo_aa_e, mo_le_e, mo_is_e, mo_bs_e, mo_zs_0, mo_zs_1, mo_ls_e, mo_as_e, mo_na_e, mo_aci_e, mo_acb_e, mo_acj_e, hp_gs, hp_gn, hp_ss, List.getElem?_cons_zero, List.getElem?_cons_succ, List.set_cons_zero, List.set_cons_succ]
    refine ⟨_, rfl, ?_, ?_⟩
    · unfold addH isPlan
      simp only [pnh, pnv, phn, pmn, pfi, psi, pvn, pho, ppa, pli] at *
      simp (disch := first | assumption | exact zz_nl_i _ | exact zz_nl_r _ | exact zz_nl_n | exact okv_i _ | exact okv_j _ | exact okv_0 | exact okv_1 | exact okv_o _ _ | exact okv_a _ _ | omega | exact llt_0 | ((repeat apply llt_s) <;> exact llt_0) | fail) only [p0, p1, p2, p3, p4, p5, p6, p7, p8, bI_t, true_and, and_true, mo_k_v, mo_k_n, mo_v_e, mo_gf_e, mo_pf_e, mo_ia_e, mo_ba_e, mo_za_e, mo_la_e, mo_aa_e, mo_le_e, mo_is_e, mo_bs_e, mo_zs_0, mo_zs_1, mo_ls_e, mo_as_e, mo_na_e, mo_aci_e, mo_acb_e, mo_acj_e, hp_gs, hp_gn, hp_ss, List.getElem?_cons_zero, List.getElem?_cons_succ, List.set_cons_zero, List.set_cons_succ]
      exact ⟨by omega, by omega⟩
    · repeat (first | exact frm_refl _ _ _ | refine frm_s (by omega) ?_)
theorem c_addValue (hp : isPlan h a p) (w : Int64) (par : Int32) (hr : 0 < pnh p) (hv : pnv p < 20) : ∃ k, zz_run 43 [.ref a, .long w, .int par] h = some (none, k) ∧ isPlan k a (addV p w par) ∧ frm h k a (a + 9) := by
  have e1 := c_roomValue hp
  have hp' := hp
  obtain ⟨p0, p1, p2, p3, p4, p5, p6, p7, p8, q1, q2⟩ := hp
  simp only [hr, hv, and_self, decide_true, bI_t] at e1
  have e2 := c_isValue (h := hp_s (hp_s (hp_s h (a + 5) (.inl (.long, 20, .inr (.inl (vp_updL (pvn p) (pnv p) w))))) (a + 6) (.inl (.int, 20, .inl (upd (pho p) (pnv p) (nI (pnh p - 1)))))) (a + 7) (.inl (.int, 20, .inl (upd (ppa p) (pnv p) par)))) (a := a) (p := (pnh p, pnv p, phn p, pmn p, pfi p, psi p, vp_updL (pvn p) (pnv p) w, upd (pho p) (pnv p) (nI (pnh p - 1)), upd (ppa p) (pnv p) par, pli p)) (by
    unfold isPlan
    simp only [pnh, pnv, phn, pmn, pfi, psi, pvn, pho, ppa, pli] at *
    simp (disch := first | assumption | exact zz_nl_i _ | exact zz_nl_r _ | exact zz_nl_n | exact okv_i _ | exact okv_j _ | exact okv_0 | exact okv_1 | exact okv_o _ _ | exact okv_a _ _ | omega | exact llt_0 | ((repeat apply llt_s) <;> exact llt_0) | fail) only [p0, p1, p2, p3, p4, p5, p6, p7, p8, true_and, and_true, mo_k_v, mo_k_n, mo_v_e, mo_gf_e, mo_pf_e, mo_ia_e, mo_ba_e, mo_za_e, mo_la_e, mo_aa_e, mo_le_e, mo_is_e, mo_bs_e, mo_zs_0, mo_zs_1, mo_ls_e, mo_as_e, mo_na_e, mo_aci_e, mo_acb_e, mo_acj_e, hp_gs, hp_gn, hp_ss, List.getElem?_cons_zero, List.getElem?_cons_succ, List.set_cons_zero, List.set_cons_succ]
    exact ⟨by omega, by omega⟩) par
  have e3 : nI (pnh p) - nI 1 = nI (pnh p - 1) := pk_sub (by omega)
  change zz_run 44 _ _ = some (some (.int (bI (isV (pnv p) par))), _) at e2
  rw [en43 p0]
  cases hpar : isV (pnv p) par
  · rw [hpar] at e2
    simp (disch := first | assumption | exact zz_nl_i _ | exact zz_nl_r _ | exact zz_nl_n | exact okv_i _ | exact okv_j _ | exact okv_0 | exact okv_1 | exact okv_o _ _ | exact okv_a _ _ | omega | exact llt_0 | ((repeat apply llt_s) <;> exact llt_0) | fail) only [x43_p0, x43_p1, p0, p1, p2, p3, p4, p5, p6, p7, p8, e1, e2, e3, nI_01, nI_add, if_true, if_false, bI_f, mo_k_v, mo_k_n, mo_v_e, mo_gf_e, mo_pf_e, mo_ia_e, mo_ba_e, mo_za_e, mo_la_e, mo_aa_e, mo_le_e, mo_is_e, mo_bs_e, mo_zs_0, mo_zs_1, mo_ls_e, mo_as_e, mo_na_e, mo_aci_e, mo_acb_e, mo_acj_e, hp_gs, hp_gn, hp_ss, List.getElem?_cons_zero, List.getElem?_cons_succ, List.set_cons_zero, List.set_cons_succ]
    refine ⟨_, rfl, ?_, ?_⟩
    · unfold addV isPlan
      simp only [hpar]
      simp only [pnh, pnv, phn, pmn, pfi, psi, pvn, pho, ppa, pli] at *
      simp (disch := first | assumption | exact zz_nl_i _ | exact zz_nl_r _ | exact zz_nl_n | exact okv_i _ | exact okv_j _ | exact okv_0 | exact okv_1 | exact okv_o _ _ | exact okv_a _ _ | omega | exact llt_0 | ((repeat apply llt_s) <;> exact llt_0) | fail) only [p0, p1, p2, p3, p4, p5, p6, p7, p8, true_and, and_true, if_false, Bool.false_eq_true, mo_k_v, mo_k_n, mo_v_e, mo_gf_e, mo_pf_e, mo_ia_e, mo_ba_e, mo_za_e, mo_la_e, mo_aa_e, mo_le_e, mo_is_e, mo_bs_e, mo_zs_0, mo_zs_1, mo_ls_e, mo_as_e, mo_na_e, mo_aci_e, mo_acb_e, mo_acj_e, hp_gs, hp_gn, hp_ss, List.getElem?_cons_zero, List.getElem?_cons_succ, List.set_cons_zero, List.set_cons_succ]
      exact ⟨rfl, by omega, by omega⟩
    · repeat (first | exact frm_refl _ _ _ | refine frm_s (by omega) ?_)
  · rw [hpar] at e2
    obtain ⟨u, hu, rfl⟩ := (isV_iff (by omega)).mp hpar
    simp (disch := first | assumption | exact zz_nl_i _ | exact zz_nl_r _ | exact zz_nl_n | exact okv_i _ | exact okv_j _ | exact okv_0 | exact okv_1 | exact okv_o _ _ | exact okv_a _ _ | omega | exact llt_0 | ((repeat apply llt_s) <;> exact llt_0) | fail) only [x43_p0, x43_p1, p0, p1, p2, p3, p4, p5, p6, p7, p8, e1, e2, e3, nI_01, nI_add, if_true, if_false, bI_t, mo_k_v, mo_k_n, mo_v_e, mo_gf_e, mo_pf_e, mo_ia_e, mo_ba_e, mo_za_e, mo_la_e, mo_aa_e, mo_le_e, mo_is_e, mo_bs_e, mo_zs_0, mo_zs_1, mo_ls_e, mo_as_e, mo_na_e, mo_aci_e, mo_acb_e, mo_acj_e, hp_gs, hp_gn, hp_ss, List.getElem?_cons_zero, List.getElem?_cons_succ, List.set_cons_zero, List.set_cons_succ]
    refine ⟨_, rfl, ?_, ?_⟩
    · unfold addV isPlan
      simp only [hpar, nI_clamp (show u < 2147483648 by omega)]
      simp only [pnh, pnv, phn, pmn, pfi, psi, pvn, pho, ppa, pli] at *
      simp (disch := first | assumption | exact zz_nl_i _ | exact zz_nl_r _ | exact zz_nl_n | exact okv_i _ | exact okv_j _ | exact okv_0 | exact okv_1 | exact okv_o _ _ | exact okv_a _ _ | omega | exact llt_0 | ((repeat apply llt_s) <;> exact llt_0) | fail) only [p0, p1, p2, p3, p4, p5, p6, p7, p8, true_and, and_true, if_true, mo_k_v, mo_k_n, mo_v_e, mo_gf_e, mo_pf_e, mo_ia_e, mo_ba_e, mo_za_e, mo_la_e, mo_aa_e, mo_le_e, mo_is_e, mo_bs_e, mo_zs_0, mo_zs_1, mo_ls_e, mo_as_e, mo_na_e, mo_aci_e, mo_acb_e, mo_acj_e, hp_gs, hp_gn, hp_ss, List.getElem?_cons_zero, List.getElem?_cons_succ, List.set_cons_zero, List.set_cons_succ]
      exact ⟨rfl, by omega, by omega⟩
    · repeat (first | exact frm_refl _ _ _ | refine frm_s (by omega) ?_)
theorem c_clearPlan (hp : isPlan h a p) : ∃ k, zz_run 20 [.ref a] h = some (none, k) ∧ isPlan k a (0, 0, p.2.2) ∧ frm h k a (a + 9) := by
  obtain ⟨p0, p1, p2, p3, p4, p5, p6, p7, p8, q1, q2⟩ := hp
  rw [en20 p0]
  simp (disch := first | assumption | exact zz_nl_i _ | exact zz_nl_r _ | exact zz_nl_n | exact okv_i _ | exact okv_j _ | exact okv_0 | exact okv_1 | exact okv_o _ _ | exact okv_a _ _ | omega | exact llt_0 | ((repeat apply llt_s) <;> exact llt_0) | fail) only [x20, p0, mo_k_v, mo_k_n, mo_v_e, mo_gf_e, mo_pf_e, mo_ia_e, mo_ba_e, mo_za_e, mo_la_e, mo_aa_e, mo_le_e, mo_is_e, mo_bs_e, mo_zs_0, mo_zs_1, mo_ls_e, mo_as_e, mo_na_e, mo_aci_e, mo_acb_e, mo_acj_e, hp_gs, hp_gn, hp_ss, List.getElem?_cons_zero, List.getElem?_cons_succ, List.set_cons_zero, List.set_cons_succ]
  refine ⟨_, rfl, ?_, ?_⟩
  · unfold isPlan
    simp only [pnh, pnv, phn, pmn, pfi, psi, pvn, pho, ppa, pli] at *
    simp (disch := first | assumption | exact zz_nl_i _ | exact zz_nl_r _ | exact zz_nl_n | exact okv_i _ | exact okv_j _ | exact okv_0 | exact okv_1 | exact okv_o _ _ | exact okv_a _ _ | omega | exact llt_0 | ((repeat apply llt_s) <;> exact llt_0) | fail) only [p0, p1, p2, p3, p4, p5, p6, p7, p8, true_and, and_true, mo_k_v, mo_k_n, mo_v_e, mo_gf_e, mo_pf_e, mo_ia_e, mo_ba_e, mo_za_e, mo_la_e, mo_aa_e, mo_le_e, mo_is_e, mo_bs_e, mo_zs_0, mo_zs_1, mo_ls_e, mo_as_e, mo_na_e, mo_aci_e, mo_acb_e, mo_acj_e, hp_gs, hp_gn, hp_ss, List.getElem?_cons_zero, List.getElem?_cons_succ, List.set_cons_zero, List.set_cons_succ]
    exact ⟨by omega, by omega⟩
  · repeat (first | exact frm_refl _ _ _ | refine frm_s (by omega) ?_)
/-- alike as far as they are looked at -/
def plE (p q : Pl) : Prop := pnh p = pnh q ∧ pnv p = pnv q ∧ (∀ i, i < 4 → phn p i = phn q i ∧ pmn p i = pmn q i ∧ pfi p i = pfi q i ∧ psi p i = psi q i) ∧ (∀ i, i < 20 → pvn p i = pvn q i ∧ pho p i = pho q i ∧ ppa p i = ppa q i ∧ pli p i = pli q i)
theorem cpy_at {α : Type} (f g : Nat → α) {n i : Nat} (hi : i < n) : va_cpy f g 0 0 n i = f i := by
  unfold va_cpy
  simp [hi]
theorem c_copyPlan {c : Nat} {q : Pl} (hp : isPlan h a p) (hq : isPlan h c q) (hac : a + 9 ≤ c ∨ c + 9 ≤ a) : ∃ k r, zz_run 58 [.ref a, .ref c] h = some (none, k) ∧ isPlan k a r ∧ plE r q ∧ frm h k a (a + 9) := by
  obtain ⟨p0, p1, p2, p3, p4, p5, p6, p7, p8, q1, q2⟩ := hp
  obtain ⟨r0, r1, r2, r3, r4, r5, r6, r7, r8, s1, s2⟩ := hq
  rw [en58 p0]
  simp (disch := first | assumption | exact zz_nl_i _ | exact zz_nl_r _ | exact zz_nl_n | exact okv_i _ | exact okv_j _ | exact okv_0 | exact okv_1 | exact okv_o _ _ | exact okv_a _ _ | omega | exact llt_0 | ((repeat apply llt_s) <;> exact llt_0) | fail) only [x58_p0, x58_p1, p0, p1, p2, p3, p4, p5, p6, p7, p8, r0, r1, r2, r3, r4, r5, r6, r7, r8, mo_k_v, mo_k_n, mo_v_e, mo_gf_e, mo_pf_e, mo_ia_e, mo_ba_e, mo_za_e, mo_la_e, mo_aa_e, mo_le_e, mo_is_e, mo_bs_e, mo_zs_0, mo_zs_1, mo_ls_e, mo_as_e, mo_na_e, mo_aci_e, mo_acb_e, mo_acj_e, hp_gs, hp_gn, hp_ss, List.getElem?_cons_zero, List.getElem?_cons_succ, List.set_cons_zero, List.set_cons_succ]
  refine ⟨_, (pnh q, pnv q, va_cpy (phn q) (phn p) 0 0 4, va_cpy (pmn q) (pmn p) 0 0 4, va_cpy (pfi q) (pfi p) 0 0 4, va_cpy (psi q) (psi p) 0 0 4, va_cpy (pvn q) (pvn p) 0 0 20, va_cpy (pho q) (pho p) 0 0 20, va_cpy (ppa q) (ppa p) 0 0 20, va_cpy (pli q) (pli p) 0 0 20), rfl, ?_, ?_, ?_⟩
  · unfold isPlan
    simp only [pnh, pnv, phn, pmn, pfi, psi, pvn, pho, ppa, pli] at *
    simp (disch := first | assumption | exact zz_nl_i _ | exact zz_nl_r _ | exact zz_nl_n | exact okv_i _ | exact okv_j _ | exact okv_0 | exact okv_1 | exact okv_o _ _ | exact okv_a _ _ | omega | exact llt_0 | ((repeat apply llt_s) <;> exact llt_0) | fail) only [p0, p1, p2, p3, p4, p5, p6, p7, p8, true_and, and_true, mo_k_v, mo_k_n, mo_v_e, mo_gf_e, mo_pf_e, mo_ia_e, mo_ba_e, mo_za_e, mo_la_e, mo_aa_e, mo_le_e, mo_is_e, mo_bs_e, mo_zs_0, mo_zs_1, mo_ls_e, mo_as_e, mo_na_e, mo_aci_e, mo_acb_e, mo_acj_e, hp_gs, hp_gn, hp_ss, List.getElem?_cons_zero, List.getElem?_cons_succ, List.set_cons_zero, List.set_cons_succ]
    exact ⟨by omega, by omega⟩
  · exact ⟨rfl, rfl, fun i hi => ⟨cpy_at _ _ hi, cpy_at _ _ hi, cpy_at _ _ hi, cpy_at _ _ hi⟩, fun i hi => ⟨cpy_at _ _ hi, cpy_at _ _ hi, cpy_at _ _ hi, cpy_at _ _ hi⟩⟩
  · repeat (first | exact frm_refl _ _ _ | refine frm_s (by omega) ?_)
end
