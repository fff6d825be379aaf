/-! stock, choice, tape, all, journal: cleared, copied, noted -/
theorem fill_at {α : Type} (g f : Nat → α) {n i : Nat} (hi : i < n) : fa_fill g f n i = g i := by
  unfold fa_fill
  simp [hi]
/-- alike as far as they are looked at -/
def eqN (n : Nat) (f g : Nat → Int32) : Prop := ∀ i, i < n → f i = g i
theorem eqN_cpy (n : Nat) (f g : Nat → Int32) : eqN n (va_cpy f g 0 0 n) f := fun _ hi => cpy_at f g hi
section
variable {h : zz_H} {a : Nat}
theorem isPlan_s {p : Pl} {b : Nat} {e : zz_E} (hp : isPlan h a p) (hb : b < a ∨ a + 9 ≤ b) : isPlan (hp_s h b e) a p := isPlan_sam hp (fun c h1 h2 => hp_gn (by omega))
theorem isStock_s {p : Pl} {rk tg f : Nat → Int32} {b : Nat} {e : zz_E} (hp : isStock h a p rk tg f) (hb : b < a ∨ a + 14 ≤ b) : isStock (hp_s h b e) a p rk tg f := isStock_sam hp (fun c h1 h2 => hp_gn (by omega))
theorem isChoice_s {ch ba : Nat → Int32} {b : Nat} {e : zz_E} (hp : isChoice h a ch ba) (hb : b < a ∨ a + 3 ≤ b) : isChoice (hp_s h b e) a ch ba := isChoice_sam hp (fun c h1 h2 => hp_gn (by omega))
theorem isSets_s {r : Nat} {f : Nat → Int32} {b : Nat} {e : zz_E} (hp : isSets h a r f) (hb : b < a ∨ a + 2 ≤ b) : isSets (hp_s h b e) a r f := isSets_sam hp (fun c h1 h2 => hp_gn (by omega))
theorem isTape_s {tb : Nat → Int32} {tl : Nat} {b : Nat} {e : zz_E} (hp : isTape h a tb tl) (hb : b < a ∨ a + 2 ≤ b) : isTape (hp_s h b e) a tb tl := isTape_sam hp (fun c h1 h2 => hp_gn (by omega))
theorem c_clearStock {p : Pl} {rk tg f : Nat → Int32} (hs : isStock h a p rk tg f) : ∃ k rk' tg' f', zz_run 19 [.ref a] h = some (none, k) ∧ isStock k a (0, 0, p.2.2) rk' tg' f' ∧ eqN 256 rk' (fun _ => -1) ∧ eqN 256 tg' (fun _ => nI 0) ∧ eqN 168 f' (fun _ => nI 0) ∧ frm h k a (a + 14) := by
  obtain ⟨t0, t1, t2, t3, t4⟩ := hs
  obtain ⟨k1, e1, u1, g1⟩ := c_clearPlan t1
  have v0 := (g1.2.2.2 a (by omega)).trans t0
  have v2 := (g1.2.2.2 (a + 10) (by omega)).trans t2
  have v3 := (g1.2.2.2 (a + 11) (by omega)).trans t3
  have v4 := isSets_sam t4 (frm_sam g1 (by omega))
  have e2 := c_fill v2 (by omega) (-1)
  have e3 := c_fill (h := hp_s k1 (a + 10) (.inl (.int, 256, .inl (fa_fill (fun _ => -1) rk 256)))) (b := a + 11) (by rw [hp_gn (by omega)]; exact v3) (by omega) (nI 0)
  have e4 := c_clearSets (isSets_s (b := a + 11) (e := .inl (.int, 256, .inl (fa_fill (fun _ => nI 0) tg 256))) (isSets_s (b := a + 10) (e := .inl (.int, 256, .inl (fa_fill (fun _ => -1) rk 256))) v4 (by omega)) (by omega))
  rw [en19 t0]
  simp (disch := first | assumption | exact zz_nl_i _ | exact zz_nl_r _ | exact zz_nl_n | exact okv_i _ | exact okv_j _ | exact okv_0 | exact okv_1 | exact okv_o _ _ | exact okv_a _ _ | omega | exact llt_0 | ((repeat apply llt_s) <;> exact llt_0) | fail) only [x19, t0, e1, v0, e2, e3, e4, mo_k_v, mo_k_n, mo_v_e, mo_gf_e, mo_pf_e, mo_ia_e, mo_ba_e, mo_za_e, mo_la_e, mo_aa_e, mo_le_e, mo_is_e, mo_bs_e, mo_zs_0, mo_zs_1, mo_ls_e, mo_as_e, mo_na_e, mo_aci_e, mo_acb_e, mo_acj_e, hp_gs, hp_gn, hp_ss, List.getElem?_cons_zero, List.getElem?_cons_succ, List.set_cons_zero, List.set_cons_succ]
  refine ⟨_, fa_fill (fun _ => -1) rk 256, fa_fill (fun _ => nI 0) tg 256, fa_fill (fun _ => nI 0) f (8 * 21), rfl, ⟨?_, ?_, ?_, ?_, ?_⟩, ?_, ?_, ?_, ?_⟩
  · simp (disch := first | assumption | exact zz_nl_i _ | exact zz_nl_r _ | exact zz_nl_n | exact okv_i _ | exact okv_j _ | exact okv_0 | exact okv_1 | exact okv_o _ _ | exact okv_a _ _ | omega | exact llt_0 | ((repeat apply llt_s) <;> exact llt_0) | fail) only [v0, mo_k_v, mo_k_n, mo_v_e, mo_gf_e, mo_pf_e, mo_ia_e, mo_ba_e, mo_za_e, mo_la_e, mo_aa_e, mo_le_e, mo_is_e, mo_bs_e, mo_zs_0, mo_zs_1, mo_ls_e, mo_as_e, mo_na_e, mo_aci_e, mo_acb_e, mo_acj_e, hp_gs, hp_gn, hp_ss, List.getElem?_cons_zero, List.getElem?_cons_succ, List.set_cons_zero, List.set_cons_succ]
  · exact isPlan_s (isPlan_s (isPlan_s u1 (by omega)) (by omega)) (by omega)
  · simp (disch := first | assumption | exact zz_nl_i _ | exact zz_nl_r _ | exact zz_nl_n | exact okv_i _ | exact okv_j _ | exact okv_0 | exact okv_1 | exact okv_o _ _ | exact okv_a _ _ | omega | exact llt_0 | ((repeat apply llt_s) <;> exact llt_0) | fail) only [mo_k_v, mo_k_n, mo_v_e, mo_gf_e, mo_pf_e, mo_ia_e, mo_ba_e, mo_za_e, mo_la_e, mo_aa_e, mo_le_e, mo_is_e, mo_bs_e, mo_zs_0, mo_zs_1, mo_ls_e, mo_as_e, mo_na_e, mo_aci_e, mo_acb_e, mo_acj_e, hp_gs, hp_gn, hp_ss, List.getElem?_cons_zero, List.getElem?_cons_succ, List.set_cons_zero, List.set_cons_succ]
  · simp (disch := first | assumption | exact zz_nl_i _ | exact zz_nl_r _ | exact zz_nl_n | exact okv_i _ | exact okv_j _ | exact okv_0 | exact okv_1 | exact okv_o _ _ | exact okv_a _ _ | omega | exact llt_0 | ((repeat apply llt_s) <;> exact llt_0) | fail) only [mo_k_v, mo_k_n, mo_v_e, mo_gf_e, mo_pf_e, mo_ia_e, mo_ba_e, mo_za_e, mo_la_e, mo_aa_e, mo_le_e, mo_is_e, mo_bs_e, mo_zs_0, mo_zs_1, mo_ls_e, mo_as_e, mo_na_e, mo_aci_e, mo_acb_e, mo_acj_e, hp_gs, hp_gn, hp_ss, List.getElem?_cons_zero, List.getElem?_cons_succ, List.set_cons_zero, List.set_cons_succ]
  · exact isSets_set (isSets_s (isSets_s v4 (by omega)) (by omega))
  · exact fun i hi => fill_at _ _ hi
  · exact fun i hi => fill_at _ _ hi
  · exact fun i hi => fill_at _ _ (by omega)
  · refine frm_s (by omega) (frm_s (by omega) (frm_s (by omega) (frm_mono g1 (by omega) (by omega))))
theorem c_copyStock {c : Nat} {p q : Pl} {rk tg f rk2 tg2 f2 : Nat → Int32} (hs : isStock h a p rk tg f) (hc : isStock h c q rk2 tg2 f2) (hac : a + 14 ≤ c ∨ c + 14 ≤ a) : ∃ k p' rk' tg' f', zz_run 57 [.ref a, .ref c] h = some (none, k) ∧ isStock k a p' rk' tg' f' ∧ plE p' q ∧ eqN 256 rk' rk2 ∧ eqN 256 tg' tg2 ∧ eqN 168 f' f2 ∧ frm h k a (a + 14) := by
  obtain ⟨t0, t1, t2, t3, t4⟩ := hs
  obtain ⟨s0, s1, s2, s3, s4⟩ := hc
  obtain ⟨k1, p', e1, u1, pe, g1⟩ := c_copyPlan t1 s1 (by omega)
  have v0 := (g1.2.2.2 a (by omega)).trans t0
  have v2 := (g1.2.2.2 (a + 10) (by omega)).trans t2
  have v3 := (g1.2.2.2 (a + 11) (by omega)).trans t3
  have v4 := isSets_sam t4 (frm_sam g1 (by omega))
  have w0 := (g1.2.2.2 c (by omega)).trans s0
  have w2 := (g1.2.2.2 (c + 10) (by omega)).trans s2
  have w3 := (g1.2.2.2 (c + 11) (by omega)).trans s3
  have w4 := isSets_sam s4 (frm_sam g1 (by omega))
  have e4 := c_copySets (isSets_s (b := a + 11) (e := .inl (.int, 256, .inl (va_cpy tg2 tg 0 0 256))) (isSets_s (b := a + 10) (e := .inl (.int, 256, .inl (va_cpy rk2 rk 0 0 256))) v4 (by omega)) (by omega)) (isSets_s (b := a + 11) (e := .inl (.int, 256, .inl (va_cpy tg2 tg 0 0 256))) (isSets_s (b := a + 10) (e := .inl (.int, 256, .inl (va_cpy rk2 rk 0 0 256))) w4 (by omega)) (by omega))
  rw [en57 t0]
  simp (disch := first | assumption | exact zz_nl_i _ | exact zz_nl_r _ | exact zz_nl_n | exact okv_i _ | exact okv_j _ | exact okv_0 | exact okv_1 | exact okv_o _ _ | exact okv_a _ _ | omega | exact llt_0 | ((repeat apply llt_s) <;> exact llt_0) | fail) only [x57, t0, s0, e1, v0, w0, v2, v3, w2, w3, e4, mo_k_v, mo_k_n, mo_v_e, mo_gf_e, mo_pf_e, mo_ia_e, mo_ba_e, mo_za_e, mo_la_e, mo_aa_e, mo_le_e, mo_is_e, mo_bs_e, mo_zs_0, mo_zs_1, mo_ls_e, mo_as_e, mo_na_e, mo_aci_e, mo_acb_e, mo_acj_e, hp_gs, hp_gn, hp_ss, List.getElem?_cons_zero, List.getElem?_cons_succ, List.set_cons_zero, List.set_cons_succ]
  refine ⟨_, p', va_cpy rk2 rk 0 0 256, va_cpy tg2 tg 0 0 256, va_cpy f2 f 0 0 (8 * 21), rfl, ⟨?_, ?_, ?_, ?_, ?_⟩, pe, ?_, ?_, ?_, ?_⟩
  · simp (disch := first | assumption | exact zz_nl_i _ | exact zz_nl_r _ | exact zz_nl_n | exact okv_i _ | exact okv_j _ | exact okv_0 | exact okv_1 | exact okv_o _ _ | exact okv_a _ _ | omega | exact llt_0 | ((repeat apply llt_s) <;> exact llt_0) | fail) only [v0, mo_k_v, mo_k_n, mo_v_e, mo_gf_e, mo_pf_e, mo_ia_e, mo_ba_e, mo_za_e, mo_la_e, mo_aa_e, mo_le_e, mo_is_e, mo_bs_e, mo_zs_0, mo_zs_1, mo_ls_e, mo_as_e, mo_na_e, mo_aci_e, mo_acb_e, mo_acj_e, hp_gs, hp_gn, hp_ss, List.getElem?_cons_zero, List.getElem?_cons_succ, List.set_cons_zero, List.set_cons_succ]
  · exact isPlan_s (isPlan_s (isPlan_s u1 (by omega)) (by omega)) (by omega)
  · simp (disch := first | assumption | exact zz_nl_i _ | exact zz_nl_r _ | exact zz_nl_n | exact okv_i _ | exact okv_j _ | exact okv_0 | exact okv_1 | exact okv_o _ _ | exact okv_a _ _ | omega | exact llt_0 | ((repeat apply llt_s) <;> exact llt_0) | fail) only [mo_k_v, mo_k_n, mo_v_e, mo_gf_e, mo_pf_e, mo_ia_e, mo_ba_e, mo_za_e, mo_la_e, mo_aa_e, mo_le_e, mo_is_e, mo_bs_e, mo_zs_0, mo_zs_1, mo_ls_e, mo_as_e, mo_na_e, mo_aci_e, mo_acb_e, mo_acj_e, hp_gs, hp_gn, hp_ss, List.getElem?_cons_zero, List.getElem?_cons_succ, List.set_cons_zero, List.set_cons_succ]
  · simp (disch := first | assumption | exact zz_nl_i _ | exact zz_nl_r _ | exact zz_nl_n | exact okv_i _ | exact okv_j _ | exact okv_0 | exact okv_1 | exact okv_o _ _ | exact okv_a _ _ | omega | exact llt_0 | ((repeat apply llt_s) <;> exact llt_0) | fail) only [mo_k_v, mo_k_n, mo_v_e, mo_gf_e, mo_pf_e, mo_ia_e, mo_ba_e, mo_za_e, mo_la_e, mo_aa_e, mo_le_e, mo_is_e, mo_bs_e, mo_zs_0, mo_zs_1, mo_ls_e, mo_as_e, mo_na_e, mo_aci_e, mo_acb_e, mo_acj_e, hp_gs, hp_gn, hp_ss, List.getElem?_cons_zero, List.getElem?_cons_succ, List.set_cons_zero, List.set_cons_succ]
  · exact isSets_set (isSets_s (isSets_s v4 (by omega)) (by omega))
  · exact eqN_cpy _ _ _
  · exact eqN_cpy _ _ _
  · exact eqN_cpy _ _ _
  · refine frm_s (by omega) (frm_s (by omega) (frm_s (by omega) (frm_mono g1 (by omega) (by omega))))
theorem c_clearChoice {ch ba : Nat → Int32} (hc : isChoice h a ch ba) : ∃ k ch' ba', zz_run 60 [.ref a] h = some (none, k) ∧ isChoice k a ch' ba' ∧ eqN 20 ch' (fun _ => nI 0) ∧ eqN 4 ba' (fun _ => nI 0) ∧ frm h k a (a + 3) := by
  obtain ⟨c0, c1, c2⟩ := hc
  have e1 := c_fill c1 (by omega) (nI 0)
  have e2 := c_fill (h := hp_s h (a + 1) (.inl (.int, 20, .inl (fa_fill (fun _ => nI 0) ch 20)))) (b := a + 2) (by rw [hp_gn (by omega)]; exact c2) (by omega) (nI 0)
  rw [en60 c0]
  simp (disch := first | assumption | exact zz_nl_i _ | exact zz_nl_r _ | exact zz_nl_n | exact okv_i _ | exact okv_j _ | exact okv_0 | exact okv_1 | exact okv_o _ _ | exact okv_a _ _ | omega | exact llt_0 | ((repeat apply llt_s) <;> exact llt_0) | fail) only [x60, c0, e1, e2, mo_k_v, mo_k_n, mo_v_e, mo_gf_e, mo_pf_e, mo_ia_e, mo_ba_e, mo_za_e, mo_la_e, mo_aa_e, mo_le_e, mo_is_e, mo_bs_e, mo_zs_0, mo_zs_1, mo_ls_e, mo_as_e, mo_na_e, mo_aci_e, mo_acb_e, mo_acj_e, hp_gs, hp_gn, hp_ss, List.getElem?_cons_zero, List.getElem?_cons_succ, List.set_cons_zero, List.set_cons_succ]
  refine ⟨_, fa_fill (fun _ => nI 0) ch 20, fa_fill (fun _ => nI 0) ba 4, rfl, ⟨?_, ?_, ?_⟩, ?_, ?_, ?_⟩
  · simp (disch := first | assumption | exact zz_nl_i _ | exact zz_nl_r _ | exact zz_nl_n | exact okv_i _ | exact okv_j _ | exact okv_0 | exact okv_1 | exact okv_o _ _ | exact okv_a _ _ | omega | exact llt_0 | ((repeat apply llt_s) <;> exact llt_0) | fail) only [c0, mo_k_v, mo_k_n, mo_v_e, mo_gf_e, mo_pf_e, mo_ia_e, mo_ba_e, mo_za_e, mo_la_e, mo_aa_e, mo_le_e, mo_is_e, mo_bs_e, mo_zs_0, mo_zs_1, mo_ls_e, mo_as_e, mo_na_e, mo_aci_e, mo_acb_e, mo_acj_e, hp_gs, hp_gn, hp_ss, List.getElem?_cons_zero, List.getElem?_cons_succ, List.set_cons_zero, List.set_cons_succ]
  · simp (disch := first | assumption | exact zz_nl_i _ | exact zz_nl_r _ | exact zz_nl_n | exact okv_i _ | exact okv_j _ | exact okv_0 | exact okv_1 | exact okv_o _ _ | exact okv_a _ _ | omega | exact llt_0 | ((repeat apply llt_s) <;> exact llt_0) | fail) only [mo_k_v, mo_k_n, mo_v_e, mo_gf_e, mo_pf_e, mo_ia_e, mo_ba_e, mo_za_e, mo_la_e, mo_aa_e, mo_le_e, mo_is_e, mo_bs_e, mo_zs_0, mo_zs_1, mo_ls_e, mo_as_e, mo_na_e, mo_aci_e, mo_acb_e, mo_acj_e, hp_gs, hp_gn, hp_ss, List.getElem?_cons_zero, List.getElem?_cons_succ, List.set_cons_zero, List.set_cons_succ]
  · simp (disch := first | assumption | exact zz_nl_i _ | exact zz_nl_r _ | exact zz_nl_n | exact okv_i _ | exact okv_j _ | exact okv_0 | exact okv_1 | exact okv_o _ _ | exact okv_a _ _ | omega | exact llt_0 | ((repeat apply llt_s) <;> exact llt_0) | fail) only [mo_k_v, mo_k_n, mo_v_e, mo_gf_e, mo_pf_e, mo_ia_e, mo_ba_e, mo_za_e, mo_la_e, mo_aa_e, mo_le_e, mo_is_e, mo_bs_e, mo_zs_0, mo_zs_1, mo_ls_e, mo_as_e, mo_na_e, mo_aci_e, mo_acb_e, mo_acj_e, hp_gs, hp_gn, hp_ss, List.getElem?_cons_zero, List.getElem?_cons_succ, List.set_cons_zero, List.set_cons_succ]
  · exact fun i hi => fill_at _ _ hi
  · exact fun i hi => fill_at _ _ hi
  · repeat (first | exact frm_refl _ _ _ | refine frm_s (by omega) ?_)
theorem c_copyChoice {c : Nat} {ch ba ch2 ba2 : Nat → Int32} (hc : isChoice h a ch ba) (hd : isChoice h c ch2 ba2) (hac : a + 3 ≤ c ∨ c + 3 ≤ a) : ∃ k ch' ba', zz_run 150 [.ref a, .ref c] h = some (none, k) ∧ isChoice k a ch' ba' ∧ eqN 20 ch' ch2 ∧ eqN 4 ba' ba2 ∧ frm h k a (a + 3) := by
  obtain ⟨c0, c1, c2⟩ := hc
  obtain ⟨d0, d1, d2⟩ := hd
  rw [en150 c0]
  simp (disch := first | assumption | exact zz_nl_i _ | exact zz_nl_r _ | exact zz_nl_n | exact okv_i _ | exact okv_j _ | exact okv_0 | exact okv_1 | exact okv_o _ _ | exact okv_a _ _ | omega | exact llt_0 | ((repeat apply llt_s) <;> exact llt_0) | fail) only [x150, c0, c1, c2, d0, d1, d2, mo_k_v, mo_k_n, mo_v_e, mo_gf_e, mo_pf_e, mo_ia_e, mo_ba_e, mo_za_e, mo_la_e, mo_aa_e, mo_le_e, mo_is_e, mo_bs_e, mo_zs_0, mo_zs_1, mo_ls_e, mo_as_e, mo_na_e, mo_aci_e, mo_acb_e, mo_acj_e, hp_gs, hp_gn, hp_ss, List.getElem?_cons_zero, List.getElem?_cons_succ, List.set_cons_zero, List.set_cons_succ]
  refine ⟨_, va_cpy ch2 ch 0 0 20, va_cpy ba2 ba 0 0 4, rfl, ⟨?_, ?_, ?_⟩, eqN_cpy _ _ _, eqN_cpy _ _ _, ?_⟩
  · simp (disch := first | assumption | exact zz_nl_i _ | exact zz_nl_r _ | exact zz_nl_n | exact okv_i _ | exact okv_j _ | exact okv_0 | exact okv_1 | exact okv_o _ _ | exact okv_a _ _ | omega | exact llt_0 | ((repeat apply llt_s) <;> exact llt_0) | fail) only [c0, mo_k_v, mo_k_n, mo_v_e, mo_gf_e, mo_pf_e, mo_ia_e, mo_ba_e, mo_za_e, mo_la_e, mo_aa_e, mo_le_e, mo_is_e, mo_bs_e, mo_zs_0, mo_zs_1, mo_ls_e, mo_as_e, mo_na_e, mo_aci_e, mo_acb_e, mo_acj_e, hp_gs, hp_gn, hp_ss, List.getElem?_cons_zero, List.getElem?_cons_succ, List.set_cons_zero, List.set_cons_succ]
  · simp (disch := first | assumption | exact zz_nl_i _ | exact zz_nl_r _ | exact zz_nl_n | exact okv_i _ | exact okv_j _ | exact okv_0 | exact okv_1 | exact okv_o _ _ | exact okv_a _ _ | omega | exact llt_0 | ((repeat apply llt_s) <;> exact llt_0) | fail) only [mo_k_v, mo_k_n, mo_v_e, mo_gf_e, mo_pf_e, mo_ia_e, mo_ba_e, mo_za_e, mo_la_e, mo_aa_e, mo_le_e, mo_is_e, mo_bs_e, mo_zs_0, mo_zs_1, mo_ls_e, mo_as_e, mo_na_e, mo_aci_e, mo_acb_e, mo_acj_e, hp_gs, hp_gn, hp_ss, List.getElem?_cons_zero, List.getElem?_cons_succ, List.set_cons_zero, List.set_cons_succ]
  · simp (disch := first | assumption | exact zz_nl_i _ | exact zz_nl_r _ | exact zz_nl_n | exact okv_i _ | exact okv_j _ | exact okv_0 | exact okv_1 | exact okv_o _ _ | exact okv_a _ _ | omega | exact llt_0 | ((repeat apply llt_s) <;> exact llt_0) | fail) only [mo_k_v, mo_k_n, mo_v_e, mo_gf_e, mo_pf_e, mo_ia_e, mo_ba_e, mo_za_e, mo_la_e, mo_aa_e, mo_le_e, mo_is_e, mo_bs_e, mo_zs_0, mo_zs_1, mo_ls_e, mo_as_e, mo_na_e, mo_aci_e, mo_acb_e, mo_acj_e, hp_gs, hp_gn, hp_ss, List.getElem?_cons_zero, List.getElem?_cons_succ, List.set_cons_zero, List.set_cons_succ]
  · repeat (first | exact frm_refl _ _ _ | refine frm_s (by omega) ?_)
theorem c_copyTape {c tl tl2 : Nat} {tb tb2 : Nat → Int32} (hc : isTape h a tb tl) (hd : isTape h c tb2 tl2) (hac : a + 2 ≤ c ∨ c + 2 ≤ a) : ∃ k tb', zz_run 149 [.ref a, .ref c] h = some (none, k) ∧ isTape k a tb' tl2 ∧ eqN 600 tb' tb2 ∧ frm h k a (a + 2) := by
  obtain ⟨c0, c1, c2⟩ := hc
  obtain ⟨d0, d1, d2⟩ := hd
  rw [en149 c0]
  simp (disch := first | assumption | exact zz_nl_i _ | exact zz_nl_r _ | exact zz_nl_n | exact okv_i _ | exact okv_j _ | exact okv_0 | exact okv_1 | exact okv_o _ _ | exact okv_a _ _ | omega | exact llt_0 | ((repeat apply llt_s) <;> exact llt_0) | fail) only [x149, c0, c1, d0, d1, mo_k_v, mo_k_n, mo_v_e, mo_gf_e, mo_pf_e, mo_ia_e, mo_ba_e, mo_za_e, mo_la_e, mo_aa_e, mo_le_e, mo_is_e, mo_bs_e, mo_zs_0, mo_zs_1, mo_ls_e, mo_as_e, mo_na_e, mo_aci_e, mo_acb_e, mo_acj_e, hp_gs, hp_gn, hp_ss, List.getElem?_cons_zero, List.getElem?_cons_succ, List.set_cons_zero, List.set_cons_succ]
  refine ⟨_, va_cpy tb2 tb 0 0 600, rfl, ⟨?_, ?_, d2⟩, eqN_cpy _ _ _, ?_⟩
  · simp (disch := first | assumption | exact zz_nl_i _ | exact zz_nl_r _ | exact zz_nl_n | exact okv_i _ | exact okv_j _ | exact okv_0 | exact okv_1 | exact okv_o _ _ | exact okv_a _ _ | omega | exact llt_0 | ((repeat apply llt_s) <;> exact llt_0) | fail) only [c0, mo_k_v, mo_k_n, mo_v_e, mo_gf_e, mo_pf_e, mo_ia_e, mo_ba_e, mo_za_e, mo_la_e, mo_aa_e, mo_le_e, mo_is_e, mo_bs_e, mo_zs_0, mo_zs_1, mo_ls_e, mo_as_e, mo_na_e, mo_aci_e, mo_acb_e, mo_acj_e, hp_gs, hp_gn, hp_ss, List.getElem?_cons_zero, List.getElem?_cons_succ, List.set_cons_zero, List.set_cons_succ]
  · simp (disch := first | assumption | exact zz_nl_i _ | exact zz_nl_r _ | exact zz_nl_n | exact okv_i _ | exact okv_j _ | exact okv_0 | exact okv_1 | exact okv_o _ _ | exact okv_a _ _ | omega | exact llt_0 | ((repeat apply llt_s) <;> exact llt_0) | fail) only [mo_k_v, mo_k_n, mo_v_e, mo_gf_e, mo_pf_e, mo_ia_e, mo_ba_e, mo_za_e, mo_la_e, mo_aa_e, mo_le_e, mo_is_e, mo_bs_e, mo_zs_0, mo_zs_1, mo_ls_e, mo_as_e, mo_na_e, mo_aci_e, mo_acb_e, mo_acj_e, hp_gs, hp_gn, hp_ss, List.getElem?_cons_zero, List.getElem?_cons_succ, List.set_cons_zero, List.set_cons_succ]
  · repeat (first | exact frm_refl _ _ _ | refine frm_s (by omega) ?_)
end
/-- all that an image keeps -/
def evO (a : Nat) (fk fp : Int32) (an : Bool) (aw rs hd : Int32) : zz_E := .inr (1, [.ref (a + 1), .ref (a + 3), .ref (a + 17), .int fk, .int fp, .int (bI an), .int aw, .ref (a + 20), .int rs, .int hd])
section
variable {h : zz_H} {a : Nat}
theorem c_note {fk fp aw rs hd : Int32} {an : Bool} (h0 : hp_g h a = some (evO a fk fp an aw rs hd)) (x y : Int32) : zz_run 87 [.ref a, .int x, .int y] h = some (some (.int x), hp_s h a (evO a fk fp an aw x y)) := by
  unfold evO at *
  rw [en87 h0]
  simp (disch := first | assumption | exact zz_nl_i _ | exact zz_nl_r _ | exact zz_nl_n | exact okv_i _ | exact okv_j _ | exact okv_0 | exact okv_1 | exact okv_o _ _ | exact okv_a _ _ | omega | exact llt_0 | ((repeat apply llt_s) <;> exact llt_0) | fail) only [x87, h0, mo_k_v, mo_k_n, mo_v_e, mo_gf_e, mo_pf_e, mo_ia_e, mo_ba_e, mo_za_e, mo_la_e, mo_aa_e, mo_le_e, mo_is_e, mo_bs_e, mo_zs_0, mo_zs_1, mo_ls_e, mo_as_e, mo_na_e, mo_aci_e, mo_acb_e, mo_acj_e, hp_gs, hp_gn, hp_ss, List.getElem?_cons_zero, List.getElem?_cons_succ, List.set_cons_zero, List.set_cons_succ]
theorem okv_z (b : Bool) : zz_okv .boolean (.int (bI b)) = true := by cases b; exact okv_0; exact okv_1
theorem c_copyEv {c : Nat} {fk fp aw rs hd fk2 fp2 aw2 rs2 hd2 : Int32} {an an2 : Bool} {tl tl2 : Nat} {p q : Pl} {tb rk tg f ch ba af tb2 rk2 tg2 f2 ch2 ba2 af2 : Nat → Int32}
    (h0 : hp_g h a = some (evO a fk fp an aw rs hd)) (ht : isTape h (a + 1) tb tl) (hs : isStock h (a + 3) p rk tg f) (hc : isChoice h (a + 17) ch ba) (hb : isSets h (a + 20) 1 af)
    (j0 : hp_g h c = some (evO c fk2 fp2 an2 aw2 rs2 hd2)) (jt : isTape h (c + 1) tb2 tl2) (js : isStock h (c + 3) q rk2 tg2 f2) (jc : isChoice h (c + 17) ch2 ba2) (jb : isSets h (c + 20) 1 af2) (hac : a + 22 ≤ c ∨ c + 22 ≤ a) :
    ∃ k tb' p' rk' tg' f' ch' ba' af', zz_run 148 [.ref a, .ref c] h = some (none, k) ∧ hp_g k a = some (evO a fk2 fp2 an2 aw2 rs2 hd2) ∧ isTape k (a + 1) tb' tl2 ∧ isStock k (a + 3) p' rk' tg' f' ∧ isChoice k (a + 17) ch' ba' ∧ isSets k (a + 20) 1 af' ∧ eqN 600 tb' tb2 ∧ plE p' q ∧ eqN 256 rk' rk2 ∧ eqN 256 tg' tg2 ∧ eqN 168 f' f2 ∧ eqN 20 ch' ch2 ∧ eqN 4 ba' ba2 ∧ eqN 8 af' af2 ∧ frm h k a (a + 22) := by
  obtain ⟨k1, tb', e1, t1, q1, g1⟩ := c_copyTape ht jt (by omega)
  obtain ⟨k2, p', rk', tg', f', e2, s2, pe, q2, q3, q4, g2⟩ := c_copyStock (isStock_sam hs (frm_sam g1 (by omega))) (isStock_sam js (frm_sam g1 (by omega))) (by omega)
  have G2 := frm_trans (frm_mono g1 (show a ≤ a + 1 by omega) (show a + 1 + 2 ≤ a + 22 by omega)) (frm_mono g2 (show a ≤ a + 3 by omega) (show a + 3 + 14 ≤ a + 22 by omega))
  have hc2 := isChoice_sam (isChoice_sam hc (frm_sam g1 (by omega))) (frm_sam g2 (by omega))
  have jc2 := isChoice_sam jc (frm_sam G2 (by omega))
  obtain ⟨k3, ch', ba', e3, s3, q5, q6, g3⟩ := c_copyChoice hc2 jc2 (by omega)
  have G3 := frm_trans G2 (frm_mono g3 (show a ≤ a + 17 by omega) (show a + 17 + 3 ≤ a + 22 by omega))
  have x1 := (g1.2.2.2 a (by omega)).trans h0
  have x2 := (g2.2.2.2 a (by omega)).trans x1
  have x3 := (g3.2.2.2 a (by omega)).trans x2
  have y1 := (g1.2.2.2 c (by omega)).trans j0
  have y2 := (g2.2.2.2 c (by omega)).trans y1
  have y3 := (g3.2.2.2 c (by omega)).trans y2
  have hb3 := isSets_sam (isSets_sam (isSets_sam hb (frm_sam g1 (by omega))) (frm_sam g2 (by omega))) (frm_sam g3 (by omega))
  have jb3 := isSets_sam jb (frm_sam G3 (by omega))
  have e4 := c_copySets (isSets_s (b := a) (e := evO a fk2 fp2 an2 aw2 rs hd) hb3 (by omega)) (isSets_s (b := a) (e := evO a fk2 fp2 an2 aw2 rs hd) jb3 (by omega))
  have ok := okv_z an2
  unfold evO at *
  rw [en148 h0]
  simp (disch := first | assumption | exact zz_nl_i _ | exact zz_nl_r _ | exact zz_nl_n | exact okv_i _ | exact okv_j _ | exact okv_0 | exact okv_1 | exact okv_o _ _ | exact okv_a _ _ | omega | exact llt_0 | ((repeat apply llt_s) <;> exact llt_0) | fail) only [x148, h0, j0, e1, x1, y1, e2, x2, y2, e3, x3, y3, e4, ok, mo_k_v, mo_k_n, mo_v_e, mo_gf_e, mo_pf_e, mo_ia_e, mo_ba_e, mo_za_e, mo_la_e, mo_aa_e, mo_le_e, mo_is_e, mo_bs_e, mo_zs_0, mo_zs_1, mo_ls_e, mo_as_e, mo_na_e, mo_aci_e, mo_acb_e, mo_acj_e, hp_gs, hp_gn, hp_ss, List.getElem?_cons_zero, List.getElem?_cons_succ, List.set_cons_zero, List.set_cons_succ]
  refine ⟨_, tb', p', rk', tg', f', ch', ba', va_cpy af2 af 0 0 (8 * 1), rfl, ?_, ?_, ?_, ?_, ?_, q1, pe, q2, q3, q4, q5, q6, ?_, ?_⟩
  · simp (disch := first | assumption | exact zz_nl_i _ | exact zz_nl_r _ | exact zz_nl_n | exact okv_i _ | exact okv_j _ | exact okv_0 | exact okv_1 | exact okv_o _ _ | exact okv_a _ _ | omega | exact llt_0 | ((repeat apply llt_s) <;> exact llt_0) | fail) only [mo_k_v, mo_k_n, mo_v_e, mo_gf_e, mo_pf_e, mo_ia_e, mo_ba_e, mo_za_e, mo_la_e, mo_aa_e, mo_le_e, mo_is_e, mo_bs_e, mo_zs_0, mo_zs_1, mo_ls_e, mo_as_e, mo_na_e, mo_aci_e, mo_acb_e, mo_acj_e, hp_gs, hp_gn, hp_ss, List.getElem?_cons_zero, List.getElem?_cons_succ, List.set_cons_zero, List.set_cons_succ]
  · exact isTape_s (isTape_s (isTape_s (isTape_sam (isTape_sam t1 (frm_sam g2 (by omega))) (frm_sam g3 (by omega))) (by omega)) (by omega)) (by omega)
  · exact isStock_s (isStock_s (isStock_s (isStock_sam s2 (frm_sam g3 (by omega))) (by omega)) (by omega)) (by omega)
  · exact isChoice_s (isChoice_s (isChoice_s s3 (by omega)) (by omega)) (by omega)
  · exact isSets_s (isSets_set (isSets_s hb3 (by omega))) (by omega)
  · exact eqN_cpy _ _ _
  · exact frm_s (by omega) (frm_s (by omega) (frm_s (by omega) G3))
end
