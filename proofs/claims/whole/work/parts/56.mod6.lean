/-! the reference: parting, sums, count -/
section
variable {h : zz_H} {M : Nat} {A : Nat → Int32} {mt mk mp mu ms mn mo ml : Int32} {mv : Int64} {me mf mw : Int32} {p : Pl} {rk tg f ch ba : Nat → Int32}
/-- the parting with any start above -/
theorem pt_start (lf f ch : Nat → Int32) {a b : Nat} (ha : amt lf < a) (hb : amt lf < b) (ha2 : a < 2147483648) (hb2 : b < 2147483648) : ∀ n, (lp_it (ptS lf f ch) n (-1, nI a)).1 = (lp_it (ptS lf f ch) n (-1, nI b)).1 ∧ ((lp_it (ptS lf f ch) n (-1, nI a)).2 = (lp_it (ptS lf f ch) n (-1, nI b)).2 ∨ (lp_it (ptS lf f ch) n (-1, nI a)).2 = nI a ∧ (lp_it (ptS lf f ch) n (-1, nI b)).2 = nI b)
  | 0 => ⟨rfl, Or.inr ⟨rfl, rfl⟩⟩
  | n + 1 => by
    obtain ⟨i1, i2⟩ := pt_start lf f ch ha hb ha2 hb2 n
    rw [lp_it_s, lp_it_s]
    generalize lp_it (ptS lf f ch) n (-1, nI a) = s at *
    generalize lp_it (ptS lf f ch) n (-1, nI b) = t at *
    obtain ⟨s1, s2⟩ := s
    obtain ⟨t1, t2⟩ := t
    dsimp only at i1 i2
    subst i1
    rcases i2 with e | ⟨e1, e2⟩
    · subst e
      exact ⟨rfl, Or.inl rfl⟩
    · subst e1 e2
      have hl : amt (fun b => lf b &&& f (8 * n + b)) ≤ amt lf := by
        unfold amt
        refine fb_sm_le (fun b _ => ?_)
        unfold pc
        exact fb_ct_sub (fun i hi => by rw [b_and, Bool.and_eq_true]; exact fun c => c.1)
      have hm : max (amt (fun b => lf b &&& f (8 * n + b))) (amt lf - amt (fun b => lf b &&& f (8 * n + b))) ≤ amt lf := by omega
      unfold ptS
      dsimp only
      by_cases c : ch n = nI 0
      · rw [if_pos ⟨c, (nI_ltI (by omega) (by omega)).mpr (by omega)⟩, if_pos ⟨c, (nI_ltI (by omega) (by omega)).mpr (by omega)⟩]
        exact ⟨rfl, Or.inl rfl⟩
      · rw [if_neg (fun q => c q.1), if_neg (fun q => c q.1)]
        exact ⟨rfl, Or.inr ⟨rfl, rfl⟩⟩
theorem m_parting (w0 : hp_g h M = some (mdO M mt mk mp mu ms mn mo ml mv me mf mw)) (wA : hp_g h (M + 1) = some (iA 12639 A)) (hr : RS A 0 p rk tg ch ba) (hc : CI p rk tg f ch ba) (hs : scr3 h M) : ∃ k, zz_run 178 [.ref M] h = some (some (.int (ptV (fun b => lfW p f ch ba b (-1) (-1)) f ch (pnv p))), k) ∧ scr3 k M ∧ frm h k (M + 4) (M + 7) := by
  obtain ⟨r1, r2, r3, r4⟩ := hr.1
  rw [Nat.zero_add] at r4
  obtain ⟨k0, e0, a6, s0, hf0⟩ := m_leftMany w0 wA hr hc hs
  have hle := amt_le (fun b => lfW p f ch ba b (-1) (-1))
  generalize hL : (fun b => lfW p f ch ba b (-1) (-1)) = L at *
  by_cases hpos : 0 < amt L
  · have step : ∀ v (s : zz_H × (Int32 × Int32) × Option Value × Option Value), v < pnv p → (scr3 s.1 M ∧ ar8 s.1 (M + 6) L ∧ frm h s.1 (M + 4) (M + 7) ∧ s.2.1 = lp_it (ptS L f ch) v (-1, nI 257) ∧ zz_nl s.2.2.1 = true ∧ zz_nl s.2.2.2 = true) → ∃ s' : zz_H × (Int32 × Int32) × Option Value × Option Value, (scr3 s'.1 M ∧ ar8 s'.1 (M + 6) L ∧ frm h s'.1 (M + 4) (M + 7) ∧ s'.2.1 = lp_it (ptS L f ch) (v + 1) (-1, nI 257) ∧ zz_nl s'.2.2.1 = true ∧ zz_nl s'.2.2.2 = true) ∧ zz_Y 178 (14, [some (.ref (M)), some (.int (s.2.1.1)), some (.int (s.2.1.2)), some (.int (nI (amt L))), some (.int (nI (v))), s.2.2.1, s.2.2.2], [], s.1) = zz_Y 178 (14, [some (.ref (M)), some (.int (s'.2.1.1)), some (.int (s'.2.1.2)), some (.int (nI (amt L))), some (.int (nI (v + 1))), s'.2.2.1, s'.2.2.2], [], s'.1) := by
      rintro v ⟨k, ⟨b1, b2⟩, o1, o2⟩ hv ⟨hs, h6, hf, hb, ho1, ho2⟩
      dsimp only at hs h6 hf hb ho1 ho2 ⊢
      have hv20 : v < 20 := by omega
      have q3 := (hr.2.2.1 v hv).2.2.1
      rw [Nat.zero_add] at q3
      have w0' := (hf.2.2.2 M (by omega)).trans w0
      have wA' := (hf.2.2.2 (M + 1) (by omega)).trans wA
      obtain ⟨V5, a5⟩ := hs.2.1
      obtain ⟨k2, e2, s2, hf2⟩ := m_inSet w0' wA' hr hc a5 h6 hv
      have w0'' := (hf2.2.2.2 M (by omega)).trans w0'
      have wA'' := (hf2.2.2.2 (M + 1) (by omega)).trans wA'
      have hs2 : scr3 k2 M := by
        obtain ⟨V4, a4⟩ := hs.1
        exact ⟨⟨V4, ar8_sam a4 (hf2.2.2.2 _ (by omega))⟩, s2, _, ar8_sam h6 (hf2.2.2.2 _ (by omega))⟩
      have h62 := ar8_sam h6 (hf2.2.2.2 (M + 6) (by omega))
      have hl : amt (fun b => L b &&& f (8 * v + b)) ≤ amt L := by
        unfold amt
        refine fb_sm_le (fun b _ => ?_)
        unfold pc
        exact fb_ct_sub (fun i hi => by rw [b_and, Bool.and_eq_true]; exact fun c => c.1)
      generalize hI : amt (fun b => L b &&& f (8 * v + b)) = I at *
      have es : nI (amt L) - nI I = nI (amt L - I) := pk_sub (by omega)
      have hpt : lp_it (ptS L f ch) (v + 1) (-1, nI 257) = if ch v = nI 0 ∧ nI (max I (amt L - I)) < b2 then (nI v, nI (max I (amt L - I))) else (b1, b2) := by
        rw [lp_it_s, ← hb]
        unfold ptS
        rw [hI]
      rw [x178_c14, hpt]
      by_cases c1 : ch v = nI 0
      · have c1t := eq_true c1
        by_cases c2 : nI (max I (amt L - I)) < b2
        · rw [if_pos ⟨c1, c2⟩]
          refine ⟨(k2, (nI v, nI (max I (amt L - I))), some (.int (nI I)), some (.int (nI (max I (amt L - I))))), ⟨hs2, h62, frm_trans hf (frm_mono hf2 (by omega) (by omega)), rfl, zz_nl_i _, zz_nl_i _⟩, ?_⟩
          by_cases c3 : amt L - I < I
          · have : max I (amt L - I) = I := Nat.max_eq_left (by omega)
            rw [this] at c2 ⊢
            simp (disch := first | assumption | exact zz_nl_i _ | exact zz_nl_r _ | exact zz_nl_n | exact okv_i _ | exact okv_j _ | exact okv_0 | exact okv_1 | exact okv_o _ _ | exact okv_a _ _ | exact bI_okr _ | omega | exact llt_0 | ((repeat apply llt_s) <;> exact llt_0) | fail) only [x178, w0', wA', r4, nI_ltI, hv, if_true, hpos, e2, es, c3, m_chosen w0'' wA'' hv20, q3, c1t, c2, nI_add, mo_k_v, mo_k_n, mo_v_e, mo_gf_e, mo_pf_e, mo_ia_e, mo_ba_e, mo_za_e, mo_la_e, mo_aa_e, mo_le_e, mo_is_e, mo_bs_e, mo_zs_0, mo_zs_1, mo_ls_e, mo_as_e, mo_na_e, mo_aci_e, mo_acb_e, mo_acj_e, hp_gs, hp_gn, hp_ss, List.getElem?_cons_zero, List.getElem?_cons_succ, List.set_cons_zero, List.set_cons_succ]
          · have : max I (amt L - I) = amt L - I := Nat.max_eq_right (by omega)
            rw [this] at c2 ⊢
            simp (disch := first | assumption | exact zz_nl_i _ | exact zz_nl_r _ | exact zz_nl_n | exact okv_i _ | exact okv_j _ | exact okv_0 | exact okv_1 | exact okv_o _ _ | exact okv_a _ _ | exact bI_okr _ | omega | exact llt_0 | ((repeat apply llt_s) <;> exact llt_0) | fail) only [x178, w0', wA', r4, nI_ltI, hv, if_true, if_false, hpos, e2, es, c3, m_chosen w0'' wA'' hv20, q3, c1t, c2, nI_add, mo_k_v, mo_k_n, mo_v_e, mo_gf_e, mo_pf_e, mo_ia_e, mo_ba_e, mo_za_e, mo_la_e, mo_aa_e, mo_le_e, mo_is_e, mo_bs_e, mo_zs_0, mo_zs_1, mo_ls_e, mo_as_e, mo_na_e, mo_aci_e, mo_acb_e, mo_acj_e, hp_gs, hp_gn, hp_ss, List.getElem?_cons_zero, List.getElem?_cons_succ, List.set_cons_zero, List.set_cons_succ]
        · rw [if_neg (fun q => c2 q.2)]
          refine ⟨(k2, (b1, b2), some (.int (nI I)), some (.int (nI (max I (amt L - I))))), ⟨hs2, h62, frm_trans hf (frm_mono hf2 (by omega) (by omega)), rfl, zz_nl_i _, zz_nl_i _⟩, ?_⟩
          by_cases c3 : amt L - I < I
          · have : max I (amt L - I) = I := Nat.max_eq_left (by omega)
            rw [this] at c2 ⊢
            simp (disch := first | assumption | exact zz_nl_i _ | exact zz_nl_r _ | exact zz_nl_n | exact okv_i _ | exact okv_j _ | exact okv_0 | exact okv_1 | exact okv_o _ _ | exact okv_a _ _ | exact bI_okr _ | omega | exact llt_0 | ((repeat apply llt_s) <;> exact llt_0) | fail) only [x178, w0', wA', r4, nI_ltI, hv, if_true, if_false, hpos, e2, es, c3, m_chosen w0'' wA'' hv20, q3, c1t, c2, nI_add, mo_k_v, mo_k_n, mo_v_e, mo_gf_e, mo_pf_e, mo_ia_e, mo_ba_e, mo_za_e, mo_la_e, mo_aa_e, mo_le_e, mo_is_e, mo_bs_e, mo_zs_0, mo_zs_1, mo_ls_e, mo_as_e, mo_na_e, mo_aci_e, mo_acb_e, mo_acj_e, hp_gs, hp_gn, hp_ss, List.getElem?_cons_zero, List.getElem?_cons_succ, List.set_cons_zero, List.set_cons_succ]
          · have : max I (amt L - I) = amt L - I := Nat.max_eq_right (by omega)
            rw [this] at c2 ⊢
            simp (disch := first | assumption | exact zz_nl_i _ | exact zz_nl_r _ | exact zz_nl_n | exact okv_i _ | exact okv_j _ | exact okv_0 | exact okv_1 | exact okv_o _ _ | exact okv_a _ _ | exact bI_okr _ | omega | exact llt_0 | ((repeat apply llt_s) <;> exact llt_0) | fail) only [x178, w0', wA', r4, nI_ltI, hv, if_true, if_false, hpos, e2, es, c3, m_chosen w0'' wA'' hv20, q3, c1t, c2, nI_add, mo_k_v, mo_k_n, mo_v_e, mo_gf_e, mo_pf_e, mo_ia_e, mo_ba_e, mo_za_e, mo_la_e, mo_aa_e, mo_le_e, mo_is_e, mo_bs_e, mo_zs_0, mo_zs_1, mo_ls_e, mo_as_e, mo_na_e, mo_aci_e, mo_acb_e, mo_acj_e, hp_gs, hp_gn, hp_ss, List.getElem?_cons_zero, List.getElem?_cons_succ, List.set_cons_zero, List.set_cons_succ]
      · rw [if_neg (fun q => c1 q.1)]
        refine ⟨(k2, (b1, b2), some (.int (nI I)), some (.int (nI (max I (amt L - I))))), ⟨hs2, h62, frm_trans hf (frm_mono hf2 (by omega) (by omega)), rfl, zz_nl_i _, zz_nl_i _⟩, ?_⟩
        by_cases c3 : amt L - I < I
        · have : max I (amt L - I) = I := Nat.max_eq_left (by omega)
          rw [this]
          simp (disch := first | assumption | exact zz_nl_i _ | exact zz_nl_r _ | exact zz_nl_n | exact okv_i _ | exact okv_j _ | exact okv_0 | exact okv_1 | exact okv_o _ _ | exact okv_a _ _ | exact bI_okr _ | omega | exact llt_0 | ((repeat apply llt_s) <;> exact llt_0) | fail) only [x178, w0', wA', r4, nI_ltI, hv, if_true, if_false, hpos, e2, es, c3, m_chosen w0'' wA'' hv20, q3, c1, nI_add, mo_k_v, mo_k_n, mo_v_e, mo_gf_e, mo_pf_e, mo_ia_e, mo_ba_e, mo_za_e, mo_la_e, mo_aa_e, mo_le_e, mo_is_e, mo_bs_e, mo_zs_0, mo_zs_1, mo_ls_e, mo_as_e, mo_na_e, mo_aci_e, mo_acb_e, mo_acj_e, hp_gs, hp_gn, hp_ss, List.getElem?_cons_zero, List.getElem?_cons_succ, List.set_cons_zero, List.set_cons_succ]
        · have : max I (amt L - I) = amt L - I := Nat.max_eq_right (by omega)
          rw [this]
          simp (disch := first | assumption | exact zz_nl_i _ | exact zz_nl_r _ | exact zz_nl_n | exact okv_i _ | exact okv_j _ | exact okv_0 | exact okv_1 | exact okv_o _ _ | exact okv_a _ _ | exact bI_okr _ | omega | exact llt_0 | ((repeat apply llt_s) <;> exact llt_0) | fail) only [x178, w0', wA', r4, nI_ltI, hv, if_true, if_false, hpos, e2, es, c3, m_chosen w0'' wA'' hv20, q3, c1, nI_add, mo_k_v, mo_k_n, mo_v_e, mo_gf_e, mo_pf_e, mo_ia_e, mo_ba_e, mo_za_e, mo_la_e, mo_aa_e, mo_le_e, mo_is_e, mo_bs_e, mo_zs_0, mo_zs_1, mo_ls_e, mo_as_e, mo_na_e, mo_aci_e, mo_acb_e, mo_acj_e, hp_gs, hp_gn, hp_ss, List.getElem?_cons_zero, List.getElem?_cons_succ, List.set_cons_zero, List.set_cons_succ]
    obtain ⟨⟨k, ⟨b1, b2⟩, o1, o2⟩, ⟨s, h6, hf, hb, ho1, ho2⟩, e⟩ := lp_ex (N := pnv p) (St := fun v (s : zz_H × (Int32 × Int32) × Option Value × Option Value) => zz_Y 178 (14, [some (.ref (M)), some (.int (s.2.1.1)), some (.int (s.2.1.2)), some (.int (nI (amt L))), some (.int (nI (v))), s.2.2.1, s.2.2.2], [], s.1)) step (s := (k0, (-1, nI 257), none, none)) ⟨s0, a6, hf0, rfl, zz_nl_n, zz_nl_n⟩
    dsimp only at s h6 hf hb ho1 ho2 e
    have w0' := (hf.2.2.2 M (by omega)).trans w0
    have wA' := (hf.2.2.2 (M + 1) (by omega)).trans wA
    refine ⟨k, ?_, s, hf⟩
    rw [en178 w0]
    simp (disch := first | assumption | exact zz_nl_i _ | exact zz_nl_r _ | exact zz_nl_n | exact okv_i _ | exact okv_j _ | exact okv_0 | exact okv_1 | exact okv_o _ _ | exact okv_a _ _ | exact bI_okr _ | omega | exact llt_0 | ((repeat apply llt_s) <;> exact llt_0) | fail) only [x178, e0, mo_k_v, mo_k_n, mo_v_e, mo_gf_e, mo_pf_e, mo_ia_e, mo_ba_e, mo_za_e, mo_la_e, mo_aa_e, mo_le_e, mo_is_e, mo_bs_e, mo_zs_0, mo_zs_1, mo_ls_e, mo_as_e, mo_na_e, mo_aci_e, mo_acb_e, mo_acj_e, hp_gs, hp_gn, hp_ss, List.getElem?_cons_zero, List.getElem?_cons_succ, List.set_cons_zero, List.set_cons_succ]
    refine e.trans ?_
    rw [x178_c14]
    simp (disch := first | assumption | exact zz_nl_i _ | exact zz_nl_r _ | exact zz_nl_n | exact okv_i _ | exact okv_j _ | exact okv_0 | exact okv_1 | exact okv_o _ _ | exact okv_a _ _ | exact bI_okr _ | omega | exact llt_0 | ((repeat apply llt_s) <;> exact llt_0) | fail) only [x178, w0', wA', r4, nI_ltI, Nat.lt_irrefl, if_false, mo_k_v, mo_k_n, mo_v_e, mo_gf_e, mo_pf_e, mo_ia_e, mo_ba_e, mo_za_e, mo_la_e, mo_aa_e, mo_le_e, mo_is_e, mo_bs_e, mo_zs_0, mo_zs_1, mo_ls_e, mo_as_e, mo_na_e, mo_aci_e, mo_acb_e, mo_acj_e, hp_gs, hp_gn, hp_ss, List.getElem?_cons_zero, List.getElem?_cons_succ, List.set_cons_zero, List.set_cons_succ]
    unfold ptV
    rw [if_pos hpos, ← (pt_start L f ch (a := 257) (b := amt L + 1) (by omega) (by omega) (by omega) (by omega) (pnv p)).1, ← hb]
  · refine ⟨k0, ?_, s0, hf0⟩
    have w0' := (hf0.2.2.2 M (by omega)).trans w0
    have wA' := (hf0.2.2.2 (M + 1) (by omega)).trans wA
    rw [en178 w0]
    unfold ptV
    rw [if_neg hpos]
    by_cases c : 0 < pnv p
    · simp (disch := first | assumption | exact zz_nl_i _ | exact zz_nl_r _ | exact zz_nl_n | exact okv_i _ | exact okv_j _ | exact okv_0 | exact okv_1 | exact okv_o _ _ | exact okv_a _ _ | exact bI_okr _ | omega | exact llt_0 | ((repeat apply llt_s) <;> exact llt_0) | fail) only [x178, e0, mo_k_v, mo_k_n, mo_v_e, mo_gf_e, mo_pf_e, mo_ia_e, mo_ba_e, mo_za_e, mo_la_e, mo_aa_e, mo_le_e, mo_is_e, mo_bs_e, mo_zs_0, mo_zs_1, mo_ls_e, mo_as_e, mo_na_e, mo_aci_e, mo_acb_e, mo_acj_e, hp_gs, hp_gn, hp_ss, List.getElem?_cons_zero, List.getElem?_cons_succ, List.set_cons_zero, List.set_cons_succ]
      rw [x178_c14]
      simp (disch := first | assumption | exact zz_nl_i _ | exact zz_nl_r _ | exact zz_nl_n | exact okv_i _ | exact okv_j _ | exact okv_0 | exact okv_1 | exact okv_o _ _ | exact okv_a _ _ | exact bI_okr _ | omega | exact llt_0 | ((repeat apply llt_s) <;> exact llt_0) | fail) only [x178, w0', wA', r4, nI_ltI, c, if_true, hpos, if_false, mo_k_v, mo_k_n, mo_v_e, mo_gf_e, mo_pf_e, mo_ia_e, mo_ba_e, mo_za_e, mo_la_e, mo_aa_e, mo_le_e, mo_is_e, mo_bs_e, mo_zs_0, mo_zs_1, mo_ls_e, mo_as_e, mo_na_e, mo_aci_e, mo_acb_e, mo_acj_e, hp_gs, hp_gn, hp_ss, List.getElem?_cons_zero, List.getElem?_cons_succ, List.set_cons_zero, List.set_cons_succ]
    · simp (disch := first | assumption | exact zz_nl_i _ | exact zz_nl_r _ | exact zz_nl_n | exact okv_i _ | exact okv_j _ | exact okv_0 | exact okv_1 | exact okv_o _ _ | exact okv_a _ _ | exact bI_okr _ | omega | exact llt_0 | ((repeat apply llt_s) <;> exact llt_0) | fail) only [x178, e0, mo_k_v, mo_k_n, mo_v_e, mo_gf_e, mo_pf_e, mo_ia_e, mo_ba_e, mo_za_e, mo_la_e, mo_aa_e, mo_le_e, mo_is_e, mo_bs_e, mo_zs_0, mo_zs_1, mo_ls_e, mo_as_e, mo_na_e, mo_aci_e, mo_acb_e, mo_acj_e, hp_gs, hp_gn, hp_ss, List.getElem?_cons_zero, List.getElem?_cons_succ, List.set_cons_zero, List.set_cons_succ]
      rw [x178_c14]
      simp (disch := first | assumption | exact zz_nl_i _ | exact zz_nl_r _ | exact zz_nl_n | exact okv_i _ | exact okv_j _ | exact okv_0 | exact okv_1 | exact okv_o _ _ | exact okv_a _ _ | exact bI_okr _ | omega | exact llt_0 | ((repeat apply llt_s) <;> exact llt_0) | fail) only [x178, w0', wA', r4, nI_ltI, c, if_false, mo_k_v, mo_k_n, mo_v_e, mo_gf_e, mo_pf_e, mo_ia_e, mo_ba_e, mo_za_e, mo_la_e, mo_aa_e, mo_le_e, mo_is_e, mo_bs_e, mo_zs_0, mo_zs_1, mo_ls_e, mo_as_e, mo_na_e, mo_aci_e, mo_acb_e, mo_acj_e, hp_gs, hp_gn, hp_ss, List.getElem?_cons_zero, List.getElem?_cons_succ, List.set_cons_zero, List.set_cons_succ]
end
