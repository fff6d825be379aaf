/-! the reference: what is left, counted -/
theorem okL_cong {p : Pl} {fb : Nat → Bool} {ch ch' ba : Nat → Int32} {th : Bool} {op : Int32} (hc : ∀ v, v < pnv p → ch v = ch' v) : okL p fb ch ba th op ↔ okL p fb ch' ba th op := by
  have oh : ∀ d, okH p fb ch ba d ↔ okH p fb ch' ba d := by
    intro d
    unfold okH
    refine or_congr ⟨fun a v h1 h2 h3 => a v h1 h2 ((hc v h1).trans h3), fun a v h1 h2 h3 => a v h1 h2 ((hc v h1).symm.trans h3)⟩ ?_
    split
    · exact ⟨fun a v h1 h2 h3 => a v h1 h2 ((hc v h1).trans h3), fun a v h1 h2 h3 => a v h1 h2 ((hc v h1).symm.trans h3)⟩
    · exact ⟨fun ⟨v, h1, h2, h3, h4⟩ => ⟨v, h1, h2, (hc v h1).symm.trans h3, h4⟩, fun ⟨v, h1, h2, h3, h4⟩ => ⟨v, h1, h2, (hc v h1).trans h3, h4⟩⟩
  unfold okL
  exact and_congr Iff.rfl (and_congr ⟨fun a d h1 h2 => (oh d).mp (a d h1 h2), fun a d h1 h2 => (oh d).mpr (a d h1 h2)⟩ ⟨fun a v h1 h2 => a v h1 ((hc v h1).trans h2), fun a v h1 h2 => a v h1 ((hc v h1).symm.trans h2)⟩)
theorem exC_m1 (ch : Nat → Int32) {v : Nat} (hv : v < 20) : exC ch (-1) v = ch v := if_neg (nI_m1 (by omega))
theorem exC_v (ch : Nat → Int32) {u v : Nat} (hu : u < 20) (hv : v < 20) : exC ch (nI v) u = upd ch v (nI 1) u := by
  unfold exC upd
  simp only [nI_eq (show u < 2147483648 by omega) (show v < 2147483648 by omega)]
theorem lf_there {p : Pl} (hw : wfP p) (f ch ba : Nat → Int32) (b : Nat) (op ex : Int32) (hnv : pnv p ≤ 20) : lfW p f ch ba b op ex &&& f (8 * 20 + b) = lfW p f ch ba b op ex := by
  refine b_ext (fun i hi => ?_)
  rw [b_and]
  cases e : bt (lfW p f ch ba b op ex) i with
  | false => rfl
  | true => rw [((lf_bt hw f ch ba op ex hi hnv).mp e).1]; rfl
theorem lf_ex {p : Pl} (hw : wfP p) (f ch ba : Nat → Int32) (b : Nat) (op : Int32) (hnv : pnv p ≤ 20) {v : Nat} (hv : v < pnv p) : lfW p f ch ba b op (nI v) = lfW p f (upd ch v (nI 1)) ba b op (-1) := by
  refine b_ext (fun i hi => Bool.eq_iff_iff.mpr ?_)
  rw [lf_bt hw f ch ba op (nI v) hi hnv, lf_bt hw f (upd ch v (nI 1)) ba op (-1) hi hnv]
  exact okL_cong (fun u hu => by rw [exC_v ch (by omega) (by omega), exC_m1 _ (by omega)])
def scr3 (h : zz_H) (M : Nat) : Prop := (∃ W, ar8 h (M + 4) W) ∧ (∃ W, ar8 h (M + 5) W) ∧ (∃ W, ar8 h (M + 6) W)
theorem scr3_sam {h k : zz_H} {M : Nat} (hs : scr3 h M) (hk : sam h k (M + 4) (M + 7)) : scr3 k M := by
  obtain ⟨⟨a, ha⟩, ⟨b, hb⟩, ⟨c, hc⟩⟩ := hs
  exact ⟨⟨a, ar8_sam ha (hk _ (by omega) (by omega))⟩, ⟨b, ar8_sam hb (hk _ (by omega) (by omega))⟩, ⟨c, ar8_sam hc (hk _ (by omega) (by omega))⟩⟩
section
variable {h : zz_H} {M : Nat} {A : Nat → Int32} {mt mk mp mu ms mn mo ml : Int32} {mv : Int64} {me mf mw : Int32} {p : Pl} {rk tg f ch ba : Nat → Int32}
theorem m_laysLeft (w0 : hp_g h M = some (mdO M mt mk mp mu ms mn mo ml mv me mf mw)) (wA : hp_g h (M + 1) = some (iA 12639 A)) (hr : RS A 0 p rk tg ch ba) (hc : CI p rk tg f ch ba) (hs : scr3 h M) (op : Int32) : ∃ k, zz_run 167 [.ref M, .int op] h = some (none, k) ∧ ar8 k (M + 6) (fun b => lfW p f ch ba b op (-1)) ∧ scr3 k M ∧ frm h k (M + 4) (M + 7) := by
  have rV := hr.2.2.1
  obtain ⟨r1, r2, r3, r4⟩ := hr.1
  rw [Nat.zero_add] at r4
  obtain ⟨⟨V1, a4⟩, ⟨V2, a5⟩, ⟨V3, a6⟩⟩ := hs
  obtain ⟨g6, hg6, _⟩ := a6
  have l1 := lp_arr (N := 8) (St := fun b k => zz_Y 167 (2, [some (.ref (M)), some (.int (op)), some (.int (nI (b))), none], [], k)) (fun b _ => A (294 + b)) hg6 (fun b g hb => by
    rw [x167_c2]
    simp (disch := first | assumption | exact zz_nl_i _ | exact zz_nl_r _ | exact zz_nl_n | exact okv_i _ | exact okv_j _ | exact okv_0 | exact okv_1 | exact okv_o _ _ | exact okv_a _ _ | exact bI_okr _ | omega | exact llt_0 | ((repeat apply llt_s) <;> exact llt_0) | fail) only [x167_p0, x167_p1, w0, wA, nI_ltI, hb, if_true, nI_add, mo_k_v, mo_k_n, mo_v_e, mo_gf_e, mo_pf_e, mo_ia_e, mo_ba_e, mo_za_e, mo_la_e, mo_aa_e, mo_le_e, mo_is_e, mo_bs_e, mo_zs_0, mo_zs_1, mo_ls_e, mo_as_e, mo_na_e, mo_aci_e, mo_acb_e, mo_acj_e, hp_gs, hp_gn, hp_ss, List.getElem?_cons_zero, List.getElem?_cons_succ, List.set_cons_zero, List.set_cons_succ])
  rw [en167 w0]
  simp (disch := first | assumption | exact zz_nl_i _ | exact zz_nl_r _ | exact zz_nl_n | exact okv_i _ | exact okv_j _ | exact okv_0 | exact okv_1 | exact okv_o _ _ | exact okv_a _ _ | exact bI_okr _ | omega | exact llt_0 | ((repeat apply llt_s) <;> exact llt_0) | fail) only [x167_p0, x167_p1, mo_k_v, mo_k_n, mo_v_e, mo_gf_e, mo_pf_e, mo_ia_e, mo_ba_e, mo_za_e, mo_la_e, mo_aa_e, mo_le_e, mo_is_e, mo_bs_e, mo_zs_0, mo_zs_1, mo_ls_e, mo_as_e, mo_na_e, mo_aci_e, mo_acb_e, mo_acj_e, hp_gs, hp_gn, hp_ss, List.getElem?_cons_zero, List.getElem?_cons_succ, List.set_cons_zero, List.set_cons_succ]
  rw [l1, x167_c2]
  simp (disch := first | assumption | exact zz_nl_i _ | exact zz_nl_r _ | exact zz_nl_n | exact okv_i _ | exact okv_j _ | exact okv_0 | exact okv_1 | exact okv_o _ _ | exact okv_a _ _ | exact bI_okr _ | omega | exact llt_0 | ((repeat apply llt_s) <;> exact llt_0) | fail) only [x167_p0, x167_p1, nI_ltI, Nat.lt_irrefl, if_false, mo_k_v, mo_k_n, mo_v_e, mo_gf_e, mo_pf_e, mo_ia_e, mo_ba_e, mo_za_e, mo_la_e, mo_aa_e, mo_le_e, mo_is_e, mo_bs_e, mo_zs_0, mo_zs_1, mo_ls_e, mo_as_e, mo_na_e, mo_aci_e, mo_acb_e, mo_acj_e, hp_gs, hp_gn, hp_ss, List.getElem?_cons_zero, List.getElem?_cons_succ, List.set_cons_zero, List.set_cons_succ]
  have step : ∀ d (k : zz_H), d < pnh p → ((∃ R, ar8 k (M + 6) R ∧ ∀ b, b < 8 → ∀ i, i < 32 → (bt (R b) i = true ↔ bt (f (8 * 20 + b)) i = true ∧ ∀ e, e < d → ¬ nI e = op → okH p (fun v => bt (f (8 * v + b)) i) ch ba e)) ∧ (∃ W, ar8 k (M + 4) W) ∧ (∃ W, ar8 k (M + 5) W) ∧ frm h k (M + 4) (M + 7)) → ∃ k' : zz_H, ((∃ R, ar8 k' (M + 6) R ∧ ∀ b, b < 8 → ∀ i, i < 32 → (bt (R b) i = true ↔ bt (f (8 * 20 + b)) i = true ∧ ∀ e, e < d + 1 → ¬ nI e = op → okH p (fun v => bt (f (8 * v + b)) i) ch ba e)) ∧ (∃ W, ar8 k' (M + 4) W) ∧ (∃ W, ar8 k' (M + 5) W) ∧ frm h k' (M + 4) (M + 7)) ∧ zz_Y 167 (32, [some (.ref (M)), some (.int (op)), some (.int (nI (d))), none], [], k) = zz_Y 167 (32, [some (.ref (M)), some (.int (op)), some (.int (nI (d + 1))), none], [], k') := by
    rintro d k hd ⟨⟨R, hR, hRb⟩, ⟨W4, h4⟩, ⟨W5, h5⟩, hf⟩
    have w0' := (hf.2.2.2 M (by omega)).trans w0
    have wA' := (hf.2.2.2 (M + 1) (by omega)).trans wA
    rw [x167_c32]
    by_cases c : nI d = op
    · have ct := eq_true c
      refine ⟨k, ⟨⟨R, hR, fun b hb i hi => ?_⟩, ⟨W4, h4⟩, ⟨W5, h5⟩, hf⟩, ?_⟩
      · rw [hRb b hb i hi]
        exact and_congr Iff.rfl ⟨fun a e h1 h2 => a e (by (have : e ≠ d := fun q => h2 (q ▸ c)); omega) h2, fun a e h1 h2 => a e (by omega) h2⟩
      · simp (disch := first | assumption | exact zz_nl_i _ | exact zz_nl_r _ | exact zz_nl_n | exact okv_i _ | exact okv_j _ | exact okv_0 | exact okv_1 | exact okv_o _ _ | exact okv_a _ _ | exact bI_okr _ | omega | exact llt_0 | ((repeat apply llt_s) <;> exact llt_0) | fail) only [x167_p0, x167_p1, w0', wA', r3, nI_ltI, hd, if_true, ct, nI_add, mo_k_v, mo_k_n, mo_v_e, mo_gf_e, mo_pf_e, mo_ia_e, mo_ba_e, mo_za_e, mo_la_e, mo_aa_e, mo_le_e, mo_is_e, mo_bs_e, mo_zs_0, mo_zs_1, mo_ls_e, mo_as_e, mo_na_e, mo_aci_e, mo_acb_e, mo_acj_e, hp_gs, hp_gn, hp_ss, List.getElem?_cons_zero, List.getElem?_cons_succ, List.set_cons_zero, List.set_cons_succ]
    · obtain ⟨k2, R2, e2, hR2, hb2, h42, h52, f2⟩ := m_goesBy w0' wA' hr hc hd h4 h5 hR
      refine ⟨k2, ⟨⟨R2, hR2, fun b hb i hi => ?_⟩, h42, h52, frm_trans hf f2⟩, ?_⟩
      · rw [hb2 b hb i hi, hRb b hb i hi]
        constructor
        · rintro ⟨⟨a1, a2⟩, a3⟩
          refine ⟨a1, fun e h1 h2 => ?_⟩
          by_cases q : e = d
          · subst q; exact a3
          · exact a2 e (by omega) h2
        · rintro ⟨a1, a2⟩
          exact ⟨⟨a1, fun e h1 h2 => a2 e (by omega) h2⟩, a2 d (by omega) c⟩
      · simp (disch := first | assumption | exact zz_nl_i _ | exact zz_nl_r _ | exact zz_nl_n | exact okv_i _ | exact okv_j _ | exact okv_0 | exact okv_1 | exact okv_o _ _ | exact okv_a _ _ | exact bI_okr _ | omega | exact llt_0 | ((repeat apply llt_s) <;> exact llt_0) | fail) only [x167_p0, x167_p1, w0', wA', r3, nI_ltI, hd, if_true, c, if_false, e2, nI_add, mo_k_v, mo_k_n, mo_v_e, mo_gf_e, mo_pf_e, mo_ia_e, mo_ba_e, mo_za_e, mo_la_e, mo_aa_e, mo_le_e, mo_is_e, mo_bs_e, mo_zs_0, mo_zs_1, mo_ls_e, mo_as_e, mo_na_e, mo_aci_e, mo_acb_e, mo_acj_e, hp_gs, hp_gn, hp_ss, List.getElem?_cons_zero, List.getElem?_cons_succ, List.set_cons_zero, List.set_cons_succ]
  obtain ⟨k, ⟨⟨R, hR, hRb⟩, h4, h5, hf⟩, e⟩ := lp_ex (N := pnh p) (St := fun d (k : zz_H) => zz_Y 167 (32, [some (.ref (M)), some (.int (op)), some (.int (nI (d))), none], [], k)) step (s := hp_s h (M + 6) (iA 8 (mpa 8 (fun b _ => A (294 + b)) g6))) ⟨⟨_, ⟨_, hp_gs _ _ _, fun b hb => (mpa_in hb).trans (there_eq hr hc hb)⟩, fun b hb i hi => ⟨fun a => ⟨a, fun e h1 => by omega⟩, fun a => a.1⟩⟩, ⟨V1, ar8_ne a4 (by omega)⟩, ⟨V2, ar8_ne a5 (by omega)⟩, frm_s ⟨by omega, by omega⟩ (frm_refl _ _ _)⟩
  have w0' := (hf.2.2.2 M (by omega)).trans w0
  have wA' := (hf.2.2.2 (M + 1) (by omega)).trans wA
  have step2 : ∀ v (s : zz_H × Option Value), v < pnv p → ((∃ R, ar8 s.1 (M + 6) R ∧ ∀ b, b < 8 → ∀ i, i < 32 → (bt (R b) i = true ↔ (bt (f (8 * 20 + b)) i = true ∧ ∀ e, e < pnh p → ¬ nI e = op → okH p (fun v => bt (f (8 * v + b)) i) ch ba e) ∧ ∀ u, u < v → ch u = nI 2 → bt (f (8 * u + b)) i = false)) ∧ (∃ W, ar8 s.1 (M + 4) W) ∧ (∃ W, ar8 s.1 (M + 5) W) ∧ frm h s.1 (M + 4) (M + 7) ∧ zz_nl s.2 = true) → ∃ s' : zz_H × Option Value, ((∃ R, ar8 s'.1 (M + 6) R ∧ ∀ b, b < 8 → ∀ i, i < 32 → (bt (R b) i = true ↔ (bt (f (8 * 20 + b)) i = true ∧ ∀ e, e < pnh p → ¬ nI e = op → okH p (fun v => bt (f (8 * v + b)) i) ch ba e) ∧ ∀ u, u < v + 1 → ch u = nI 2 → bt (f (8 * u + b)) i = false)) ∧ (∃ W, ar8 s'.1 (M + 4) W) ∧ (∃ W, ar8 s'.1 (M + 5) W) ∧ frm h s'.1 (M + 4) (M + 7) ∧ zz_nl s'.2 = true) ∧ zz_Y 167 (60, [some (.ref (M)), some (.int (op)), some (.int (nI (v))), s.2], [], s.1) = zz_Y 167 (60, [some (.ref (M)), some (.int (op)), some (.int (nI (v + 1))), s'.2], [], s'.1) := by
    rintro v ⟨k, o⟩ hv ⟨⟨R, hR, hRb⟩, ⟨W4, h4⟩, ⟨W5, h5⟩, hf, ho⟩
    dsimp only at hR hRb h4 h5 hf ho ⊢
    have w0' := (hf.2.2.2 M (by omega)).trans w0
    have wA' := (hf.2.2.2 (M + 1) (by omega)).trans wA
    obtain ⟨_, _, q3, _⟩ := rV v hv
    rw [Nat.zero_add] at q3
    rw [x167_c60]
    by_cases c : ch v = nI 2
    · have ct := eq_true c
      obtain ⟨k2, e2, s2, f2⟩ := m_laysSet w0' wA' hr hc h5 (by omega) (by omega) hv
      have w0'' := (f2.2.2.2 M (by omega)).trans w0'
      obtain ⟨g6, hg6, e6⟩ := ar8_sam hR (f2.2.2.2 (M + 6) (by omega))
      have s2' := s2
      obtain ⟨g5, hg5, e5⟩ := s2
      refine ⟨(hp_s k2 (M + 6) (iA 8 (mpa 8 (fun b x => x &&& (g5 b ^^^ (-1))) g6)), some (.int (nI 8))), ⟨⟨_, ⟨_, hp_gs _ _ _, fun _ _ => rfl⟩, fun b hb i hi => ?_⟩, ⟨W4, ar8_ne (ar8_sam h4 (f2.2.2.2 (M + 4) (by omega))) (by omega)⟩, ⟨_, ar8_ne s2' (by omega)⟩, frm_s ⟨by omega, by omega⟩ (frm_trans hf (frm_mono f2 (by omega) (by omega))), zz_nl_i _⟩, ?_⟩
      · rw [mpa_in hb, b_and, b_not hi, Bool.and_eq_true, e6 b hb, hRb b hb i hi, e5 b hb, Bool.not_eq_true']
        constructor
        · rintro ⟨⟨a1, a2⟩, a3⟩
          refine ⟨a1, fun u h1 h2 => ?_⟩
          by_cases q : u = v
          · subst q; exact a3
          · exact a2 u (by omega) h2
        · rintro ⟨a1, a2⟩
          exact ⟨⟨a1, fun u h1 h2 => a2 u (by omega) h2⟩, a2 v (by omega) c⟩
      · simp (disch := first | assumption | exact zz_nl_i _ | exact zz_nl_r _ | exact zz_nl_n | exact okv_i _ | exact okv_j _ | exact okv_0 | exact okv_1 | exact okv_o _ _ | exact okv_a _ _ | exact bI_okr _ | omega | exact llt_0 | ((repeat apply llt_s) <;> exact llt_0) | fail) only [x167_p0, x167_p1, w0', wA', r4, nI_ltI, hv, if_true, m_chosen w0' wA' (show v < 20 by omega), q3, ct, e2, mo_k_v, mo_k_n, mo_v_e, mo_gf_e, mo_pf_e, mo_ia_e, mo_ba_e, mo_za_e, mo_la_e, mo_aa_e, mo_le_e, mo_is_e, mo_bs_e, mo_zs_0, mo_zs_1, mo_ls_e, mo_as_e, mo_na_e, mo_aci_e, mo_acb_e, mo_acj_e, hp_gs, hp_gn, hp_ss, List.getElem?_cons_zero, List.getElem?_cons_succ, List.set_cons_zero, List.set_cons_succ]
        have l2 := lp_arr (N := 8) (St := fun b k => zz_Y 167 (93, [some (.ref (M)), some (.int (op)), some (.int (nI (v))), some (.int (nI (b)))], [], k)) (fun b x => x &&& (g5 b ^^^ (-1))) hg6 (fun b g hb => by
          rw [x167_c93]
          simp (disch := first | assumption | exact zz_nl_i _ | exact zz_nl_r _ | exact zz_nl_n | exact okv_i _ | exact okv_j _ | exact okv_0 | exact okv_1 | exact okv_o _ _ | exact okv_a _ _ | exact bI_okr _ | omega | exact llt_0 | ((repeat apply llt_s) <;> exact llt_0) | fail) only [x167_p0, x167_p1, w0'', hg5, nI_ltI, hb, if_true, nI_add, mo_k_v, mo_k_n, mo_v_e, mo_gf_e, mo_pf_e, mo_ia_e, mo_ba_e, mo_za_e, mo_la_e, mo_aa_e, mo_le_e, mo_is_e, mo_bs_e, mo_zs_0, mo_zs_1, mo_ls_e, mo_as_e, mo_na_e, mo_aci_e, mo_acb_e, mo_acj_e, hp_gs, hp_gn, hp_ss, List.getElem?_cons_zero, List.getElem?_cons_succ, List.set_cons_zero, List.set_cons_succ])
        rw [l2, x167_c93]
        simp (disch := first | assumption | exact zz_nl_i _ | exact zz_nl_r _ | exact zz_nl_n | exact okv_i _ | exact okv_j _ | exact okv_0 | exact okv_1 | exact okv_o _ _ | exact okv_a _ _ | exact bI_okr _ | omega | exact llt_0 | ((repeat apply llt_s) <;> exact llt_0) | fail) only [x167_p0, x167_p1, nI_ltI, Nat.lt_irrefl, if_false, nI_add, mo_k_v, mo_k_n, mo_v_e, mo_gf_e, mo_pf_e, mo_ia_e, mo_ba_e, mo_za_e, mo_la_e, mo_aa_e, mo_le_e, mo_is_e, mo_bs_e, mo_zs_0, mo_zs_1, mo_ls_e, mo_as_e, mo_na_e, mo_aci_e, mo_acb_e, mo_acj_e, hp_gs, hp_gn, hp_ss, List.getElem?_cons_zero, List.getElem?_cons_succ, List.set_cons_zero, List.set_cons_succ]
    · refine ⟨(k, o), ⟨⟨R, hR, fun b hb i hi => ?_⟩, ⟨W4, h4⟩, ⟨W5, h5⟩, hf, ho⟩, ?_⟩
      · rw [hRb b hb i hi]
        exact and_congr Iff.rfl ⟨fun a u h1 h2 => a u (by (have : u ≠ v := fun q => c (q ▸ h2)); omega) h2, fun a u h1 h2 => a u (by omega) h2⟩
      · simp (disch := first | assumption | exact zz_nl_i _ | exact zz_nl_r _ | exact zz_nl_n | exact okv_i _ | exact okv_j _ | exact okv_0 | exact okv_1 | exact okv_o _ _ | exact okv_a _ _ | exact bI_okr _ | omega | exact llt_0 | ((repeat apply llt_s) <;> exact llt_0) | fail) only [x167_p0, x167_p1, w0', wA', r4, nI_ltI, hv, if_true, m_chosen w0' wA' (show v < 20 by omega), q3, c, if_false, nI_add, mo_k_v, mo_k_n, mo_v_e, mo_gf_e, mo_pf_e, mo_ia_e, mo_ba_e, mo_za_e, mo_la_e, mo_aa_e, mo_le_e, mo_is_e, mo_bs_e, mo_zs_0, mo_zs_1, mo_ls_e, mo_as_e, mo_na_e, mo_aci_e, mo_acb_e, mo_acj_e, hp_gs, hp_gn, hp_ss, List.getElem?_cons_zero, List.getElem?_cons_succ, List.set_cons_zero, List.set_cons_succ]
  obtain ⟨⟨k2, o⟩, ⟨⟨R2, hR2, hRb2⟩, h42, h52, hf2, ho⟩, e2⟩ := lp_ex (N := pnv p) (St := fun v (s : zz_H × Option Value) => zz_Y 167 (60, [some (.ref (M)), some (.int (op)), some (.int (nI (v))), s.2], [], s.1)) step2 (s := (k, none)) ⟨⟨R, hR, fun b hb i hi => by rw [hRb b hb i hi]; exact ⟨fun a => ⟨a, fun u h1 => by omega⟩, fun a => a.1⟩⟩, h4, h5, hf, zz_nl_n⟩
  dsimp only at hR2 hRb2 h42 h52 hf2 ho e2
  have w0'' := (hf2.2.2.2 M (by omega)).trans w0
  have wA'' := (hf2.2.2.2 (M + 1) (by omega)).trans wA
  refine ⟨k2, e.trans ?_, ar8_eq hR2 (fun b hb => b_ext (fun i hi => Bool.eq_iff_iff.mpr ?_)), ⟨h42, h52, _, hR2⟩, hf2⟩
  · rw [x167_c32]
    simp (disch := first | assumption | exact zz_nl_i _ | exact zz_nl_r _ | exact zz_nl_n | exact okv_i _ | exact okv_j _ | exact okv_0 | exact okv_1 | exact okv_o _ _ | exact okv_a _ _ | exact bI_okr _ | omega | exact llt_0 | ((repeat apply llt_s) <;> exact llt_0) | fail) only [x167_p0, x167_p1, w0', wA', r3, nI_ltI, Nat.lt_irrefl, if_false, mo_k_v, mo_k_n, mo_v_e, mo_gf_e, mo_pf_e, mo_ia_e, mo_ba_e, mo_za_e, mo_la_e, mo_aa_e, mo_le_e, mo_is_e, mo_bs_e, mo_zs_0, mo_zs_1, mo_ls_e, mo_as_e, mo_na_e, mo_aci_e, mo_acb_e, mo_acj_e, hp_gs, hp_gn, hp_ss, List.getElem?_cons_zero, List.getElem?_cons_succ, List.set_cons_zero, List.set_cons_succ]
    rw [e2, x167_c60]
    simp (disch := first | assumption | exact zz_nl_i _ | exact zz_nl_r _ | exact zz_nl_n | exact okv_i _ | exact okv_j _ | exact okv_0 | exact okv_1 | exact okv_o _ _ | exact okv_a _ _ | exact bI_okr _ | omega | exact llt_0 | ((repeat apply llt_s) <;> exact llt_0) | fail) only [x167_p0, x167_p1, w0'', wA'', r4, nI_ltI, Nat.lt_irrefl, if_false, mo_k_v, mo_k_n, mo_v_e, mo_gf_e, mo_pf_e, mo_ia_e, mo_ba_e, mo_za_e, mo_la_e, mo_aa_e, mo_le_e, mo_is_e, mo_bs_e, mo_zs_0, mo_zs_1, mo_ls_e, mo_as_e, mo_na_e, mo_aci_e, mo_acb_e, mo_acj_e, hp_gs, hp_gn, hp_ss, List.getElem?_cons_zero, List.getElem?_cons_succ, List.set_cons_zero, List.set_cons_succ]
  · rw [hRb2 b hb i hi, lf_bt hc.1 f ch ba op (-1) hi r2, okL_cong (ch' := ch) (fun v hv => exC_m1 ch (by omega))]
    unfold okL
    rw [and_assoc]
theorem m_leftMany (w0 : hp_g h M = some (mdO M mt mk mp mu ms mn mo ml mv me mf mw)) (wA : hp_g h (M + 1) = some (iA 12639 A)) (hr : RS A 0 p rk tg ch ba) (hc : CI p rk tg f ch ba) (hs : scr3 h M) : ∃ k, zz_run 166 [.ref M] h = some (some (.int (nI (amt (fun b => lfW p f ch ba b (-1) (-1))))), k) ∧ ar8 k (M + 6) (fun b => lfW p f ch ba b (-1) (-1)) ∧ scr3 k M ∧ frm h k (M + 4) (M + 7) := by
  obtain ⟨k, e, a6, s, hf⟩ := m_laysLeft w0 wA hr hc hs (-1)
  have w0' := (hf.2.2.2 M (by omega)).trans w0
  refine ⟨k, ?_, a6, s, hf⟩
  rw [en166 w0]
  simp (disch := first | assumption | exact zz_nl_i _ | exact zz_nl_r _ | exact zz_nl_n | exact okv_i _ | exact okv_j _ | exact okv_0 | exact okv_1 | exact okv_o _ _ | exact okv_a _ _ | exact bI_okr _ | omega | exact llt_0 | ((repeat apply llt_s) <;> exact llt_0) | fail) only [x166, e, w0', a_many a6, mo_k_v, mo_k_n, mo_v_e, mo_gf_e, mo_pf_e, mo_ia_e, mo_ba_e, mo_za_e, mo_la_e, mo_aa_e, mo_le_e, mo_is_e, mo_bs_e, mo_zs_0, mo_zs_1, mo_ls_e, mo_as_e, mo_na_e, mo_aci_e, mo_acb_e, mo_acj_e, hp_gs, hp_gn, hp_ss, List.getElem?_cons_zero, List.getElem?_cons_succ, List.set_cons_zero, List.set_cons_succ]
theorem m_inSet (w0 : hp_g h M = some (mdO M mt mk mp mu ms mn mo ml mv me mf mw)) (wA : hp_g h (M + 1) = some (iA 12639 A)) (hr : RS A 0 p rk tg ch ba) (hc : CI p rk tg f ch ba) {V R : Nat → Int32} (a5 : ar8 h (M + 5) V) (a6 : ar8 h (M + 6) R) {v : Nat} (hv : v < pnv p) : ∃ k, zz_run 177 [.ref M, .int (nI v)] h = some (some (.int (nI (amt (fun b => R b &&& f (8 * v + b))))), k) ∧ (∃ W, ar8 k (M + 5) W) ∧ frm h k (M + 5) (M + 6) := by
  obtain ⟨k, e, s5, hf⟩ := m_laysSet w0 wA hr hc a5 (by omega) (by omega) hv
  have w0' := (hf.2.2.2 M (by omega)).trans w0
  obtain ⟨g5, hg5, e5⟩ := s5
  obtain ⟨g6, hg6, e6⟩ := ar8_sam a6 (hf.2.2.2 (M + 6) (by omega))
  have l2 := lp_arr (N := 8) (St := fun b k => zz_Y 177 (11, [some (.ref (M)), some (.int (nI (v))), some (.int (nI (b)))], [], k)) (fun b x => x &&& g6 b) hg5 (fun b g hb => by
    rw [x177_c11]
    simp (disch := first | assumption | exact zz_nl_i _ | exact zz_nl_r _ | exact zz_nl_n | exact okv_i _ | exact okv_j _ | exact okv_0 | exact okv_1 | exact okv_o _ _ | exact okv_a _ _ | exact bI_okr _ | omega | exact llt_0 | ((repeat apply llt_s) <;> exact llt_0) | fail) only [x177, w0', hg6, nI_ltI, hb, if_true, nI_add, mo_k_v, mo_k_n, mo_v_e, mo_gf_e, mo_pf_e, mo_ia_e, mo_ba_e, mo_za_e, mo_la_e, mo_aa_e, mo_le_e, mo_is_e, mo_bs_e, mo_zs_0, mo_zs_1, mo_ls_e, mo_as_e, mo_na_e, mo_aci_e, mo_acb_e, mo_acj_e, hp_gs, hp_gn, hp_ss, List.getElem?_cons_zero, List.getElem?_cons_succ, List.set_cons_zero, List.set_cons_succ])
  have hfin : ar8 (hp_s k (M + 5) (iA 8 (mpa 8 (fun b x => x &&& g6 b) g5))) (M + 5) (fun b => R b &&& f (8 * v + b)) := ⟨_, hp_gs _ _ _, fun b hb => by rw [mpa_in hb, e5 b hb, e6 b hb, Int32.and_comm]; rfl⟩
  refine ⟨_, ?_, ⟨_, hfin⟩, frm_s ⟨by omega, by omega⟩ hf⟩
  rw [en177 w0]
  simp (disch := first | assumption | exact zz_nl_i _ | exact zz_nl_r _ | exact zz_nl_n | exact okv_i _ | exact okv_j _ | exact okv_0 | exact okv_1 | exact okv_o _ _ | exact okv_a _ _ | exact bI_okr _ | omega | exact llt_0 | ((repeat apply llt_s) <;> exact llt_0) | fail) only [x177, w0, e, mo_k_v, mo_k_n, mo_v_e, mo_gf_e, mo_pf_e, mo_ia_e, mo_ba_e, mo_za_e, mo_la_e, mo_aa_e, mo_le_e, mo_is_e, mo_bs_e, mo_zs_0, mo_zs_1, mo_ls_e, mo_as_e, mo_na_e, mo_aci_e, mo_acb_e, mo_acj_e, hp_gs, hp_gn, hp_ss, List.getElem?_cons_zero, List.getElem?_cons_succ, List.set_cons_zero, List.set_cons_succ]
  rw [l2, x177_c11]
  simp (disch := first | assumption | exact zz_nl_i _ | exact zz_nl_r _ | exact zz_nl_n | exact okv_i _ | exact okv_j _ | exact okv_0 | exact okv_1 | exact okv_o _ _ | exact okv_a _ _ | exact bI_okr _ | omega | exact llt_0 | ((repeat apply llt_s) <;> exact llt_0) | fail) only [x177, w0', nI_ltI, Nat.lt_irrefl, if_false, a_many hfin, mo_k_v, mo_k_n, mo_v_e, mo_gf_e, mo_pf_e, mo_ia_e, mo_ba_e, mo_za_e, mo_la_e, mo_aa_e, mo_le_e, mo_is_e, mo_bs_e, mo_zs_0, mo_zs_1, mo_ls_e, mo_as_e, mo_na_e, mo_aci_e, mo_acb_e, mo_acj_e, hp_gs, hp_gn, hp_ss, List.getElem?_cons_zero, List.getElem?_cons_succ, List.set_cons_zero, List.set_cons_succ]
theorem m_countOf (w0 : hp_g h M = some (mdO M mt mk mp mu ms mn mo ml mv me mf mw)) (wA : hp_g h (M + 1) = some (iA 12639 A)) (hr : RS A 0 p rk tg ch ba) (hc : CI p rk tg f ch ba) (hs : scr3 h M) {v d : Nat} (hv : v < pnv p) (hd : d < pnh p) (ho : pho p v = nI d) : ∃ k, zz_run 184 [.ref M, .int (nI v)] h = some (some (.int (nI (amt (fun b => lfW p f ch ba b (if ba d = nI 1 then -1 else nI d) (-1) &&& f (8 * v + b))))), k) ∧ scr3 k M ∧ frm h k (M + 4) (M + 7) := by
  have hv20 : v < 20 := by have := hr.1.2.1; omega
  have hd4 : d < 4 := by have := hr.1.1; omega
  obtain ⟨q1, _, _, _⟩ := hr.2.2.1 v hv
  rw [Nat.zero_add, ho] at q1
  have rB := (hr.2.1 d hd).2.1
  rw [Nat.zero_add] at rB
  obtain ⟨k, e, a6, s, hf⟩ := m_laysLeft w0 wA hr hc hs (if ba d = nI 1 then -1 else nI d)
  have w0' := (hf.2.2.2 M (by omega)).trans w0
  have wA' := (hf.2.2.2 (M + 1) (by omega)).trans wA
  obtain ⟨V5, a5⟩ := s.2.1
  obtain ⟨k2, e2, s2, hf2⟩ := m_inSet w0' wA' hr hc a5 a6 hv
  refine ⟨k2, ?_, ⟨?_, s2, _, ar8_sam a6 (hf2.2.2.2 _ (by omega))⟩, frm_trans hf (frm_mono hf2 (by omega) (by omega))⟩
  · rw [en184 w0]
    rcases (hc.2.1 d hd).2 with c | c
    · rw [if_neg (fun q => nI_01 (q.symm.trans c))] at e
      simp (disch := first | assumption | exact zz_nl_i _ | exact zz_nl_r _ | exact zz_nl_n | exact okv_i _ | exact okv_j _ | exact okv_0 | exact okv_1 | exact okv_o _ _ | exact okv_a _ _ | exact bI_okr _ | omega | exact llt_0 | ((repeat apply llt_s) <;> exact llt_0) | fail) only [x184, w0, wA, m_ofHead w0 wA hv20, q1, m_headAt, nI_add, rB, c, if_true, e, e2, mo_k_v, mo_k_n, mo_v_e, mo_gf_e, mo_pf_e, mo_ia_e, mo_ba_e, mo_za_e, mo_la_e, mo_aa_e, mo_le_e, mo_is_e, mo_bs_e, mo_zs_0, mo_zs_1, mo_ls_e, mo_as_e, mo_na_e, mo_aci_e, mo_acb_e, mo_acj_e, hp_gs, hp_gn, hp_ss, List.getElem?_cons_zero, List.getElem?_cons_succ, List.set_cons_zero, List.set_cons_succ]
    · rw [if_pos c] at e
      simp (disch := first | assumption | exact zz_nl_i _ | exact zz_nl_r _ | exact zz_nl_n | exact okv_i _ | exact okv_j _ | exact okv_0 | exact okv_1 | exact okv_o _ _ | exact okv_a _ _ | exact bI_okr _ | omega | exact llt_0 | ((repeat apply llt_s) <;> exact llt_0) | fail) only [x184, w0, wA, m_ofHead w0 wA hv20, q1, m_headAt, nI_add, rB, c, nI_01, if_false, e, e2, mo_k_v, mo_k_n, mo_v_e, mo_gf_e, mo_pf_e, mo_ia_e, mo_ba_e, mo_za_e, mo_la_e, mo_aa_e, mo_le_e, mo_is_e, mo_bs_e, mo_zs_0, mo_zs_1, mo_ls_e, mo_as_e, mo_na_e, mo_aci_e, mo_acb_e, mo_acj_e, hp_gs, hp_gn, hp_ss, List.getElem?_cons_zero, List.getElem?_cons_succ, List.set_cons_zero, List.set_cons_succ]
  · obtain ⟨V4, a4⟩ := s.1
    exact ⟨V4, ar8_sam a4 (hf2.2.2.2 _ (by omega))⟩
end
