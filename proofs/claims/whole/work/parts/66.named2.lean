/-! the reference: named, run -/
theorem ct_img {P : Nat → Bool} {pk : Nat → Nat} {n : Nat} (hinj : ∀ i j, i < n → j < n → pk i = pk j → i = j) : ∀ m, (∀ i, i < m → (P i = true ↔ ∃ j, j < n ∧ i = pk j)) → fb_ct P m = fb_ct (fun j => decide (pk j < m)) n
  | 0, _ => by
    rw [show fb_ct P 0 = 0 from rfl]
    exact (fb_ct_zero.mpr (fun j _ => decide_eq_false (by omega))).symm
  | m + 1, h => by
    rw [fb_ct_succ, ct_img hinj m (fun i hi => h i (by omega))]
    have e : fb_ct (fun j => decide (pk j < m + 1)) n = fb_ct (fun j => decide (pk j < m)) n + fb_ct (fun j => decide (pk j = m)) n := by
      rw [← fb_ct_or (fun k _ => by rw [decide_eq_true_iff, decide_eq_true_iff]; omega)]
      exact fb_ct_cong (fun k _ => Bool.eq_iff_iff.mpr (by rw [Bool.or_eq_true, decide_eq_true_iff, decide_eq_true_iff, decide_eq_true_iff]; omega))
    rw [e]
    congr 1
    by_cases c : P m = true
    · rw [if_pos c]
      obtain ⟨j, hj, e2⟩ := (h m (by omega)).mp c
      exact (ct_le_one hj (fun i hi => by
        rw [decide_eq_true_iff, e2]
        exact ⟨fun q => hinj i j hi hj q, fun q => by rw [q]⟩)).symm
    · rw [if_neg c]
      exact (fb_ct_zero.mpr (fun j hj => decide_eq_false (fun q => c ((h m (by omega)).mpr ⟨j, hj, q.symm⟩)))).symm
theorem ct_below {n j : Nat} (hj : j ≤ n) : fb_ct (fun i => decide (i < j)) n = j := by
  obtain ⟨d, rfl⟩ : ∃ d, n = j + d := ⟨n - j, by omega⟩
  rw [fb_ct_split, fb_ct_all.mpr (fun k hk => decide_eq_true hk), fb_ct_zero.mpr (fun k hk => decide_eq_false (by omega)), Nat.add_zero]
theorem nmA_pk {w : Int32} {n : Nat} {pk : Nat → Nat} (hn : n ≤ 3) (hm : ∀ i j, i < j → j < n → pk i < pk j) (hl : ∀ j, j < n → pk j < 20) (hw : ∀ i, i < 32 → (bt w i = true ↔ ∃ j, j < n ∧ i = pk j)) (y : Int32) : nmA w y = if y = -1 then nI n else if isV n y = true then nI (pk y.toNatClampNeg) else -2 := by
  have hinj : ∀ i j, i < n → j < n → pk i = pk j → i = j := fun i j hi hj e => by
    rcases Nat.lt_trichotomy i j with c | c | c
    · have := hm i j c hj; omega
    · exact c
    · have := hm j i c hi; omega
  have hpc : pc w = n := by
    unfold pc
    rw [ct_img hinj 32 hw]
    exact fb_ct_all.mpr (fun j hj => decide_eq_true (by have := hl j hj; omega))
  have hne : ¬ w = -1 := fun e => by
    rw [e, show pc (-1) = 32 from fb_ct_all.mpr (fun j hj => b_m1 j hj)] at hpc
    omega
  have hk : ∀ j, j < n → fb_ct (bt w) (pk j) = j := fun j hj => by
    have := hl j hj
    rw [ct_img hinj (pk j) (fun i hi => hw i (by omega)), fb_ct_cong (q := fun i => decide (i < j)) (fun i hi => Bool.eq_iff_iff.mpr ?_), ct_below (by omega)]
    rw [decide_eq_true_iff, decide_eq_true_iff]
    constructor
    · intro c
      rcases Nat.lt_trichotomy i j with c1 | c1 | c1
      · exact c1
      · subst c1; omega
      · have := hm j i c1 hi; omega
    · exact fun c => hm i j c hj
  unfold nmA
  rw [if_neg hne, hpc]
  by_cases c : y = -1
  · rw [if_pos c, if_pos c]
  · rw [if_neg c, if_neg c]
    rcases neg_or y with hy | ⟨j, hj, rfl⟩
    · rw [KT_neg hy, if_pos rfl, if_neg (fun q => ?_)]
      obtain ⟨k, _, rfl⟩ := (isV_iff (by omega)).mp q
      exact nI_nlt0 (by omega) hy
    · by_cases cj : j < n
      · have h1 := hl j cj
        rw [KT_lt (show j < fb_ct (bt w) 32 from by rw [show fb_ct (bt w) 32 = n from hpc]; exact cj) (by omega), kth_of (i := pk j) (by omega) ((hw _ (by omega)).mpr ⟨j, cj, rfl⟩) (hk j cj), if_neg (nI_m1 (by omega)), if_pos (isV_nI (by omega) cj), nI_clamp hj]
      · rw [KT_ge (show fb_ct (bt w) 32 ≤ j from by rw [show fb_ct (bt w) 32 = n from hpc]; omega) hj, if_pos rfl, if_neg (fun q => ?_)]
        obtain ⟨k, hk2, e⟩ := (isV_iff (by omega)).mp q
        rw [nI_eq hj (by omega)] at e
        omega
def dn (f : Nat → Int32) (pk : Nat → Nat) (n b : Nat) : Int32 := lp_it (fun k w => w &&& f (8 * pk k + b)) n (f (8 * 20 + b))
section
variable {h : zz_H} {M : Nat} {A : Nat → Int32} {mt mk mp mu ms mn mo ml : Int32} {mv : Int64} {me mf mw : Int32} {p : Pl} {rk tg f ch ba : Nat → Int32}
theorem m_doName (w0 : hp_g h M = some (mdO M mt mk mp mu ms mn mo ml mv me mf mw)) (wA : hp_g h (M + 1) = some (iA 12639 A)) (hr : RS A 0 p rk tg ch ba) (hc : CI p rk tg f ch ba) (hs : scr3 h M) {q n : Nat} (hq : q < 256) (hn : n ≤ 3) {g8 : Nat → Int32} {pk : Nat → Nat} (h8 : hp_g h (M + 8) = some (iA 3 g8)) (hg : ∀ k, k < n → g8 k = nI (pk k) ∧ pk k < pnv p) : ∃ k, zz_run 200 [.ref M, .int (nI q), .int (nI n)] h = some (some (.int (bI (pb (dn f pk n) q && decide (amt (dn f pk n) = 1)))), k) ∧ scr3 k M ∧ frm h k (M + 4) (M + 7) := by
  obtain ⟨V4, g4, hg4, _⟩ := hs.1
  obtain ⟨V5, a5⟩ := hs.2.1
  obtain ⟨V6, a6⟩ := hs.2.2
  have l1 := lp_arr (N := 8) (St := fun b k => zz_Y 200 (2, [some (.ref (M)), some (.int (nI (q))), some (.int (nI (n))), some (.int (nI (b))), none], [], k)) (fun b _ => A (294 + b)) hg4 (fun b g hb => by
    rw [x200_c2]
    simp (disch := first | assumption | exact zz_nl_i _ | exact zz_nl_r _ | exact zz_nl_n | exact okv_i _ | exact okv_j _ | exact okv_0 | exact okv_1 | exact okv_o _ _ | exact okv_a _ _ | exact bI_okr _ | omega | exact llt_0 | ((repeat apply llt_s) <;> exact llt_0) | fail) only [x200_p0, x200_p1, xb200, w0, wA, nI_ltI, hb, if_true, nI_add, mo_k_v, mo_k_n, mo_v_e, mo_gf_e, mo_pf_e, mo_ia_e, mo_ba_e, mo_za_e, mo_la_e, mo_aa_e, mo_le_e, mo_is_e, mo_bs_e, mo_zs_0, mo_zs_1, mo_ls_e, mo_as_e, mo_na_e, mo_aci_e, mo_acb_e, mo_acj_e, hp_gs, hp_gn, hp_ss, List.getElem?_cons_zero, List.getElem?_cons_succ, List.set_cons_zero, List.set_cons_succ])
  have step : ∀ v (s : zz_H × Option Value), v < n → (ar8 s.1 (M + 4) (dn f pk v) ∧ (∃ W, ar8 s.1 (M + 5) W) ∧ frm h s.1 (M + 4) (M + 6) ∧ zz_nl s.2 = true) → ∃ s' : zz_H × Option Value, (ar8 s'.1 (M + 4) (dn f pk (v + 1)) ∧ (∃ W, ar8 s'.1 (M + 5) W) ∧ frm h s'.1 (M + 4) (M + 6) ∧ zz_nl s'.2 = true) ∧ zz_Y 200 (32, [some (.ref (M)), some (.int (nI (q))), some (.int (nI (n))), some (.int (nI (v))), s.2], [], s.1) = zz_Y 200 (32, [some (.ref (M)), some (.int (nI (q))), some (.int (nI (n))), some (.int (nI (v + 1))), s'.2], [], s'.1) := by
    rintro v ⟨k, o⟩ hv ⟨h4, ⟨W5, h5⟩, hf, ho⟩
    dsimp only at h4 h5 hf ho ⊢
    have w0' := (hf.2.2.2 M (by omega)).trans w0
    have wA' := (hf.2.2.2 (M + 1) (by omega)).trans wA
    have h8' := (hf.2.2.2 (M + 8) (by omega)).trans h8
    obtain ⟨e8, p8⟩ := hg v hv
    obtain ⟨k2, e2, s5, hf2⟩ := m_laysSet w0' wA' hr hc h5 (by omega) (by omega) p8
    have w0'' := (hf2.2.2.2 M (by omega)).trans w0'
    have s5' := s5
    obtain ⟨g5, hg5, e5⟩ := s5
    obtain ⟨g4, hg4, e4⟩ := ar8_sam h4 (hf2.2.2.2 (M + 4) (by omega))
    refine ⟨(hp_s k2 (M + 4) (iA 8 (mpa 8 (fun b x => x &&& g5 b) g4)), some (.int (nI 8))), ⟨⟨_, hp_gs _ _ _, fun b hb => ?_⟩, ⟨_, ar8_ne s5' (by omega)⟩, frm_s ⟨by omega, by omega⟩ (frm_trans hf (frm_mono hf2 (by omega) (by omega))), zz_nl_i _⟩, ?_⟩
    · rw [mpa_in hb, e4 b hb, e5 b hb]
      rfl
    · rw [x200_c32]
      simp (disch := first | assumption | exact zz_nl_i _ | exact zz_nl_r _ | exact zz_nl_n | exact okv_i _ | exact okv_j _ | exact okv_0 | exact okv_1 | exact okv_o _ _ | exact okv_a _ _ | exact bI_okr _ | omega | exact llt_0 | ((repeat apply llt_s) <;> exact llt_0) | fail) only [x200_p0, x200_p1, xb200, nI_ltI, hv, if_true, w0', h8', e8, e2, mo_k_v, mo_k_n, mo_v_e, mo_gf_e, mo_pf_e, mo_ia_e, mo_ba_e, mo_za_e, mo_la_e, mo_aa_e, mo_le_e, mo_is_e, mo_bs_e, mo_zs_0, mo_zs_1, mo_ls_e, mo_as_e, mo_na_e, mo_aci_e, mo_acb_e, mo_acj_e, hp_gs, hp_gn, hp_ss, List.getElem?_cons_zero, List.getElem?_cons_succ, List.set_cons_zero, List.set_cons_succ]
      have l2 := lp_arr (N := 8) (St := fun b k => zz_Y 200 (54, [some (.ref (M)), some (.int (nI (q))), some (.int (nI (n))), some (.int (nI (v))), some (.int (nI (b)))], [], k)) (fun b x => x &&& g5 b) hg4 (fun b g hb => by
        rw [x200_c54]
        simp (disch := first | assumption | exact zz_nl_i _ | exact zz_nl_r _ | exact zz_nl_n | exact okv_i _ | exact okv_j _ | exact okv_0 | exact okv_1 | exact okv_o _ _ | exact okv_a _ _ | exact bI_okr _ | omega | exact llt_0 | ((repeat apply llt_s) <;> exact llt_0) | fail) only [x200_p0, x200_p1, xb200, w0'', hg5, nI_ltI, hb, if_true, nI_add, mo_k_v, mo_k_n, mo_v_e, mo_gf_e, mo_pf_e, mo_ia_e, mo_ba_e, mo_za_e, mo_la_e, mo_aa_e, mo_le_e, mo_is_e, mo_bs_e, mo_zs_0, mo_zs_1, mo_ls_e, mo_as_e, mo_na_e, mo_aci_e, mo_acb_e, mo_acj_e, hp_gs, hp_gn, hp_ss, List.getElem?_cons_zero, List.getElem?_cons_succ, List.set_cons_zero, List.set_cons_succ])
      rw [l2, x200_c54]
      simp (disch := first | assumption | exact zz_nl_i _ | exact zz_nl_r _ | exact zz_nl_n | exact okv_i _ | exact okv_j _ | exact okv_0 | exact okv_1 | exact okv_o _ _ | exact okv_a _ _ | exact bI_okr _ | omega | exact llt_0 | ((repeat apply llt_s) <;> exact llt_0) | fail) only [x200_p0, x200_p1, xb200, nI_ltI, Nat.lt_irrefl, if_false, nI_add, mo_k_v, mo_k_n, mo_v_e, mo_gf_e, mo_pf_e, mo_ia_e, mo_ba_e, mo_za_e, mo_la_e, mo_aa_e, mo_le_e, mo_is_e, mo_bs_e, mo_zs_0, mo_zs_1, mo_ls_e, mo_as_e, mo_na_e, mo_aci_e, mo_acb_e, mo_acj_e, hp_gs, hp_gn, hp_ss, List.getElem?_cons_zero, List.getElem?_cons_succ, List.set_cons_zero, List.set_cons_succ]
  obtain ⟨⟨k, o⟩, ⟨h4, h5, hf, ho⟩, e⟩ := lp_ex (N := n) (St := fun v (s : zz_H × Option Value) => zz_Y 200 (32, [some (.ref (M)), some (.int (nI (q))), some (.int (nI (n))), some (.int (nI (v))), s.2], [], s.1)) step (s := (hp_s h (M + 4) (iA 8 (mpa 8 (fun b _ => A (294 + b)) g4)), none)) ⟨⟨_, hp_gs _ _ _, fun b hb => (mpa_in hb).trans (there_eq hr hc hb)⟩, ⟨V5, ar8_ne a5 (by omega)⟩, frm_s ⟨by omega, by omega⟩ (frm_refl _ _ _), zz_nl_n⟩
  dsimp only at h4 h5 hf ho e
  have w0' := (hf.2.2.2 M (by omega)).trans w0
  refine ⟨k, ?_, ⟨⟨_, h4⟩, h5, V6, ar8_sam a6 (hf.2.2.2 _ (by omega))⟩, frm_mono hf (by omega) (by omega)⟩
  rw [en200 w0]
  simp (disch := first | assumption | exact zz_nl_i _ | exact zz_nl_r _ | exact zz_nl_n | exact okv_i _ | exact okv_j _ | exact okv_0 | exact okv_1 | exact okv_o _ _ | exact okv_a _ _ | exact bI_okr _ | omega | exact llt_0 | ((repeat apply llt_s) <;> exact llt_0) | fail) only [x200_p0, x200_p1, xb200, mo_k_v, mo_k_n, mo_v_e, mo_gf_e, mo_pf_e, mo_ia_e, mo_ba_e, mo_za_e, mo_la_e, mo_aa_e, mo_le_e, mo_is_e, mo_bs_e, mo_zs_0, mo_zs_1, mo_ls_e, mo_as_e, mo_na_e, mo_aci_e, mo_acb_e, mo_acj_e, hp_gs, hp_gn, hp_ss, List.getElem?_cons_zero, List.getElem?_cons_succ, List.set_cons_zero, List.set_cons_succ]
  rw [l1, x200_c2]
  simp (disch := first | assumption | exact zz_nl_i _ | exact zz_nl_r _ | exact zz_nl_n | exact okv_i _ | exact okv_j _ | exact okv_0 | exact okv_1 | exact okv_o _ _ | exact okv_a _ _ | exact bI_okr _ | omega | exact llt_0 | ((repeat apply llt_s) <;> exact llt_0) | fail) only [x200_p0, x200_p1, xb200, nI_ltI, Nat.lt_irrefl, if_false, mo_k_v, mo_k_n, mo_v_e, mo_gf_e, mo_pf_e, mo_ia_e, mo_ba_e, mo_za_e, mo_la_e, mo_aa_e, mo_le_e, mo_is_e, mo_bs_e, mo_zs_0, mo_zs_1, mo_ls_e, mo_as_e, mo_na_e, mo_aci_e, mo_acb_e, mo_acj_e, hp_gs, hp_gn, hp_ss, List.getElem?_cons_zero, List.getElem?_cons_succ, List.set_cons_zero, List.set_cons_succ]
  refine e.trans ?_
  have ai := a_inSet h4 hq
  have am := a_many h4
  have hle := amt_le (dn f pk n)
  rw [x200_c32]
  cases c : pb (dn f pk n) q with
  | false =>
    rw [c] at ai
    simp (disch := first | assumption | exact zz_nl_i _ | exact zz_nl_r _ | exact zz_nl_n | exact okv_i _ | exact okv_j _ | exact okv_0 | exact okv_1 | exact okv_o _ _ | exact okv_a _ _ | exact bI_okr _ | omega | exact llt_0 | ((repeat apply llt_s) <;> exact llt_0) | fail) only [x200_p0, x200_p1, xb200, nI_ltI, Nat.lt_irrefl, if_false, w0', ai, bI_f, if_true, Bool.false_and, mo_k_v, mo_k_n, mo_v_e, mo_gf_e, mo_pf_e, mo_ia_e, mo_ba_e, mo_za_e, mo_la_e, mo_aa_e, mo_le_e, mo_is_e, mo_bs_e, mo_zs_0, mo_zs_1, mo_ls_e, mo_as_e, mo_na_e, mo_aci_e, mo_acb_e, mo_acj_e, hp_gs, hp_gn, hp_ss, List.getElem?_cons_zero, List.getElem?_cons_succ, List.set_cons_zero, List.set_cons_succ]
  | true =>
    rw [c] at ai
    by_cases c2 : amt (dn f pk n) = 1
    · simp (disch := first | assumption | exact zz_nl_i _ | exact zz_nl_r _ | exact zz_nl_n | exact okv_i _ | exact okv_j _ | exact okv_0 | exact okv_1 | exact okv_o _ _ | exact okv_a _ _ | exact bI_okr _ | omega | exact llt_0 | ((repeat apply llt_s) <;> exact llt_0) | fail) only [x200_p0, x200_p1, xb200, nI_ltI, Nat.lt_irrefl, if_false, w0', ai, bI_t, nI_01, am, nI_eq, show ((1 : Nat) = 0) = False from eq_false (by omega), eq_true c2, if_true, decide_true, Bool.and_self, mo_k_v, mo_k_n, mo_v_e, mo_gf_e, mo_pf_e, mo_ia_e, mo_ba_e, mo_za_e, mo_la_e, mo_aa_e, mo_le_e, mo_is_e, mo_bs_e, mo_zs_0, mo_zs_1, mo_ls_e, mo_as_e, mo_na_e, mo_aci_e, mo_acb_e, mo_acj_e, hp_gs, hp_gn, hp_ss, List.getElem?_cons_zero, List.getElem?_cons_succ, List.set_cons_zero, List.set_cons_succ]
    · simp (disch := first | assumption | exact zz_nl_i _ | exact zz_nl_r _ | exact zz_nl_n | exact okv_i _ | exact okv_j _ | exact okv_0 | exact okv_1 | exact okv_o _ _ | exact okv_a _ _ | exact bI_okr _ | omega | exact llt_0 | ((repeat apply llt_s) <;> exact llt_0) | fail) only [x200_p0, x200_p1, xb200, nI_ltI, Nat.lt_irrefl, if_false, w0', ai, bI_t, nI_01, am, nI_eq, show ((1 : Nat) = 0) = False from eq_false (by omega), c2, decide_false, Bool.and_false, bI_f, mo_k_v, mo_k_n, mo_v_e, mo_gf_e, mo_pf_e, mo_ia_e, mo_ba_e, mo_za_e, mo_la_e, mo_aa_e, mo_le_e, mo_is_e, mo_bs_e, mo_zs_0, mo_zs_1, mo_ls_e, mo_as_e, mo_na_e, mo_aci_e, mo_acb_e, mo_acj_e, hp_gs, hp_gn, hp_ss, List.getElem?_cons_zero, List.getElem?_cons_succ, List.set_cons_zero, List.set_cons_succ]
/-- the next pick: none left, or which -/
def nxt (nv n : Nat) (t : Nat × Nat × Nat) : Option (Nat × Nat × Nat) := match n, t with
  | 1, (x, y, z) => if x + 1 < nv then some (x + 1, y, z) else none
  | 2, (x, y, z) => if y + 1 < nv then some (x, y + 1, z) else if x + 2 < nv then some (x + 1, x + 2, z) else none
  | 3, (x, y, z) => if z + 1 < nv then some (x, y, z + 1) else if y + 2 < nv then some (x, y + 1, y + 2) else if x + 3 < nv then some (x + 1, x + 2, x + 3) else none
  | _, _ => none
def pkG (g : Nat → Int32) (n : Nat) (t : Nat × Nat × Nat) : Prop := (0 < n → g 0 = nI t.1) ∧ (1 < n → g 1 = nI t.2.1) ∧ (2 < n → g 2 = nI t.2.2)
def pkOk (nv n : Nat) (t : Nat × Nat × Nat) : Prop := (n = 1 → t.1 < nv) ∧ (n = 2 → t.1 < t.2.1 ∧ t.2.1 < nv) ∧ (n = 3 → t.1 < t.2.1 ∧ t.2.1 < t.2.2 ∧ t.2.2 < nv)
theorem n_m1 : nI 0 - nI 1 = -1 := by decide +kernel
theorem dec1 : ∀ j, j < 4 → nI (j + 1) + -1 = nI j := by decide +kernel
theorem dec0 : nI 0 + -1 = (-1 : Int32) := by decide +kernel
theorem m_next (w0 : hp_g h M = some (mdO M mt mk mp mu ms mn mo ml mv me mf mw)) (wA : hp_g h (M + 1) = some (iA 12639 A)) (hr : RS A 0 p rk tg ch ba) {g8 : Nat → Int32} {n : Nat} {t : Nat × Nat × Nat} (hn : n ≤ 3) (hnv : n ≤ pnv p) (h8 : hp_g h (M + 8) = some (iA 3 g8)) (hg : pkG g8 n t) (ht : pkOk (pnv p) n t) : (nxt (pnv p) n t = none ∧ zz_run 201 [.ref M, .int (nI n)] h = some (some (.int (nI 0)), h)) ∨ ∃ t' g', nxt (pnv p) n t = some t' ∧ pkG g' n t' ∧ zz_run 201 [.ref M, .int (nI n)] h = some (some (.int (nI 1)), hp_s h (M + 8) (iA 3 g')) := by
  obtain ⟨r1, r2, r3, r4⟩ := hr.1
  rw [Nat.zero_add] at r4
  obtain ⟨x, y, z⟩ := t
  obtain ⟨g1, g2, g3⟩ := hg
  obtain ⟨t1, t2, t3⟩ := ht
  dsimp only at g1 g2 g3 t1 t2 t3
  have m1 := m1_lt0
  rw [en201 w0]
  match n, hn with
  | 0, _ =>
    refine Or.inl ⟨rfl, ?_⟩
    simp (disch := first | assumption | exact zz_nl_i _ | exact zz_nl_r _ | exact zz_nl_n | exact okv_i _ | exact okv_j _ | exact okv_0 | exact okv_1 | exact okv_o _ _ | exact okv_a _ _ | exact bI_okr _ | omega | exact llt_0 | ((repeat apply llt_s) <;> exact llt_0) | fail) only [x201, xb201, n_m1, mo_k_v, mo_k_n, mo_v_e, mo_gf_e, mo_pf_e, mo_ia_e, mo_ba_e, mo_za_e, mo_la_e, mo_aa_e, mo_le_e, mo_is_e, mo_bs_e, mo_zs_0, mo_zs_1, mo_ls_e, mo_as_e, mo_na_e, mo_aci_e, mo_acb_e, mo_acj_e, hp_gs, hp_gn, hp_ss, List.getElem?_cons_zero, List.getElem?_cons_succ, List.set_cons_zero, List.set_cons_succ]
    rw [x201_c4]
    simp (disch := first | assumption | exact zz_nl_i _ | exact zz_nl_r _ | exact zz_nl_n | exact okv_i _ | exact okv_j _ | exact okv_0 | exact okv_1 | exact okv_o _ _ | exact okv_a _ _ | exact bI_okr _ | omega | exact llt_0 | ((repeat apply llt_s) <;> exact llt_0) | fail) only [x201, xb201, m1, if_true, mo_k_v, mo_k_n, mo_v_e, mo_gf_e, mo_pf_e, mo_ia_e, mo_ba_e, mo_za_e, mo_la_e, mo_aa_e, mo_le_e, mo_is_e, mo_bs_e, mo_zs_0, mo_zs_1, mo_ls_e, mo_as_e, mo_na_e, mo_aci_e, mo_acb_e, mo_acj_e, hp_gs, hp_gn, hp_ss, List.getElem?_cons_zero, List.getElem?_cons_succ, List.set_cons_zero, List.set_cons_succ]
  | 1, _ =>
    have g1 := g1 (by omega)
    have t1 := t1 rfl
    have s1 : nI 1 - nI 1 = nI 0 := pk_sub (by omega)
    have s2 : nI (pnv p) - nI 1 = nI (pnv p - 1) := pk_sub (by omega)
    have n00 : ¬ nI 0 < nI 0 := by decide +kernel
    unfold nxt
    simp (disch := first | assumption | exact zz_nl_i _ | exact zz_nl_r _ | exact zz_nl_n | exact okv_i _ | exact okv_j _ | exact okv_0 | exact okv_1 | exact okv_o _ _ | exact okv_a _ _ | exact bI_okr _ | omega | exact llt_0 | ((repeat apply llt_s) <;> exact llt_0) | fail) only [x201, xb201, s1, mo_k_v, mo_k_n, mo_v_e, mo_gf_e, mo_pf_e, mo_ia_e, mo_ba_e, mo_za_e, mo_la_e, mo_aa_e, mo_le_e, mo_is_e, mo_bs_e, mo_zs_0, mo_zs_1, mo_ls_e, mo_as_e, mo_na_e, mo_aci_e, mo_acb_e, mo_acj_e, hp_gs, hp_gn, hp_ss, List.getElem?_cons_zero, List.getElem?_cons_succ, List.set_cons_zero, List.set_cons_succ]
    rw [x201_c4]
    by_cases c : x + 1 < pnv p
    · rw [if_pos c]
      have c1 : x < pnv p - 1 + 0 := by omega
      refine Or.inr ⟨_, upd g8 0 (nI (x + 1)), rfl, ⟨fun _ => upd_eq _ _ _, fun q => by omega, fun q => by omega⟩, ?_⟩
      simp (disch := first | assumption | exact zz_nl_i _ | exact zz_nl_r _ | exact zz_nl_n | exact okv_i _ | exact okv_j _ | exact okv_0 | exact okv_1 | exact okv_o _ _ | exact okv_a _ _ | exact bI_okr _ | omega | exact llt_0 | ((repeat apply llt_s) <;> exact llt_0) | fail) only [x201, xb201, n00, if_false, w0, wA, r4, h8, g1, s2, nI_add, nI_ltI, c1, if_true, mo_k_v, mo_k_n, mo_v_e, mo_gf_e, mo_pf_e, mo_ia_e, mo_ba_e, mo_za_e, mo_la_e, mo_aa_e, mo_le_e, mo_is_e, mo_bs_e, mo_zs_0, mo_zs_1, mo_ls_e, mo_as_e, mo_na_e, mo_aci_e, mo_acb_e, mo_acj_e, hp_gs, hp_gn, hp_ss, List.getElem?_cons_zero, List.getElem?_cons_succ, List.set_cons_zero, List.set_cons_succ]
      rw [x201_c44]
      simp (disch := first | assumption | exact zz_nl_i _ | exact zz_nl_r _ | exact zz_nl_n | exact okv_i _ | exact okv_j _ | exact okv_0 | exact okv_1 | exact okv_o _ _ | exact okv_a _ _ | exact bI_okr _ | omega | exact llt_0 | ((repeat apply llt_s) <;> exact llt_0) | fail) only [x201, xb201, nI_ltI, Nat.lt_irrefl, if_false, mo_k_v, mo_k_n, mo_v_e, mo_gf_e, mo_pf_e, mo_ia_e, mo_ba_e, mo_za_e, mo_la_e, mo_aa_e, mo_le_e, mo_is_e, mo_bs_e, mo_zs_0, mo_zs_1, mo_ls_e, mo_as_e, mo_na_e, mo_aci_e, mo_acb_e, mo_acj_e, hp_gs, hp_gn, hp_ss, List.getElem?_cons_zero, List.getElem?_cons_succ, List.set_cons_zero, List.set_cons_succ]
    · rw [if_neg c]
      have c1 : ¬ x < pnv p - 1 + 0 := by omega
      refine Or.inl ⟨rfl, ?_⟩
      simp (disch := first | assumption | exact zz_nl_i _ | exact zz_nl_r _ | exact zz_nl_n | exact okv_i _ | exact okv_j _ | exact okv_0 | exact okv_1 | exact okv_o _ _ | exact okv_a _ _ | exact bI_okr _ | omega | exact llt_0 | ((repeat apply llt_s) <;> exact llt_0) | fail) only [x201, xb201, n00, if_false, w0, wA, r4, h8, g1, s2, nI_add, nI_ltI, c1, dec0, mo_k_v, mo_k_n, mo_v_e, mo_gf_e, mo_pf_e, mo_ia_e, mo_ba_e, mo_za_e, mo_la_e, mo_aa_e, mo_le_e, mo_is_e, mo_bs_e, mo_zs_0, mo_zs_1, mo_ls_e, mo_as_e, mo_na_e, mo_aci_e, mo_acb_e, mo_acj_e, hp_gs, hp_gn, hp_ss, List.getElem?_cons_zero, List.getElem?_cons_succ, List.set_cons_zero, List.set_cons_succ]
      rw [x201_c4]
      simp (disch := first | assumption | exact zz_nl_i _ | exact zz_nl_r _ | exact zz_nl_n | exact okv_i _ | exact okv_j _ | exact okv_0 | exact okv_1 | exact okv_o _ _ | exact okv_a _ _ | exact bI_okr _ | omega | exact llt_0 | ((repeat apply llt_s) <;> exact llt_0) | fail) only [x201, xb201, m1, if_true, mo_k_v, mo_k_n, mo_v_e, mo_gf_e, mo_pf_e, mo_ia_e, mo_ba_e, mo_za_e, mo_la_e, mo_aa_e, mo_le_e, mo_is_e, mo_bs_e, mo_zs_0, mo_zs_1, mo_ls_e, mo_as_e, mo_na_e, mo_aci_e, mo_acb_e, mo_acj_e, hp_gs, hp_gn, hp_ss, List.getElem?_cons_zero, List.getElem?_cons_succ, List.set_cons_zero, List.set_cons_succ]
  | 2, _ =>
    have g1 := g1 (by omega)
    have g2 := g2 (by omega)
    have t2 := t2 rfl
    have s1 : nI 2 - nI 1 = nI 1 := pk_sub (by omega)
    have s2 : nI (pnv p) - nI 2 = nI (pnv p - 2) := pk_sub (by omega)
    have n00 : ¬ nI 0 < nI 0 := by decide +kernel
    have n10 : ¬ nI 1 < nI 0 := by decide +kernel
    have d1 : nI 1 + -1 = nI 0 := by decide +kernel
    have s3 : nI 1 - nI 1 = nI 0 := pk_sub (by omega)
    unfold nxt
    simp (disch := first | assumption | exact zz_nl_i _ | exact zz_nl_r _ | exact zz_nl_n | exact okv_i _ | exact okv_j _ | exact okv_0 | exact okv_1 | exact okv_o _ _ | exact okv_a _ _ | exact bI_okr _ | omega | exact llt_0 | ((repeat apply llt_s) <;> exact llt_0) | fail) only [x201, xb201, s1, mo_k_v, mo_k_n, mo_v_e, mo_gf_e, mo_pf_e, mo_ia_e, mo_ba_e, mo_za_e, mo_la_e, mo_aa_e, mo_le_e, mo_is_e, mo_bs_e, mo_zs_0, mo_zs_1, mo_ls_e, mo_as_e, mo_na_e, mo_aci_e, mo_acb_e, mo_acj_e, hp_gs, hp_gn, hp_ss, List.getElem?_cons_zero, List.getElem?_cons_succ, List.set_cons_zero, List.set_cons_succ]
    rw [x201_c4]
    by_cases c : y + 1 < pnv p
    · rw [if_pos c]
      have c1 : y < pnv p - 2 + 1 := by omega
      refine Or.inr ⟨_, upd g8 1 (nI (y + 1)), rfl, ⟨fun _ => (upd_ne (by omega)).trans g1, fun _ => upd_eq _ _ _, fun q => by omega⟩, ?_⟩
      simp (disch := first | assumption | exact zz_nl_i _ | exact zz_nl_r _ | exact zz_nl_n | exact okv_i _ | exact okv_j _ | exact okv_0 | exact okv_1 | exact okv_o _ _ | exact okv_a _ _ | exact bI_okr _ | omega | exact llt_0 | ((repeat apply llt_s) <;> exact llt_0) | fail) only [x201, xb201, n10, if_false, w0, wA, r4, h8, g2, s2, nI_add, nI_ltI, c1, if_true, mo_k_v, mo_k_n, mo_v_e, mo_gf_e, mo_pf_e, mo_ia_e, mo_ba_e, mo_za_e, mo_la_e, mo_aa_e, mo_le_e, mo_is_e, mo_bs_e, mo_zs_0, mo_zs_1, mo_ls_e, mo_as_e, mo_na_e, mo_aci_e, mo_acb_e, mo_acj_e, hp_gs, hp_gn, hp_ss, List.getElem?_cons_zero, List.getElem?_cons_succ, List.set_cons_zero, List.set_cons_succ]
      rw [x201_c44]
      simp (disch := first | assumption | exact zz_nl_i _ | exact zz_nl_r _ | exact zz_nl_n | exact okv_i _ | exact okv_j _ | exact okv_0 | exact okv_1 | exact okv_o _ _ | exact okv_a _ _ | exact bI_okr _ | omega | exact llt_0 | ((repeat apply llt_s) <;> exact llt_0) | fail) only [x201, xb201, nI_ltI, Nat.lt_irrefl, if_false, mo_k_v, mo_k_n, mo_v_e, mo_gf_e, mo_pf_e, mo_ia_e, mo_ba_e, mo_za_e, mo_la_e, mo_aa_e, mo_le_e, mo_is_e, mo_bs_e, mo_zs_0, mo_zs_1, mo_ls_e, mo_as_e, mo_na_e, mo_aci_e, mo_acb_e, mo_acj_e, hp_gs, hp_gn, hp_ss, List.getElem?_cons_zero, List.getElem?_cons_succ, List.set_cons_zero, List.set_cons_succ]
    · rw [if_neg c]
      have c1 : ¬ y < pnv p - 2 + 1 := by omega
      simp (disch := first | assumption | exact zz_nl_i _ | exact zz_nl_r _ | exact zz_nl_n | exact okv_i _ | exact okv_j _ | exact okv_0 | exact okv_1 | exact okv_o _ _ | exact okv_a _ _ | exact bI_okr _ | omega | exact llt_0 | ((repeat apply llt_s) <;> exact llt_0) | fail) only [x201, xb201, n10, if_false, w0, wA, r4, h8, g2, s2, nI_add, nI_ltI, c1, d1, mo_k_v, mo_k_n, mo_v_e, mo_gf_e, mo_pf_e, mo_ia_e, mo_ba_e, mo_za_e, mo_la_e, mo_aa_e, mo_le_e, mo_is_e, mo_bs_e, mo_zs_0, mo_zs_1, mo_ls_e, mo_as_e, mo_na_e, mo_aci_e, mo_acb_e, mo_acj_e, hp_gs, hp_gn, hp_ss, List.getElem?_cons_zero, List.getElem?_cons_succ, List.set_cons_zero, List.set_cons_succ]
      rw [x201_c4]
      by_cases c2 : x + 2 < pnv p
      · rw [if_pos c2]
        have c3 : x < pnv p - 2 + 0 := by omega
        refine Or.inr ⟨_, upd (upd g8 0 (nI (x + 1))) 1 (nI (x + 2)), rfl, ⟨fun _ => (upd_ne (by omega)).trans (upd_eq _ _ _), fun _ => upd_eq _ _ _, fun q => by omega⟩, ?_⟩
        simp (disch := first | assumption | exact zz_nl_i _ | exact zz_nl_r _ | exact zz_nl_n | exact okv_i _ | exact okv_j _ | exact okv_0 | exact okv_1 | exact okv_o _ _ | exact okv_a _ _ | exact bI_okr _ | omega | exact llt_0 | ((repeat apply llt_s) <;> exact llt_0) | fail) only [x201, xb201, n00, if_false, w0, wA, r4, h8, g1, s2, nI_add, nI_ltI, c3, if_true, mo_k_v, mo_k_n, mo_v_e, mo_gf_e, mo_pf_e, mo_ia_e, mo_ba_e, mo_za_e, mo_la_e, mo_aa_e, mo_le_e, mo_is_e, mo_bs_e, mo_zs_0, mo_zs_1, mo_ls_e, mo_as_e, mo_na_e, mo_aci_e, mo_acb_e, mo_acj_e, hp_gs, hp_gn, hp_ss, List.getElem?_cons_zero, List.getElem?_cons_succ, List.set_cons_zero, List.set_cons_succ]
        rw [x201_c44]
        simp (disch := first | assumption | exact zz_nl_i _ | exact zz_nl_r _ | exact zz_nl_n | exact okv_i _ | exact okv_j _ | exact okv_0 | exact okv_1 | exact okv_o _ _ | exact okv_a _ _ | exact bI_okr _ | omega | exact llt_0 | ((repeat apply llt_s) <;> exact llt_0) | fail) only [x201, xb201, nI_ltI, show (0 + 1 < 2) = True from eq_true (by omega), if_true, w0, s3, upd_eq, nI_add, mo_k_v, mo_k_n, mo_v_e, mo_gf_e, mo_pf_e, mo_ia_e, mo_ba_e, mo_za_e, mo_la_e, mo_aa_e, mo_le_e, mo_is_e, mo_bs_e, mo_zs_0, mo_zs_1, mo_ls_e, mo_as_e, mo_na_e, mo_aci_e, mo_acb_e, mo_acj_e, hp_gs, hp_gn, hp_ss, List.getElem?_cons_zero, List.getElem?_cons_succ, List.set_cons_zero, List.set_cons_succ]
        rw [x201_c44]
        simp (disch := first | assumption | exact zz_nl_i _ | exact zz_nl_r _ | exact zz_nl_n | exact okv_i _ | exact okv_j _ | exact okv_0 | exact okv_1 | exact okv_o _ _ | exact okv_a _ _ | exact bI_okr _ | omega | exact llt_0 | ((repeat apply llt_s) <;> exact llt_0) | fail) only [x201, xb201, nI_ltI, show (1 + 1 < 2) = False from eq_false (by omega), show (0 + 1 + 1 < 2) = False from eq_false (by omega), if_false, mo_k_v, mo_k_n, mo_v_e, mo_gf_e, mo_pf_e, mo_ia_e, mo_ba_e, mo_za_e, mo_la_e, mo_aa_e, mo_le_e, mo_is_e, mo_bs_e, mo_zs_0, mo_zs_1, mo_ls_e, mo_as_e, mo_na_e, mo_aci_e, mo_acb_e, mo_acj_e, hp_gs, hp_gn, hp_ss, List.getElem?_cons_zero, List.getElem?_cons_succ, List.set_cons_zero, List.set_cons_succ]
      · rw [if_neg c2]
        have c3 : ¬ x < pnv p - 2 + 0 := by omega
        refine Or.inl ⟨rfl, ?_⟩
        simp (disch := first | assumption | exact zz_nl_i _ | exact zz_nl_r _ | exact zz_nl_n | exact okv_i _ | exact okv_j _ | exact okv_0 | exact okv_1 | exact okv_o _ _ | exact okv_a _ _ | exact bI_okr _ | omega | exact llt_0 | ((repeat apply llt_s) <;> exact llt_0) | fail) only [x201, xb201, n00, if_false, w0, wA, r4, h8, g1, s2, nI_add, nI_ltI, c3, dec0, mo_k_v, mo_k_n, mo_v_e, mo_gf_e, mo_pf_e, mo_ia_e, mo_ba_e, mo_za_e, mo_la_e, mo_aa_e, mo_le_e, mo_is_e, mo_bs_e, mo_zs_0, mo_zs_1, mo_ls_e, mo_as_e, mo_na_e, mo_aci_e, mo_acb_e, mo_acj_e, hp_gs, hp_gn, hp_ss, List.getElem?_cons_zero, List.getElem?_cons_succ, List.set_cons_zero, List.set_cons_succ]
        rw [x201_c4]
        simp (disch := first | assumption | exact zz_nl_i _ | exact zz_nl_r _ | exact zz_nl_n | exact okv_i _ | exact okv_j _ | exact okv_0 | exact okv_1 | exact okv_o _ _ | exact okv_a _ _ | exact bI_okr _ | omega | exact llt_0 | ((repeat apply llt_s) <;> exact llt_0) | fail) only [x201, xb201, m1, if_true, mo_k_v, mo_k_n, mo_v_e, mo_gf_e, mo_pf_e, mo_ia_e, mo_ba_e, mo_za_e, mo_la_e, mo_aa_e, mo_le_e, mo_is_e, mo_bs_e, mo_zs_0, mo_zs_1, mo_ls_e, mo_as_e, mo_na_e, mo_aci_e, mo_acb_e, mo_acj_e, hp_gs, hp_gn, hp_ss, List.getElem?_cons_zero, List.getElem?_cons_succ, List.set_cons_zero, List.set_cons_succ]
  | 3, _ =>
    have g1 := g1 (by omega)
    have g2 := g2 (by omega)
    have g3 := g3 (by omega)
    have t3 := t3 rfl
    have s1 : nI 3 - nI 1 = nI 2 := pk_sub (by omega)
    have s2 : nI (pnv p) - nI 3 = nI (pnv p - 3) := pk_sub (by omega)
    have n00 : ¬ nI 0 < nI 0 := by decide +kernel
    have n10 : ¬ nI 1 < nI 0 := by decide +kernel
    have n20 : ¬ nI 2 < nI 0 := by decide +kernel
    have d1 : nI 1 + -1 = nI 0 := by decide +kernel
    have d2 : nI 2 + -1 = nI 1 := by decide +kernel
    have s3 : nI 1 - nI 1 = nI 0 := pk_sub (by omega)
    have s4 : nI 2 - nI 1 = nI 1 := pk_sub (by omega)
    unfold nxt
    simp (disch := first | assumption | exact zz_nl_i _ | exact zz_nl_r _ | exact zz_nl_n | exact okv_i _ | exact okv_j _ | exact okv_0 | exact okv_1 | exact okv_o _ _ | exact okv_a _ _ | exact bI_okr _ | omega | exact llt_0 | ((repeat apply llt_s) <;> exact llt_0) | fail) only [x201, xb201, s1, mo_k_v, mo_k_n, mo_v_e, mo_gf_e, mo_pf_e, mo_ia_e, mo_ba_e, mo_za_e, mo_la_e, mo_aa_e, mo_le_e, mo_is_e, mo_bs_e, mo_zs_0, mo_zs_1, mo_ls_e, mo_as_e, mo_na_e, mo_aci_e, mo_acb_e, mo_acj_e, hp_gs, hp_gn, hp_ss, List.getElem?_cons_zero, List.getElem?_cons_succ, List.set_cons_zero, List.set_cons_succ]
    rw [x201_c4]
    by_cases c : z + 1 < pnv p
    · rw [if_pos c]
      have c1 : z < pnv p - 3 + 2 := by omega
      refine Or.inr ⟨_, upd g8 2 (nI (z + 1)), rfl, ⟨fun _ => (upd_ne (by omega)).trans g1, fun _ => (upd_ne (by omega)).trans g2, fun _ => upd_eq _ _ _⟩, ?_⟩
      simp (disch := first | assumption | exact zz_nl_i _ | exact zz_nl_r _ | exact zz_nl_n | exact okv_i _ | exact okv_j _ | exact okv_0 | exact okv_1 | exact okv_o _ _ | exact okv_a _ _ | exact bI_okr _ | omega | exact llt_0 | ((repeat apply llt_s) <;> exact llt_0) | fail) only [x201, xb201, n20, if_false, w0, wA, r4, h8, g3, s2, nI_add, nI_ltI, c1, if_true, mo_k_v, mo_k_n, mo_v_e, mo_gf_e, mo_pf_e, mo_ia_e, mo_ba_e, mo_za_e, mo_la_e, mo_aa_e, mo_le_e, mo_is_e, mo_bs_e, mo_zs_0, mo_zs_1, mo_ls_e, mo_as_e, mo_na_e, mo_aci_e, mo_acb_e, mo_acj_e, hp_gs, hp_gn, hp_ss, List.getElem?_cons_zero, List.getElem?_cons_succ, List.set_cons_zero, List.set_cons_succ]
      rw [x201_c44]
      simp (disch := first | assumption | exact zz_nl_i _ | exact zz_nl_r _ | exact zz_nl_n | exact okv_i _ | exact okv_j _ | exact okv_0 | exact okv_1 | exact okv_o _ _ | exact okv_a _ _ | exact bI_okr _ | omega | exact llt_0 | ((repeat apply llt_s) <;> exact llt_0) | fail) only [x201, xb201, nI_ltI, Nat.lt_irrefl, if_false, mo_k_v, mo_k_n, mo_v_e, mo_gf_e, mo_pf_e, mo_ia_e, mo_ba_e, mo_za_e, mo_la_e, mo_aa_e, mo_le_e, mo_is_e, mo_bs_e, mo_zs_0, mo_zs_1, mo_ls_e, mo_as_e, mo_na_e, mo_aci_e, mo_acb_e, mo_acj_e, hp_gs, hp_gn, hp_ss, List.getElem?_cons_zero, List.getElem?_cons_succ, List.set_cons_zero, List.set_cons_succ]
    · rw [if_neg c]
      have c1 : ¬ z < pnv p - 3 + 2 := by omega
      simp (disch := first | assumption | exact zz_nl_i _ | exact zz_nl_r _ | exact zz_nl_n | exact okv_i _ | exact okv_j _ | exact okv_0 | exact okv_1 | exact okv_o _ _ | exact okv_a _ _ | exact bI_okr _ | omega | exact llt_0 | ((repeat apply llt_s) <;> exact llt_0) | fail) only [x201, xb201, n20, if_false, w0, wA, r4, h8, g3, s2, nI_add, nI_ltI, c1, d2, mo_k_v, mo_k_n, mo_v_e, mo_gf_e, mo_pf_e, mo_ia_e, mo_ba_e, mo_za_e, mo_la_e, mo_aa_e, mo_le_e, mo_is_e, mo_bs_e, mo_zs_0, mo_zs_1, mo_ls_e, mo_as_e, mo_na_e, mo_aci_e, mo_acb_e, mo_acj_e, hp_gs, hp_gn, hp_ss, List.getElem?_cons_zero, List.getElem?_cons_succ, List.set_cons_zero, List.set_cons_succ]
      rw [x201_c4]
      by_cases c2 : y + 2 < pnv p
      · rw [if_pos c2]
        have c3 : y < pnv p - 3 + 1 := by omega
        refine Or.inr ⟨_, upd (upd g8 1 (nI (y + 1))) 2 (nI (y + 2)), rfl, ⟨fun _ => (upd_ne (by omega)).trans ((upd_ne (by omega)).trans g1), fun _ => (upd_ne (by omega)).trans (upd_eq _ _ _), fun _ => upd_eq _ _ _⟩, ?_⟩
        simp (disch := first | assumption | exact zz_nl_i _ | exact zz_nl_r _ | exact zz_nl_n | exact okv_i _ | exact okv_j _ | exact okv_0 | exact okv_1 | exact okv_o _ _ | exact okv_a _ _ | exact bI_okr _ | omega | exact llt_0 | ((repeat apply llt_s) <;> exact llt_0) | fail) only [x201, xb201, n10, if_false, w0, wA, r4, h8, g2, s2, nI_add, nI_ltI, c3, if_true, mo_k_v, mo_k_n, mo_v_e, mo_gf_e, mo_pf_e, mo_ia_e, mo_ba_e, mo_za_e, mo_la_e, mo_aa_e, mo_le_e, mo_is_e, mo_bs_e, mo_zs_0, mo_zs_1, mo_ls_e, mo_as_e, mo_na_e, mo_aci_e, mo_acb_e, mo_acj_e, hp_gs, hp_gn, hp_ss, List.getElem?_cons_zero, List.getElem?_cons_succ, List.set_cons_zero, List.set_cons_succ]
        rw [x201_c44]
        simp (disch := first | assumption | exact zz_nl_i _ | exact zz_nl_r _ | exact zz_nl_n | exact okv_i _ | exact okv_j _ | exact okv_0 | exact okv_1 | exact okv_o _ _ | exact okv_a _ _ | exact bI_okr _ | omega | exact llt_0 | ((repeat apply llt_s) <;> exact llt_0) | fail) only [x201, xb201, nI_ltI, show (1 + 1 < 3) = True from eq_true (by omega), if_true, w0, s4, upd_eq, nI_add, mo_k_v, mo_k_n, mo_v_e, mo_gf_e, mo_pf_e, mo_ia_e, mo_ba_e, mo_za_e, mo_la_e, mo_aa_e, mo_le_e, mo_is_e, mo_bs_e, mo_zs_0, mo_zs_1, mo_ls_e, mo_as_e, mo_na_e, mo_aci_e, mo_acb_e, mo_acj_e, hp_gs, hp_gn, hp_ss, List.getElem?_cons_zero, List.getElem?_cons_succ, List.set_cons_zero, List.set_cons_succ]
        rw [x201_c44]
        simp (disch := first | assumption | exact zz_nl_i _ | exact zz_nl_r _ | exact zz_nl_n | exact okv_i _ | exact okv_j _ | exact okv_0 | exact okv_1 | exact okv_o _ _ | exact okv_a _ _ | exact bI_okr _ | omega | exact llt_0 | ((repeat apply llt_s) <;> exact llt_0) | fail) only [x201, xb201, nI_ltI, show (1 + 1 + 1 < 3) = False from eq_false (by omega), show (2 + 1 < 3) = False from eq_false (by omega), if_false, mo_k_v, mo_k_n, mo_v_e, mo_gf_e, mo_pf_e, mo_ia_e, mo_ba_e, mo_za_e, mo_la_e, mo_aa_e, mo_le_e, mo_is_e, mo_bs_e, mo_zs_0, mo_zs_1, mo_ls_e, mo_as_e, mo_na_e, mo_aci_e, mo_acb_e, mo_acj_e, hp_gs, hp_gn, hp_ss, List.getElem?_cons_zero, List.getElem?_cons_succ, List.set_cons_zero, List.set_cons_succ]
      · rw [if_neg c2]
        have c3 : ¬ y < pnv p - 3 + 1 := by omega
        simp (disch := first | assumption | exact zz_nl_i _ | exact zz_nl_r _ | exact zz_nl_n | exact okv_i _ | exact okv_j _ | exact okv_0 | exact okv_1 | exact okv_o _ _ | exact okv_a _ _ | exact bI_okr _ | omega | exact llt_0 | ((repeat apply llt_s) <;> exact llt_0) | fail) only [x201, xb201, n10, if_false, w0, wA, r4, h8, g2, s2, nI_add, nI_ltI, c3, d1, mo_k_v, mo_k_n, mo_v_e, mo_gf_e, mo_pf_e, mo_ia_e, mo_ba_e, mo_za_e, mo_la_e, mo_aa_e, mo_le_e, mo_is_e, mo_bs_e, mo_zs_0, mo_zs_1, mo_ls_e, mo_as_e, mo_na_e, mo_aci_e, mo_acb_e, mo_acj_e, hp_gs, hp_gn, hp_ss, List.getElem?_cons_zero, List.getElem?_cons_succ, List.set_cons_zero, List.set_cons_succ]
        rw [x201_c4]
        by_cases c4 : x + 3 < pnv p
        · rw [if_pos c4]
          have c5 : x < pnv p - 3 + 0 := by omega
          refine Or.inr ⟨_, upd (upd (upd g8 0 (nI (x + 1))) 1 (nI (x + 2))) 2 (nI (x + 3)), rfl, ⟨fun _ => (upd_ne (by omega)).trans ((upd_ne (by omega)).trans (upd_eq _ _ _)), fun _ => (upd_ne (by omega)).trans (upd_eq _ _ _), fun _ => upd_eq _ _ _⟩, ?_⟩
          simp (disch := first | assumption | exact zz_nl_i _ | exact zz_nl_r _ | exact zz_nl_n | exact okv_i _ | exact okv_j _ | exact okv_0 | exact okv_1 | exact okv_o _ _ | exact okv_a _ _ | exact bI_okr _ | omega | exact llt_0 | ((repeat apply llt_s) <;> exact llt_0) | fail) only [x201, xb201, n00, if_false, w0, wA, r4, h8, g1, s2, nI_add, nI_ltI, c5, if_true, mo_k_v, mo_k_n, mo_v_e, mo_gf_e, mo_pf_e, mo_ia_e, mo_ba_e, mo_za_e, mo_la_e, mo_aa_e, mo_le_e, mo_is_e, mo_bs_e, mo_zs_0, mo_zs_1, mo_ls_e, mo_as_e, mo_na_e, mo_aci_e, mo_acb_e, mo_acj_e, hp_gs, hp_gn, hp_ss, List.getElem?_cons_zero, List.getElem?_cons_succ, List.set_cons_zero, List.set_cons_succ]
          rw [x201_c44]
          simp (disch := first | assumption | exact zz_nl_i _ | exact zz_nl_r _ | exact zz_nl_n | exact okv_i _ | exact okv_j _ | exact okv_0 | exact okv_1 | exact okv_o _ _ | exact okv_a _ _ | exact bI_okr _ | omega | exact llt_0 | ((repeat apply llt_s) <;> exact llt_0) | fail) only [x201, xb201, nI_ltI, show (0 + 1 < 3) = True from eq_true (by omega), if_true, w0, s3, upd_eq, nI_add, mo_k_v, mo_k_n, mo_v_e, mo_gf_e, mo_pf_e, mo_ia_e, mo_ba_e, mo_za_e, mo_la_e, mo_aa_e, mo_le_e, mo_is_e, mo_bs_e, mo_zs_0, mo_zs_1, mo_ls_e, mo_as_e, mo_na_e, mo_aci_e, mo_acb_e, mo_acj_e, hp_gs, hp_gn, hp_ss, List.getElem?_cons_zero, List.getElem?_cons_succ, List.set_cons_zero, List.set_cons_succ]
          rw [x201_c44]
          simp (disch := first | assumption | exact zz_nl_i _ | exact zz_nl_r _ | exact zz_nl_n | exact okv_i _ | exact okv_j _ | exact okv_0 | exact okv_1 | exact okv_o _ _ | exact okv_a _ _ | exact bI_okr _ | omega | exact llt_0 | ((repeat apply llt_s) <;> exact llt_0) | fail) only [x201, xb201, nI_ltI, show (1 + 1 < 3) = True from eq_true (by omega), show (0 + 1 + 1 < 3) = True from eq_true (by omega), if_true, w0, s4, upd_eq, nI_add, mo_k_v, mo_k_n, mo_v_e, mo_gf_e, mo_pf_e, mo_ia_e, mo_ba_e, mo_za_e, mo_la_e, mo_aa_e, mo_le_e, mo_is_e, mo_bs_e, mo_zs_0, mo_zs_1, mo_ls_e, mo_as_e, mo_na_e, mo_aci_e, mo_acb_e, mo_acj_e, hp_gs, hp_gn, hp_ss, List.getElem?_cons_zero, List.getElem?_cons_succ, List.set_cons_zero, List.set_cons_succ]
          rw [x201_c44]
          simp (disch := first | assumption | exact zz_nl_i _ | exact zz_nl_r _ | exact zz_nl_n | exact okv_i _ | exact okv_j _ | exact okv_0 | exact okv_1 | exact okv_o _ _ | exact okv_a _ _ | exact bI_okr _ | omega | exact llt_0 | ((repeat apply llt_s) <;> exact llt_0) | fail) only [x201, xb201, nI_ltI, show (1 + 1 + 1 < 3) = False from eq_false (by omega), show (0 + 1 + 1 + 1 < 3) = False from eq_false (by omega), show (2 + 1 < 3) = False from eq_false (by omega), if_false, mo_k_v, mo_k_n, mo_v_e, mo_gf_e, mo_pf_e, mo_ia_e, mo_ba_e, mo_za_e, mo_la_e, mo_aa_e, mo_le_e, mo_is_e, mo_bs_e, mo_zs_0, mo_zs_1, mo_ls_e, mo_as_e, mo_na_e, mo_aci_e, mo_acb_e, mo_acj_e, hp_gs, hp_gn, hp_ss, List.getElem?_cons_zero, List.getElem?_cons_succ, List.set_cons_zero, List.set_cons_succ]
        · rw [if_neg c4]
          have c5 : ¬ x < pnv p - 3 + 0 := by omega
          refine Or.inl ⟨rfl, ?_⟩
          simp (disch := first | assumption | exact zz_nl_i _ | exact zz_nl_r _ | exact zz_nl_n | exact okv_i _ | exact okv_j _ | exact okv_0 | exact okv_1 | exact okv_o _ _ | exact okv_a _ _ | exact bI_okr _ | omega | exact llt_0 | ((repeat apply llt_s) <;> exact llt_0) | fail) only [x201, xb201, n00, if_false, w0, wA, r4, h8, g1, s2, nI_add, nI_ltI, c5, dec0, mo_k_v, mo_k_n, mo_v_e, mo_gf_e, mo_pf_e, mo_ia_e, mo_ba_e, mo_za_e, mo_la_e, mo_aa_e, mo_le_e, mo_is_e, mo_bs_e, mo_zs_0, mo_zs_1, mo_ls_e, mo_as_e, mo_na_e, mo_aci_e, mo_acb_e, mo_acj_e, hp_gs, hp_gn, hp_ss, List.getElem?_cons_zero, List.getElem?_cons_succ, List.set_cons_zero, List.set_cons_succ]
          rw [x201_c4]
          simp (disch := first | assumption | exact zz_nl_i _ | exact zz_nl_r _ | exact zz_nl_n | exact okv_i _ | exact okv_j _ | exact okv_0 | exact okv_1 | exact okv_o _ _ | exact okv_a _ _ | exact bI_okr _ | omega | exact llt_0 | ((repeat apply llt_s) <;> exact llt_0) | fail) only [x201, xb201, m1, if_true, mo_k_v, mo_k_n, mo_v_e, mo_gf_e, mo_pf_e, mo_ia_e, mo_ba_e, mo_za_e, mo_la_e, mo_aa_e, mo_le_e, mo_is_e, mo_bs_e, mo_zs_0, mo_zs_1, mo_ls_e, mo_as_e, mo_na_e, mo_aci_e, mo_acb_e, mo_acj_e, hp_gs, hp_gn, hp_ss, List.getElem?_cons_zero, List.getElem?_cons_succ, List.set_cons_zero, List.set_cons_succ]
end
