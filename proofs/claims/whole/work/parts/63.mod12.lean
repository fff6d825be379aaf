/-! the reference: likes, spread, left -/
theorem lin_lt {p : Pl} (hw : wfP p) (hn : pnv p ≤ 20) (t : Int32) {x : Nat} (hx : x < 32) (hnx : pnv p ≤ x) : bt (linOf p t (pnv p)) x = false := by
  rw [← Bool.not_eq_true, lin_bt]
  rintro ⟨u, h1, h2, h3⟩
  rw [pli_lt hw hn (u + 1) u (by omega) h1 x hx (by omega)] at h3
  cases h3
def frP (h k : zz_H) (M : Nat) : Prop := frm h k (M + 4) (M + 10) ∧ sam h k (M + 7) (M + 9)
theorem frP_refl (h : zz_H) (M : Nat) : frP h h M := ⟨frm_refl _ _ _, fun _ _ _ => rfl⟩
theorem frP_t {h k l : zz_H} {M hi : Nat} (h1 : frP h k M) (h2 : frm k l (M + 4) hi) (hh : hi ≤ M + 7) : frP h l M := ⟨frm_trans h1.1 (frm_mono h2 (by omega) (by omega)), fun b g1 g2 => (h2.2.2.2 b (by omega)).trans (h1.2 b g1 g2)⟩
theorem frP_s {h k : zz_H} {M : Nat} {e : zz_E} (h1 : frP h k M) : frP h (hp_s k (M + 9) e) M := ⟨frm_s ⟨by omega, by omega⟩ h1.1, fun b g1 g2 => (hp_gn (by omega)).trans (h1.2 b g1 g2)⟩
section
variable {h : zz_H} {M : Nat} {A : Nat → Int32} {mt mk mp mu ms mn mo ml : Int32} {mv : Int64} {me mf mw : Int32} {p : Pl} {rk tg f ch ba : Nat → Int32}
theorem m_likes_no (w0 : hp_g h M = some (mdO M mt mk mp mu ms mn mo ml mv me mf mw)) (wA : hp_g h (M + 1) = some (iA 12639 A)) (hr : RS A 0 p rk tg ch ba) (hc : CI p rk tg f ch ba) {x : Int32} (ht : thrC rk x = false) : zz_run 202 [.ref M, .int x] h = some (some (.int (-1)), h) := by
  rw [en202 w0]
  simp (disch := first | assumption | exact zz_nl_i _ | exact zz_nl_r _ | exact zz_nl_n | exact okv_i _ | exact okv_j _ | exact okv_0 | exact okv_1 | exact okv_o _ _ | exact okv_a _ _ | exact bI_okr _ | omega | exact llt_0 | ((repeat apply llt_s) <;> exact llt_0) | fail) only [x202_p0, x202_p1, m_isThere w0 wA hr, ht, bI_f, if_true, mo_k_v, mo_k_n, mo_v_e, mo_gf_e, mo_pf_e, mo_ia_e, mo_ba_e, mo_za_e, mo_la_e, mo_aa_e, mo_le_e, mo_is_e, mo_bs_e, mo_zs_0, mo_zs_1, mo_ls_e, mo_as_e, mo_na_e, mo_aci_e, mo_acb_e, mo_acj_e, hp_gs, hp_gn, hp_ss, List.getElem?_cons_zero, List.getElem?_cons_succ, List.set_cons_zero, List.set_cons_succ]
theorem m_likes_ok (w0 : hp_g h M = some (mdO M mt mk mp mu ms mn mo ml mv me mf mw)) (wA : hp_g h (M + 1) = some (iA 12639 A)) (hr : RS A 0 p rk tg ch ba) (hc : CI p rk tg f ch ba) (hs : scr3 h M) {q : Nat} (hq : q < 256) (ht : thrC rk (nI q) = true) : ∃ k, zz_run 202 [.ref M, .int (nI q)] h = some (some (.int (nI (fb_ct (fun o => !decide (rk o = -1) && decide (tg o &&& tg q = tg q)) 256))), k) ∧ scr3 k M ∧ frm h k (M + 4) (M + 7) := by
  obtain ⟨r1, r2, r3, r4⟩ := hr.1
  rw [Nat.zero_add] at r4
  obtain ⟨V4, g4, hg4, _⟩ := hs.1
  have hbit : ∀ (k : zz_H), frm h k (M + 4) (M + 5) → ∀ v, v < pnv p → zz_run 189 [.ref M, .int (nI (302 + 8 * v)), .int (nI q)] k = some (some (.int (bI (bt (tg q) v))), k) := fun k hf v hv => by
    have := hr.2.2.2.2 v hv q hq
    rw [Nat.zero_add] at this
    rw [m_isBit ((hf.2.2.2 M (by omega)).trans w0) ((hf.2.2.2 (M + 1) (by omega)).trans wA) hq (by omega), this]
  have l1 := lp_arr (N := 8) (St := fun b k => zz_Y 202 (12, [some (.ref (M)), some (.int (nI (q))), some (.int (nI (b))), none], [], k)) (fun b _ => A (294 + b)) hg4 (fun b g hb => by
    rw [x202_c12]
    simp (disch := first | assumption | exact zz_nl_i _ | exact zz_nl_r _ | exact zz_nl_n | exact okv_i _ | exact okv_j _ | exact okv_0 | exact okv_1 | exact okv_o _ _ | exact okv_a _ _ | exact bI_okr _ | omega | exact llt_0 | ((repeat apply llt_s) <;> exact llt_0) | fail) only [x202_p0, x202_p1, w0, wA, nI_ltI, hb, if_true, nI_add, mo_k_v, mo_k_n, mo_v_e, mo_gf_e, mo_pf_e, mo_ia_e, mo_ba_e, mo_za_e, mo_la_e, mo_aa_e, mo_le_e, mo_is_e, mo_bs_e, mo_zs_0, mo_zs_1, mo_ls_e, mo_as_e, mo_na_e, mo_aci_e, mo_acb_e, mo_acj_e, hp_gs, hp_gn, hp_ss, List.getElem?_cons_zero, List.getElem?_cons_succ, List.set_cons_zero, List.set_cons_succ])
  have step : ∀ v (s : zz_H × Option Value), v < pnv p → ((∃ g, hp_g s.1 (M + 4) = some (iA 8 g) ∧ ∀ o, o < 256 → (pb g o = true ↔ ¬ rk o = -1 ∧ ∀ u, u < v → bt (tg q) u = true → bt (tg o) u = true)) ∧ frm h s.1 (M + 4) (M + 5) ∧ zz_nl s.2 = true) → ∃ s' : zz_H × Option Value, ((∃ g, hp_g s'.1 (M + 4) = some (iA 8 g) ∧ ∀ o, o < 256 → (pb g o = true ↔ ¬ rk o = -1 ∧ ∀ u, u < v + 1 → bt (tg q) u = true → bt (tg o) u = true)) ∧ frm h s'.1 (M + 4) (M + 5) ∧ zz_nl s'.2 = true) ∧ zz_Y 202 (42, [some (.ref (M)), some (.int (nI (q))), some (.int (nI (v))), s.2], [], s.1) = zz_Y 202 (42, [some (.ref (M)), some (.int (nI (q))), some (.int (nI (v + 1))), s'.2], [], s'.1) := by
    rintro v ⟨k, o⟩ hv ⟨⟨g, hg, hgb⟩, hf, ho⟩
    dsimp only at hg hgb hf ho ⊢
    have w0' := (hf.2.2.2 M (by omega)).trans w0
    have wA' := (hf.2.2.2 (M + 1) (by omega)).trans wA
    rw [x202_c42]
    cases c : bt (tg q) v with
    | false =>
      refine ⟨(k, o), ⟨⟨g, hg, fun o ho => ?_⟩, hf, ho⟩, ?_⟩
      · rw [hgb o ho]
        exact and_congr Iff.rfl ⟨fun a u h1 h2 => a u (by (have : u ≠ v := fun e => by rw [e, c] at h2; cases h2); omega) h2, fun a u h1 h2 => a u (by omega) h2⟩
      · simp (disch := first | assumption | exact zz_nl_i _ | exact zz_nl_r _ | exact zz_nl_n | exact okv_i _ | exact okv_j _ | exact okv_0 | exact okv_1 | exact okv_o _ _ | exact okv_a _ _ | exact bI_okr _ | omega | exact llt_0 | ((repeat apply llt_s) <;> exact llt_0) | fail) only [x202_p0, x202_p1, w0', wA', r4, nI_ltI, hv, if_true, pk_mul, nI_add, hbit k hf v hv, c, bI_f, mo_k_v, mo_k_n, mo_v_e, mo_gf_e, mo_pf_e, mo_ia_e, mo_ba_e, mo_za_e, mo_la_e, mo_aa_e, mo_le_e, mo_is_e, mo_bs_e, mo_zs_0, mo_zs_1, mo_ls_e, mo_as_e, mo_na_e, mo_aci_e, mo_acb_e, mo_acj_e, hp_gs, hp_gn, hp_ss, List.getElem?_cons_zero, List.getElem?_cons_succ, List.set_cons_zero, List.set_cons_succ]
    | true =>
      refine ⟨(hp_s k (M + 4) (iA 8 (mpa 8 (fun b x => x &&& A (302 + 8 * v + b)) g)), some (.int (nI 8))), ⟨⟨_, hp_gs _ _ _, fun o ho => ?_⟩, frm_s ⟨by omega, by omega⟩ hf, zz_nl_i _⟩, ?_⟩
      · have t := hr.2.2.2.2 v hv o ho
        rw [Nat.zero_add] at t
        unfold pb
        rw [mpa_in (by omega), b_and, Bool.and_eq_true, t, show (bt (g (o / 32)) (o % 32) = true) = (pb g o = true) from rfl, hgb o ho]
        constructor
        · rintro ⟨⟨a1, a2⟩, a3⟩
          refine ⟨a1, fun u h1 h2 => ?_⟩
          by_cases e : u = v
          · subst e; exact a3
          · exact a2 u (by omega) h2
        · rintro ⟨a1, a2⟩
          exact ⟨⟨a1, fun u h1 h2 => a2 u (by omega) h2⟩, a2 v (by omega) c⟩
      · simp (disch := first | assumption | exact zz_nl_i _ | exact zz_nl_r _ | exact zz_nl_n | exact okv_i _ | exact okv_j _ | exact okv_0 | exact okv_1 | exact okv_o _ _ | exact okv_a _ _ | exact bI_okr _ | omega | exact llt_0 | ((repeat apply llt_s) <;> exact llt_0) | fail) only [x202_p0, x202_p1, w0', wA', r4, nI_ltI, hv, if_true, pk_mul, nI_add, hbit k hf v hv, c, bI_t, nI_01, if_false, mo_k_v, mo_k_n, mo_v_e, mo_gf_e, mo_pf_e, mo_ia_e, mo_ba_e, mo_za_e, mo_la_e, mo_aa_e, mo_le_e, mo_is_e, mo_bs_e, mo_zs_0, mo_zs_1, mo_ls_e, mo_as_e, mo_na_e, mo_aci_e, mo_acb_e, mo_acj_e, hp_gs, hp_gn, hp_ss, List.getElem?_cons_zero, List.getElem?_cons_succ, List.set_cons_zero, List.set_cons_succ]
        have l2 := lp_arr (N := 8) (St := fun b k => zz_Y 202 (73, [some (.ref (M)), some (.int (nI (q))), some (.int (nI (v))), some (.int (nI (b)))], [], k)) (fun b x => x &&& A (302 + 8 * v + b)) hg (fun b g hb => by
          rw [x202_c73]
          simp (disch := first | assumption | exact zz_nl_i _ | exact zz_nl_r _ | exact zz_nl_n | exact okv_i _ | exact okv_j _ | exact okv_0 | exact okv_1 | exact okv_o _ _ | exact okv_a _ _ | exact bI_okr _ | omega | exact llt_0 | ((repeat apply llt_s) <;> exact llt_0) | fail) only [x202_p0, x202_p1, w0', wA', nI_ltI, hb, if_true, nI_add, pk_mul, mo_k_v, mo_k_n, mo_v_e, mo_gf_e, mo_pf_e, mo_ia_e, mo_ba_e, mo_za_e, mo_la_e, mo_aa_e, mo_le_e, mo_is_e, mo_bs_e, mo_zs_0, mo_zs_1, mo_ls_e, mo_as_e, mo_na_e, mo_aci_e, mo_acb_e, mo_acj_e, hp_gs, hp_gn, hp_ss, List.getElem?_cons_zero, List.getElem?_cons_succ, List.set_cons_zero, List.set_cons_succ])
        rw [l2, x202_c73]
        simp (disch := first | assumption | exact zz_nl_i _ | exact zz_nl_r _ | exact zz_nl_n | exact okv_i _ | exact okv_j _ | exact okv_0 | exact okv_1 | exact okv_o _ _ | exact okv_a _ _ | exact bI_okr _ | omega | exact llt_0 | ((repeat apply llt_s) <;> exact llt_0) | fail) only [x202_p0, x202_p1, nI_ltI, Nat.lt_irrefl, if_false, nI_add, mo_k_v, mo_k_n, mo_v_e, mo_gf_e, mo_pf_e, mo_ia_e, mo_ba_e, mo_za_e, mo_la_e, mo_aa_e, mo_le_e, mo_is_e, mo_bs_e, mo_zs_0, mo_zs_1, mo_ls_e, mo_as_e, mo_na_e, mo_aci_e, mo_acb_e, mo_acj_e, hp_gs, hp_gn, hp_ss, List.getElem?_cons_zero, List.getElem?_cons_succ, List.set_cons_zero, List.set_cons_succ]
  obtain ⟨⟨k, o⟩, ⟨⟨g, hg, hgb⟩, hf, ho⟩, e⟩ := lp_ex (N := pnv p) (St := fun v (s : zz_H × Option Value) => zz_Y 202 (42, [some (.ref (M)), some (.int (nI (q))), some (.int (nI (v))), s.2], [], s.1)) step (s := (hp_s h (M + 4) (iA 8 (mpa 8 (fun b _ => A (294 + b)) g4)), none)) ⟨⟨_, hp_gs _ _ _, fun o ho => by
    have t := (hr.2.2.2.1 o ho).1
    rw [Nat.zero_add] at t
    unfold pb
    rw [mpa_in (by omega), t, Bool.not_eq_true', decide_eq_false_iff_not]
    exact ⟨fun a => ⟨a, fun u h1 => by omega⟩, fun a => a.1⟩⟩, frm_s ⟨by omega, by omega⟩ (frm_refl _ _ _), zz_nl_n⟩
  dsimp only at hg hgb hf ho e
  have w0' := (hf.2.2.2 M (by omega)).trans w0
  have wA' := (hf.2.2.2 (M + 1) (by omega)).trans wA
  have a4 : ar8 k (M + 4) g := ⟨g, hg, fun _ _ => rfl⟩
  obtain ⟨V5, a5⟩ := hs.2.1
  obtain ⟨V6, a6⟩ := hs.2.2
  refine ⟨k, ?_, ⟨⟨_, a4⟩, ⟨V5, ar8_sam a5 (hf.2.2.2 _ (by omega))⟩, ⟨V6, ar8_sam a6 (hf.2.2.2 _ (by omega))⟩⟩, frm_mono hf (by omega) (by omega)⟩
  rw [en202 w0]
  simp (disch := first | assumption | exact zz_nl_i _ | exact zz_nl_r _ | exact zz_nl_n | exact okv_i _ | exact okv_j _ | exact okv_0 | exact okv_1 | exact okv_o _ _ | exact okv_a _ _ | exact bI_okr _ | omega | exact llt_0 | ((repeat apply llt_s) <;> exact llt_0) | fail) only [x202_p0, x202_p1, m_isThere w0 wA hr, ht, bI_t, nI_01, if_false, mo_k_v, mo_k_n, mo_v_e, mo_gf_e, mo_pf_e, mo_ia_e, mo_ba_e, mo_za_e, mo_la_e, mo_aa_e, mo_le_e, mo_is_e, mo_bs_e, mo_zs_0, mo_zs_1, mo_ls_e, mo_as_e, mo_na_e, mo_aci_e, mo_acb_e, mo_acj_e, hp_gs, hp_gn, hp_ss, List.getElem?_cons_zero, List.getElem?_cons_succ, List.set_cons_zero, List.set_cons_succ]
  rw [l1, x202_c12]
  simp (disch := first | assumption | exact zz_nl_i _ | exact zz_nl_r _ | exact zz_nl_n | exact okv_i _ | exact okv_j _ | exact okv_0 | exact okv_1 | exact okv_o _ _ | exact okv_a _ _ | exact bI_okr _ | omega | exact llt_0 | ((repeat apply llt_s) <;> exact llt_0) | fail) only [x202_p0, x202_p1, nI_ltI, Nat.lt_irrefl, if_false, mo_k_v, mo_k_n, mo_v_e, mo_gf_e, mo_pf_e, mo_ia_e, mo_ba_e, mo_za_e, mo_la_e, mo_aa_e, mo_le_e, mo_is_e, mo_bs_e, mo_zs_0, mo_zs_1, mo_ls_e, mo_as_e, mo_na_e, mo_aci_e, mo_acb_e, mo_acj_e, hp_gs, hp_gn, hp_ss, List.getElem?_cons_zero, List.getElem?_cons_succ, List.set_cons_zero, List.set_cons_succ]
  refine e.trans ?_
  rw [x202_c42]
  simp (disch := first | assumption | exact zz_nl_i _ | exact zz_nl_r _ | exact zz_nl_n | exact okv_i _ | exact okv_j _ | exact okv_0 | exact okv_1 | exact okv_o _ _ | exact okv_a _ _ | exact bI_okr _ | omega | exact llt_0 | ((repeat apply llt_s) <;> exact llt_0) | fail) only [x202_p0, x202_p1, w0', wA', r4, nI_ltI, Nat.lt_irrefl, if_false, a_many a4, mo_k_v, mo_k_n, mo_v_e, mo_gf_e, mo_pf_e, mo_ia_e, mo_ba_e, mo_za_e, mo_la_e, mo_aa_e, mo_le_e, mo_is_e, mo_bs_e, mo_zs_0, mo_zs_1, mo_ls_e, mo_as_e, mo_na_e, mo_aci_e, mo_acb_e, mo_acj_e, hp_gs, hp_gn, hp_ss, List.getElem?_cons_zero, List.getElem?_cons_succ, List.set_cons_zero, List.set_cons_succ]
  rw [← ct_256, fb_ct_cong (q := fun o => !decide (rk o = -1) && decide (tg o &&& tg q = tg q)) (fun o ho => Bool.eq_iff_iff.mpr ?_)]
  rw [hgb o ho, Bool.and_eq_true, Bool.not_eq_true', decide_eq_false_iff_not, decide_eq_true_iff]
  refine and_congr Iff.rfl ⟨fun a => b_ext (fun i hi => ?_), fun a u h1 h2 => ?_⟩
  · rw [b_and]
    by_cases c : i < pnv p
    · cases c2 : bt (tg q) i
      · rw [Bool.and_false]
      · rw [a i c c2]; rfl
    · rw [(hc.2.2.2.1 q hq).1 i (by omega) hi, Bool.and_false]
  · have := congrArg (fun z => bt z u) a
    rw [b_and, h2, Bool.and_true] at this
    exact this
theorem m_spread_bad (w0 : hp_g h M = some (mdO M mt mk mp mu ms mn mo ml mv me mf mw)) (wA : hp_g h (M + 1) = some (iA 12639 A)) {x : Int32} (hx : isV 21 x = false) : zz_run 203 [.ref M, .int x] h = some (some (.int (-1)), h) := by
  rw [en203 w0]
  simp (disch := first | assumption | exact zz_nl_i _ | exact zz_nl_r _ | exact zz_nl_n | exact okv_i _ | exact okv_j _ | exact okv_0 | exact okv_1 | exact okv_o _ _ | exact okv_a _ _ | exact bI_okr _ | omega | exact llt_0 | ((repeat apply llt_s) <;> exact llt_0) | fail) only [x203_p0, x203_p1, m_isIn, in_V, Nat.reduceAdd, hx, bI_f, if_true, mo_k_v, mo_k_n, mo_v_e, mo_gf_e, mo_pf_e, mo_ia_e, mo_ba_e, mo_za_e, mo_la_e, mo_aa_e, mo_le_e, mo_is_e, mo_bs_e, mo_zs_0, mo_zs_1, mo_ls_e, mo_as_e, mo_na_e, mo_aci_e, mo_acb_e, mo_acj_e, hp_gs, hp_gn, hp_ss, List.getElem?_cons_zero, List.getElem?_cons_succ, List.set_cons_zero, List.set_cons_succ]
theorem m_spread_ok (w0 : hp_g h M = some (mdO M mt mk mp mu ms mn mo ml mv me mf mw)) (wA : hp_g h (M + 1) = some (iA 12639 A)) (hr : RS A 0 p rk tg ch ba) (hc : CI p rk tg f ch ba) (hs : scr3 h M) {g9 : Nat → Int32} (h9 : hp_g h (M + 9) = some (iA 256 g9)) {m : Nat} (hm : m < 21) : ∃ k, zz_run 203 [.ref M, .int (nI m)] h = some (some (.int (nI (fb_ct (fun q => pb (fun b => lfW p f ch ba b (-1) (-1)) q && decide (pc (linOf p (tg q) (pnv p)) = m)) 256))), k) ∧ scr3 k M ∧ (∃ g, hp_g k (M + 9) = some (iA 256 g)) ∧ frP h k M := by
  obtain ⟨r1, r2, r3, r4⟩ := hr.1
  rw [Nat.zero_add] at r4
  have e1 : isV 21 (nI m) = true := isV_nI (by omega) hm
  have l1 := lp_arr (N := 256) (St := fun b k => zz_Y 203 (14, [some (.ref (M)), some (.int (nI (m))), some (.int (nI (b))), none], [], k)) (fun _ _ => nI 0) h9 (fun b g hb => by
    rw [x203_c14]
    simp (disch := first | assumption | exact zz_nl_i _ | exact zz_nl_r _ | exact zz_nl_n | exact okv_i _ | exact okv_j _ | exact okv_0 | exact okv_1 | exact okv_o _ _ | exact okv_a _ _ | exact bI_okr _ | omega | exact llt_0 | ((repeat apply llt_s) <;> exact llt_0) | fail) only [x203_p0, x203_p1, w0, nI_ltI, hb, if_true, nI_add, mo_k_v, mo_k_n, mo_v_e, mo_gf_e, mo_pf_e, mo_ia_e, mo_ba_e, mo_za_e, mo_la_e, mo_aa_e, mo_le_e, mo_is_e, mo_bs_e, mo_zs_0, mo_zs_1, mo_ls_e, mo_as_e, mo_na_e, mo_aci_e, mo_acb_e, mo_acj_e, hp_gs, hp_gn, hp_ss, List.getElem?_cons_zero, List.getElem?_cons_succ, List.set_cons_zero, List.set_cons_succ])
  have step : ∀ v (s : zz_H × Option Value), v < pnv p → ((∃ g, hp_g s.1 (M + 9) = some (iA 256 g) ∧ ∀ o, o < 256 → g o = nI (fb_ct (fun u => pb (rw8 f u) o) v)) ∧ scr3 s.1 M ∧ frP h s.1 M ∧ zz_nl s.2 = true) → ∃ s' : zz_H × Option Value, ((∃ g, hp_g s'.1 (M + 9) = some (iA 256 g) ∧ ∀ o, o < 256 → g o = nI (fb_ct (fun u => pb (rw8 f u) o) (v + 1))) ∧ scr3 s'.1 M ∧ frP h s'.1 M ∧ zz_nl s'.2 = true) ∧ zz_Y 203 (36, [some (.ref (M)), some (.int (nI (m))), some (.int (nI (v))), s.2], [], s.1) = zz_Y 203 (36, [some (.ref (M)), some (.int (nI (m))), some (.int (nI (v + 1))), s'.2], [], s'.1) := by
    rintro v ⟨k, o⟩ hv ⟨⟨g, hg, hgb⟩, hs, hf, ho⟩
    dsimp only at hg hgb hs hf ho ⊢
    have w0' := (hf.1.2.2.2 M (by omega)).trans w0
    have wA' := (hf.1.2.2.2 (M + 1) (by omega)).trans wA
    obtain ⟨V4, a4⟩ := hs.1
    obtain ⟨k2, e2, s4, hf2⟩ := m_laysSet w0' wA' hr hc a4 (by omega) (by omega) hv
    have w0'' := (hf2.2.2.2 M (by omega)).trans w0'
    have hg2 := (hf2.2.2.2 (M + 9) (by omega)).trans hg
    obtain ⟨V5, a5⟩ := hs.2.1
    obtain ⟨V6, a6⟩ := hs.2.2
    have hS : scr3 (hp_s k2 (M + 9) (iA 256 (mpa 256 (fun b x => x + bI (pb (rw8 f v) b)) g))) M := ⟨⟨_, ar8_ne s4 (by omega)⟩, ⟨V5, ar8_ne (ar8_sam a5 (hf2.2.2.2 _ (by omega))) (by omega)⟩, ⟨V6, ar8_ne (ar8_sam a6 (hf2.2.2.2 _ (by omega))) (by omega)⟩⟩
    refine ⟨(hp_s k2 (M + 9) (iA 256 (mpa 256 (fun b x => x + bI (pb (rw8 f v) b)) g)), some (.int (nI 256))), ⟨⟨_, hp_gs _ _ _, fun o ho => ?_⟩, hS, frP_s (frP_t hf hf2 (by omega)), zz_nl_i _⟩, ?_⟩
    · rw [mpa_in ho, hgb o ho, fb_ct_succ]
      cases pb (rw8 f v) o
      · rw [bI_f, nI_add]; rfl
      · rw [bI_t, nI_add]; rfl
    · rw [x203_c36]
      simp (disch := first | assumption | exact zz_nl_i _ | exact zz_nl_r _ | exact zz_nl_n | exact okv_i _ | exact okv_j _ | exact okv_0 | exact okv_1 | exact okv_o _ _ | exact okv_a _ _ | exact bI_okr _ | omega | exact llt_0 | ((repeat apply llt_s) <;> exact llt_0) | fail) only [x203_p0, x203_p1, w0', wA', r4, nI_ltI, hv, if_true, e2, mo_k_v, mo_k_n, mo_v_e, mo_gf_e, mo_pf_e, mo_ia_e, mo_ba_e, mo_za_e, mo_la_e, mo_aa_e, mo_le_e, mo_is_e, mo_bs_e, mo_zs_0, mo_zs_1, mo_ls_e, mo_as_e, mo_na_e, mo_aci_e, mo_acb_e, mo_acj_e, hp_gs, hp_gn, hp_ss, List.getElem?_cons_zero, List.getElem?_cons_succ, List.set_cons_zero, List.set_cons_succ]
      have l2 := lp_arr (N := 256) (St := fun b k => zz_Y 203 (57, [some (.ref (M)), some (.int (nI (m))), some (.int (nI (v))), some (.int (nI (b)))], [], k)) (fun b x => x + bI (pb (rw8 f v) b)) hg2 (fun b g hb => by
        have ai := a_inSet (h := hp_s k2 (M + 9) (iA 256 g)) (ar8_ne s4 (by omega)) hb
        rw [x203_c57]
        cases c : pb (rw8 f v) b
        · rw [c] at ai
          simp (disch := first | assumption | exact zz_nl_i _ | exact zz_nl_r _ | exact zz_nl_n | exact okv_i _ | exact okv_j _ | exact okv_0 | exact okv_1 | exact okv_o _ _ | exact okv_a _ _ | exact bI_okr _ | omega | exact llt_0 | ((repeat apply llt_s) <;> exact llt_0) | fail) only [x203_p0, x203_p1, w0'', nI_ltI, hb, if_true, ai, bI_f, nI_add, mo_k_v, mo_k_n, mo_v_e, mo_gf_e, mo_pf_e, mo_ia_e, mo_ba_e, mo_za_e, mo_la_e, mo_aa_e, mo_le_e, mo_is_e, mo_bs_e, mo_zs_0, mo_zs_1, mo_ls_e, mo_as_e, mo_na_e, mo_aci_e, mo_acb_e, mo_acj_e, hp_gs, hp_gn, hp_ss, List.getElem?_cons_zero, List.getElem?_cons_succ, List.set_cons_zero, List.set_cons_succ]
        · rw [c] at ai
          simp (disch := first | assumption | exact zz_nl_i _ | exact zz_nl_r _ | exact zz_nl_n | exact okv_i _ | exact okv_j _ | exact okv_0 | exact okv_1 | exact okv_o _ _ | exact okv_a _ _ | exact bI_okr _ | omega | exact llt_0 | ((repeat apply llt_s) <;> exact llt_0) | fail) only [x203_p0, x203_p1, w0'', nI_ltI, hb, if_true, ai, bI_t, nI_01, if_false, nI_add, mo_k_v, mo_k_n, mo_v_e, mo_gf_e, mo_pf_e, mo_ia_e, mo_ba_e, mo_za_e, mo_la_e, mo_aa_e, mo_le_e, mo_is_e, mo_bs_e, mo_zs_0, mo_zs_1, mo_ls_e, mo_as_e, mo_na_e, mo_aci_e, mo_acb_e, mo_acj_e, hp_gs, hp_gn, hp_ss, List.getElem?_cons_zero, List.getElem?_cons_succ, List.set_cons_zero, List.set_cons_succ])
      rw [l2, x203_c57]
      simp (disch := first | assumption | exact zz_nl_i _ | exact zz_nl_r _ | exact zz_nl_n | exact okv_i _ | exact okv_j _ | exact okv_0 | exact okv_1 | exact okv_o _ _ | exact okv_a _ _ | exact bI_okr _ | omega | exact llt_0 | ((repeat apply llt_s) <;> exact llt_0) | fail) only [x203_p0, x203_p1, nI_ltI, Nat.lt_irrefl, if_false, nI_add, mo_k_v, mo_k_n, mo_v_e, mo_gf_e, mo_pf_e, mo_ia_e, mo_ba_e, mo_za_e, mo_la_e, mo_aa_e, mo_le_e, mo_is_e, mo_bs_e, mo_zs_0, mo_zs_1, mo_ls_e, mo_as_e, mo_na_e, mo_aci_e, mo_acb_e, mo_acj_e, hp_gs, hp_gn, hp_ss, List.getElem?_cons_zero, List.getElem?_cons_succ, List.set_cons_zero, List.set_cons_succ]
  obtain ⟨⟨k, o⟩, ⟨⟨g, hg, hgb⟩, hs1, hf, ho⟩, e⟩ := lp_ex (N := pnv p) (St := fun v (s : zz_H × Option Value) => zz_Y 203 (36, [some (.ref (M)), some (.int (nI (m))), some (.int (nI (v))), s.2], [], s.1)) step (s := (hp_s h (M + 9) (iA 256 (mpa 256 (fun _ _ => nI 0) g9)), none)) ⟨⟨_, hp_gs _ _ _, fun o ho => mpa_in ho⟩, scr3_sam hs (fun b h1 h2 => hp_gn (by omega)), frP_s (frP_refl _ _), zz_nl_n⟩
  dsimp only at hg hgb hs1 hf ho e
  have w0' := (hf.1.2.2.2 M (by omega)).trans w0
  have wA' := (hf.1.2.2.2 (M + 1) (by omega)).trans wA
  obtain ⟨k2, e2, a6, s2, hf2⟩ := m_laysLeft w0' wA' hr hc hs1 (-1)
  have w0'' := (hf2.2.2.2 M (by omega)).trans w0'
  have hg2 := (hf2.2.2.2 (M + 9) (by omega)).trans hg
  refine ⟨k2, ?_, s2, ⟨_, hg2⟩, frP_t hf hf2 (by omega)⟩
  have hgc : ∀ b, b < 256 → (g b = nI m ↔ pc (linOf p (tg b) (pnv p)) = m) := fun b hb => by
    have hle := fb_ct_le (fun u => pb (rw8 f u) b) (pnv p)
    rw [hgb b hb, nI_eq (by omega) (by omega), pc_low (by omega) (fun v h1 h2 => lin_lt hc.1 r2 _ h2 h1), fb_ct_cong (p := fun u => pb (rw8 f u) b) (q := bt (linOf p (tg b) (pnv p))) (fun u hu => hc.2.2.2.2.2 u hu b hb)]
  have step2 : ∀ b n, b < 256 → zz_Y 203 (110, [some (.ref (M)), some (.int (nI (m))), some (.int (nI (n))), some (.int (nI (b)))], [], k2) = zz_Y 203 (110, [some (.ref (M)), some (.int (nI (m))), some (.int (nI (n + (if (pb (fun b => lfW p f ch ba b (-1) (-1)) b && decide (pc (linOf p (tg b) (pnv p)) = m)) = true then 1 else 0)))), some (.int (nI (b + 1)))], [], k2) := by
    intro b n hb
    have ai := a_inSet a6 hb
    rw [x203_c110]
    cases c : pb (fun b => lfW p f ch ba b (-1) (-1)) b
    · rw [c] at ai
      simp (disch := first | assumption | exact zz_nl_i _ | exact zz_nl_r _ | exact zz_nl_n | exact okv_i _ | exact okv_j _ | exact okv_0 | exact okv_1 | exact okv_o _ _ | exact okv_a _ _ | exact bI_okr _ | omega | exact llt_0 | ((repeat apply llt_s) <;> exact llt_0) | fail) only [x203_p0, x203_p1, w0'', nI_ltI, hb, if_true, ai, bI_f, nI_add, Bool.false_and, Bool.false_eq_true, if_false, mo_k_v, mo_k_n, mo_v_e, mo_gf_e, mo_pf_e, mo_ia_e, mo_ba_e, mo_za_e, mo_la_e, mo_aa_e, mo_le_e, mo_is_e, mo_bs_e, mo_zs_0, mo_zs_1, mo_ls_e, mo_as_e, mo_na_e, mo_aci_e, mo_acb_e, mo_acj_e, hp_gs, hp_gn, hp_ss, List.getElem?_cons_zero, List.getElem?_cons_succ, List.set_cons_zero, List.set_cons_succ]
    · rw [c] at ai
      by_cases c2 : pc (linOf p (tg b) (pnv p)) = m
      · have c3 := (hgc b hb).mpr c2
        simp (disch := first | assumption | exact zz_nl_i _ | exact zz_nl_r _ | exact zz_nl_n | exact okv_i _ | exact okv_j _ | exact okv_0 | exact okv_1 | exact okv_o _ _ | exact okv_a _ _ | exact bI_okr _ | omega | exact llt_0 | ((repeat apply llt_s) <;> exact llt_0) | fail) only [x203_p0, x203_p1, w0'', hg2, nI_ltI, hb, if_true, ai, bI_t, nI_01, if_false, nI_add, eq_true c3, eq_true c2, decide_true, Bool.and_self, mo_k_v, mo_k_n, mo_v_e, mo_gf_e, mo_pf_e, mo_ia_e, mo_ba_e, mo_za_e, mo_la_e, mo_aa_e, mo_le_e, mo_is_e, mo_bs_e, mo_zs_0, mo_zs_1, mo_ls_e, mo_as_e, mo_na_e, mo_aci_e, mo_acb_e, mo_acj_e, hp_gs, hp_gn, hp_ss, List.getElem?_cons_zero, List.getElem?_cons_succ, List.set_cons_zero, List.set_cons_succ]
      · have c3 : ¬ g b = nI m := fun q => c2 ((hgc b hb).mp q)
        simp (disch := first | assumption | exact zz_nl_i _ | exact zz_nl_r _ | exact zz_nl_n | exact okv_i _ | exact okv_j _ | exact okv_0 | exact okv_1 | exact okv_o _ _ | exact okv_a _ _ | exact bI_okr _ | omega | exact llt_0 | ((repeat apply llt_s) <;> exact llt_0) | fail) only [x203_p0, x203_p1, w0'', hg2, nI_ltI, hb, if_true, ai, bI_t, nI_01, if_false, nI_add, c3, c2, decide_false, Bool.and_false, Bool.false_eq_true, mo_k_v, mo_k_n, mo_v_e, mo_gf_e, mo_pf_e, mo_ia_e, mo_ba_e, mo_za_e, mo_la_e, mo_aa_e, mo_le_e, mo_is_e, mo_bs_e, mo_zs_0, mo_zs_1, mo_ls_e, mo_as_e, mo_na_e, mo_aci_e, mo_acb_e, mo_acj_e, hp_gs, hp_gn, hp_ss, List.getElem?_cons_zero, List.getElem?_cons_succ, List.set_cons_zero, List.set_cons_succ]
  rw [en203 w0]
  simp (disch := first | assumption | exact zz_nl_i _ | exact zz_nl_r _ | exact zz_nl_n | exact okv_i _ | exact okv_j _ | exact okv_0 | exact okv_1 | exact okv_o _ _ | exact okv_a _ _ | exact bI_okr _ | omega | exact llt_0 | ((repeat apply llt_s) <;> exact llt_0) | fail) only [x203_p0, x203_p1, m_isIn, in_V, Nat.reduceAdd, e1, bI_t, nI_01, if_false, mo_k_v, mo_k_n, mo_v_e, mo_gf_e, mo_pf_e, mo_ia_e, mo_ba_e, mo_za_e, mo_la_e, mo_aa_e, mo_le_e, mo_is_e, mo_bs_e, mo_zs_0, mo_zs_1, mo_ls_e, mo_as_e, mo_na_e, mo_aci_e, mo_acb_e, mo_acj_e, hp_gs, hp_gn, hp_ss, List.getElem?_cons_zero, List.getElem?_cons_succ, List.set_cons_zero, List.set_cons_succ]
  rw [l1, x203_c14]
  simp (disch := first | assumption | exact zz_nl_i _ | exact zz_nl_r _ | exact zz_nl_n | exact okv_i _ | exact okv_j _ | exact okv_0 | exact okv_1 | exact okv_o _ _ | exact okv_a _ _ | exact bI_okr _ | omega | exact llt_0 | ((repeat apply llt_s) <;> exact llt_0) | fail) only [x203_p0, x203_p1, nI_ltI, Nat.lt_irrefl, if_false, mo_k_v, mo_k_n, mo_v_e, mo_gf_e, mo_pf_e, mo_ia_e, mo_ba_e, mo_za_e, mo_la_e, mo_aa_e, mo_le_e, mo_is_e, mo_bs_e, mo_zs_0, mo_zs_1, mo_ls_e, mo_as_e, mo_na_e, mo_aci_e, mo_acb_e, mo_acj_e, hp_gs, hp_gn, hp_ss, List.getElem?_cons_zero, List.getElem?_cons_succ, List.set_cons_zero, List.set_cons_succ]
  refine e.trans ?_
  rw [x203_c36]
  simp (disch := first | assumption | exact zz_nl_i _ | exact zz_nl_r _ | exact zz_nl_n | exact okv_i _ | exact okv_j _ | exact okv_0 | exact okv_1 | exact okv_o _ _ | exact okv_a _ _ | exact bI_okr _ | omega | exact llt_0 | ((repeat apply llt_s) <;> exact llt_0) | fail) only [x203_p0, x203_p1, w0', wA', r4, nI_ltI, Nat.lt_irrefl, if_false, e2, mo_k_v, mo_k_n, mo_v_e, mo_gf_e, mo_pf_e, mo_ia_e, mo_ba_e, mo_za_e, mo_la_e, mo_aa_e, mo_le_e, mo_is_e, mo_bs_e, mo_zs_0, mo_zs_1, mo_ls_e, mo_as_e, mo_na_e, mo_aci_e, mo_acb_e, mo_acj_e, hp_gs, hp_gn, hp_ss, List.getElem?_cons_zero, List.getElem?_cons_succ, List.set_cons_zero, List.set_cons_succ]
  refine (lp_fold (N := 256) (St := fun b n => zz_Y 203 (110, [some (.ref (M)), some (.int (nI (m))), some (.int (nI (n))), some (.int (nI (b)))], [], k2)) step2).trans ?_
  rw [lp_ct, Nat.zero_add]
  ((try dsimp only); rw [x203_c110]; simp (disch := first | assumption | exact zz_nl_i _ | exact zz_nl_r _ | exact zz_nl_n | exact okv_i _ | exact okv_j _ | exact okv_0 | exact okv_1 | exact okv_o _ _ | exact okv_a _ _ | exact bI_okr _ | omega | exact llt_0 | ((repeat apply llt_s) <;> exact llt_0) | fail) only [x203_p0, x203_p1, nI_ltI, Nat.lt_irrefl, if_false, mo_k_v, mo_k_n, mo_v_e, mo_gf_e, mo_pf_e, mo_ia_e, mo_ba_e, mo_za_e, mo_la_e, mo_aa_e, mo_le_e, mo_is_e, mo_bs_e, mo_zs_0, mo_zs_1, mo_ls_e, mo_as_e, mo_na_e, mo_aci_e, mo_acb_e, mo_acj_e, hp_gs, hp_gn, hp_ss, List.getElem?_cons_zero, List.getElem?_cons_succ, List.set_cons_zero, List.set_cons_succ])
end
