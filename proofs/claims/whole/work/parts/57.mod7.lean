/-! the reference: sums over all sets -/
theorem fb_sm_none {f : Nat → Nat} : ∀ {n : Nat}, (∀ k, k < n → f k = 0) → fb_sm f n = 0
  | 0, _ => rfl
  | n + 1, h => by rw [fb_sm_succ, fb_sm_none (fun k hk => h k (by omega)), h n (by omega)]
/-- double counting -/
theorem sm_ct (P : Nat → Nat → Bool) (m : Nat) : ∀ n, fb_sm (fun q => fb_ct (P q) n) m = fb_sm (fun v => fb_ct (fun q => P q v) m) n
  | 0 => by
    show fb_sm (fun q => fb_ct (P q) 0) m = 0
    rw [show (fun q => fb_ct (P q) 0) = fun _ => 0 from rfl, fb_sm_const, Nat.mul_zero]
  | n + 1 => by
    rw [fb_sm_succ, ← sm_ct P m n]
    have : ∀ k, fb_sm (fun q => fb_ct (P q) (n + 1)) k = fb_sm (fun q => fb_ct (P q) n) k + fb_ct (fun q => P q n) k := by
      intro k
      induction k with
      | zero => rfl
      | succ k ih =>
        rw [fb_sm_succ, ih, fb_sm_succ, fb_ct_succ, fb_ct_succ]
        omega
    exact this m
theorem pc_low {x : Int32} {n : Nat} (hn : n ≤ 32) (hx : ∀ v, n ≤ v → v < 32 → bt x v = false) : pc x = fb_ct (bt x) n := by
  unfold pc
  obtain ⟨d, hd⟩ : ∃ d, 32 = n + d := ⟨32 - n, by omega⟩
  rw [hd, fb_ct_split]
  have : fb_ct (fun k => bt x (n + k)) d = 0 := fb_ct_zero.mpr (fun k hk => hx (n + k) (by omega) (by omega))
  omega
section
variable {h : zz_H} {M : Nat} {A : Nat → Int32} {mt mk mp mu ms mn mo ml : Int32} {mv : Int64} {me mf mw : Int32} {p : Pl} {rk tg f ch ba : Nat → Int32}
def svA (f tg : Nat → Int32) (j v : Nat) : Nat := if j = 9 then fb_ct (fun q => bt (tg q) v) 256 else if j = 4 then cs8 (rw8 f v) else 0
def svB (W : Nat → Int32) (j b : Nat) : Nat := if ¬ W b = nI 0 ∧ (j = 5 ∨ 5 < j ∧ j < 9 ∧ knd (W b) = j - 6) then 1 else 0
def sv (f tg : Nat → Int32) (j v : Nat) : Nat := svA f tg j v + fb_sm (svB (rw8 f v) j) 8
theorem sv_le (f tg : Nat → Int32) (j v : Nat) : sv f tg j v ≤ 264 := by
  have h1 : svA f tg j v ≤ 256 := by
    unfold svA
    split
    · exact fb_ct_le _ _
    · split
      · have := fb_sm_bound (f := fun b => cst (rw8 f v b)) (c := 4) (n := 8) (fun k _ => cst_le _)
        unfold cs8
        omega
      · omega
  have h2 := fb_sm_bound (f := svB (rw8 f v) j) (c := 1) (n := 8) (fun k _ => by unfold svB; split <;> omega)
  unfold sv
  omega
theorem m_summed (w0 : hp_g h M = some (mdO M mt mk mp mu ms mn mo ml mv me mf mw)) (wA : hp_g h (M + 1) = some (iA 12639 A)) (hr : RS A 0 p rk tg ch ba) (hc : CI p rk tg f ch ba) (hs : scr3 h M) {j : Nat} (h4 : 4 ≤ j) (h9 : j ≤ 9) : ∃ k, zz_run 155 [.ref M, .int (nI j)] h = some (some (.int (nI (fb_sm (sv f tg j) (pnv p)))), k) ∧ scr3 k M ∧ frm h k (M + 4) (M + 7) := by
  obtain ⟨r1, r2, r3, r4⟩ := hr.1
  rw [Nat.zero_add] at r4
  have n10 := nI_01
  have step : ∀ v (s : zz_H × Option Value), v < pnv p → (scr3 s.1 M ∧ frm h s.1 (M + 4) (M + 7) ∧ zz_nl s.2 = true) → ∃ s' : zz_H × Option Value, (scr3 s'.1 M ∧ frm h s'.1 (M + 4) (M + 7) ∧ zz_nl s'.2 = true) ∧ zz_Y 155 (4, [some (.ref (M)), some (.int (nI (j))), some (.int (nI (fb_sm (sv f tg j) v))), some (.int (nI (v))), s.2], [], s.1) = zz_Y 155 (4, [some (.ref (M)), some (.int (nI (j))), some (.int (nI (fb_sm (sv f tg j) (v + 1)))), some (.int (nI (v + 1))), s'.2], [], s'.1) := by
    rintro v ⟨k, o⟩ hv ⟨hs, hf, ho⟩
    dsimp only at hs hf ho ⊢
    have w0' := (hf.2.2.2 M (by omega)).trans w0
    have wA' := (hf.2.2.2 (M + 1) (by omega)).trans wA
    obtain ⟨V5, a5⟩ := hs.2.1
    obtain ⟨k2, e2, s5, hf2⟩ := m_laysSet w0' wA' hr hc a5 (by omega) (by omega) hv
    have w0'' := (hf2.2.2.2 M (by omega)).trans w0'
    have wA'' := (hf2.2.2.2 (M + 1) (by omega)).trans wA'
    have s5' := s5
    obtain ⟨g5, hg5, e5⟩ := s5
    refine ⟨(k2, some (.int (nI 8))), ⟨⟨?_, ⟨_, s5'⟩, ?_⟩, frm_trans hf (frm_mono hf2 (by omega) (by omega)), zz_nl_i _⟩, ?_⟩
    · obtain ⟨V4, a4⟩ := hs.1
      exact ⟨V4, ar8_sam a4 (hf2.2.2.2 _ (by omega))⟩
    · obtain ⟨V6, a6⟩ := hs.2.2
      exact ⟨V6, ar8_sam a6 (hf2.2.2.2 _ (by omega))⟩
    · have st2 : ∀ b n, b < 8 → zz_Y 155 (59, [some (.ref (M)), some (.int (nI (j))), some (.int (nI (n))), some (.int (nI (v))), some (.int (nI (b)))], [], k2) = zz_Y 155 (59, [some (.ref (M)), some (.int (nI (j))), some (.int (nI (n + svB (rw8 f v) j b))), some (.int (nI (v))), some (.int (nI (b + 1)))], [], k2) := by
        intro b n hb
        have hk := knd_le (g5 b)
        rw [x155_c59]
        unfold svB
        rw [← e5 b hb]
        by_cases c0 : g5 b = nI 0
        · rw [if_neg (fun q => q.1 c0)]
          simp (disch := first | assumption | exact zz_nl_i _ | exact zz_nl_r _ | exact zz_nl_n | exact okv_i _ | exact okv_j _ | exact okv_0 | exact okv_1 | exact okv_o _ _ | exact okv_a _ _ | exact bI_okr _ | omega | exact llt_0 | ((repeat apply llt_s) <;> exact llt_0) | fail) only [x155_p0, x155_p1, w0'', hg5, nI_ltI, hb, if_true, c0, nI_add, Nat.add_zero, mo_k_v, mo_k_n, mo_v_e, mo_gf_e, mo_pf_e, mo_ia_e, mo_ba_e, mo_za_e, mo_la_e, mo_aa_e, mo_le_e, mo_is_e, mo_bs_e, mo_zs_0, mo_zs_1, mo_ls_e, mo_as_e, mo_na_e, mo_aci_e, mo_acb_e, mo_acj_e, hp_gs, hp_gn, hp_ss, List.getElem?_cons_zero, List.getElem?_cons_succ, List.set_cons_zero, List.set_cons_succ]
        · by_cases c5 : j = 5
          · rw [if_pos ⟨c0, Or.inl c5⟩]
            simp (disch := first | assumption | exact zz_nl_i _ | exact zz_nl_r _ | exact zz_nl_n | exact okv_i _ | exact okv_j _ | exact okv_0 | exact okv_1 | exact okv_o _ _ | exact okv_a _ _ | exact bI_okr _ | omega | exact llt_0 | ((repeat apply llt_s) <;> exact llt_0) | fail) only [x155_p0, x155_p1, w0'', hg5, nI_ltI, hb, if_true, c0, if_false, nI_eq, c5, nI_add, mo_k_v, mo_k_n, mo_v_e, mo_gf_e, mo_pf_e, mo_ia_e, mo_ba_e, mo_za_e, mo_la_e, mo_aa_e, mo_le_e, mo_is_e, mo_bs_e, mo_zs_0, mo_zs_1, mo_ls_e, mo_as_e, mo_na_e, mo_aci_e, mo_acb_e, mo_acj_e, hp_gs, hp_gn, hp_ss, List.getElem?_cons_zero, List.getElem?_cons_succ, List.set_cons_zero, List.set_cons_succ]
          · by_cases c6 : 5 < j
            · by_cases c9 : j < 9
              · have es : nI j - nI 6 = nI (j - 6) := pk_sub (by omega)
                by_cases ck : knd (g5 b) = j - 6
                · rw [if_pos ⟨c0, Or.inr ⟨c6, c9, ck⟩⟩]
                  simp (disch := first | assumption | exact zz_nl_i _ | exact zz_nl_r _ | exact zz_nl_n | exact okv_i _ | exact okv_j _ | exact okv_0 | exact okv_1 | exact okv_o _ _ | exact okv_a _ _ | exact bI_okr _ | omega | exact llt_0 | ((repeat apply llt_s) <;> exact llt_0) | fail) only [x155_p0, x155_p1, w0'', hg5, nI_ltI, hb, if_true, c0, if_false, nI_eq, c5, c6, c9, m_kindOf, es, ck, nI_add, mo_k_v, mo_k_n, mo_v_e, mo_gf_e, mo_pf_e, mo_ia_e, mo_ba_e, mo_za_e, mo_la_e, mo_aa_e, mo_le_e, mo_is_e, mo_bs_e, mo_zs_0, mo_zs_1, mo_ls_e, mo_as_e, mo_na_e, mo_aci_e, mo_acb_e, mo_acj_e, hp_gs, hp_gn, hp_ss, List.getElem?_cons_zero, List.getElem?_cons_succ, List.set_cons_zero, List.set_cons_succ]
                · rw [if_neg (fun q => q.2.elim c5 (fun z => ck z.2.2))]
                  simp (disch := first | assumption | exact zz_nl_i _ | exact zz_nl_r _ | exact zz_nl_n | exact okv_i _ | exact okv_j _ | exact okv_0 | exact okv_1 | exact okv_o _ _ | exact okv_a _ _ | exact bI_okr _ | omega | exact llt_0 | ((repeat apply llt_s) <;> exact llt_0) | fail) only [x155_p0, x155_p1, w0'', hg5, nI_ltI, hb, if_true, c0, if_false, nI_eq, c5, c6, c9, m_kindOf, es, ck, nI_add, Nat.add_zero, mo_k_v, mo_k_n, mo_v_e, mo_gf_e, mo_pf_e, mo_ia_e, mo_ba_e, mo_za_e, mo_la_e, mo_aa_e, mo_le_e, mo_is_e, mo_bs_e, mo_zs_0, mo_zs_1, mo_ls_e, mo_as_e, mo_na_e, mo_aci_e, mo_acb_e, mo_acj_e, hp_gs, hp_gn, hp_ss, List.getElem?_cons_zero, List.getElem?_cons_succ, List.set_cons_zero, List.set_cons_succ]
              · rw [if_neg (fun q => q.2.elim c5 (fun z => c9 z.2.1))]
                simp (disch := first | assumption | exact zz_nl_i _ | exact zz_nl_r _ | exact zz_nl_n | exact okv_i _ | exact okv_j _ | exact okv_0 | exact okv_1 | exact okv_o _ _ | exact okv_a _ _ | exact bI_okr _ | omega | exact llt_0 | ((repeat apply llt_s) <;> exact llt_0) | fail) only [x155_p0, x155_p1, w0'', hg5, nI_ltI, hb, if_true, c0, if_false, nI_eq, c5, c6, c9, nI_add, Nat.add_zero, mo_k_v, mo_k_n, mo_v_e, mo_gf_e, mo_pf_e, mo_ia_e, mo_ba_e, mo_za_e, mo_la_e, mo_aa_e, mo_le_e, mo_is_e, mo_bs_e, mo_zs_0, mo_zs_1, mo_ls_e, mo_as_e, mo_na_e, mo_aci_e, mo_acb_e, mo_acj_e, hp_gs, hp_gn, hp_ss, List.getElem?_cons_zero, List.getElem?_cons_succ, List.set_cons_zero, List.set_cons_succ]
            · rw [if_neg (fun q => q.2.elim c5 (fun z => c6 z.1))]
              simp (disch := first | assumption | exact zz_nl_i _ | exact zz_nl_r _ | exact zz_nl_n | exact okv_i _ | exact okv_j _ | exact okv_0 | exact okv_1 | exact okv_o _ _ | exact okv_a _ _ | exact bI_okr _ | omega | exact llt_0 | ((repeat apply llt_s) <;> exact llt_0) | fail) only [x155_p0, x155_p1, w0'', hg5, nI_ltI, hb, if_true, c0, if_false, nI_eq, c5, c6, nI_add, Nat.add_zero, mo_k_v, mo_k_n, mo_v_e, mo_gf_e, mo_pf_e, mo_ia_e, mo_ba_e, mo_za_e, mo_la_e, mo_aa_e, mo_le_e, mo_is_e, mo_bs_e, mo_zs_0, mo_zs_1, mo_ls_e, mo_as_e, mo_na_e, mo_aci_e, mo_acb_e, mo_acj_e, hp_gs, hp_gn, hp_ss, List.getElem?_cons_zero, List.getElem?_cons_succ, List.set_cons_zero, List.set_cons_succ]
      have fin : zz_Y 155 (59, [some (.ref (M)), some (.int (nI (j))), some (.int (nI (fb_sm (sv f tg j) v + svA f tg j v))), some (.int (nI (v))), some (.int (nI (0)))], [], k2) = zz_Y 155 (4, [some (.ref (M)), some (.int (nI (j))), some (.int (nI (fb_sm (sv f tg j) (v + 1)))), some (.int (nI (v + 1))), some (.int (nI (8)))], [], k2) := by
        refine (lp_fold (N := 8) (St := fun b n => zz_Y 155 (59, [some (.ref (M)), some (.int (nI (j))), some (.int (nI (n))), some (.int (nI (v))), some (.int (nI (b)))], [], k2)) st2).trans ?_
        rw [lp_sum]
        ((try dsimp only); rw [x155_c59]; simp (disch := first | assumption | exact zz_nl_i _ | exact zz_nl_r _ | exact zz_nl_n | exact okv_i _ | exact okv_j _ | exact okv_0 | exact okv_1 | exact okv_o _ _ | exact okv_a _ _ | exact bI_okr _ | omega | exact llt_0 | ((repeat apply llt_s) <;> exact llt_0) | fail) only [x155_p0, x155_p1, nI_ltI, Nat.lt_irrefl, if_false, nI_add, mo_k_v, mo_k_n, mo_v_e, mo_gf_e, mo_pf_e, mo_ia_e, mo_ba_e, mo_za_e, mo_la_e, mo_aa_e, mo_le_e, mo_is_e, mo_bs_e, mo_zs_0, mo_zs_1, mo_ls_e, mo_as_e, mo_na_e, mo_aci_e, mo_acb_e, mo_acj_e, hp_gs, hp_gn, hp_ss, List.getElem?_cons_zero, List.getElem?_cons_succ, List.set_cons_zero, List.set_cons_succ])
        rw [fb_sm_succ (sv f tg j) v, show fb_sm (sv f tg j) v + svA f tg j v + fb_sm (svB (rw8 f v) j) 8 = fb_sm (sv f tg j) v + sv f tg j v by unfold sv; omega]
      rw [← fin, x155_c4]
      unfold svA
      by_cases c9 : j = 9
      · rw [if_pos c9]
        simp (disch := first | assumption | exact zz_nl_i _ | exact zz_nl_r _ | exact zz_nl_n | exact okv_i _ | exact okv_j _ | exact okv_0 | exact okv_1 | exact okv_o _ _ | exact okv_a _ _ | exact bI_okr _ | omega | exact llt_0 | ((repeat apply llt_s) <;> exact llt_0) | fail) only [x155_p0, x155_p1, w0', wA', r4, nI_ltI, hv, if_true, e2, nI_eq, c9, m_tagsOf w0'' wA'' hr hc hv, nI_add, mo_k_v, mo_k_n, mo_v_e, mo_gf_e, mo_pf_e, mo_ia_e, mo_ba_e, mo_za_e, mo_la_e, mo_aa_e, mo_le_e, mo_is_e, mo_bs_e, mo_zs_0, mo_zs_1, mo_ls_e, mo_as_e, mo_na_e, mo_aci_e, mo_acb_e, mo_acj_e, hp_gs, hp_gn, hp_ss, List.getElem?_cons_zero, List.getElem?_cons_succ, List.set_cons_zero, List.set_cons_succ]
      · rw [if_neg c9]
        by_cases c4 : j = 4
        · rw [if_pos c4]
          have c4t := eq_true c4
          simp (disch := first | assumption | exact zz_nl_i _ | exact zz_nl_r _ | exact zz_nl_n | exact okv_i _ | exact okv_j _ | exact okv_0 | exact okv_1 | exact okv_o _ _ | exact okv_a _ _ | exact bI_okr _ | omega | exact llt_0 | ((repeat apply llt_s) <;> exact llt_0) | fail) only [x155_p0, x155_p1, w0', wA', r4, nI_ltI, hv, if_true, e2, nI_eq, c9, if_false, c4t, w0'', a_size s5', nI_add, mo_k_v, mo_k_n, mo_v_e, mo_gf_e, mo_pf_e, mo_ia_e, mo_ba_e, mo_za_e, mo_la_e, mo_aa_e, mo_le_e, mo_is_e, mo_bs_e, mo_zs_0, mo_zs_1, mo_ls_e, mo_as_e, mo_na_e, mo_aci_e, mo_acb_e, mo_acj_e, hp_gs, hp_gn, hp_ss, List.getElem?_cons_zero, List.getElem?_cons_succ, List.set_cons_zero, List.set_cons_succ]
        · rw [if_neg c4]
          simp (disch := first | assumption | exact zz_nl_i _ | exact zz_nl_r _ | exact zz_nl_n | exact okv_i _ | exact okv_j _ | exact okv_0 | exact okv_1 | exact okv_o _ _ | exact okv_a _ _ | exact bI_okr _ | omega | exact llt_0 | ((repeat apply llt_s) <;> exact llt_0) | fail) only [x155_p0, x155_p1, w0', wA', r4, nI_ltI, hv, if_true, e2, nI_eq, c9, if_false, c4, nI_add, mo_k_v, mo_k_n, mo_v_e, mo_gf_e, mo_pf_e, mo_ia_e, mo_ba_e, mo_za_e, mo_la_e, mo_aa_e, mo_le_e, mo_is_e, mo_bs_e, mo_zs_0, mo_zs_1, mo_ls_e, mo_as_e, mo_na_e, mo_aci_e, mo_acb_e, mo_acj_e, hp_gs, hp_gn, hp_ss, List.getElem?_cons_zero, List.getElem?_cons_succ, List.set_cons_zero, List.set_cons_succ]
  obtain ⟨⟨k, o⟩, ⟨s, hf, ho⟩, e⟩ := lp_ex (N := pnv p) (St := fun v (s : zz_H × Option Value) => zz_Y 155 (4, [some (.ref (M)), some (.int (nI (j))), some (.int (nI (fb_sm (sv f tg j) v))), some (.int (nI (v))), s.2], [], s.1)) step (s := (h, none)) ⟨hs, frm_refl _ _ _, zz_nl_n⟩
  dsimp only at s hf ho e
  have w0' := (hf.2.2.2 M (by omega)).trans w0
  have wA' := (hf.2.2.2 (M + 1) (by omega)).trans wA
  refine ⟨k, ?_, s, hf⟩
  rw [en155 w0]
  simp (disch := first | assumption | exact zz_nl_i _ | exact zz_nl_r _ | exact zz_nl_n | exact okv_i _ | exact okv_j _ | exact okv_0 | exact okv_1 | exact okv_o _ _ | exact okv_a _ _ | exact bI_okr _ | omega | exact llt_0 | ((repeat apply llt_s) <;> exact llt_0) | fail) only [x155_p0, x155_p1, mo_k_v, mo_k_n, mo_v_e, mo_gf_e, mo_pf_e, mo_ia_e, mo_ba_e, mo_za_e, mo_la_e, mo_aa_e, mo_le_e, mo_is_e, mo_bs_e, mo_zs_0, mo_zs_1, mo_ls_e, mo_as_e, mo_na_e, mo_aci_e, mo_acb_e, mo_acj_e, hp_gs, hp_gn, hp_ss, List.getElem?_cons_zero, List.getElem?_cons_succ, List.set_cons_zero, List.set_cons_succ]
  refine e.trans ?_
  rw [x155_c4]
  simp (disch := first | assumption | exact zz_nl_i _ | exact zz_nl_r _ | exact zz_nl_n | exact okv_i _ | exact okv_j _ | exact okv_0 | exact okv_1 | exact okv_o _ _ | exact okv_a _ _ | exact bI_okr _ | omega | exact llt_0 | ((repeat apply llt_s) <;> exact llt_0) | fail) only [x155_p0, x155_p1, w0', wA', r4, nI_ltI, Nat.lt_irrefl, if_false, mo_k_v, mo_k_n, mo_v_e, mo_gf_e, mo_pf_e, mo_ia_e, mo_ba_e, mo_za_e, mo_la_e, mo_aa_e, mo_le_e, mo_is_e, mo_bs_e, mo_zs_0, mo_zs_1, mo_ls_e, mo_as_e, mo_na_e, mo_aci_e, mo_acb_e, mo_acj_e, hp_gs, hp_gn, hp_ss, List.getElem?_cons_zero, List.getElem?_cons_succ, List.set_cons_zero, List.set_cons_succ]
theorem sv_4 (f tg : Nat → Int32) (n : Nat) : fb_sm (sv f tg 4) n = fb_sm (fun v => cs8 (rw8 f v)) n := fb_sm_cong (fun v _ => by
  unfold sv svA
  rw [if_neg (by omega), if_pos rfl, show fb_sm (svB (rw8 f v) 4) 8 = 0 from fb_sm_none (fun b _ => by unfold svB; rw [if_neg (fun q => by omega)]), Nat.add_zero])
theorem sv_5 (f tg : Nat → Int32) (n : Nat) : fb_sm (sv f tg 5) n = fb_sm (fun v => bx8 (-1) (rw8 f v)) n := fb_sm_cong (fun v _ => by
  unfold sv svA bx8
  rw [if_neg (by omega), if_neg (by omega), Nat.zero_add]
  refine fb_sm_cong (fun b _ => ?_)
  unfold svB
  by_cases c : rw8 f v b = nI 0
  · rw [if_neg (fun q => q.1 c), if_neg (fun q => q.1 c)]
  · rw [if_pos ⟨c, Or.inl rfl⟩, if_pos ⟨c, Or.inl rfl⟩])
theorem sv_k (f tg : Nat → Int32) (n : Nat) {j : Nat} (hj : j < 3) : fb_sm (sv f tg (j + 6)) n = fb_sm (fun v => bx8 (nI j) (rw8 f v)) n := fb_sm_cong (fun v _ => by
  unfold sv svA bx8
  rw [if_neg (by omega), if_neg (by omega), Nat.zero_add]
  refine fb_sm_cong (fun b _ => ?_)
  unfold svB
  have hk := knd_le (rw8 f v b)
  by_cases c : rw8 f v b = nI 0
  · rw [if_neg (fun q => q.1 c), if_neg (fun q => q.1 c)]
  · by_cases d : knd (rw8 f v b) = j
    · rw [if_pos ⟨c, Or.inr ⟨by omega, by omega, by omega⟩⟩, if_pos ⟨c, Or.inr (by rw [d])⟩]
    · rw [if_neg (fun q => by omega), if_neg (fun q => q.2.elim (fun z => nI_m1 (by omega) z) (fun z => d ((nI_eq (by omega) (by omega)).mp z).symm))])
theorem sv_9 (hc : CI p rk tg f ch ba) (hn : pnv p ≤ 20) : fb_sm (sv f tg 9) (pnv p) = fb_sm (fun q => pc (tg q)) 256 := by
  rw [fb_sm_cong (f := fun q => pc (tg q)) (g := fun q => fb_ct (bt (tg q)) (pnv p)) (fun q hq => pc_low (by omega) (hc.2.2.2.1 q hq).1), sm_ct]
  refine fb_sm_cong (fun v _ => ?_)
  unfold sv svA
  rw [if_pos rfl, show fb_sm (svB (rw8 f v) 9) 8 = 0 from fb_sm_none (fun b _ => by unfold svB; rw [if_neg (fun q => by omega)]), Nat.add_zero]
end
