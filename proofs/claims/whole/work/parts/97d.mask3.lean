/-! the reference: behind a fact; ask -/
theorem lvM_mono {h : zz_H} {M dep dep' : Nat} {L : Nat → Le} (hl : lvM h M dep L) (hd : dep' ≤ dep) : lvM h M dep' L := by
  obtain ⟨o, pa, go, ho, hq, h1, h2, h3, h4, h5, h6⟩ := hl
  exact ⟨o, pa, go, ho, hq, h1, h2, h3, h4, h5, fun d hdd => h6 d (by omega)⟩
theorem come_p (e : Le) (x : Nat → Int32) : (comeL e x).1.2.2.1 = true := by
  unfold comeL
  split <;> rfl
section
variable {M : Nat} {A : Nat → Int32} {mt mu : Int32} {p : Pl} {f : Nat → Int32} {T : Nat → Int32} {t : Nat → Nat} {tl : Nat}
/-- what goesOn tells -/
def gQ (h : zz_H) (M : Nat) (mt mu : Int32) (t : Nat → Nat) (tl : Nat) (T A : Nat → Int32) (p : Pl) (f : Nat → Int32) (y : Option (Option Value × zz_H)) (n : Nat) (o : Ans) : Prop := ∃ b k, y = some (some (.int b), k) ∧ frX h k M ∧
  ((b = nI 1 ∧ ∃ n' s' dep' fc' wk' L', n' < n ∧ tl - s' < n' ∧ mQ k M mt mu t tl T A s' dep' true fc' wk' L' ∧ o = askP t tl p f n' s' dep' true fc' wk' L') ∨ (b = nI 0 ∧ ∃ a c, o = .inl (a, c) ∧ mF k M mt mu t tl a c) ∨ (b = nI 0 ∧ ∃ W w, o = .inr (W, w) ∧ (∃ s' me mf, hp_g k M = some (mdT M mt (nI 0) (-1) mu t tl s' me mf (nI w))) ∧ ar8 k (M + 7) W ∧ scL k M))
theorem m_goesOn (hT : tpR T t) (htl : tl ≤ 600) : ∀ n (h : zz_H) (s dep fc wk : Nat) (L : Nat → Le), mQ h M mt mu t tl T A s dep false fc wk L → tl - s < n → gQ h M mt mu t tl T A p f (zz_Y 251 (0, [some (.ref M)], [], h)) n (askP t tl p f n s dep false fc wk L) := by
  intro n
  induction n with
  | zero => intro h s dep fc wk L hq hn; omega
  | succ n ih =>
    intro h s dep fc wk L hq hn
    obtain ⟨w0, wA, wT, hl, ⟨V4, a4⟩, ⟨V7, a7⟩, hs, hd, h30, hpb⟩ := hq
    have hp := hpb rfl
    have hmt := mt_le t tl s
    have n1f : ((1 : Nat) = 0) = False := eq_false (by omega)
    have ig := m_isGood w0
    rw [decide_eq_true rfl] at ig
    have i14 := t_isWord w0 (kw_14 t tl s)
    have i15 := t_isWord w0 (kw_15 t tl s)
    have i13 := t_isWord w0 (kw_13 t tl s)
    have a1 := adv_le (t := t) hs
    have t256 : s < tl → t s < 256 := fun hs' => (hT s (by omega)).2
    have iS := t_isSign w0 (k := 6) (b := 93) (by omega) (kw_s t256 (Or.inr (Or.inr ⟨rfl, rfl⟩)))
    obtain ⟨o, pa, go, ho, hqq, m10, m11, m12, m13, m14, hlv⟩ := hl
    have hl : lvM h M dep L := ⟨o, pa, go, ho, hqq, m10, m11, m12, m13, m14, hlv⟩
    have d7 : dep < 7 := by omega
    obtain ⟨b1, b2, b3, b4, b5, b6⟩ := hlv dep (Nat.le_refl _)
    have prog : ¬ kdP t tl s = 0 → tl - advP t tl s < n := fun c => by
      have hst : s < tl := by
        by_cases z : s = tl
        · exact absurd ((kd_stop hs).mpr z) c
        · omega
      have := a1.2.2 hst
      omega
    -- and, less
    have setj : ∀ j, (j = 0 ∨ j = 2) → mQ (hp_s (hp_s h (M + 12) (iA 7 (upd go dep (nI j)))) M (mdT M mt (nI 0) (-1) mu t tl (advP t tl s) (nI dep) (nI fc) (nI wk))) M mt mu t tl T A (advP t tl s) dep true fc wk (upL L dep (setJ (L dep) j)) := fun j hj => by
      refine ⟨hp_gs _ _ _, (hp_gn (by omega)).trans ((hp_gn (by omega)).trans wA), (hp_gn (by omega)).trans ((hp_gn (by omega)).trans wT), ⟨o, pa, upd go dep (nI j), ho, hqq, (hp_gn (by omega)).trans ((hp_gn (by omega)).trans m10), (hp_gn (by omega)).trans ((hp_gn (by omega)).trans m11), (hp_gn (by omega)).trans (hp_gs _ _ _), (hp_gn (by omega)).trans ((hp_gn (by omega)).trans m13), (hp_gn (by omega)).trans ((hp_gn (by omega)).trans m14), fun d hdd => ?_⟩, ⟨V4, ar8_ne (ar8_ne a4 (by omega)) (by omega)⟩, ⟨V7, ar8_ne (ar8_ne a7 (by omega)) (by omega)⟩, a1.2.1, hd, h30, fun z => by cases z⟩
      by_cases c : d = dep
      · subst c
        unfold lvR
        rw [upL_eq]
        exact ⟨b1, b2, upd_eq _ _ _, b4, b5, hj⟩
      · exact lvR_keep (hlv d hdd) (upL_ne c) (fun _ _ => rfl) (fun _ _ => rfl) (upd_ne c) rfl rfl
    have tkj : ∀ j, zz_run 223 [.ref M] (hp_s h (M + 12) (iA 7 (upd go dep (nI j)))) = some (none, hp_s (hp_s h (M + 12) (iA 7 (upd go dep (nI j)))) M (mdT M mt (nI 0) (-1) mu t tl (advP t tl s) (nI dep) (nI fc) (nI wk))) := fun j => t_takes ((hp_gn (by omega)).trans w0) ((hp_gn (by omega)).trans wT) hT htl hs
    rw [x251_c0]
    by_cases c14 : kdP t tl s = 14
    · have e : askP t tl p f (n + 1) s dep false fc wk L = askP t tl p f n (advP t tl s) dep true fc wk (upL L dep (setJ (L dep) 0)) := by
        show (if kdP t tl s = 0 then _ else _) = _
        rw [if_neg (by omega)]
        unfold stepP
        rw [if_neg (by decide), if_pos c14]
      rw [e]
      rw [decide_eq_true c14] at i14
      refine ⟨nI 1, _, ?_, frX_s (frX_s (frX_refl _ _) (by omega)) (Or.inl rfl), Or.inl ⟨rfl, n, _, _, _, _, _, by omega, prog (by omega), setj 0 (Or.inl rfl), rfl⟩⟩
      simp (disch := first | assumption | exact zz_nl_i _ | exact zz_nl_r _ | exact zz_nl_n | exact okv_i _ | exact okv_j _ | exact okv_0 | exact okv_1 | exact okv_o _ _ | exact okv_a _ _ | exact bI_okr _ | omega | exact llt_0 | ((repeat apply llt_s) <;> exact llt_0) | fail) only [x251_p0, x251_p1, xb251, ig, bI_t, nI_01, if_false, i14, w0, m12, tkj 0, mo_k_v, mo_k_n, mo_v_e, mo_gf_e, mo_pf_e, mo_ia_e, mo_ba_e, mo_za_e, mo_la_e, mo_aa_e, mo_le_e, mo_is_e, mo_bs_e, mo_zs_0, mo_zs_1, mo_ls_e, mo_as_e, mo_na_e, mo_aci_e, mo_acb_e, mo_acj_e, hp_gs, hp_gn, hp_ss, List.getElem?_cons_zero, List.getElem?_cons_succ, List.set_cons_zero, List.set_cons_succ]
    · rw [decide_eq_false c14] at i14
      by_cases c15 : kdP t tl s = 15
      · have e : askP t tl p f (n + 1) s dep false fc wk L = askP t tl p f n (advP t tl s) dep true fc wk (upL L dep (setJ (L dep) 2)) := by
          show (if kdP t tl s = 0 then _ else _) = _
          rw [if_neg (by omega)]
          unfold stepP
          rw [if_neg (by decide), if_neg c14, if_pos c15]
        rw [e]
        rw [decide_eq_true c15] at i15
        refine ⟨nI 1, _, ?_, frX_s (frX_s (frX_refl _ _) (by omega)) (Or.inl rfl), Or.inl ⟨rfl, n, _, _, _, _, _, by omega, prog (by omega), setj 2 (Or.inr rfl), rfl⟩⟩
        simp (disch := first | assumption | exact zz_nl_i _ | exact zz_nl_r _ | exact zz_nl_n | exact okv_i _ | exact okv_j _ | exact okv_0 | exact okv_1 | exact okv_o _ _ | exact okv_a _ _ | exact bI_okr _ | omega | exact llt_0 | ((repeat apply llt_s) <;> exact llt_0) | fail) only [x251_p0, x251_p1, xb251, ig, bI_t, nI_01, if_false, i14, bI_f, if_true, i15, w0, m12, tkj 2, mo_k_v, mo_k_n, mo_v_e, mo_gf_e, mo_pf_e, mo_ia_e, mo_ba_e, mo_za_e, mo_la_e, mo_aa_e, mo_le_e, mo_is_e, mo_bs_e, mo_zs_0, mo_zs_1, mo_ls_e, mo_as_e, mo_na_e, mo_aci_e, mo_acb_e, mo_acj_e, hp_gs, hp_gn, hp_ss, List.getElem?_cons_zero, List.getElem?_cons_succ, List.set_cons_zero, List.set_cons_succ]
      · rw [decide_eq_false c15] at i15
        by_cases c13 : kdP t tl s = 13
        · have e : askP t tl p f (n + 1) s dep false fc wk L = askP t tl p f n (advP t tl s) dep true fc (wk + (endL (L dep)).2) (upL L dep (orL (L dep))) := by
            show (if kdP t tl s = 0 then _ else _) = _
            rw [if_neg (by omega)]
            unfold stepP
            rw [if_neg (by decide), if_neg c14, if_neg c15, if_pos c13]
          rw [e]
          rw [decide_eq_true c13] at i13
          obtain ⟨k1, e1, u0, ul, u7, ⟨W4, u4⟩, uf⟩ := m_ends w0 hd hl hp a7 a4
          have uA := (uf.2.1 (M + 1) (by omega) (by omega)).trans wA
          have uT := (uf.2.1 (M + 2) (by omega) (by omega)).trans wT
          obtain ⟨o2, pa2, go2, ho2, hq2, l10, l11, l12, l13, l14, llv⟩ := ul
          obtain ⟨r1, r2, r3, r4, r5, r6⟩ := llv dep (Nat.le_refl _)
          have u7' := u7
          obtain ⟨g7, hg7, e7⟩ := u7
          have ll := m_laysLevel u0 hd (c := M + 10) (e := M + 7) l10 hg7 (by omega) (by omega)
          have tk := t_takes (h := hp_s (hp_s (hp_s k1 (M + 10) (iA 56 (lay8 o2 dep g7 8))) (M + 13) (zA 7 (upd ho2 dep (nI 1)))) (M + 14) (zA 7 (upd hq2 dep (nI 0)))) ((hp_gn (by omega)).trans ((hp_gn (by omega)).trans ((hp_gn (by omega)).trans u0))) ((hp_gn (by omega)).trans ((hp_gn (by omega)).trans ((hp_gn (by omega)).trans uT))) hT htl hs
          refine ⟨nI 1, hp_s (hp_s (hp_s (hp_s k1 (M + 10) (iA 56 (lay8 o2 dep g7 8))) (M + 13) (zA 7 (upd ho2 dep (nI 1)))) (M + 14) (zA 7 (upd hq2 dep (nI 0)))) M (mdT M mt (nI 0) (-1) mu t tl (advP t tl s) (nI dep) (nI fc) (nI (wk + (endL (L dep)).2))), ?_, frX_s (frX_s (frX_s (frX_s uf (by omega)) (by omega)) (by omega)) (Or.inl rfl), Or.inl ⟨rfl, n, _, _, _, _, _, by omega, prog (by omega), ⟨hp_gs _ _ _, ?_, ?_, ⟨lay8 o2 dep g7 8, pa2, go2, upd ho2 dep (nI 1), upd hq2 dep (nI 0), ?_, ?_, ?_, ?_, ?_, fun d hdd => ?_⟩, ⟨W4, ar8_ne (ar8_ne (ar8_ne (ar8_ne u4 (by omega)) (by omega)) (by omega)) (by omega)⟩, ⟨_, ar8_ne (ar8_ne (ar8_ne (ar8_ne u7' (by omega)) (by omega)) (by omega)) (by omega)⟩, a1.2.1, hd, h30, fun z => by cases z⟩, rfl⟩⟩
          · simp (disch := first | assumption | exact zz_nl_i _ | exact zz_nl_r _ | exact zz_nl_n | exact okv_i _ | exact okv_j _ | exact okv_0 | exact okv_1 | exact okv_o _ _ | exact okv_a _ _ | exact bI_okr _ | omega | exact llt_0 | ((repeat apply llt_s) <;> exact llt_0) | fail) only [x251_p0, x251_p1, xb251, ig, bI_t, nI_01, if_false, i14, bI_f, if_true, i15, i13, e1, u0, ll, l13, l14, tk, mo_k_v, mo_k_n, mo_v_e, mo_gf_e, mo_pf_e, mo_ia_e, mo_ba_e, mo_za_e, mo_la_e, mo_aa_e, mo_le_e, mo_is_e, mo_bs_e, mo_zs_0, mo_zs_1, mo_ls_e, mo_as_e, mo_na_e, mo_aci_e, mo_acb_e, mo_acj_e, hp_gs, hp_gn, hp_ss, List.getElem?_cons_zero, List.getElem?_cons_succ, List.set_cons_zero, List.set_cons_succ]
          · rw [hp_gn (by omega), hp_gn (by omega), hp_gn (by omega), hp_gn (by omega)]; exact uA
          · rw [hp_gn (by omega), hp_gn (by omega), hp_gn (by omega), hp_gn (by omega)]; exact uT
          · rw [hp_gn (by omega), hp_gn (by omega), hp_gn (by omega), hp_gs]
          · rw [hp_gn (by omega), hp_gn (by omega), hp_gn (by omega), hp_gn (by omega)]; exact l11
          · rw [hp_gn (by omega), hp_gn (by omega), hp_gn (by omega), hp_gn (by omega)]; exact l12
          · rw [hp_gn (by omega), hp_gn (by omega), hp_gs]
          · rw [hp_gn (by omega), hp_gs]
          · by_cases c : d = dep
            · subst c
              unfold lvR
              rw [upL_eq]
              exact ⟨upd_eq _ _ _, upd_eq _ _ _, r3, fun _ b hb => (lay_in hb).trans (e7 b hb), fun z => (by cases z), r6⟩
            · exact lvR_keep (llv d hdd) (upL_ne c) (fun b hb => lay_out (by omega)) (fun _ _ => rfl) rfl (upd_ne c) (upd_ne c)
        · rw [decide_eq_false c13] at i13
          by_cases c0 : dep = 0
          · have c0t := eq_true c0
            by_cases ck : kdP t tl s = 0
            · have e : askP t tl p f (n + 1) s dep false fc wk L = .inr ((endL (L dep)).1, wk + (endL (L dep)).2) := by
                show (if kdP t tl s = 0 then _ else _) = _
                rw [if_pos ck, if_neg (fun z => z.elim (fun y => by cases y) (fun y => by omega))]
              rw [e]
              have cm := (kw_0 t tl s).mp ck
              obtain ⟨k1, e1, u0, ul, u7, u4, uf⟩ := m_ends w0 hd hl hp a7 a4
              refine ⟨nI 0, k1, ?_, uf, Or.inr (Or.inr ⟨rfl, _, _, rfl, ⟨s, _, _, u0⟩, u7, u4, ⟨_, u7⟩, _, _, ul⟩)⟩
              simp (disch := first | assumption | exact zz_nl_i _ | exact zz_nl_r _ | exact zz_nl_n | exact okv_i _ | exact okv_j _ | exact okv_0 | exact okv_1 | exact okv_o _ _ | exact okv_a _ _ | exact bI_okr _ | omega | exact llt_0 | ((repeat apply llt_s) <;> exact llt_0) | fail) only [x251_p0, x251_p1, xb251, ig, bI_t, nI_eq, n1f, if_false, i14, bI_f, if_true, i15, i13, w0, c0t, eq_true cm, e1, mo_k_v, mo_k_n, mo_v_e, mo_gf_e, mo_pf_e, mo_ia_e, mo_ba_e, mo_za_e, mo_la_e, mo_aa_e, mo_le_e, mo_is_e, mo_bs_e, mo_zs_0, mo_zs_1, mo_ls_e, mo_as_e, mo_na_e, mo_aci_e, mo_acb_e, mo_acj_e, hp_gs, hp_gn, hp_ss, List.getElem?_cons_zero, List.getElem?_cons_succ, List.set_cons_zero, List.set_cons_succ]
            · have e : askP t tl p f (n + 1) s dep false fc wk L = .inl (1, s) := by
                show (if kdP t tl s = 0 then _ else _) = _
                rw [if_neg ck]
                unfold stepP
                rw [if_neg (by decide), if_neg c14, if_neg c15, if_neg c13]
                by_cases c6 : kdP t tl s = 6
                · rw [if_pos c6, if_pos c0]
                · rw [if_neg c6]
              rw [e]
              have cm : ¬ mtP t tl s = 0 := fun z => ck ((kw_0 t tl s).mpr z)
              have fl := m_fails0 w0 (nI 1) (nI s)
              obtain ⟨k1, e1, u0, ul, u7, u4, uf⟩ := m_ends (h := hp_s h M (mdT M mt (nI 1) (nI s) mu t tl s (nI dep) (nI fc) (nI wk))) (hp_gs _ _ _) hd (lvM_sam hl (fun b h1 h2 => hp_gn (by omega))) hp (ar8_ne a7 (by omega)) (ar8_ne a4 (by omega))
              refine ⟨nI 0, k1, ?_, frX_trans (frX_s (frX_refl _ _) (Or.inl rfl)) uf, Or.inr (Or.inl ⟨rfl, 1, s, rfl, by omega, by omega, ⟨u4, ⟨_, u7⟩, _, _, ul⟩, s, _, _, _, u0⟩)⟩
              simp (disch := first | assumption | exact zz_nl_i _ | exact zz_nl_r _ | exact zz_nl_n | exact okv_i _ | exact okv_j _ | exact okv_0 | exact okv_1 | exact okv_o _ _ | exact okv_a _ _ | exact bI_okr _ | omega | exact llt_0 | ((repeat apply llt_s) <;> exact llt_0) | fail) only [x251_p0, x251_p1, xb251, ig, bI_t, nI_eq, n1f, if_false, i14, bI_f, if_true, i15, i13, w0, c0t, cm, fl, e1, mo_k_v, mo_k_n, mo_v_e, mo_gf_e, mo_pf_e, mo_ia_e, mo_ba_e, mo_za_e, mo_la_e, mo_aa_e, mo_le_e, mo_is_e, mo_bs_e, mo_zs_0, mo_zs_1, mo_ls_e, mo_as_e, mo_na_e, mo_aci_e, mo_acb_e, mo_acj_e, hp_gs, hp_gn, hp_ss, List.getElem?_cons_zero, List.getElem?_cons_succ, List.set_cons_zero, List.set_cons_succ]
          · by_cases c6 : kdP t tl s = 6
            · have e : askP t tl p f (n + 1) s dep false fc wk L = askP t tl p f n (advP t tl s) (dep - 1) false fc (wk + (endL (L dep)).2 + (comeL (L (dep - 1)) (endL (L dep)).1).2) (upL L (dep - 1) (comeL (L (dep - 1)) (endL (L dep)).1).1) := by
                show (if kdP t tl s = 0 then _ else _) = _
                rw [if_neg (by omega)]
                unfold stepP
                rw [if_neg (by decide), if_neg c14, if_neg c15, if_neg c13, if_pos c6, if_neg c0]
              rw [e]
              rw [decide_eq_true c6] at iS
              obtain ⟨k1, e1, u0, ul, u7, ⟨W4, u4⟩, uf⟩ := m_ends w0 hd hl hp a7 a4
              have uA := (uf.2.1 (M + 1) (by omega) (by omega)).trans wA
              have uT := (uf.2.1 (M + 2) (by omega) (by omega)).trans wT
              have tk := t_takes u0 uT hT htl hs
              have s1 : nI dep - nI 1 = nI (dep - 1) := pk_sub (by omega)
              obtain ⟨k2, e2, v0, vl, v7, v4, vf⟩ := m_comes (h := hp_s k1 M (mdT M mt (nI 0) (-1) mu t tl (advP t tl s) (nI (dep - 1)) (nI fc) (nI (wk + (endL (L dep)).2)))) (L := L) (dep := dep - 1) (hp_gs _ _ _) (by omega) (lvM_sam (lvM_mono ul (by omega)) (fun b h1 h2 => hp_gn (by omega))) (ar8_ne u7 (by omega)) (ar8_ne u4 (by omega))
              have F : frX h k2 M := frX_trans uf (frX_trans (frX_s (frX_refl _ _) (Or.inl rfl)) vf)
              have hq2 : mQ k2 M mt mu t tl T A (advP t tl s) (dep - 1) false fc (wk + (endL (L dep)).2 + (comeL (L (dep - 1)) (endL (L dep)).1).2) (upL L (dep - 1) (comeL (L (dep - 1)) (endL (L dep)).1).1) := ⟨v0, (F.2.1 _ (by omega) (by omega)).trans wA, (F.2.1 _ (by omega) (by omega)).trans wT, vl, v4, ⟨_, v7⟩, a1.2.1, by omega, h30, fun _ => by rw [upL_eq]; exact come_p _ _⟩
              obtain ⟨b, k, eb, fb, hb⟩ := ih k2 (advP t tl s) (dep - 1) fc _ _ hq2 (prog (by omega))
              refine ⟨b, k, ?_, frX_trans F fb, ?_⟩
              · simp (disch := first | assumption | exact zz_nl_i _ | exact zz_nl_r _ | exact zz_nl_n | exact okv_i _ | exact okv_j _ | exact okv_0 | exact okv_1 | exact okv_o _ _ | exact okv_a _ _ | exact bI_okr _ | omega | exact llt_0 | ((repeat apply llt_s) <;> exact llt_0) | fail) only [x251_p0, x251_p1, xb251, ig, bI_t, nI_eq, n1f, if_false, i14, bI_f, if_true, i15, i13, w0, c0, iS, e1, tk, s1, e2, mo_k_v, mo_k_n, mo_v_e, mo_gf_e, mo_pf_e, mo_ia_e, mo_ba_e, mo_za_e, mo_la_e, mo_aa_e, mo_le_e, mo_is_e, mo_bs_e, mo_zs_0, mo_zs_1, mo_ls_e, mo_as_e, mo_na_e, mo_aci_e, mo_acb_e, mo_acj_e, hp_gs, hp_gn, hp_ss, List.getElem?_cons_zero, List.getElem?_cons_succ, List.set_cons_zero, List.set_cons_succ]
                exact eb
              · rcases hb with ⟨z1, n', s', dep', fc', wk', L', z2, z3⟩ | z | z
                · exact Or.inl ⟨z1, n', s', dep', fc', wk', L', by omega, z3⟩
                · exact Or.inr (Or.inl z)
                · exact Or.inr (Or.inr z)
            · have e : askP t tl p f (n + 1) s dep false fc wk L = .inl (1, s) := by
                show (if kdP t tl s = 0 then _ else _) = _
                by_cases ck : kdP t tl s = 0
                · rw [if_pos ck, if_pos (Or.inr (by omega))]
                · rw [if_neg ck]
                  unfold stepP
                  rw [if_neg (by decide), if_neg c14, if_neg c15, if_neg c13, if_neg c6]
              rw [e]
              rw [decide_eq_false c6] at iS
              have fl := m_fails0 w0 (nI 1) (nI s)
              refine ⟨nI 0, hp_s h M (mdT M mt (nI 1) (nI s) mu t tl s (nI dep) (nI fc) (nI wk)), ?_, frX_s (frX_refl _ _) (Or.inl rfl), Or.inr (Or.inl ⟨rfl, 1, s, rfl, by omega, by omega, scL_s ⟨⟨V4, a4⟩, ⟨V7, a7⟩, dep, L, hl⟩, s, nI dep, nI fc, nI wk, hp_gs _ _ _⟩)⟩
              simp (disch := first | assumption | exact zz_nl_i _ | exact zz_nl_r _ | exact zz_nl_n | exact okv_i _ | exact okv_j _ | exact okv_0 | exact okv_1 | exact okv_o _ _ | exact okv_a _ _ | exact bI_okr _ | omega | exact llt_0 | ((repeat apply llt_s) <;> exact llt_0) | fail) only [x251_p0, x251_p1, xb251, ig, bI_t, nI_eq, n1f, if_false, i14, bI_f, if_true, i15, i13, w0, c0, iS, fl, mo_k_v, mo_k_n, mo_v_e, mo_gf_e, mo_pf_e, mo_ia_e, mo_ba_e, mo_za_e, mo_la_e, mo_aa_e, mo_le_e, mo_is_e, mo_bs_e, mo_zs_0, mo_zs_1, mo_ls_e, mo_as_e, mo_na_e, mo_aci_e, mo_acb_e, mo_acj_e, hp_gs, hp_gn, hp_ss, List.getElem?_cons_zero, List.getElem?_cons_succ, List.set_cons_zero, List.set_cons_succ]
/-- how a question ends -/
def aQ (h : zz_H) (M : Nat) (mt mu : Int32) (t : Nat → Nat) (tl : Nat) (y : Option (Option Value × zz_H)) (o : Ans) : Prop := match o with
  | .inl (a, b) => ∃ k x, y = zz_Y 245 (51, [some (.ref M), some (.int x), none], [], k) ∧ mF k M mt mu t tl a b ∧ frX h k M
  | .inr (W, w) => ∃ k x, y = zz_Y 245 (51, [some (.ref M), some (.int x), none], [], k) ∧ (∃ s' me mf, hp_g k M = some (mdT M mt (nI 0) (-1) mu t tl s' me mf (nI w))) ∧ ar8 k (M + 7) W ∧ scL k M ∧ frX h k M
theorem m_askLoop (hT : tpR T t) (htl : tl ≤ 600) {rk tg ch ba : Nat → Int32} (hr : RS A 0 p rk tg ch ba) (hc : CI p rk tg f ch ba) (h0 : zz_H) : ∀ m n (h : zz_H) (s dep fc wk : Nat) (L : Nat → Le), n < m → mQ h M mt mu t tl T A s dep true fc wk L → tl - s < n → frX h0 h M → aQ h0 M mt mu t tl (zz_Y 245 (25, [some (.ref M), some (.int (nI 1)), none], [], h)) (askP t tl p f n s dep true fc wk L) := by
  intro m
  induction m with
  | zero => intro n h s dep fc wk L hm; omega
  | succ m ih =>
    intro n h s dep fc wk L hm hq hn hf
    have w0 := hq.1
    have hs := hq.2.2.2.2.2.2.1
    have ig := m_isGood w0
    rw [decide_eq_true rfl] at ig
    have q := m_fact hq hT htl hr hc
    -- a fault ends it
    have bad : ∀ (k : zz_H) (a b : Nat), mF k M mt mu t tl a b → zz_run 247 [.ref M] h = some (some (.int (nI 1)), k) → zz_Y 245 (25, [some (.ref M), some (.int (nI 1)), none], [], h) = zz_Y 245 (51, [some (.ref M), some (.int (nI 0)), none], [], k) := by
      intro k a b hF e
      obtain ⟨h1, h2, _, s', me, mf, mw, v0⟩ := hF
      have ig2 := m_isGood v0
      rw [decide_eq_false (nz h1 h2).1] at ig2
      have go : zz_run 251 [.ref M] k = some (some (.int (nI 0)), k) := by
        rw [en251 v0, x251_c0]
        simp (disch := first | assumption | exact zz_nl_i _ | exact zz_nl_r _ | exact zz_nl_n | exact okv_i _ | exact okv_j _ | exact okv_0 | exact okv_1 | exact okv_o _ _ | exact okv_a _ _ | exact bI_okr _ | omega | exact llt_0 | ((repeat apply llt_s) <;> exact llt_0) | fail) only [x251_p0, x251_p1, xb251, ig2, bI_f, if_true, mo_k_v, mo_k_n, mo_v_e, mo_gf_e, mo_pf_e, mo_ia_e, mo_ba_e, mo_za_e, mo_la_e, mo_aa_e, mo_le_e, mo_is_e, mo_bs_e, mo_zs_0, mo_zs_1, mo_ls_e, mo_as_e, mo_na_e, mo_aci_e, mo_acb_e, mo_acj_e, hp_gs, hp_gn, hp_ss, List.getElem?_cons_zero, List.getElem?_cons_succ, List.set_cons_zero, List.set_cons_succ]
      have st : zz_Y 245 (25, [some (.ref M), some (.int (nI 1)), none], [], h) = zz_Y 245 (25, [some (.ref M), some (.int (nI 0)), none], [], k) := by
        rw [x245_c25]
        simp (disch := first | assumption | exact zz_nl_i _ | exact zz_nl_r _ | exact zz_nl_n | exact okv_i _ | exact okv_j _ | exact okv_0 | exact okv_1 | exact okv_o _ _ | exact okv_a _ _ | exact bI_okr _ | omega | exact llt_0 | ((repeat apply llt_s) <;> exact llt_0) | fail) only [x245_p0, x245_p1, nI_01, if_false, ig, bI_t, e, go, mo_k_v, mo_k_n, mo_v_e, mo_gf_e, mo_pf_e, mo_ia_e, mo_ba_e, mo_za_e, mo_la_e, mo_aa_e, mo_le_e, mo_is_e, mo_bs_e, mo_zs_0, mo_zs_1, mo_ls_e, mo_as_e, mo_na_e, mo_aci_e, mo_acb_e, mo_acj_e, hp_gs, hp_gn, hp_ss, List.getElem?_cons_zero, List.getElem?_cons_succ, List.set_cons_zero, List.set_cons_succ]
      rw [st, x245_c25]
      simp (disch := first | assumption | exact zz_nl_i _ | exact zz_nl_r _ | exact zz_nl_n | exact okv_i _ | exact okv_j _ | exact okv_0 | exact okv_1 | exact okv_o _ _ | exact okv_a _ _ | exact bI_okr _ | omega | exact llt_0 | ((repeat apply llt_s) <;> exact llt_0) | fail) only [x245_p0, x245_p1, if_true, mo_k_v, mo_k_n, mo_v_e, mo_gf_e, mo_pf_e, mo_ia_e, mo_ba_e, mo_za_e, mo_la_e, mo_aa_e, mo_le_e, mo_is_e, mo_bs_e, mo_zs_0, mo_zs_1, mo_ls_e, mo_as_e, mo_na_e, mo_aci_e, mo_acb_e, mo_acj_e, hp_gs, hp_gn, hp_ss, List.getElem?_cons_zero, List.getElem?_cons_succ, List.set_cons_zero, List.set_cons_succ]
    have prog : ¬ kdP t tl s = 0 → ∀ n, tl - s < n + 1 → tl - advP t tl s < n := fun c n hn => by
      have hst : s < tl := by
        by_cases z : s = tl
        · exact absurd ((kd_stop hs).mpr z) c
        · omega
      have := (adv_le (t := t) hs).2.2 hst
      omega
    have st0 : kdP t tl s = 0 → stepP t tl p f s dep true fc wk L = .inl (1, s) := fun c => by
      unfold stepP
      rw [if_pos rfl, if_neg (by omega), if_neg (by omega), if_neg (by omega)]
    match n, hn, hm with
    | n + 1, hn, hm =>
      have ea : askP t tl p f (n + 1) s dep true fc wk L = if kdP t tl s = 0 then (if true = true ∨ 0 < dep then .inl (1, s) else .inr ((endL (L dep)).1, wk + (endL (L dep)).2)) else
          match stepP t tl p f s dep true fc wk L with
          | .inl e => .inl e
          | .inr (dep', fd', fc', wk', L') => askP t tl p f n (advP t tl s) dep' fd' fc' wk' L' := rfl
      rw [ea]
      cases e : stepP t tl p f s dep true fc wk L with
      | inl x =>
        obtain ⟨a, b⟩ := x
        rw [e] at q
        obtain ⟨k, e1, hF, fr⟩ := q
        have er : (if kdP t tl s = 0 then (if true = true ∨ 0 < dep then (.inl (1, s) : Ans) else .inr ((endL (L dep)).1, wk + (endL (L dep)).2)) else .inl (a, b)) = .inl (a, b) := by
          by_cases c : kdP t tl s = 0
          · have := st0 c
            rw [e] at this
            cases this
            rw [if_pos c, if_pos (Or.inl rfl)]
          · rw [if_neg c]
        dsimp only
        rw [er]
        exact ⟨k, nI 0, bad k a b hF e1, hF, frX_trans hf fr⟩
      | inr x =>
        obtain ⟨dep', fd', fc', wk', L'⟩ := x
        have ck : ¬ kdP t tl s = 0 := fun c => by
          rw [st0 c] at e
          cases e
        rw [e] at q
        obtain ⟨k, e1, hq2, fr⟩ := q
        dsimp only
        rw [if_neg ck]
        cases fd' with
        | true =>
          have r := ih n k (advP t tl s) dep' fc' wk' L' (by omega) hq2 (prog ck n hn) (frX_trans hf fr)
          have st : zz_Y 245 (25, [some (.ref M), some (.int (nI 1)), none], [], h) = zz_Y 245 (25, [some (.ref M), some (.int (nI 1)), none], [], k) := by
            have e1' : zz_run 247 [.ref M] h = some (some (.int (nI 0)), k) := e1
            rw [x245_c25]
            simp (disch := first | assumption | exact zz_nl_i _ | exact zz_nl_r _ | exact zz_nl_n | exact okv_i _ | exact okv_j _ | exact okv_0 | exact okv_1 | exact okv_o _ _ | exact okv_a _ _ | exact bI_okr _ | omega | exact llt_0 | ((repeat apply llt_s) <;> exact llt_0) | fail) only [x245_p0, x245_p1, nI_01, if_false, ig, bI_t, e1', if_true, mo_k_v, mo_k_n, mo_v_e, mo_gf_e, mo_pf_e, mo_ia_e, mo_ba_e, mo_za_e, mo_la_e, mo_aa_e, mo_le_e, mo_is_e, mo_bs_e, mo_zs_0, mo_zs_1, mo_ls_e, mo_as_e, mo_na_e, mo_aci_e, mo_acb_e, mo_acj_e, hp_gs, hp_gn, hp_ss, List.getElem?_cons_zero, List.getElem?_cons_succ, List.set_cons_zero, List.set_cons_succ]
          rw [st]
          exact r
        | false =>
          have e1' : zz_run 247 [.ref M] h = some (some (.int (nI 1)), k) := e1
          obtain ⟨b, k2, eb, fb, hb⟩ := m_goesOn (p := p) (f := f) hT htl n k (advP t tl s) dep' fc' wk' L' hq2 (prog ck n hn)
          have go : zz_run 251 [.ref M] k = some (some (.int b), k2) := by
            rw [en251 hq2.1]
            exact eb
          have hb01 : b = nI 0 ∨ b = nI 1 := by
            rcases hb with ⟨z, _⟩ | ⟨z, _⟩ | ⟨z, _⟩
            · exact Or.inr z
            · exact Or.inl z
            · exact Or.inl z
          have st : zz_Y 245 (25, [some (.ref M), some (.int (nI 1)), none], [], h) = zz_Y 245 (25, [some (.ref M), some (.int b), none], [], k2) := by
            rw [x245_c25]
            rcases hb01 with z | z
            · subst z
              simp (disch := first | assumption | exact zz_nl_i _ | exact zz_nl_r _ | exact zz_nl_n | exact okv_i _ | exact okv_j _ | exact okv_0 | exact okv_1 | exact okv_o _ _ | exact okv_a _ _ | exact bI_okr _ | omega | exact llt_0 | ((repeat apply llt_s) <;> exact llt_0) | fail) only [x245_p0, x245_p1, nI_01, if_false, ig, bI_t, e1', go, mo_k_v, mo_k_n, mo_v_e, mo_gf_e, mo_pf_e, mo_ia_e, mo_ba_e, mo_za_e, mo_la_e, mo_aa_e, mo_le_e, mo_is_e, mo_bs_e, mo_zs_0, mo_zs_1, mo_ls_e, mo_as_e, mo_na_e, mo_aci_e, mo_acb_e, mo_acj_e, hp_gs, hp_gn, hp_ss, List.getElem?_cons_zero, List.getElem?_cons_succ, List.set_cons_zero, List.set_cons_succ]
            · subst z
              simp (disch := first | assumption | exact zz_nl_i _ | exact zz_nl_r _ | exact zz_nl_n | exact okv_i _ | exact okv_j _ | exact okv_0 | exact okv_1 | exact okv_o _ _ | exact okv_a _ _ | exact bI_okr _ | omega | exact llt_0 | ((repeat apply llt_s) <;> exact llt_0) | fail) only [x245_p0, x245_p1, nI_01, if_false, ig, bI_t, e1', go, mo_k_v, mo_k_n, mo_v_e, mo_gf_e, mo_pf_e, mo_ia_e, mo_ba_e, mo_za_e, mo_la_e, mo_aa_e, mo_le_e, mo_is_e, mo_bs_e, mo_zs_0, mo_zs_1, mo_ls_e, mo_as_e, mo_na_e, mo_aci_e, mo_acb_e, mo_acj_e, hp_gs, hp_gn, hp_ss, List.getElem?_cons_zero, List.getElem?_cons_succ, List.set_cons_zero, List.set_cons_succ]
          rw [st]
          have F := frX_trans hf (frX_trans fr fb)
          rcases hb with ⟨z1, n', s', dp, fc2, wk2, L2, z2, z3, z4, z5⟩ | ⟨z1, a, c, z2, z3⟩ | ⟨z1, W, w, z2, z3, z4, z6⟩
          · subst z1
            rw [z5]
            exact ih n' k2 s' dp fc2 wk2 L2 (by omega) z4 z3 F
          · subst z1
            rw [z2]
            refine ⟨k2, nI 0, ?_, z3, F⟩
            rw [x245_c25]
            simp (disch := first | assumption | exact zz_nl_i _ | exact zz_nl_r _ | exact zz_nl_n | exact okv_i _ | exact okv_j _ | exact okv_0 | exact okv_1 | exact okv_o _ _ | exact okv_a _ _ | exact bI_okr _ | omega | exact llt_0 | ((repeat apply llt_s) <;> exact llt_0) | fail) only [x245_p0, x245_p1, if_true, mo_k_v, mo_k_n, mo_v_e, mo_gf_e, mo_pf_e, mo_ia_e, mo_ba_e, mo_za_e, mo_la_e, mo_aa_e, mo_le_e, mo_is_e, mo_bs_e, mo_zs_0, mo_zs_1, mo_ls_e, mo_as_e, mo_na_e, mo_aci_e, mo_acb_e, mo_acj_e, hp_gs, hp_gn, hp_ss, List.getElem?_cons_zero, List.getElem?_cons_succ, List.set_cons_zero, List.set_cons_succ]
          · subst z1
            rw [z2]
            refine ⟨k2, nI 0, ?_, z3, z4, z6, F⟩
            rw [x245_c25]
            simp (disch := first | assumption | exact zz_nl_i _ | exact zz_nl_r _ | exact zz_nl_n | exact okv_i _ | exact okv_j _ | exact okv_0 | exact okv_1 | exact okv_o _ _ | exact okv_a _ _ | exact bI_okr _ | omega | exact llt_0 | ((repeat apply llt_s) <;> exact llt_0) | fail) only [x245_p0, x245_p1, if_true, mo_k_v, mo_k_n, mo_v_e, mo_gf_e, mo_pf_e, mo_ia_e, mo_ba_e, mo_za_e, mo_la_e, mo_aa_e, mo_le_e, mo_is_e, mo_bs_e, mo_zs_0, mo_zs_1, mo_ls_e, mo_as_e, mo_na_e, mo_aci_e, mo_acb_e, mo_acj_e, hp_gs, hp_gn, hp_ss, List.getElem?_cons_zero, List.getElem?_cons_succ, List.set_cons_zero, List.set_cons_succ]
theorem m_ask {h : zz_H} {mk mp ms mn mo ml me mf mw : Int32} {mv : Int64} (w0 : hp_g h M = some (mdO M (nI tl) mk mp mu ms mn mo ml mv me mf mw)) (wA : hp_g h (M + 1) = some (iA 12639 A)) (wT : hp_g h (M + 2) = some (iA 600 T)) (hT : tpR T t) (htl : tl ≤ 600) {rk tg ch ba : Nat → Int32} (hr : RS A 0 p rk tg ch ba) (hc : CI p rk tg f ch ba) (h4 : ∃ V, ar8 h (M + 4) V) (h7 : ∃ V, ar8 h (M + 7) V) (hl : ∃ o pa go ho hq, hp_g h (M + 10) = some (iA 56 o) ∧ hp_g h (M + 11) = some (iA 56 pa) ∧ hp_g h (M + 12) = some (iA 7 go) ∧ hp_g h (M + 13) = some (zA 7 ho) ∧ hp_g h (M + 14) = some (zA 7 hq)) : match askP t tl p f 601 (tkS t tl 0) 0 true 0 0 (fun _ => newL) with
    | .inl (a, b) => ∃ k, zz_run 245 [.ref M] h = some (some (.int (-1)), k) ∧ mF k M (nI 0) mu t tl a b ∧ frX h k M
    | .inr (W, w) => ∃ k B, zz_run 245 [.ref M] h = some (some (.int (nI (amt W))), k) ∧ (∃ s' me mf, hp_g k M = some (mdT M (nI 0) (nI 0) (-1) mu t tl s' me mf (nI w))) ∧ hp_g k (M + 1) = some (iA 12639 B) ∧ B 718 = nI 1 ∧ B 719 = nI w ∧ (∀ b, b < 8 → B (720 + b) = W b) ∧ (∀ i, i < 718 ∨ 728 ≤ i → B i = A i) ∧ hp_g k (M + 2) = hp_g h (M + 2) ∧ hp_g k (M + 3) = hp_g h (M + 3) ∧ sam h k (M + 5) (M + 7) ∧ sam h k (M + 8) (M + 10) ∧ (∃ k0, frX h k0 M ∧ frm k0 k (M + 1) (M + 2)) ∧ scL k M := by
  have bg := m_begins w0 wT hT htl
  have hs0 := (tkS_le (t := t) (Nat.zero_le tl)).2
  obtain ⟨V4, a4⟩ := h4
  obtain ⟨V7, a7⟩ := h7
  obtain ⟨o, pa, go, ho, hq, m10, m11, m12, m13, m14⟩ := hl
  obtain ⟨k1, e1, u0, ul, u4, u7, uf⟩ := m_opens (h := hp_s h M (mdT M (nI 0) (nI 0) (-1) mu t tl (tkS t tl 0) (nI 0) (nI 0) (nI 0))) (dep := 0) (L := fun _ => newL) (hp_gs _ _ _) (by omega) ⟨o, pa, go, ho, hq, (hp_gn (by omega)).trans m10, (hp_gn (by omega)).trans m11, (hp_gn (by omega)).trans m12, (hp_gn (by omega)).trans m13, (hp_gn (by omega)).trans m14, fun d hd => by omega⟩
  have eL : upL (fun _ => newL) 0 newL = fun _ => newL := by
    funext i
    unfold upL
    split <;> rfl
  rw [eL] at ul
  have F1 : frX h k1 M := frX_trans (frX_s (frX_refl _ _) (Or.inl rfl)) uf
  have hq1 : mQ k1 M (nI 0) mu t tl T A (tkS t tl 0) 0 true 0 0 (fun _ => newL) := ⟨u0.trans (hp_gs _ _ _), (F1.2.1 _ (by omega) (by omega)).trans wA, (F1.2.1 _ (by omega) (by omega)).trans wT, ul, ⟨V4, ar8_sam (ar8_ne a4 (by omega)) u4⟩, ⟨V7, ar8_sam (ar8_ne a7 (by omega)) u7⟩, hs0, by omega, by omega, fun z => by cases z⟩
  have r := m_askLoop hT htl hr hc h 602 601 k1 (tkS t tl 0) 0 0 0 (fun _ => newL) (by omega) hq1 (by omega) F1
  have e0 : zz_run 245 [.ref M] h = zz_Y 245 (25, [some (.ref M), some (.int (nI 1)), none], [], k1) := by
    rw [en245 w0]
    simp (disch := first | assumption | exact zz_nl_i _ | exact zz_nl_r _ | exact zz_nl_n | exact okv_i _ | exact okv_j _ | exact okv_0 | exact okv_1 | exact okv_o _ _ | exact okv_a _ _ | exact bI_okr _ | omega | exact llt_0 | ((repeat apply llt_s) <;> exact llt_0) | fail) only [x245_p0, x245_p1, bg, e1, mo_k_v, mo_k_n, mo_v_e, mo_gf_e, mo_pf_e, mo_ia_e, mo_ba_e, mo_za_e, mo_la_e, mo_aa_e, mo_le_e, mo_is_e, mo_bs_e, mo_zs_0, mo_zs_1, mo_ls_e, mo_as_e, mo_na_e, mo_aci_e, mo_acb_e, mo_acj_e, hp_gs, hp_gn, hp_ss, List.getElem?_cons_zero, List.getElem?_cons_succ, List.set_cons_zero, List.set_cons_succ]
  rw [← e0] at r
  cases e : askP t tl p f 601 (tkS t tl 0) 0 true 0 0 (fun _ => newL) with
  | inl x =>
    obtain ⟨a, b⟩ := x
    rw [e] at r
    obtain ⟨k, y, e2, hF, fr⟩ := r
    refine ⟨k, e2.trans ?_, hF, fr⟩
    obtain ⟨h1, h2, _, s', me', mf', mw', v0⟩ := hF
    have ig2 := m_isGood v0
    rw [decide_eq_false (nz h1 h2).1] at ig2
    simp (disch := first | assumption | exact zz_nl_i _ | exact zz_nl_r _ | exact zz_nl_n | exact okv_i _ | exact okv_j _ | exact okv_0 | exact okv_1 | exact okv_o _ _ | exact okv_a _ _ | exact bI_okr _ | omega | exact llt_0 | ((repeat apply llt_s) <;> exact llt_0) | fail) only [x245_p0, x245_p1, ig2, bI_f, if_true, mo_k_v, mo_k_n, mo_v_e, mo_gf_e, mo_pf_e, mo_ia_e, mo_ba_e, mo_za_e, mo_la_e, mo_aa_e, mo_le_e, mo_is_e, mo_bs_e, mo_zs_0, mo_zs_1, mo_ls_e, mo_as_e, mo_na_e, mo_aci_e, mo_acb_e, mo_acj_e, hp_gs, hp_gn, hp_ss, List.getElem?_cons_zero, List.getElem?_cons_succ, List.set_cons_zero, List.set_cons_succ]
  | inr x =>
    obtain ⟨W, w⟩ := x
    rw [e] at r
    obtain ⟨k, y, e2, ⟨s', me', mf', v0⟩, v7, vL, fr⟩ := r
    have vA := (fr.2.1 (M + 1) (by omega) (by omega)).trans wA
    have ig2 := m_isGood v0
    rw [decide_eq_true rfl] at ig2
    have v7' := v7
    obtain ⟨g7, hg7, e7⟩ := v7
    have step : ∀ b g, b < 8 → zz_Y 245 (83, [some (.ref (M)), some (.int (y)), some (.int (nI (b)))], [], hp_s k (M + 1) (iA 12639 g)) = zz_Y 245 (83, [some (.ref (M)), some (.int (y)), some (.int (nI (b + 1)))], [], hp_s k (M + 1) (iA 12639 (upd g (720 + b) (g7 b)))) := by
      intro b g hb
      rw [x245_c83]
      simp (disch := first | assumption | exact zz_nl_i _ | exact zz_nl_r _ | exact zz_nl_n | exact okv_i _ | exact okv_j _ | exact okv_0 | exact okv_1 | exact okv_o _ _ | exact okv_a _ _ | exact bI_okr _ | omega | exact llt_0 | ((repeat apply llt_s) <;> exact llt_0) | fail) only [x245_p0, x245_p1, v0, hg7, nI_ltI, hb, if_true, nI_add, mo_k_v, mo_k_n, mo_v_e, mo_gf_e, mo_pf_e, mo_ia_e, mo_ba_e, mo_za_e, mo_la_e, mo_aa_e, mo_le_e, mo_is_e, mo_bs_e, mo_zs_0, mo_zs_1, mo_ls_e, mo_as_e, mo_na_e, mo_aci_e, mo_acb_e, mo_acj_e, hp_gs, hp_gn, hp_ss, List.getElem?_cons_zero, List.getElem?_cons_succ, List.set_cons_zero, List.set_cons_succ]
    have l := lp_fold (N := 8) (St := fun b g => zz_Y 245 (83, [some (.ref (M)), some (.int (y)), some (.int (nI (b)))], [], hp_s k (M + 1) (iA 12639 g))) (s := upd (upd A 718 (nI 1)) 719 (nI w)) step
    obtain ⟨s1, s2⟩ := lp_set 720 g7 (upd (upd A 718 (nI 1)) 719 (nI w)) 8
    generalize lp_it (fun b g => upd g (720 + b) (g7 b)) 8 (upd (upd A 718 (nI 1)) 719 (nI w)) = B at *
    have q7 : ar8 (hp_s k (M + 1) (iA 12639 B)) (M + 7) W := ar8_ne v7' (by omega)
    refine ⟨hp_s k (M + 1) (iA 12639 B), B, e2.trans ?_, ⟨s', me', mf', (hp_gn (by omega)).trans v0⟩, hp_gs _ _ _, ?_, ?_, fun b hb => (s1 b hb).trans (e7 b hb), fun i hi => ?_, (hp_gn (by omega)).trans (fr.2.1 _ (by omega) (by omega)), (hp_gn (by omega)).trans (fr.2.1 _ (by omega) (by omega)), fun b h1 h2 => (hp_gn (by omega)).trans (fr.2.2.1 b h1 h2), fun b h1 h2 => (hp_gn (by omega)).trans (fr.2.2.2 b h1 h2), ⟨k, fr, frm_s ⟨by omega, by omega⟩ (frm_refl _ _ _)⟩, scL_1 vL⟩
    · simp (disch := first | assumption | exact zz_nl_i _ | exact zz_nl_r _ | exact zz_nl_n | exact okv_i _ | exact okv_j _ | exact okv_0 | exact okv_1 | exact okv_o _ _ | exact okv_a _ _ | exact bI_okr _ | omega | exact llt_0 | ((repeat apply llt_s) <;> exact llt_0) | fail) only [x245_p0, x245_p1, ig2, bI_t, nI_01, if_false, v0, vA, mo_k_v, mo_k_n, mo_v_e, mo_gf_e, mo_pf_e, mo_ia_e, mo_ba_e, mo_za_e, mo_la_e, mo_aa_e, mo_le_e, mo_is_e, mo_bs_e, mo_zs_0, mo_zs_1, mo_ls_e, mo_as_e, mo_na_e, mo_aci_e, mo_acb_e, mo_acj_e, hp_gs, hp_gn, hp_ss, List.getElem?_cons_zero, List.getElem?_cons_succ, List.set_cons_zero, List.set_cons_succ]
      rw [l, x245_c83]
      simp (disch := first | assumption | exact zz_nl_i _ | exact zz_nl_r _ | exact zz_nl_n | exact okv_i _ | exact okv_j _ | exact okv_0 | exact okv_1 | exact okv_o _ _ | exact okv_a _ _ | exact bI_okr _ | omega | exact llt_0 | ((repeat apply llt_s) <;> exact llt_0) | fail) only [x245_p0, x245_p1, v0, nI_ltI, Nat.lt_irrefl, if_false, a_many q7, mo_k_v, mo_k_n, mo_v_e, mo_gf_e, mo_pf_e, mo_ia_e, mo_ba_e, mo_za_e, mo_la_e, mo_aa_e, mo_le_e, mo_is_e, mo_bs_e, mo_zs_0, mo_zs_1, mo_ls_e, mo_as_e, mo_na_e, mo_aci_e, mo_acb_e, mo_acj_e, hp_gs, hp_gn, hp_ss, List.getElem?_cons_zero, List.getElem?_cons_succ, List.set_cons_zero, List.set_cons_succ]
    · rw [s2 718 (by omega), upd_ne (by omega), upd_eq]
    · rw [s2 719 (by omega), upd_eq]
    · rw [s2 i (by omega), upd_ne (by omega), upd_ne (by omega)]
end
