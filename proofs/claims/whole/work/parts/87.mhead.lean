/-! the reference: numbers, lines of heads and values -/
theorem cmp_lt {a b : Nat} (ha : a < 2 ^ 40) (hb : b < 2 ^ 40) : (lg_cmp (lN a) (lN b) < nI 0) = (a < b) ∧ (nI 0 < lg_cmp (lN a) (lN b)) = (b < a) := by
  have e : ∀ n, n < 2 ^ 40 → (lN n).toInt = (n : Int) := fun n hn => by
    show (Int64.ofNat n).toInt = _
    rw [Int64.toInt_ofNat_of_lt (by omega)]
  have hg : (lN b < lN a) = (b < a) := by
    rw [Int64.lt_iff_toInt_lt, e a ha, e b hb]
    apply propext
    omega
  have he : (lN a = lN b) = (a = b) := propext (lN_eq' (by omega) (by omega))
  have d1 : ((0 : Int32) < nI 0) = False := eq_false (by decide +kernel)
  have d1' : (nI 0 < (0 : Int32)) = False := eq_false (by decide +kernel)
  have d2 : ((-1 : Int32) < nI 0) = True := eq_true (by decide +kernel)
  have d3 : (nI 0 < (-1 : Int32)) = False := eq_false (by decide +kernel)
  have d4 : ((1 : Int32) < nI 0) = False := eq_false (by decide +kernel)
  have d5 : (nI 0 < (1 : Int32)) = True := eq_true (by decide +kernel)
  unfold lg_cmp
  by_cases c1 : b < a
  · simp only [hg, he, c1, if_true, d4, d5, show ¬ a < b by omega, and_self]
  · by_cases c2 : a = b
    · simp only [hg, he, c1, eq_true c2, if_true, if_false, d1, d1', show ¬ a < b by omega, and_self]
    · simp only [hg, he, c1, c2, if_false, d2, d3, show a < b by omega, and_self]
section
variable {h : zz_H} {M : Nat} {A : Nat → Int32} {mt mk mp mu ms mn mo ml : Int32} {mv : Int64} {me mf mw : Int32} {p : Pl} {rk tg f ch ba : Nat → Int32} {T : Nat → Int32} {t : Nat → Nat} {tl s : Nat}
theorem nI_L9 : ∀ c, c < 1000 → (nI c).toInt64 = lN c := by decide +kernel
theorem n20' : ¬ nI 2 = nI 0 := by decide +kernel
theorem m_num_0 (w0 : hp_g h M = some (mdT M mt (nI 0) mp mu t tl s me mf mw)) {m : Nat} (hm : m < 1000) (hf : nuF t tl m s = 0) : zz_run 241 [.ref M, .int (nI 0), .int (nI m)] h = some (some (.int (nI (nuN t tl s))), h) := by
  obtain ⟨c, c2⟩ := nuF_0 hf
  have ig := m_isGood w0
  rw [decide_eq_true rfl] at ig
  have hl := nuN_lt t tl s
  have hk := kw_3 t tl s
  have e1 := hk.1.mp c
  have e2 := hk.2 c
  rw [nP_nI, nI_ltI (by omega) (by omega)] at c2
  have q0 := (cmp_lt (a := nuN t tl s) (b := 0) (by omega) (by omega)).1
  have q1 := (cmp_lt (a := nuN t tl s) (b := m) (by omega) (by omega)).2
  rw [eq_false (show ¬ nuN t tl s < 0 by omega)] at q0
  rw [eq_false c2] at q1
  rw [en241 w0]
  simp (disch := first | assumption | exact zz_nl_i _ | exact zz_nl_r _ | exact zz_nl_n | exact okv_i _ | exact okv_j _ | exact okv_0 | exact okv_1 | exact okv_o _ _ | exact okv_a _ _ | exact bI_okr _ | omega | exact llt_0 | ((repeat apply llt_s) <;> exact llt_0) | fail) only [x241, ig, bI_t, nI_01, if_false, w0, e1, if_true, e2, nI_L9 0 (by omega), nI_L9 m hm, q0, q1, toI32, mo_k_v, mo_k_n, mo_v_e, mo_gf_e, mo_pf_e, mo_ia_e, mo_ba_e, mo_za_e, mo_la_e, mo_aa_e, mo_le_e, mo_is_e, mo_bs_e, mo_zs_0, mo_zs_1, mo_ls_e, mo_as_e, mo_na_e, mo_aci_e, mo_acb_e, mo_acj_e, hp_gs, hp_gn, hp_ss, List.getElem?_cons_zero, List.getElem?_cons_succ, List.set_cons_zero, List.set_cons_succ]
theorem m_num_f (w0 : hp_g h M = some (mdT M mt (nI 0) mp mu t tl s me mf mw)) {m : Nat} (hm : m < 1000) (hf : ¬ nuF t tl m s = 0) : zz_run 241 [.ref M, .int (nI 0), .int (nI m)] h = some (some (.int (nI 0)), hp_s h M (mdT M mt (nI (nuF t tl m s)) (nI s) mu t tl s me mf mw)) := by
  have ig := m_isGood w0
  rw [decide_eq_true rfl] at ig
  have hl := nuN_lt t tl s
  have hk := kw_3 t tl s
  have hmt := mt_le t tl s
  rw [en241 w0]
  unfold nuF at hf ⊢
  by_cases c : kdP t tl s = 3
  · rw [if_neg (fun z => z c)] at hf ⊢
    have c2 : nI m < nP t tl s := Classical.byContradiction (fun z => hf (if_neg z))
    rw [if_pos c2]
    rw [nP_nI, nI_ltI (by omega) (by omega)] at c2
    have e1 := hk.1.mp c
    have e2 := hk.2 c
    have q0 := (cmp_lt (a := nuN t tl s) (b := 0) (by omega) (by omega)).1
    have q1 := (cmp_lt (a := nuN t tl s) (b := m) (by omega) (by omega)).2
    rw [eq_false (show ¬ nuN t tl s < 0 by omega)] at q0
    rw [eq_true c2] at q1
    have fl := m_fails0 w0 (nI 2) (nI s)
    have ig2 := m_isGood (h := hp_s h M (mdT M mt (nI 2) (nI s) mu t tl s me mf mw)) (hp_gs _ _ _)
    rw [decide_eq_false n20'] at ig2
    rw [← e2] at q0 q1
    have e1' : (nI (mtP t tl s) = nI 2) = True := eq_true (by rw [e1])
    simp (disch := first | assumption | exact zz_nl_i _ | exact zz_nl_r _ | exact zz_nl_n | exact okv_i _ | exact okv_j _ | exact okv_0 | exact okv_1 | exact okv_o _ _ | exact okv_a _ _ | exact bI_okr _ | omega | exact llt_0 | ((repeat apply llt_s) <;> exact llt_0) | fail) only [x241, ig, bI_t, nI_01, if_false, w0, e1', if_true, nI_L9 0 (by omega), nI_L9 m hm, q0, q1, fl, ig2, bI_f, mo_k_v, mo_k_n, mo_v_e, mo_gf_e, mo_pf_e, mo_ia_e, mo_ba_e, mo_za_e, mo_la_e, mo_aa_e, mo_le_e, mo_is_e, mo_bs_e, mo_zs_0, mo_zs_1, mo_ls_e, mo_as_e, mo_na_e, mo_aci_e, mo_acb_e, mo_acj_e, hp_gs, hp_gn, hp_ss, List.getElem?_cons_zero, List.getElem?_cons_succ, List.set_cons_zero, List.set_cons_succ]
  · rw [if_pos c]
    have e1 : ¬ mtP t tl s = 2 := fun z => c (hk.1.mpr z)
    have fl := m_fails0 w0 (nI 1) (nI s)
    have ig2 := m_isGood (h := hp_s h M (mdT M mt (nI 1) (nI s) mu t tl s me mf mw)) (hp_gs _ _ _)
    rw [decide_eq_false n01] at ig2
    simp (disch := first | assumption | exact zz_nl_i _ | exact zz_nl_r _ | exact zz_nl_n | exact okv_i _ | exact okv_j _ | exact okv_0 | exact okv_1 | exact okv_o _ _ | exact okv_a _ _ | exact bI_okr _ | omega | exact llt_0 | ((repeat apply llt_s) <;> exact llt_0) | fail) only [x241, ig, bI_t, nI_eq, show ((1 : Nat) = 0) = False from eq_false (by omega), if_false, w0, e1, fl, ig2, bI_f, if_true, mo_k_v, mo_k_n, mo_v_e, mo_gf_e, mo_pf_e, mo_ia_e, mo_ba_e, mo_za_e, mo_la_e, mo_aa_e, mo_le_e, mo_is_e, mo_bs_e, mo_zs_0, mo_zs_1, mo_ls_e, mo_as_e, mo_na_e, mo_aci_e, mo_acb_e, mo_acj_e, hp_gs, hp_gn, hp_ss, List.getElem?_cons_zero, List.getElem?_cons_succ, List.set_cons_zero, List.set_cons_succ]
theorem m_num_bad (w0 : hp_g h M = some (mdO M mt mk mp mu ms mn mo ml mv me mf mw)) (hk : ¬ mk = nI 0) (m : Int32) : zz_run 241 [.ref M, .int (nI 0), .int m] h = some (some (.int (nI 0)), h) := by
  have g := m_isGood w0
  rw [decide_eq_false hk] at g
  rw [en241 w0]
  simp (disch := first | assumption | exact zz_nl_i _ | exact zz_nl_r _ | exact zz_nl_n | exact okv_i _ | exact okv_j _ | exact okv_0 | exact okv_1 | exact okv_o _ _ | exact okv_a _ _ | exact bI_okr _ | omega | exact llt_0 | ((repeat apply llt_s) <;> exact llt_0) | fail) only [x241, g, bI_f, if_true, mo_k_v, mo_k_n, mo_v_e, mo_gf_e, mo_pf_e, mo_ia_e, mo_ba_e, mo_za_e, mo_la_e, mo_aa_e, mo_le_e, mo_is_e, mo_bs_e, mo_zs_0, mo_zs_1, mo_ls_e, mo_as_e, mo_na_e, mo_aci_e, mo_acb_e, mo_acj_e, hp_gs, hp_gn, hp_ss, List.getElem?_cons_zero, List.getElem?_cons_succ, List.set_cons_zero, List.set_cons_succ]
/-- what the reference's readers leave -/
def mdQ (h : zz_H) (M : Nat) (m : Nat) (as : List Value) (mt mu : Int32) (t : Nat → Nat) (tl : Nat) (me mf mw : Int32) (A : Nat → Int32) (o : Out) : Prop := match o with
  | .inl (a, b) => ∃ k B s', zz_run m as h = some (none, k) ∧ hp_g k M = some (mdT M mt (nI a) (nI b) mu t tl s' me mf mw) ∧ hp_g k (M + 1) = some (iA 12639 B) ∧ offR A B ∧ frm h k M (M + 2) ∧ 0 < a ∧ a < 10
  | .inr (s', p, rk, tg, _) => ∃ k B, zz_run m as h = some (none, k) ∧ hp_g k M = some (mdT M mt (nI 0) (-1) mu t tl s' me mf mw) ∧ hp_g k (M + 1) = some (iA 12639 B) ∧ RS B 730 p rk tg z0 z0 ∧ ZR B p ∧ offR A B ∧ frm h k M (M + 2)
theorem nz {a : Nat} (h0 : 0 < a) (h1 : a < 10) : ¬ nI a = nI 0 ∧ nI 0 < nI a := ⟨by rw [nI_eq (by omega) (by omega)]; omega, by rw [nI_ltI (by omega) (by omega)]; omega⟩
theorem nmF_le (p : Pl) (t : Nat → Nat) (tl s : Nat) : nmF p t tl s ≤ 3 := by
  unfold nmF
  repeat' split
  all_goals omega
theorem ltF_le (p : Pl) (t : Nat → Nat) (tl s : Nat) : ltF p t tl s ≤ 3 := by
  unfold ltF
  repeat' split
  all_goals omega
theorem nuF_le (t : Nat → Nat) (tl m s : Nat) : nuF t tl m s ≤ 2 := by
  unfold nuF
  repeat' split
  all_goals omega
theorem m_readsHead (w0 : hp_g h M = some (mdT M mt (nI 0) (-1) mu t tl s me mf mw)) (wA : hp_g h (M + 1) = some (iA 12639 A)) (wT : hp_g h (M + 2) = some (iA 600 T)) (hT : tpR T t) (htl : tl ≤ 600) (hs : s ≤ tl) (hr : RS A 730 p rk tg z0 z0) (hz : ZR A p) : mdQ h M 230 [.ref M] mt mu t tl me mf mw A (headP t tl s (p, rk, tg, f)) := by
  obtain ⟨r1, r2, r3, r4⟩ := hr.1
  have ig := m_isGood w0
  rw [decide_eq_true rfl] at ig
  unfold headP
  dsimp only
  have n1f : ((1 : Nat) = 0) = False := eq_false (by omega)
  by_cases c1 : pnh p < 4
  · rw [if_neg (fun q => q c1)]
    have c1n : ¬ pnh p = 4 := by omega
    have a1 := adv_le (t := t) hs
    have tk := t_takes w0 wT hT htl hs
    have v0 : hp_g (hp_s h M (mdT M mt (nI 0) (-1) mu t tl (advP t tl s) me mf mw)) M = some (mdT M mt (nI 0) (-1) mu t tl (advP t tl s) me mf mw) := hp_gs _ _ _
    have vA : hp_g (hp_s h M (mdT M mt (nI 0) (-1) mu t tl (advP t tl s) me mf mw)) (M + 1) = some (iA 12639 A) := (hp_gn (by omega)).trans wA
    have vT : hp_g (hp_s h M (mdT M mt (nI 0) (-1) mu t tl (advP t tl s) me mf mw)) (M + 2) = some (iA 600 T) := (hp_gn (by omega)).trans wT
    by_cases c2 : nmF p t tl (advP t tl s) = 0
    · rw [if_neg (fun q => q c2)]
      obtain ⟨k, B, e, u0, uA, uf, un, uo⟩ := m_tells_0 v0 vA vT hT htl a1.2.1 hr c2 (a := 730 + (10 + 11 * pnh p) + 2) (by omega)
      have uT := (uf.2.2.2 (M + 2) (by omega)).trans vT
      have ig2 := m_isGood u0
      rw [decide_eq_true rfl] at ig2
      have a2 := adv_le (t := t) a1.2.1
      have iM := t_isWord u0 (kw_9 t tl (advP t tl (advP t tl s)))
      have iS := t_isWord u0 (kw_8 t tl (advP t tl (advP t tl s)))
      have F : frm h k M (M + 2) := frm_trans (frm_s (b := M) ⟨by omega, by omega⟩ (frm_refl _ _ _)) uf
      have hoff : offR A B := fun i hi => uo i (by omega)
      have b730 : B 730 = nI (pnh p) := (uo 730 (by omega)).trans r3
      by_cases c3 : kdP t tl (advP t tl (advP t tl s)) = 8 ∨ kdP t tl (advP t tl (advP t tl s)) = 9
      · rw [if_neg (fun q => q c3)]
        have c3' : (kdP t tl (advP t tl (advP t tl s)) = 9) ∨ (¬ kdP t tl (advP t tl (advP t tl s)) = 9 ∧ kdP t tl (advP t tl (advP t tl s)) = 8) := by omega
        have fin : ∀ m : Bool, decide (kdP t tl (advP t tl (advP t tl s)) = 9) = m → zz_run 230 [.ref M] h = some (none, hp_s (hp_s k (M + 1) (iA 12639 (upd (upd B (730 + (10 + 11 * pnh p)) (bI m)) 730 (nI (pnh p + 1))))) M (mdT M mt (nI 0) (-1) mu t tl (advP t tl (advP t tl (advP t tl s))) me mf mw)) := by
          intro m hm
          have x0 : hp_g (hp_s k (M + 1) (iA 12639 (upd (upd B (730 + (10 + 11 * pnh p)) (bI m)) 730 (nI (pnh p + 1))))) M = some (mdT M mt (nI 0) (-1) mu t tl (advP t tl (advP t tl s)) me mf mw) := (hp_gn (by omega)).trans u0
          have tk2 := t_takes x0 ((hp_gn (by omega)).trans uT) hT htl a2.2.1
          have b730' : ∀ z, upd B (730 + (10 + 11 * pnh p)) z 730 = nI (pnh p) := fun z => (upd_ne (by omega)).trans b730
          rw [en230 w0]
          cases m with
          | true =>
            rw [hm] at iM
            rw [bI_t] at tk2
            simp (disch := first | assumption | exact zz_nl_i _ | exact zz_nl_r _ | exact zz_nl_n | exact okv_i _ | exact okv_j _ | exact okv_0 | exact okv_1 | exact okv_o _ _ | exact okv_a _ _ | exact bI_okr _ | omega | exact llt_0 | ((repeat apply llt_s) <;> exact llt_0) | fail) only [x230_p0, x230_p1, w0, wA, r3, nI_eq, c1n, if_false, ig, bI_t, n1f, tk, m_headAt, nI_add, e, iM, ig2, u0, uA, Nat.add_zero, if_true, b730', tk2, mo_k_v, mo_k_n, mo_v_e, mo_gf_e, mo_pf_e, mo_ia_e, mo_ba_e, mo_za_e, mo_la_e, mo_aa_e, mo_le_e, mo_is_e, mo_bs_e, mo_zs_0, mo_zs_1, mo_ls_e, mo_as_e, mo_na_e, mo_aci_e, mo_acb_e, mo_acj_e, hp_gs, hp_gn, hp_ss, List.getElem?_cons_zero, List.getElem?_cons_succ, List.set_cons_zero, List.set_cons_succ]
          | false =>
            rw [hm] at iM
            have c8 : kdP t tl (advP t tl (advP t tl s)) = 8 := by
              have := of_decide_eq_false hm
              omega
            rw [decide_eq_true c8] at iS
            rw [bI_f] at tk2
            simp (disch := first | assumption | exact zz_nl_i _ | exact zz_nl_r _ | exact zz_nl_n | exact okv_i _ | exact okv_j _ | exact okv_0 | exact okv_1 | exact okv_o _ _ | exact okv_a _ _ | exact bI_okr _ | omega | exact llt_0 | ((repeat apply llt_s) <;> exact llt_0) | fail) only [x230_p0, x230_p1, w0, wA, r3, nI_eq, c1n, if_false, ig, bI_t, n1f, tk, m_headAt, nI_add, e, iM, bI_f, ig2, iS, u0, uA, Nat.add_zero, if_true, b730', tk2, mo_k_v, mo_k_n, mo_v_e, mo_gf_e, mo_pf_e, mo_ia_e, mo_ba_e, mo_za_e, mo_la_e, mo_aa_e, mo_le_e, mo_is_e, mo_bs_e, mo_zs_0, mo_zs_1, mo_ls_e, mo_as_e, mo_na_e, mo_aci_e, mo_acb_e, mo_acj_e, hp_gs, hp_gn, hp_ss, List.getElem?_cons_zero, List.getElem?_cons_succ, List.set_cons_zero, List.set_cons_succ]
        obtain ⟨rr, rz⟩ := RS_addH (B := upd (upd B (730 + (10 + 11 * pnh p)) (bI (decide (kdP t tl (advP t tl (advP t tl s)) = 9)))) 730 (nI (pnh p + 1))) hr hz c1 (w := wP t tl (advP t tl s)) (m := decide (kdP t tl (advP t tl (advP t tl s)) = 9)) (upd_eq _ _ _) ((upd_ne (by omega)).trans (upd_eq _ _ _)) (nmR_cong un (fun i hi => (upd_ne (by omega)).trans (upd_ne (by omega)))) (fun i h1 h2 => (upd_ne h1).trans ((upd_ne (by omega)).trans (uo i (by omega))))
        exact ⟨_, _, fin _ rfl, hp_gs _ _ _, (hp_gn (by omega)).trans (hp_gs _ _ _), rr, rz, fun i hi => (upd_ne (by omega)).trans ((upd_ne (by omega)).trans (hoff i hi)), frm_s ⟨by omega, by omega⟩ (frm_s ⟨by omega, by omega⟩ F)⟩
      · rw [if_pos c3]
        have c8 : ¬ kdP t tl (advP t tl (advP t tl s)) = 8 := fun z => c3 (Or.inl z)
        have c9 : ¬ kdP t tl (advP t tl (advP t tl s)) = 9 := fun z => c3 (Or.inr z)
        rw [decide_eq_false c8] at iS
        rw [decide_eq_false c9] at iM
        have fl := m_fails0 u0 (nI 1) (nI (advP t tl (advP t tl s)))
        have ig3 := m_isGood (h := hp_s k M (mdT M mt (nI 1) (nI (advP t tl (advP t tl s))) mu t tl (advP t tl (advP t tl s)) me mf mw)) (hp_gs _ _ _)
        rw [decide_eq_false n01] at ig3
        refine ⟨_, B, advP t tl (advP t tl s), ?_, hp_gs _ _ _, (hp_gn (by omega)).trans uA, hoff, frm_s ⟨by omega, by omega⟩ F, by omega, by omega⟩
        rw [en230 w0]
        simp (disch := first | assumption | exact zz_nl_i _ | exact zz_nl_r _ | exact zz_nl_n | exact okv_i _ | exact okv_j _ | exact okv_0 | exact okv_1 | exact okv_o _ _ | exact okv_a _ _ | exact bI_okr _ | omega | exact llt_0 | ((repeat apply llt_s) <;> exact llt_0) | fail) only [x230_p0, x230_p1, w0, wA, r3, nI_eq, c1n, if_false, ig, bI_t, n1f, tk, m_headAt, nI_add, e, iM, bI_f, ig2, iS, u0, fl, ig3, if_true, mo_k_v, mo_k_n, mo_v_e, mo_gf_e, mo_pf_e, mo_ia_e, mo_ba_e, mo_za_e, mo_la_e, mo_aa_e, mo_le_e, mo_is_e, mo_bs_e, mo_zs_0, mo_zs_1, mo_ls_e, mo_as_e, mo_na_e, mo_aci_e, mo_acb_e, mo_acj_e, hp_gs, hp_gn, hp_ss, List.getElem?_cons_zero, List.getElem?_cons_succ, List.set_cons_zero, List.set_cons_succ]
    · rw [if_pos c2]
      have hle := nmF_le p t tl (advP t tl s)
      obtain ⟨z1, z2⟩ := nz (a := nmF p t tl (advP t tl s)) (by omega) (by omega)
      have e := m_tells_f v0 vA hr c2 (nI (730 + (10 + 11 * pnh p) + 2))
      rw [hp_ss] at e
      have x0 : hp_g (hp_s h M (mdT M mt (nI (nmF p t tl (advP t tl s))) (nI (advP t tl s)) mu t tl (advP t tl s) me mf mw)) M = some (mdT M mt (nI (nmF p t tl (advP t tl s))) (nI (advP t tl s)) mu t tl (advP t tl s) me mf mw) := hp_gs _ _ _
      have ig2 := m_isGood x0
      rw [decide_eq_false z1] at ig2
      have iM := m_isWord_bad x0 z1 (lN 257011)
      refine ⟨_, A, _, ?_, x0, (hp_gn (by omega)).trans wA, fun i hi => rfl, frm_s ⟨by omega, by omega⟩ (frm_refl _ _ _), by omega, by omega⟩
      rw [en230 w0]
      simp (disch := first | assumption | exact zz_nl_i _ | exact zz_nl_r _ | exact zz_nl_n | exact okv_i _ | exact okv_j _ | exact okv_0 | exact okv_1 | exact okv_o _ _ | exact okv_a _ _ | exact bI_okr _ | omega | exact llt_0 | ((repeat apply llt_s) <;> exact llt_0) | fail) only [x230_p0, x230_p1, w0, wA, r3, nI_eq, c1n, if_false, ig, bI_t, n1f, tk, m_headAt, nI_add, e, iM, ig2, bI_f, if_true, mo_k_v, mo_k_n, mo_v_e, mo_gf_e, mo_pf_e, mo_ia_e, mo_ba_e, mo_za_e, mo_la_e, mo_aa_e, mo_le_e, mo_is_e, mo_bs_e, mo_zs_0, mo_zs_1, mo_ls_e, mo_as_e, mo_na_e, mo_aci_e, mo_acb_e, mo_acj_e, hp_gs, hp_gn, hp_ss, List.getElem?_cons_zero, List.getElem?_cons_succ, List.set_cons_zero, List.set_cons_succ]
  · rw [if_pos c1]
    have c1n : pnh p = 4 := by omega
    have fl := m_fails0 w0 (nI 4) (nI s)
    have ig2 := m_isGood (h := hp_s h M (mdT M mt (nI 4) (nI s) mu t tl s me mf mw)) (hp_gs _ _ _)
    rw [decide_eq_false (nz (show 0 < 4 by omega) (by omega)).1] at ig2
    refine ⟨_, A, s, ?_, hp_gs _ _ _, (hp_gn (by omega)).trans wA, fun i hi => rfl, frm_s ⟨by omega, by omega⟩ (frm_refl _ _ _), by omega, by omega⟩
    rw [en230 w0]
    simp (disch := first | assumption | exact zz_nl_i _ | exact zz_nl_r _ | exact zz_nl_n | exact okv_i _ | exact okv_j _ | exact okv_0 | exact okv_1 | exact okv_o _ _ | exact okv_a _ _ | exact bI_okr _ | omega | exact llt_0 | ((repeat apply llt_s) <;> exact llt_0) | fail) only [x230_p0, x230_p1, w0, wA, r3, nI_eq, eq_true c1n, if_true, fl, ig2, bI_f, mo_k_v, mo_k_n, mo_v_e, mo_gf_e, mo_pf_e, mo_ia_e, mo_ba_e, mo_za_e, mo_la_e, mo_aa_e, mo_le_e, mo_is_e, mo_bs_e, mo_zs_0, mo_zs_1, mo_ls_e, mo_as_e, mo_na_e, mo_aci_e, mo_acb_e, mo_acj_e, hp_gs, hp_gn, hp_ss, List.getElem?_cons_zero, List.getElem?_cons_succ, List.set_cons_zero, List.set_cons_succ]
end
