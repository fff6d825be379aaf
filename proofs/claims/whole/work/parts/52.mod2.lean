/-! the reference: rows of values -/
theorem lp_arr {ρ : Type} {N n : Nat} {St : Nat → zz_H → ρ} {h : zz_H} {c : Nat} {g : Nat → Int32} (F : Nat → Int32 → Int32) (hc : hp_g h c = some (iA n g)) (hs : ∀ b g, b < N → St b (hp_s h c (iA n g)) = St (b + 1) (hp_s h c (iA n (upd g b (F b (g b)))))) : St 0 h = St N (hp_s h c (iA n (mpa N F g))) := by
  have e := lp_fold (N := N) (St := fun b g => St b (hp_s h c (iA n g))) (s := g) hs
  rw [lp_mpa, hp_same hc] at e
  exact e
def ar8 (h : zz_H) (c : Nat) (W : Nat → Int32) : Prop := ∃ g, hp_g h c = some (iA 8 g) ∧ eqN 8 g W
theorem sm_cong {f g : Nat → Nat} : ∀ {n : Nat}, (∀ i, i < n → f i = g i) → fb_sm f n = fb_sm g n
  | 0, _ => rfl
  | n + 1, h => by rw [fb_sm_succ, fb_sm_succ, h n (by omega), sm_cong (fun i hi => h i (by omega))]
section
variable {h : zz_H} {c d : Nat} {W V : Nat → Int32}
theorem ar8_sam {k : zz_H} (ha : ar8 h c W) (hk : hp_g k c = hp_g h c) : ar8 k c W := by
  obtain ⟨g, h1, h2⟩ := ha
  exact ⟨g, hk.trans h1, h2⟩
theorem ar8_ne {b : Nat} {e : zz_E} (ha : ar8 h c W) (hb : c ≠ b) : ar8 (hp_s h b e) c W := ar8_sam ha (hp_gn hb)
theorem ar8_eq (ha : ar8 h c W) (he : eqN 8 W V) : ar8 h c V := by
  obtain ⟨g, h1, h2⟩ := ha
  exact ⟨g, h1, fun i hi => (h2 i hi).trans (he i hi)⟩
theorem a_many (ha : ar8 h c W) : zz_run 172 [.ref c] h = some (some (.int (nI (amt W))), h) := by
  obtain ⟨g, h1, h2⟩ := ha
  rw [m_many h1]
  unfold amt
  rw [sm_cong (fun i hi => by rw [h2 i hi])]
theorem a_size (ha : ar8 h c W) : zz_run 161 [.ref c] h = some (some (.int (nI (cs8 W))), h) := by
  obtain ⟨g, h1, h2⟩ := ha
  rw [m_size h1]
  unfold cs8
  rw [sm_cong (fun i hi => by rw [h2 i hi])]
theorem a_inSet (ha : ar8 h c W) {q : Nat} (hq : q < 256) : zz_run 190 [.ref c, .int (nI q)] h = some (some (.int (bI (pb W q))), h) := by
  obtain ⟨g, h1, h2⟩ := ha
  rw [m_isInSet h1 hq]
  unfold pb
  rw [h2 _ (by omega)]
theorem a_at {M : Nat} {fs : List Value} (w0 : hp_g h M = some (.inr (11, fs))) (ha : ar8 h c W) (k : Int32) : zz_run 193 [.ref M, .ref c, .int k] h = some (some (.int (KT (pb W) 256 k)), h) := by
  obtain ⟨g, h1, h2⟩ := ha
  rw [m_at w0 h1, KT_cong (q := pb W) (fun i hi => by unfold pb; rw [h2 _ (by omega)])]
theorem a_work {j : Nat} (ha : ar8 h c W) (hb : ar8 h d V) (hj : j < 3) : zz_run 197 [.ref c, .ref d, .int (nI j)] h = some (some (.int (nI (wj8 j W V))), h) := by
  obtain ⟨g, h1, h2⟩ := ha
  obtain ⟨g', h3, h4⟩ := hb
  rw [m_work h1 h3 hj]
  unfold wj8
  rw [sm_cong (fun i hi => by rw [h2 i hi, h4 i hi])]
end
section
variable {h : zz_H} {M : Nat} {A : Nat → Int32} {mt mk mp mu ms mn mo ml : Int32} {mv : Int64} {me mf mw : Int32} {p : Pl} {rk tg f ch ba : Nat → Int32}
theorem m_isBit (w0 : hp_g h M = some (mdO M mt mk mp mu ms mn mo ml mv me mf mw)) (wA : hp_g h (M + 1) = some (iA 12639 A)) {at_ q : Nat} (hq : q < 256) (ha : at_ + q / 32 < 12639) : zz_run 189 [.ref M, .int (nI at_), .int (nI q)] h = some (some (.int (bI (bt (A (at_ + q / 32)) (q % 32)))), h) := by
  have hm : q % 32 < 32 := Nat.mod_lt _ (by omega)
  have n := n32
  obtain ⟨d1, d2⟩ := dm32 hq
  rw [d1] at d2
  rw [en189 w0]
  simp (disch := first | assumption | exact zz_nl_i _ | exact zz_nl_r _ | exact zz_nl_n | exact okv_i _ | exact okv_j _ | exact okv_0 | exact okv_1 | exact okv_o _ _ | exact okv_a _ _ | exact bI_okr _ | omega | exact llt_0 | ((repeat apply llt_s) <;> exact llt_0) | fail) only [x189, xb189, w0, wA, d1, d2, nI_add, bit_and1 hm, mo_k_v, mo_k_n, mo_v_e, mo_gf_e, mo_pf_e, mo_ia_e, mo_ba_e, mo_za_e, mo_la_e, mo_aa_e, mo_le_e, mo_is_e, mo_bs_e, mo_zs_0, mo_zs_1, mo_ls_e, mo_as_e, mo_na_e, mo_aci_e, mo_acb_e, mo_acj_e, hp_gs, hp_gn, hp_ss, List.getElem?_cons_zero, List.getElem?_cons_succ, List.set_cons_zero, List.set_cons_succ]
  cases bt (A (at_ + q / 32)) (q % 32)
  · simp only [Bool.false_eq_true, if_false, bI_f]
    simp (disch := first | assumption | exact zz_nl_i _ | exact zz_nl_r _ | exact zz_nl_n | exact okv_i _ | exact okv_j _ | exact okv_0 | exact okv_1 | exact okv_o _ _ | exact okv_a _ _ | exact bI_okr _ | omega | exact llt_0 | ((repeat apply llt_s) <;> exact llt_0) | fail) only [x189, xb189, show (nI 0 = nI 1) = False from eq_false (Ne.symm nI_01), if_false, mo_k_v, mo_k_n, mo_v_e, mo_gf_e, mo_pf_e, mo_ia_e, mo_ba_e, mo_za_e, mo_la_e, mo_aa_e, mo_le_e, mo_is_e, mo_bs_e, mo_zs_0, mo_zs_1, mo_ls_e, mo_as_e, mo_na_e, mo_aci_e, mo_acb_e, mo_acj_e, hp_gs, hp_gn, hp_ss, List.getElem?_cons_zero, List.getElem?_cons_succ, List.set_cons_zero, List.set_cons_succ]
  · simp (disch := first | assumption | exact zz_nl_i _ | exact zz_nl_r _ | exact zz_nl_n | exact okv_i _ | exact okv_j _ | exact okv_0 | exact okv_1 | exact okv_o _ _ | exact okv_a _ _ | exact bI_okr _ | omega | exact llt_0 | ((repeat apply llt_s) <;> exact llt_0) | fail) only [x189, xb189, if_true, bI_t, mo_k_v, mo_k_n, mo_v_e, mo_gf_e, mo_pf_e, mo_ia_e, mo_ba_e, mo_za_e, mo_la_e, mo_aa_e, mo_le_e, mo_is_e, mo_bs_e, mo_zs_0, mo_zs_1, mo_ls_e, mo_as_e, mo_na_e, mo_aci_e, mo_acb_e, mo_acj_e, hp_gs, hp_gn, hp_ss, List.getElem?_cons_zero, List.getElem?_cons_succ, List.set_cons_zero, List.set_cons_succ]
theorem m_isValue (w0 : hp_g h M = some (mdO M mt mk mp mu ms mn mo ml mv me mf mw)) (wA : hp_g h (M + 1) = some (iA 12639 A)) (hr : RS A 0 p rk tg ch ba) (x : Int32) : zz_run 183 [.ref M, .int x] h = some (some (.int (bI (isV (pnv p) x))), h) := by
  obtain ⟨⟨r1, r2, r3, r4⟩, _⟩ := hr
  rw [Nat.zero_add] at r4
  rw [en183 w0]
  simp (disch := first | assumption | exact zz_nl_i _ | exact zz_nl_r _ | exact zz_nl_n | exact okv_i _ | exact okv_j _ | exact okv_0 | exact okv_1 | exact okv_o _ _ | exact okv_a _ _ | exact bI_okr _ | omega | exact llt_0 | ((repeat apply llt_s) <;> exact llt_0) | fail) only [x183, xb183, w0, wA, r4, m_isIn, in_V', mo_k_v, mo_k_n, mo_v_e, mo_gf_e, mo_pf_e, mo_ia_e, mo_ba_e, mo_za_e, mo_la_e, mo_aa_e, mo_le_e, mo_is_e, mo_bs_e, mo_zs_0, mo_zs_1, mo_ls_e, mo_as_e, mo_na_e, mo_aci_e, mo_acb_e, mo_acj_e, hp_gs, hp_gn, hp_ss, List.getElem?_cons_zero, List.getElem?_cons_succ, List.set_cons_zero, List.set_cons_succ]
theorem m_isHead (w0 : hp_g h M = some (mdO M mt mk mp mu ms mn mo ml mv me mf mw)) (wA : hp_g h (M + 1) = some (iA 12639 A)) (hr : RS A 0 p rk tg ch ba) (x : Int32) : zz_run 180 [.ref M, .int x] h = some (some (.int (bI (isV (pnh p) x))), h) := by
  obtain ⟨⟨r1, r2, r3, r4⟩, _⟩ := hr
  rw [en180 w0]
  simp (disch := first | assumption | exact zz_nl_i _ | exact zz_nl_r _ | exact zz_nl_n | exact okv_i _ | exact okv_j _ | exact okv_0 | exact okv_1 | exact okv_o _ _ | exact okv_a _ _ | exact bI_okr _ | omega | exact llt_0 | ((repeat apply llt_s) <;> exact llt_0) | fail) only [x180, xb180, w0, wA, r3, m_isIn, in_V', mo_k_v, mo_k_n, mo_v_e, mo_gf_e, mo_pf_e, mo_ia_e, mo_ba_e, mo_za_e, mo_la_e, mo_aa_e, mo_le_e, mo_is_e, mo_bs_e, mo_zs_0, mo_zs_1, mo_ls_e, mo_as_e, mo_na_e, mo_aci_e, mo_acb_e, mo_acj_e, hp_gs, hp_gn, hp_ss, List.getElem?_cons_zero, List.getElem?_cons_succ, List.set_cons_zero, List.set_cons_succ]
theorem m_isRecord (x : Int32) (h : zz_H) : zz_run 188 [.int x] h = some (some (.int (bI (isV 256 x))), h) := by
  rw [en188]
  simp (disch := first | assumption | exact zz_nl_i _ | exact zz_nl_r _ | exact zz_nl_n | exact okv_i _ | exact okv_j _ | exact okv_0 | exact okv_1 | exact okv_o _ _ | exact okv_a _ _ | exact bI_okr _ | omega | exact llt_0 | ((repeat apply llt_s) <;> exact llt_0) | fail) only [x188, xb188, m_isIn, in_V, Nat.reduceAdd, mo_k_v, mo_k_n, mo_v_e, mo_gf_e, mo_pf_e, mo_ia_e, mo_ba_e, mo_za_e, mo_la_e, mo_aa_e, mo_le_e, mo_is_e, mo_bs_e, mo_zs_0, mo_zs_1, mo_ls_e, mo_as_e, mo_na_e, mo_aci_e, mo_acb_e, mo_acj_e, hp_gs, hp_gn, hp_ss, List.getElem?_cons_zero, List.getElem?_cons_succ, List.set_cons_zero, List.set_cons_succ]
theorem m_isThere (w0 : hp_g h M = some (mdO M mt mk mp mu ms mn mo ml mv me mf mw)) (wA : hp_g h (M + 1) = some (iA 12639 A)) (hr : RS A 0 p rk tg ch ba) (x : Int32) : zz_run 187 [.ref M, .int x] h = some (some (.int (bI (thrC rk x))), h) := by
  have rT := hr.2.2.2.1
  rw [en187 w0]
  unfold thrC
  cases hx : isV 256 x with
  | false =>
    simp (disch := first | assumption | exact zz_nl_i _ | exact zz_nl_r _ | exact zz_nl_n | exact okv_i _ | exact okv_j _ | exact okv_0 | exact okv_1 | exact okv_o _ _ | exact okv_a _ _ | exact bI_okr _ | omega | exact llt_0 | ((repeat apply llt_s) <;> exact llt_0) | fail) only [x187, xb187, m_isRecord, hx, bI_f, if_true, Bool.false_and, mo_k_v, mo_k_n, mo_v_e, mo_gf_e, mo_pf_e, mo_ia_e, mo_ba_e, mo_za_e, mo_la_e, mo_aa_e, mo_le_e, mo_is_e, mo_bs_e, mo_zs_0, mo_zs_1, mo_ls_e, mo_as_e, mo_na_e, mo_aci_e, mo_acb_e, mo_acj_e, hp_gs, hp_gn, hp_ss, List.getElem?_cons_zero, List.getElem?_cons_succ, List.set_cons_zero, List.set_cons_succ]
  | true =>
    obtain ⟨q, hq, rfl⟩ := (isV_iff (by omega)).mp hx
    have e := (rT q hq).1
    rw [Nat.zero_add] at e
    simp (disch := first | assumption | exact zz_nl_i _ | exact zz_nl_r _ | exact zz_nl_n | exact okv_i _ | exact okv_j _ | exact okv_0 | exact okv_1 | exact okv_o _ _ | exact okv_a _ _ | exact bI_okr _ | omega | exact llt_0 | ((repeat apply llt_s) <;> exact llt_0) | fail) only [x187, xb187, m_isRecord, hx, bI_t, nI_01, if_false, m_isBit w0 wA hq, e, nI_clamp, Bool.true_and, mo_k_v, mo_k_n, mo_v_e, mo_gf_e, mo_pf_e, mo_ia_e, mo_ba_e, mo_za_e, mo_la_e, mo_aa_e, mo_le_e, mo_is_e, mo_bs_e, mo_zs_0, mo_zs_1, mo_ls_e, mo_as_e, mo_na_e, mo_aci_e, mo_acb_e, mo_acj_e, hp_gs, hp_gn, hp_ss, List.getElem?_cons_zero, List.getElem?_cons_succ, List.set_cons_zero, List.set_cons_succ]
    cases (!decide (rk q = -1))
    · simp (disch := first | assumption | exact zz_nl_i _ | exact zz_nl_r _ | exact zz_nl_n | exact okv_i _ | exact okv_j _ | exact okv_0 | exact okv_1 | exact okv_o _ _ | exact okv_a _ _ | exact bI_okr _ | omega | exact llt_0 | ((repeat apply llt_s) <;> exact llt_0) | fail) only [x187, xb187, bI_f, if_true, mo_k_v, mo_k_n, mo_v_e, mo_gf_e, mo_pf_e, mo_ia_e, mo_ba_e, mo_za_e, mo_la_e, mo_aa_e, mo_le_e, mo_is_e, mo_bs_e, mo_zs_0, mo_zs_1, mo_ls_e, mo_as_e, mo_na_e, mo_aci_e, mo_acb_e, mo_acj_e, hp_gs, hp_gn, hp_ss, List.getElem?_cons_zero, List.getElem?_cons_succ, List.set_cons_zero, List.set_cons_succ]
    · simp (disch := first | assumption | exact zz_nl_i _ | exact zz_nl_r _ | exact zz_nl_n | exact okv_i _ | exact okv_j _ | exact okv_0 | exact okv_1 | exact okv_o _ _ | exact okv_a _ _ | exact bI_okr _ | omega | exact llt_0 | ((repeat apply llt_s) <;> exact llt_0) | fail) only [x187, xb187, bI_t, nI_01, if_false, mo_k_v, mo_k_n, mo_v_e, mo_gf_e, mo_pf_e, mo_ia_e, mo_ba_e, mo_za_e, mo_la_e, mo_aa_e, mo_le_e, mo_is_e, mo_bs_e, mo_zs_0, mo_zs_1, mo_ls_e, mo_as_e, mo_na_e, mo_aci_e, mo_acb_e, mo_acj_e, hp_gs, hp_gn, hp_ss, List.getElem?_cons_zero, List.getElem?_cons_succ, List.set_cons_zero, List.set_cons_succ]
theorem m_chosen (w0 : hp_g h M = some (mdO M mt mk mp mu ms mn mo ml mv me mf mw)) (wA : hp_g h (M + 1) = some (iA 12639 A)) {v : Nat} (hv : v < 20) : zz_run 171 [.ref M, .int (nI v)] h = some (some (.int (A (54 + 12 * v + 2))), h) := by
  rw [en171 w0]
  simp (disch := first | assumption | exact zz_nl_i _ | exact zz_nl_r _ | exact zz_nl_n | exact okv_i _ | exact okv_j _ | exact okv_0 | exact okv_1 | exact okv_o _ _ | exact okv_a _ _ | exact bI_okr _ | omega | exact llt_0 | ((repeat apply llt_s) <;> exact llt_0) | fail) only [x171, w0, wA, m_valueAt, nI_add, mo_k_v, mo_k_n, mo_v_e, mo_gf_e, mo_pf_e, mo_ia_e, mo_ba_e, mo_za_e, mo_la_e, mo_aa_e, mo_le_e, mo_is_e, mo_bs_e, mo_zs_0, mo_zs_1, mo_ls_e, mo_as_e, mo_na_e, mo_aci_e, mo_acb_e, mo_acj_e, hp_gs, hp_gn, hp_ss, List.getElem?_cons_zero, List.getElem?_cons_succ, List.set_cons_zero, List.set_cons_succ]
theorem m_ofHead (w0 : hp_g h M = some (mdO M mt mk mp mu ms mn mo ml mv me mf mw)) (wA : hp_g h (M + 1) = some (iA 12639 A)) {v : Nat} (hv : v < 20) : zz_run 170 [.ref M, .int (nI v)] h = some (some (.int (A (54 + 12 * v))), h) := by
  rw [en170 w0]
  simp (disch := first | assumption | exact zz_nl_i _ | exact zz_nl_r _ | exact zz_nl_n | exact okv_i _ | exact okv_j _ | exact okv_0 | exact okv_1 | exact okv_o _ _ | exact okv_a _ _ | exact bI_okr _ | omega | exact llt_0 | ((repeat apply llt_s) <;> exact llt_0) | fail) only [x170, w0, wA, m_valueAt, nI_add, Nat.add_zero, mo_k_v, mo_k_n, mo_v_e, mo_gf_e, mo_pf_e, mo_ia_e, mo_ba_e, mo_za_e, mo_la_e, mo_aa_e, mo_le_e, mo_is_e, mo_bs_e, mo_zs_0, mo_zs_1, mo_ls_e, mo_as_e, mo_na_e, mo_aci_e, mo_acb_e, mo_acj_e, hp_gs, hp_gn, hp_ss, List.getElem?_cons_zero, List.getElem?_cons_succ, List.set_cons_zero, List.set_cons_succ]
theorem b_sh1 {u v : Nat} (hu : u < 32) (hv : v < 32) : bt (sh1 u) v = decide (v = u) := b_one hu hv
theorem m_isUnder (w0 : hp_g h M = some (mdO M mt mk mp mu ms mn mo ml mv me mf mw)) (wA : hp_g h (M + 1) = some (iA 12639 A)) (hr : RS A 0 p rk tg ch ba) (hw : wfP p) {u v : Nat} (hu : u < pnv p) (hv : v < 20) : zz_run 157 [.ref M, .int (nI u), .int (nI v)] h = some (some (.int (bI (bt (pli p u) v))), h) := by
  obtain ⟨⟨r1, r2, r3, r4⟩, _, rV, _⟩ := hr
  have key : ∀ m u, u < m → u < pnv p → ∀ x, zz_Y 157 (2, [some (.ref (M)), some (.int (x)), some (.int (nI (v))), some (.int (nI (u)))], [], h) = some (some (.int (bI (bt (pli p u) v))), h) := by
    intro m
    induction m with
    | zero => intro u hu; omega
    | succ m ih =>
      intro u hum hu x
      have hP := (rV u hu).2.1
      rw [Nat.zero_add] at hP
      have hneg : ¬ nI u < nI 0 := nI_nlt0 (by omega)
      rw [x157_c2]
      by_cases he : u = v
      · subst he
        simp (disch := first | assumption | exact zz_nl_i _ | exact zz_nl_r _ | exact zz_nl_n | exact okv_i _ | exact okv_j _ | exact okv_0 | exact okv_1 | exact okv_o _ _ | exact okv_a _ _ | exact bI_okr _ | omega | exact llt_0 | ((repeat apply llt_s) <;> exact llt_0) | fail) only [x157, xb157, hneg, if_false, if_true, mo_k_v, mo_k_n, mo_v_e, mo_gf_e, mo_pf_e, mo_ia_e, mo_ba_e, mo_za_e, mo_la_e, mo_aa_e, mo_le_e, mo_is_e, mo_bs_e, mo_zs_0, mo_zs_1, mo_ls_e, mo_as_e, mo_na_e, mo_aci_e, mo_acb_e, mo_acj_e, hp_gs, hp_gn, hp_ss, List.getElem?_cons_zero, List.getElem?_cons_succ, List.set_cons_zero, List.set_cons_succ]
        rcases (hw.2 u hu).2 with ⟨_, e⟩ | ⟨w, _, _, _, e⟩ <;> rw [e, b_or, b_sh1 (by omega) (by omega), decide_eq_true rfl, Bool.true_or, bI_t]
      · simp (disch := first | assumption | exact zz_nl_i _ | exact zz_nl_r _ | exact zz_nl_n | exact okv_i _ | exact okv_j _ | exact okv_0 | exact okv_1 | exact okv_o _ _ | exact okv_a _ _ | exact bI_okr _ | omega | exact llt_0 | ((repeat apply llt_s) <;> exact llt_0) | fail) only [x157, xb157, hneg, if_false, nI_eq, he, w0, wA, m_valueAt, nI_add, hP, mo_k_v, mo_k_n, mo_v_e, mo_gf_e, mo_pf_e, mo_ia_e, mo_ba_e, mo_za_e, mo_la_e, mo_aa_e, mo_le_e, mo_is_e, mo_bs_e, mo_zs_0, mo_zs_1, mo_ls_e, mo_as_e, mo_na_e, mo_aci_e, mo_acb_e, mo_acj_e, hp_gs, hp_gn, hp_ss, List.getElem?_cons_zero, List.getElem?_cons_succ, List.set_cons_zero, List.set_cons_succ]
        rcases (hw.2 u hu).2 with ⟨e1, e⟩ | ⟨w, h1, e1, _, e⟩
        · rw [e1, x157_c2, e, b_or, b_sh1 (by omega) (by omega), decide_eq_false (Ne.symm he), nI_0, b_0]
          simp (disch := first | assumption | exact zz_nl_i _ | exact zz_nl_r _ | exact zz_nl_n | exact okv_i _ | exact okv_j _ | exact okv_0 | exact okv_1 | exact okv_o _ _ | exact okv_a _ _ | exact bI_okr _ | omega | exact llt_0 | ((repeat apply llt_s) <;> exact llt_0) | fail) only [x157, xb157, show ((-1 : Int32) < nI 0) = True from eq_true m1_lt0, if_true, Bool.or_self, bI_f, mo_k_v, mo_k_n, mo_v_e, mo_gf_e, mo_pf_e, mo_ia_e, mo_ba_e, mo_za_e, mo_la_e, mo_aa_e, mo_le_e, mo_is_e, mo_bs_e, mo_zs_0, mo_zs_1, mo_ls_e, mo_as_e, mo_na_e, mo_aci_e, mo_acb_e, mo_acj_e, hp_gs, hp_gn, hp_ss, List.getElem?_cons_zero, List.getElem?_cons_succ, List.set_cons_zero, List.set_cons_succ]
        · rw [e1, ih w (by omega) (by omega), e, b_or, b_sh1 (by omega) (by omega), decide_eq_false (Ne.symm he), Bool.false_or]
  rw [en157 w0]
  simp (disch := first | assumption | exact zz_nl_i _ | exact zz_nl_r _ | exact zz_nl_n | exact okv_i _ | exact okv_j _ | exact okv_0 | exact okv_1 | exact okv_o _ _ | exact okv_a _ _ | exact bI_okr _ | omega | exact llt_0 | ((repeat apply llt_s) <;> exact llt_0) | fail) only [x157, xb157, mo_k_v, mo_k_n, mo_v_e, mo_gf_e, mo_pf_e, mo_ia_e, mo_ba_e, mo_za_e, mo_la_e, mo_aa_e, mo_le_e, mo_is_e, mo_bs_e, mo_zs_0, mo_zs_1, mo_ls_e, mo_as_e, mo_na_e, mo_aci_e, mo_acb_e, mo_acj_e, hp_gs, hp_gn, hp_ss, List.getElem?_cons_zero, List.getElem?_cons_succ, List.set_cons_zero, List.set_cons_succ]
  exact key _ u (Nat.lt_succ_self u) hu _
theorem m_laysSet (w0 : hp_g h M = some (mdO M mt mk mp mu ms mn mo ml mv me mf mw)) (wA : hp_g h (M + 1) = some (iA 12639 A)) (hr : RS A 0 p rk tg ch ba) (hc : CI p rk tg f ch ba) {c v : Nat} {W : Nat → Int32} (ha : ar8 h c W) (h1 : c ≠ M) (h2 : c ≠ M + 1) (hv : v < pnv p) : ∃ k, zz_run 156 [.ref M, .ref c, .int (nI v)] h = some (none, k) ∧ ar8 k c (rw8 f v) ∧ frm h k c (c + 1) := by
  obtain ⟨g, hg, _⟩ := ha
  have hr' := hr
  obtain ⟨⟨r1, r2, r3, r4⟩, _, rV, _⟩ := hr
  rw [Nat.zero_add] at r4
  rw [en156 w0]
  simp (disch := first | assumption | exact zz_nl_i _ | exact zz_nl_r _ | exact zz_nl_n | exact okv_i _ | exact okv_j _ | exact okv_0 | exact okv_1 | exact okv_o _ _ | exact okv_a _ _ | exact bI_okr _ | omega | exact llt_0 | ((repeat apply llt_s) <;> exact llt_0) | fail) only [x156, mo_k_v, mo_k_n, mo_v_e, mo_gf_e, mo_pf_e, mo_ia_e, mo_ba_e, mo_za_e, mo_la_e, mo_aa_e, mo_le_e, mo_is_e, mo_bs_e, mo_zs_0, mo_zs_1, mo_ls_e, mo_as_e, mo_na_e, mo_aci_e, mo_acb_e, mo_acj_e, hp_gs, hp_gn, hp_ss, List.getElem?_cons_zero, List.getElem?_cons_succ, List.set_cons_zero, List.set_cons_succ]
  have l1 := lp_arr (N := 8) (St := fun b k => zz_Y 156 (2, [some (.ref (M)), some (.ref (c)), some (.int (nI (v))), some (.int (nI (b))), none], [], k)) (fun _ _ => nI 0) hg (fun b g hb => by
    rw [x156_c2]
    simp (disch := first | assumption | exact zz_nl_i _ | exact zz_nl_r _ | exact zz_nl_n | exact okv_i _ | exact okv_j _ | exact okv_0 | exact okv_1 | exact okv_o _ _ | exact okv_a _ _ | exact bI_okr _ | omega | exact llt_0 | ((repeat apply llt_s) <;> exact llt_0) | fail) only [x156, nI_ltI, hb, if_true, nI_add, mo_k_v, mo_k_n, mo_v_e, mo_gf_e, mo_pf_e, mo_ia_e, mo_ba_e, mo_za_e, mo_la_e, mo_aa_e, mo_le_e, mo_is_e, mo_bs_e, mo_zs_0, mo_zs_1, mo_ls_e, mo_as_e, mo_na_e, mo_aci_e, mo_acb_e, mo_acj_e, hp_gs, hp_gn, hp_ss, List.getElem?_cons_zero, List.getElem?_cons_succ, List.set_cons_zero, List.set_cons_succ])
  rw [l1, x156_c2]
  simp (disch := first | assumption | exact zz_nl_i _ | exact zz_nl_r _ | exact zz_nl_n | exact okv_i _ | exact okv_j _ | exact okv_0 | exact okv_1 | exact okv_o _ _ | exact okv_a _ _ | exact bI_okr _ | omega | exact llt_0 | ((repeat apply llt_s) <;> exact llt_0) | fail) only [x156, nI_ltI, Nat.lt_irrefl, if_false, mo_k_v, mo_k_n, mo_v_e, mo_gf_e, mo_pf_e, mo_ia_e, mo_ba_e, mo_za_e, mo_la_e, mo_aa_e, mo_le_e, mo_is_e, mo_bs_e, mo_zs_0, mo_zs_1, mo_ls_e, mo_as_e, mo_na_e, mo_aci_e, mo_acb_e, mo_acj_e, hp_gs, hp_gn, hp_ss, List.getElem?_cons_zero, List.getElem?_cons_succ, List.set_cons_zero, List.set_cons_succ]
  have step : ∀ u (s : (Nat → Int32) × Option Value), u < pnv p → ((∀ b, b < 8 → s.1 b = rowM A p v b u) ∧ zz_nl s.2 = true) → ∃ s' : (Nat → Int32) × Option Value, ((∀ b, b < 8 → s'.1 b = rowM A p v b (u + 1)) ∧ zz_nl s'.2 = true) ∧ zz_Y 156 (20, [some (.ref (M)), some (.ref (c)), some (.int (nI (v))), some (.int (nI (u))), s.2], [], hp_s h c (iA 8 s.1)) = zz_Y 156 (20, [some (.ref (M)), some (.ref (c)), some (.int (nI (v))), some (.int (nI (u + 1))), s'.2], [], hp_s h c (iA 8 s'.1)) := by
    rintro u ⟨s, o⟩ hu ⟨hs, ho⟩
    dsimp only at hs ho ⊢
    have w0' : hp_g (hp_s h c (iA 8 s)) M = some (mdO M mt mk mp mu ms mn mo ml mv me mf mw) := (hp_gn (Ne.symm h1)).trans w0
    have wA' : hp_g (hp_s h c (iA 8 s)) (M + 1) = some (iA 12639 A) := (hp_gn (Ne.symm h2)).trans wA
    rw [x156_c20]
    cases hb : bt (pli p u) v with
    | false =>
      refine ⟨(s, o), ⟨fun b h3 => ?_, ho⟩, ?_⟩
      · show s b = if bt (pli p u) v = true then rowM A p v b u ||| A (302 + 8 * u + b) else rowM A p v b u
        rw [hb, if_neg (by decide)]
        exact hs b h3
      · simp (disch := first | assumption | exact zz_nl_i _ | exact zz_nl_r _ | exact zz_nl_n | exact okv_i _ | exact okv_j _ | exact okv_0 | exact okv_1 | exact okv_o _ _ | exact okv_a _ _ | exact bI_okr _ | omega | exact llt_0 | ((repeat apply llt_s) <;> exact llt_0) | fail) only [x156, w0', wA', r4, nI_ltI, hu, if_true, m_isUnder w0' wA' hr' hc.1 hu (show v < 20 by omega), hb, bI_f, nI_add, mo_k_v, mo_k_n, mo_v_e, mo_gf_e, mo_pf_e, mo_ia_e, mo_ba_e, mo_za_e, mo_la_e, mo_aa_e, mo_le_e, mo_is_e, mo_bs_e, mo_zs_0, mo_zs_1, mo_ls_e, mo_as_e, mo_na_e, mo_aci_e, mo_acb_e, mo_acj_e, hp_gs, hp_gn, hp_ss, List.getElem?_cons_zero, List.getElem?_cons_succ, List.set_cons_zero, List.set_cons_succ]
    | true =>
      refine ⟨(mpa 8 (fun b x => x ||| A (302 + 8 * u + b)) s, some (.int (nI 8))), ⟨fun b h3 => ?_, zz_nl_i _⟩, ?_⟩
      · show mpa 8 (fun b x => x ||| A (302 + 8 * u + b)) s b = if bt (pli p u) v = true then rowM A p v b u ||| A (302 + 8 * u + b) else rowM A p v b u
        rw [hb, if_pos rfl, mpa_in h3, hs b h3]
      · simp (disch := first | assumption | exact zz_nl_i _ | exact zz_nl_r _ | exact zz_nl_n | exact okv_i _ | exact okv_j _ | exact okv_0 | exact okv_1 | exact okv_o _ _ | exact okv_a _ _ | exact bI_okr _ | omega | exact llt_0 | ((repeat apply llt_s) <;> exact llt_0) | fail) only [x156, w0', wA', r4, nI_ltI, hu, if_true, m_isUnder w0' wA' hr' hc.1 hu (show v < 20 by omega), hb, bI_t, nI_01, if_false, mo_k_v, mo_k_n, mo_v_e, mo_gf_e, mo_pf_e, mo_ia_e, mo_ba_e, mo_za_e, mo_la_e, mo_aa_e, mo_le_e, mo_is_e, mo_bs_e, mo_zs_0, mo_zs_1, mo_ls_e, mo_as_e, mo_na_e, mo_aci_e, mo_acb_e, mo_acj_e, hp_gs, hp_gn, hp_ss, List.getElem?_cons_zero, List.getElem?_cons_succ, List.set_cons_zero, List.set_cons_succ]
        have l2 := lp_arr (N := 8) (St := fun b k => zz_Y 156 (45, [some (.ref (M)), some (.ref (c)), some (.int (nI (v))), some (.int (nI (u))), some (.int (nI (b)))], [], k)) (h := hp_s h c (iA 8 s)) (fun b x => x ||| A (302 + 8 * u + b)) (hp_gs _ _ _) (fun b g hb => by
          rw [x156_c45]
          simp (disch := first | assumption | exact zz_nl_i _ | exact zz_nl_r _ | exact zz_nl_n | exact okv_i _ | exact okv_j _ | exact okv_0 | exact okv_1 | exact okv_o _ _ | exact okv_a _ _ | exact bI_okr _ | omega | exact llt_0 | ((repeat apply llt_s) <;> exact llt_0) | fail) only [x156, w0, wA, nI_ltI, hb, if_true, nI_add, pk_mul, mo_k_v, mo_k_n, mo_v_e, mo_gf_e, mo_pf_e, mo_ia_e, mo_ba_e, mo_za_e, mo_la_e, mo_aa_e, mo_le_e, mo_is_e, mo_bs_e, mo_zs_0, mo_zs_1, mo_ls_e, mo_as_e, mo_na_e, mo_aci_e, mo_acb_e, mo_acj_e, hp_gs, hp_gn, hp_ss, List.getElem?_cons_zero, List.getElem?_cons_succ, List.set_cons_zero, List.set_cons_succ])
        rw [l2, hp_ss, x156_c45]
        simp (disch := first | assumption | exact zz_nl_i _ | exact zz_nl_r _ | exact zz_nl_n | exact okv_i _ | exact okv_j _ | exact okv_0 | exact okv_1 | exact okv_o _ _ | exact okv_a _ _ | exact bI_okr _ | omega | exact llt_0 | ((repeat apply llt_s) <;> exact llt_0) | fail) only [x156, nI_ltI, Nat.lt_irrefl, if_false, nI_add, mo_k_v, mo_k_n, mo_v_e, mo_gf_e, mo_pf_e, mo_ia_e, mo_ba_e, mo_za_e, mo_la_e, mo_aa_e, mo_le_e, mo_is_e, mo_bs_e, mo_zs_0, mo_zs_1, mo_ls_e, mo_as_e, mo_na_e, mo_aci_e, mo_acb_e, mo_acj_e, hp_gs, hp_gn, hp_ss, List.getElem?_cons_zero, List.getElem?_cons_succ, List.set_cons_zero, List.set_cons_succ]
  obtain ⟨⟨s, o⟩, ⟨hs, ho⟩, e⟩ := lp_ex (N := pnv p) (St := fun u (s : (Nat → Int32) × Option Value) => zz_Y 156 (20, [some (.ref (M)), some (.ref (c)), some (.int (nI (v))), some (.int (nI (u))), s.2], [], hp_s h c (iA 8 s.1))) step (s := (mpa 8 (fun _ _ => nI 0) g, none)) ⟨fun b hb => show mpa 8 (fun _ _ => nI 0) g b = nI 0 from mpa_in hb, zz_nl_n⟩
  refine ⟨hp_s h c (iA 8 s), e.trans ?_, ⟨s, hp_gs _ _ _, fun b hb => (hs b hb).trans (row_eq hr' hc hv hb)⟩, frm_s ⟨by omega, by omega⟩ (frm_refl _ _ _)⟩
  dsimp only at ho ⊢
  rw [x156_c20]
  simp (disch := first | assumption | exact zz_nl_i _ | exact zz_nl_r _ | exact zz_nl_n | exact okv_i _ | exact okv_j _ | exact okv_0 | exact okv_1 | exact okv_o _ _ | exact okv_a _ _ | exact bI_okr _ | omega | exact llt_0 | ((repeat apply llt_s) <;> exact llt_0) | fail) only [x156, w0, wA, r4, nI_ltI, Nat.lt_irrefl, if_false, mo_k_v, mo_k_n, mo_v_e, mo_gf_e, mo_pf_e, mo_ia_e, mo_ba_e, mo_za_e, mo_la_e, mo_aa_e, mo_le_e, mo_is_e, mo_bs_e, mo_zs_0, mo_zs_1, mo_ls_e, mo_as_e, mo_na_e, mo_aci_e, mo_acb_e, mo_acj_e, hp_gs, hp_gn, hp_ss, List.getElem?_cons_zero, List.getElem?_cons_succ, List.set_cons_zero, List.set_cons_succ]
end
