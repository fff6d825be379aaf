/-! the reference: tokens -/
theorem lNa (a b : Nat) : lN a + lN b = lN (a + b) := (Int64.ofNat_add a b).symm
theorem lNm (a b : Nat) : lN a * lN b = lN (a * b) := (Int64.ofNat_mul a b).symm
theorem lNs {a b : Nat} (h : b ≤ a) : lN a - lN b = lN (a - b) := by
  have e : lN (a - b) + lN b = lN a := by rw [lNa, Nat.sub_add_cancel h]
  rw [← e, Int64.add_sub_cancel]
theorem nI_L : ∀ c, c < 256 → (nI c).toInt64 = lN c := by decide +kernel
def wV (t : Nat → Nat) (tl s : Nat) : Int64 := lN (B27 (fun i => t (s + i) - 96) (min (tkL t tl s) 8))
def mtP (t : Nat → Nat) (tl s : Nat) : Nat := if ¬ s < tl then 0 else if letB (t s) = true then (if tkL t tl s < 2 ∨ 8 < tkL t tl s then 4 else 1) else if digB (t s) = true then (if 3 < tkD t tl s then 4 else 2) else if t s = 59 ∨ t s = 91 ∨ t s = 93 then 3 else 4
def mvP (t : Nat → Nat) (tl s : Nat) : Int64 := if ¬ s < tl then lN 0 else if letB (t s) = true then wV t tl s else if digB (t s) = true then lN (nuN t tl s) else lN (t s)
def tpR (T : Nat → Int32) (t : Nat → Nat) : Prop := ∀ k, k < 600 → T k = nI (t k) ∧ t k < 256
theorem m_isLetter {c : Nat} (hc : c < 256) (h : zz_H) : zz_run 225 [.int (nI c)] h = some (some (.int (bI (letB c))), h) := by
  rw [en225]
  unfold letB
  by_cases h1 : c < 97
  · simp (disch := first | assumption | exact zz_nl_i _ | exact zz_nl_r _ | exact zz_nl_n | exact okv_i _ | exact okv_j _ | exact okv_0 | exact okv_1 | exact okv_o _ _ | exact okv_a _ _ | exact bI_okr _ | omega | exact llt_0 | ((repeat apply llt_s) <;> exact llt_0) | fail) only [x225, xb225, nI_ltI, h1, if_true, mo_k_v, mo_k_n, mo_v_e, mo_gf_e, mo_pf_e, mo_ia_e, mo_ba_e, mo_za_e, mo_la_e, mo_aa_e, mo_le_e, mo_is_e, mo_bs_e, mo_zs_0, mo_zs_1, mo_ls_e, mo_as_e, mo_na_e, mo_aci_e, mo_acb_e, mo_acj_e, hp_gs, hp_gn, hp_ss, List.getElem?_cons_zero, List.getElem?_cons_succ, List.set_cons_zero, List.set_cons_succ]
    rw [decide_eq_false (by omega)]
    rfl
  · by_cases h2 : 122 < c
    · simp (disch := first | assumption | exact zz_nl_i _ | exact zz_nl_r _ | exact zz_nl_n | exact okv_i _ | exact okv_j _ | exact okv_0 | exact okv_1 | exact okv_o _ _ | exact okv_a _ _ | exact bI_okr _ | omega | exact llt_0 | ((repeat apply llt_s) <;> exact llt_0) | fail) only [x225, xb225, nI_ltI, h1, h2, if_true, if_false, mo_k_v, mo_k_n, mo_v_e, mo_gf_e, mo_pf_e, mo_ia_e, mo_ba_e, mo_za_e, mo_la_e, mo_aa_e, mo_le_e, mo_is_e, mo_bs_e, mo_zs_0, mo_zs_1, mo_ls_e, mo_as_e, mo_na_e, mo_aci_e, mo_acb_e, mo_acj_e, hp_gs, hp_gn, hp_ss, List.getElem?_cons_zero, List.getElem?_cons_succ, List.set_cons_zero, List.set_cons_succ]
      rw [decide_eq_false (by omega)]
      rfl
    · simp (disch := first | assumption | exact zz_nl_i _ | exact zz_nl_r _ | exact zz_nl_n | exact okv_i _ | exact okv_j _ | exact okv_0 | exact okv_1 | exact okv_o _ _ | exact okv_a _ _ | exact bI_okr _ | omega | exact llt_0 | ((repeat apply llt_s) <;> exact llt_0) | fail) only [x225, xb225, nI_ltI, h1, h2, if_false, mo_k_v, mo_k_n, mo_v_e, mo_gf_e, mo_pf_e, mo_ia_e, mo_ba_e, mo_za_e, mo_la_e, mo_aa_e, mo_le_e, mo_is_e, mo_bs_e, mo_zs_0, mo_zs_1, mo_ls_e, mo_as_e, mo_na_e, mo_aci_e, mo_acb_e, mo_acj_e, hp_gs, hp_gn, hp_ss, List.getElem?_cons_zero, List.getElem?_cons_succ, List.set_cons_zero, List.set_cons_succ]
      rw [decide_eq_true (by omega)]
      rfl
theorem m_isDigit {c : Nat} (hc : c < 256) (h : zz_H) : zz_run 226 [.int (nI c)] h = some (some (.int (bI (digB c))), h) := by
  rw [en226]
  unfold digB
  by_cases h1 : c < 48
  · simp (disch := first | assumption | exact zz_nl_i _ | exact zz_nl_r _ | exact zz_nl_n | exact okv_i _ | exact okv_j _ | exact okv_0 | exact okv_1 | exact okv_o _ _ | exact okv_a _ _ | exact bI_okr _ | omega | exact llt_0 | ((repeat apply llt_s) <;> exact llt_0) | fail) only [x226, xb226, nI_ltI, h1, if_true, mo_k_v, mo_k_n, mo_v_e, mo_gf_e, mo_pf_e, mo_ia_e, mo_ba_e, mo_za_e, mo_la_e, mo_aa_e, mo_le_e, mo_is_e, mo_bs_e, mo_zs_0, mo_zs_1, mo_ls_e, mo_as_e, mo_na_e, mo_aci_e, mo_acb_e, mo_acj_e, hp_gs, hp_gn, hp_ss, List.getElem?_cons_zero, List.getElem?_cons_succ, List.set_cons_zero, List.set_cons_succ]
    rw [decide_eq_false (by omega)]
    rfl
  · by_cases h2 : 57 < c
    · simp (disch := first | assumption | exact zz_nl_i _ | exact zz_nl_r _ | exact zz_nl_n | exact okv_i _ | exact okv_j _ | exact okv_0 | exact okv_1 | exact okv_o _ _ | exact okv_a _ _ | exact bI_okr _ | omega | exact llt_0 | ((repeat apply llt_s) <;> exact llt_0) | fail) only [x226, xb226, nI_ltI, h1, h2, if_true, if_false, mo_k_v, mo_k_n, mo_v_e, mo_gf_e, mo_pf_e, mo_ia_e, mo_ba_e, mo_za_e, mo_la_e, mo_aa_e, mo_le_e, mo_is_e, mo_bs_e, mo_zs_0, mo_zs_1, mo_ls_e, mo_as_e, mo_na_e, mo_aci_e, mo_acb_e, mo_acj_e, hp_gs, hp_gn, hp_ss, List.getElem?_cons_zero, List.getElem?_cons_succ, List.set_cons_zero, List.set_cons_succ]
      rw [decide_eq_false (by omega)]
      rfl
    · simp (disch := first | assumption | exact zz_nl_i _ | exact zz_nl_r _ | exact zz_nl_n | exact okv_i _ | exact okv_j _ | exact okv_0 | exact okv_1 | exact okv_o _ _ | exact okv_a _ _ | exact bI_okr _ | omega | exact llt_0 | ((repeat apply llt_s) <;> exact llt_0) | fail) only [x226, xb226, nI_ltI, h1, h2, if_false, mo_k_v, mo_k_n, mo_v_e, mo_gf_e, mo_pf_e, mo_ia_e, mo_ba_e, mo_za_e, mo_la_e, mo_aa_e, mo_le_e, mo_is_e, mo_bs_e, mo_zs_0, mo_zs_1, mo_ls_e, mo_as_e, mo_na_e, mo_aci_e, mo_acb_e, mo_acj_e, hp_gs, hp_gn, hp_ss, List.getElem?_cons_zero, List.getElem?_cons_succ, List.set_cons_zero, List.set_cons_succ]
      rw [decide_eq_true (by omega)]
      rfl
theorem m1_97 : (-1 : Int32) < nI 97 := by decide +kernel
theorem m1_48 : (-1 : Int32) < nI 48 := by decide +kernel
theorem m_isLetter1 (h : zz_H) : zz_run 225 [.int (-1)] h = some (some (.int (nI 0)), h) := by
  rw [en225]
  simp (disch := first | assumption | exact zz_nl_i _ | exact zz_nl_r _ | exact zz_nl_n | exact okv_i _ | exact okv_j _ | exact okv_0 | exact okv_1 | exact okv_o _ _ | exact okv_a _ _ | exact bI_okr _ | omega | exact llt_0 | ((repeat apply llt_s) <;> exact llt_0) | fail) only [x225, xb225, eq_true m1_97, if_true, mo_k_v, mo_k_n, mo_v_e, mo_gf_e, mo_pf_e, mo_ia_e, mo_ba_e, mo_za_e, mo_la_e, mo_aa_e, mo_le_e, mo_is_e, mo_bs_e, mo_zs_0, mo_zs_1, mo_ls_e, mo_as_e, mo_na_e, mo_aci_e, mo_acb_e, mo_acj_e, hp_gs, hp_gn, hp_ss, List.getElem?_cons_zero, List.getElem?_cons_succ, List.set_cons_zero, List.set_cons_succ]
theorem m_isDigit1 (h : zz_H) : zz_run 226 [.int (-1)] h = some (some (.int (nI 0)), h) := by
  rw [en226]
  simp (disch := first | assumption | exact zz_nl_i _ | exact zz_nl_r _ | exact zz_nl_n | exact okv_i _ | exact okv_j _ | exact okv_0 | exact okv_1 | exact okv_o _ _ | exact okv_a _ _ | exact bI_okr _ | omega | exact llt_0 | ((repeat apply llt_s) <;> exact llt_0) | fail) only [x226, xb226, eq_true m1_48, if_true, mo_k_v, mo_k_n, mo_v_e, mo_gf_e, mo_pf_e, mo_ia_e, mo_ba_e, mo_za_e, mo_la_e, mo_aa_e, mo_le_e, mo_is_e, mo_bs_e, mo_zs_0, mo_zs_1, mo_ls_e, mo_as_e, mo_na_e, mo_aci_e, mo_acb_e, mo_acj_e, hp_gs, hp_gn, hp_ss, List.getElem?_cons_zero, List.getElem?_cons_succ, List.set_cons_zero, List.set_cons_succ]
section
variable {h : zz_H} {M : Nat} {mt mk mp mu mn mo ml : Int32} {mv : Int64} {me mf mw : Int32} {T : Nat → Int32} {t : Nat → Nat} {tl : Nat}
theorem m_byteAt (w0 : hp_g h M = some (mdO M mt mk mp mu (nI tl) mn mo ml mv me mf mw)) (wT : hp_g h (M + 2) = some (iA 600 T)) (hT : tpR T t) (htl : tl ≤ 600) {k : Nat} (hk : k < tl) : zz_run 224 [.ref M, .int (nI k)] h = some (some (.int (nI (t k))), h) := by
  have e := (hT k (by omega)).1
  rw [en224 w0]
  simp (disch := first | assumption | exact zz_nl_i _ | exact zz_nl_r _ | exact zz_nl_n | exact okv_i _ | exact okv_j _ | exact okv_0 | exact okv_1 | exact okv_o _ _ | exact okv_a _ _ | exact bI_okr _ | omega | exact llt_0 | ((repeat apply llt_s) <;> exact llt_0) | fail) only [x224, w0, nI_ltI, hk, if_true, wT, e, mo_k_v, mo_k_n, mo_v_e, mo_gf_e, mo_pf_e, mo_ia_e, mo_ba_e, mo_za_e, mo_la_e, mo_aa_e, mo_le_e, mo_is_e, mo_bs_e, mo_zs_0, mo_zs_1, mo_ls_e, mo_as_e, mo_na_e, mo_aci_e, mo_acb_e, mo_acj_e, hp_gs, hp_gn, hp_ss, List.getElem?_cons_zero, List.getElem?_cons_succ, List.set_cons_zero, List.set_cons_succ]
theorem m_byteNo (w0 : hp_g h M = some (mdO M mt mk mp mu (nI tl) mn mo ml mv me mf mw)) (htl : tl ≤ 600) {k : Nat} (hk : ¬ k < tl) (hk2 : k < 100000) : zz_run 224 [.ref M, .int (nI k)] h = some (some (.int (-1)), h) := by
  rw [en224 w0]
  simp (disch := first | assumption | exact zz_nl_i _ | exact zz_nl_r _ | exact zz_nl_n | exact okv_i _ | exact okv_j _ | exact okv_0 | exact okv_1 | exact okv_o _ _ | exact okv_a _ _ | exact bI_okr _ | omega | exact llt_0 | ((repeat apply llt_s) <;> exact llt_0) | fail) only [x224, w0, nI_ltI, hk, if_false, mo_k_v, mo_k_n, mo_v_e, mo_gf_e, mo_pf_e, mo_ia_e, mo_ba_e, mo_za_e, mo_la_e, mo_aa_e, mo_le_e, mo_is_e, mo_bs_e, mo_zs_0, mo_zs_1, mo_ls_e, mo_as_e, mo_na_e, mo_aci_e, mo_acb_e, mo_acj_e, hp_gs, hp_gn, hp_ss, List.getElem?_cons_zero, List.getElem?_cons_succ, List.set_cons_zero, List.set_cons_succ]
theorem m_takes {q : Nat} (w0 : hp_g h M = some (mdO M mt mk mp mu (nI tl) (nI q) mo ml mv me mf mw)) (wT : hp_g h (M + 2) = some (iA 600 T)) (hT : tpR T t) (htl : tl ≤ 600) (hq : q ≤ tl) : zz_run 223 [.ref M] h = some (none, hp_s h M (mdO M mt mk mp mu (nI tl) (nI (nxP t tl (tkS t tl q))) (nI (mtP t tl (tkS t tl q))) (nI (tkS t tl q)) (mvP t tl (tkS t tl q)) me mf mw)) := by
  have n32_10 : ¬ nI 32 = nI 10 := by decide +kernel
  have m32 : ¬ (-1 : Int32) = nI 32 := by decide +kernel
  have m10 : ¬ (-1 : Int32) = nI 10 := by decide +kernel
  have wTk : ∀ e : zz_E, hp_g (hp_s h M e) (M + 2) = some (iA 600 T) := fun e => (hp_gn (by omega)).trans wT
  -- blanks
  have l1 : zz_Y 223 (0, [some (.ref (M)), none], [], h) = zz_Y 223 (0, [some (.ref (M)), none], [], hp_s h M (mdO M mt mk mp mu (nI tl) (nI (tkS t tl q)) mo ml mv me mf mw)) := by
    have := lp_wh (N := rn (fun i => blkB (t i)) tl q) (St := fun i => zz_Y 223 (0, [some (.ref (M)), none], [], hp_s h M (mdO M mt mk mp mu (nI tl) (nI (q + i)) mo ml mv me mf mw))) (fun i hi => by
      obtain ⟨b1, b2⟩ := rn_in hi
      have hb := m_byteAt (h := hp_s h M (mdO M mt mk mp mu (nI tl) (nI (q + i)) mo ml mv me mf mw)) (hp_gs _ _ _) (wTk _) hT htl b1
      have hc := (hT (q + i) (by omega)).2
      unfold blkB at b2
      rw [decide_eq_true_iff] at b2
      rw [x223_c0]
      by_cases c : t (q + i) = 32
      · simp (disch := first | assumption | exact zz_nl_i _ | exact zz_nl_r _ | exact zz_nl_n | exact okv_i _ | exact okv_j _ | exact okv_0 | exact okv_1 | exact okv_o _ _ | exact okv_a _ _ | exact bI_okr _ | omega | exact llt_0 | ((repeat apply llt_s) <;> exact llt_0) | fail) only [x223_p0, x223_p1, x223_p2, hb, nI_eq, eq_true c, if_true, nI_add, Nat.add_assoc, mo_k_v, mo_k_n, mo_v_e, mo_gf_e, mo_pf_e, mo_ia_e, mo_ba_e, mo_za_e, mo_la_e, mo_aa_e, mo_le_e, mo_is_e, mo_bs_e, mo_zs_0, mo_zs_1, mo_ls_e, mo_as_e, mo_na_e, mo_aci_e, mo_acb_e, mo_acj_e, hp_gs, hp_gn, hp_ss, List.getElem?_cons_zero, List.getElem?_cons_succ, List.set_cons_zero, List.set_cons_succ]
      · have c2 : t (q + i) = 10 := by omega
        simp (disch := first | assumption | exact zz_nl_i _ | exact zz_nl_r _ | exact zz_nl_n | exact okv_i _ | exact okv_j _ | exact okv_0 | exact okv_1 | exact okv_o _ _ | exact okv_a _ _ | exact bI_okr _ | omega | exact llt_0 | ((repeat apply llt_s) <;> exact llt_0) | fail) only [x223_p0, x223_p1, x223_p2, hb, nI_eq, c, eq_true c2, if_true, if_false, nI_add, Nat.add_assoc, mo_k_v, mo_k_n, mo_v_e, mo_gf_e, mo_pf_e, mo_ia_e, mo_ba_e, mo_za_e, mo_la_e, mo_aa_e, mo_le_e, mo_is_e, mo_bs_e, mo_zs_0, mo_zs_1, mo_ls_e, mo_as_e, mo_na_e, mo_aci_e, mo_acb_e, mo_acj_e, hp_gs, hp_gn, hp_ss, List.getElem?_cons_zero, List.getElem?_cons_succ, List.set_cons_zero, List.set_cons_succ])
    rw [Nat.add_zero, hp_same w0] at this
    exact this
  obtain ⟨hs1, hs2⟩ := tkS_le (t := t) hq
  have hend : tkS t tl q < tl → blkB (t (tkS t tl q)) = false := fun hlt => rn_end (p := fun i => blkB (t i)) hlt
  generalize tkS t tl q = s at *
  rw [en223 w0, l1, x223_c0]
  have wS : hp_g (hp_s h M (mdO M mt mk mp mu (nI tl) (nI s) mo ml mv me mf mw)) M = some (mdO M mt mk mp mu (nI tl) (nI s) mo ml mv me mf mw) := hp_gs _ _ _
  have wS2 : hp_g (hp_s h M (mdO M mt mk mp mu (nI tl) (nI s) mo (nI s) mv me mf mw)) M = some (mdO M mt mk mp mu (nI tl) (nI s) mo (nI s) mv me mf mw) := hp_gs _ _ _
  by_cases hlt : s < tl
  · have hb := m_byteAt wS (wTk _) hT htl hlt
    have hb2 := m_byteAt wS2 (wTk _) hT htl hlt
    have hc := (hT s (by omega)).2
    have bl := hend hlt
    unfold blkB at bl
    rw [decide_eq_false_iff_not] at bl
    have c1 : ¬ t s = 32 := fun z => bl (Or.inr z)
    have c2 : ¬ t s = 10 := fun z => bl (Or.inl z)
    have cneg : ¬ nI (t s) < nI 0 := nI_nlt0 (by omega)
    cases hlet : letB (t s) with
    | true =>
      have hil := m_isLetter hc
      rw [hlet] at hil
      simp (disch := first | assumption | exact zz_nl_i _ | exact zz_nl_r _ | exact zz_nl_n | exact okv_i _ | exact okv_j _ | exact okv_0 | exact okv_1 | exact okv_o _ _ | exact okv_a _ _ | exact bI_okr _ | omega | exact llt_0 | ((repeat apply llt_s) <;> exact llt_0) | fail) only [x223_p0, x223_p1, x223_p2, hb, nI_eq, c1, c2, if_false, hb2, cneg, hil, bI_t, nI_01, mo_k_v, mo_k_n, mo_v_e, mo_gf_e, mo_pf_e, mo_ia_e, mo_ba_e, mo_za_e, mo_la_e, mo_aa_e, mo_le_e, mo_is_e, mo_bs_e, mo_zs_0, mo_zs_1, mo_ls_e, mo_as_e, mo_na_e, mo_aci_e, mo_acb_e, mo_acj_e, hp_gs, hp_gn, hp_ss, List.getElem?_cons_zero, List.getElem?_cons_succ, List.set_cons_zero, List.set_cons_succ]
      -- letters
      have l2 := lp_wh (N := tkL t tl s) (St := fun i => zz_Y 223 (80, [some (.ref (M)), some (.int (nI (t s)))], [], hp_s h M (mdO M mt mk mp mu (nI tl) (nI (s + i)) mo (nI s) (lN (B27 (fun j => t (s + j) - 96) (min i 8))) me mf mw))) (fun i hi => by
        obtain ⟨b1, b2, b3⟩ := tkL_in hi
        have hbi := m_byteAt (h := hp_s h M (mdO M mt mk mp mu (nI tl) (nI (s + i)) mo (nI s) (lN (B27 (fun j => t (s + j) - 96) (min i 8))) me mf mw)) (hp_gs _ _ _) (wTk _) hT htl b1
        have hci := (hT (s + i) (by omega)).2
        have hli := m_isLetter hci
        rw [show letB (t (s + i)) = true from (rn_in hi).2] at hli
        have es : nI (s + i) - nI s = nI i := by rw [pk_sub (by omega), Nat.add_sub_cancel_left]
        rw [x223_c80]
        by_cases c : i < 8
        · have e1 : lN 27 * lN (B27 (fun j => t (s + j) - 96) (min i 8)) + lN (t (s + i)) - lN 97 + lN 1 = lN (B27 (fun j => t (s + j) - 96) (min (i + 1) 8)) := by
            rw [lNm, lNa, lNs (by omega), lNa, show min i 8 = i by omega, show min (i + 1) 8 = i + 1 by omega]
            congr 1
            show _ = 27 * B27 (fun j => t (s + j) - 96) i + (t (s + i) - 96)
            omega
          simp (disch := first | assumption | exact zz_nl_i _ | exact zz_nl_r _ | exact zz_nl_n | exact okv_i _ | exact okv_j _ | exact okv_0 | exact okv_1 | exact okv_o _ _ | exact okv_a _ _ | exact bI_okr _ | omega | exact llt_0 | ((repeat apply llt_s) <;> exact llt_0) | fail) only [x223_p0, x223_p1, x223_p2, hbi, hli, bI_t, nI_01, if_false, es, nI_ltI, c, if_true, nI_L _ hci, e1, nI_add, Nat.add_assoc, mo_k_v, mo_k_n, mo_v_e, mo_gf_e, mo_pf_e, mo_ia_e, mo_ba_e, mo_za_e, mo_la_e, mo_aa_e, mo_le_e, mo_is_e, mo_bs_e, mo_zs_0, mo_zs_1, mo_ls_e, mo_as_e, mo_na_e, mo_aci_e, mo_acb_e, mo_acj_e, hp_gs, hp_gn, hp_ss, List.getElem?_cons_zero, List.getElem?_cons_succ, List.set_cons_zero, List.set_cons_succ]
        · have e1 : min (i + 1) 8 = min i 8 := by omega
          simp (disch := first | assumption | exact zz_nl_i _ | exact zz_nl_r _ | exact zz_nl_n | exact okv_i _ | exact okv_j _ | exact okv_0 | exact okv_1 | exact okv_o _ _ | exact okv_a _ _ | exact bI_okr _ | omega | exact llt_0 | ((repeat apply llt_s) <;> exact llt_0) | fail) only [x223_p0, x223_p1, x223_p2, hbi, hli, bI_t, nI_01, if_false, es, nI_ltI, c, e1, nI_add, Nat.add_assoc, mo_k_v, mo_k_n, mo_v_e, mo_gf_e, mo_pf_e, mo_ia_e, mo_ba_e, mo_za_e, mo_la_e, mo_aa_e, mo_le_e, mo_is_e, mo_bs_e, mo_zs_0, mo_zs_1, mo_ls_e, mo_as_e, mo_na_e, mo_aci_e, mo_acb_e, mo_acj_e, hp_gs, hp_gn, hp_ss, List.getElem?_cons_zero, List.getElem?_cons_succ, List.set_cons_zero, List.set_cons_succ])
      rw [Nat.add_zero] at l2
      have hle2 := rn_le (p := fun i => letB (t i)) (tl := tl) (s := s) hs2
      have hLle : s + tkL t tl s ≤ tl := hle2
      have es : nI (s + tkL t tl s) - nI s = nI (tkL t tl s) := by rw [pk_sub (by omega), Nat.add_sub_cancel_left]
      have en : nxP t tl s = s + tkL t tl s := by
        unfold nxP tkA
        rw [if_neg (fun z => z hlt), if_pos hlet]
      have em : mtP t tl s = if tkL t tl s < 2 ∨ 8 < tkL t tl s then 4 else 1 := by
        unfold mtP
        rw [if_neg (fun z => z hlt), if_pos hlet]
      have ev : mvP t tl s = lN (B27 (fun j => t (s + j) - 96) (min (tkL t tl s) 8)) := by
        unfold mvP
        rw [if_neg (fun z => z hlt), if_pos hlet]
        rfl
      rw [en, em, ev]
      refine Eq.trans l2 ?_
      rw [x223_c80]
      have wE : hp_g (hp_s h M (mdO M mt mk mp mu (nI tl) (nI (s + tkL t tl s)) mo (nI s) (lN (B27 (fun j => t (s + j) - 96) (min (tkL t tl s) 8))) me mf mw)) M = some (mdO M mt mk mp mu (nI tl) (nI (s + tkL t tl s)) mo (nI s) (lN (B27 (fun j => t (s + j) - 96) (min (tkL t tl s) 8))) me mf mw) := hp_gs _ _ _
      have stop : ∃ x, zz_run 224 [.ref M, .int (nI (s + tkL t tl s))] (hp_s h M (mdO M mt mk mp mu (nI tl) (nI (s + tkL t tl s)) mo (nI s) (lN (B27 (fun j => t (s + j) - 96) (min (tkL t tl s) 8))) me mf mw)) = some (some (.int x), hp_s h M (mdO M mt mk mp mu (nI tl) (nI (s + tkL t tl s)) mo (nI s) (lN (B27 (fun j => t (s + j) - 96) (min (tkL t tl s) 8))) me mf mw)) ∧ ∀ k, zz_run 225 [.int x] k = some (some (.int (nI 0)), k) := by
        by_cases z : s + tkL t tl s < tl
        · refine ⟨_, m_byteAt wE (wTk _) hT htl z, fun k => ?_⟩
          have e1 : letB (t (s + tkL t tl s)) = false := rn_end (p := fun i => letB (t i)) z
          rw [m_isLetter (hT _ (by omega)).2, e1]
          rfl
        · exact ⟨_, m_byteNo wE htl z (by omega), fun k => m_isLetter1 k⟩
      obtain ⟨x, ex1, ex2⟩ := stop
      by_cases z1 : tkL t tl s < 2
      · simp (disch := first | assumption | exact zz_nl_i _ | exact zz_nl_r _ | exact zz_nl_n | exact okv_i _ | exact okv_j _ | exact okv_0 | exact okv_1 | exact okv_o _ _ | exact okv_a _ _ | exact bI_okr _ | omega | exact llt_0 | ((repeat apply llt_s) <;> exact llt_0) | fail) only [x223_p0, x223_p1, x223_p2, ex1, ex2, if_true, es, nI_ltI, z1, true_or, mo_k_v, mo_k_n, mo_v_e, mo_gf_e, mo_pf_e, mo_ia_e, mo_ba_e, mo_za_e, mo_la_e, mo_aa_e, mo_le_e, mo_is_e, mo_bs_e, mo_zs_0, mo_zs_1, mo_ls_e, mo_as_e, mo_na_e, mo_aci_e, mo_acb_e, mo_acj_e, hp_gs, hp_gn, hp_ss, List.getElem?_cons_zero, List.getElem?_cons_succ, List.set_cons_zero, List.set_cons_succ]
      · by_cases z2 : 8 < tkL t tl s
        · simp (disch := first | assumption | exact zz_nl_i _ | exact zz_nl_r _ | exact zz_nl_n | exact okv_i _ | exact okv_j _ | exact okv_0 | exact okv_1 | exact okv_o _ _ | exact okv_a _ _ | exact bI_okr _ | omega | exact llt_0 | ((repeat apply llt_s) <;> exact llt_0) | fail) only [x223_p0, x223_p1, x223_p2, ex1, ex2, if_true, es, nI_ltI, z1, z2, if_false, or_true, mo_k_v, mo_k_n, mo_v_e, mo_gf_e, mo_pf_e, mo_ia_e, mo_ba_e, mo_za_e, mo_la_e, mo_aa_e, mo_le_e, mo_is_e, mo_bs_e, mo_zs_0, mo_zs_1, mo_ls_e, mo_as_e, mo_na_e, mo_aci_e, mo_acb_e, mo_acj_e, hp_gs, hp_gn, hp_ss, List.getElem?_cons_zero, List.getElem?_cons_succ, List.set_cons_zero, List.set_cons_succ]
        · simp (disch := first | assumption | exact zz_nl_i _ | exact zz_nl_r _ | exact zz_nl_n | exact okv_i _ | exact okv_j _ | exact okv_0 | exact okv_1 | exact okv_o _ _ | exact okv_a _ _ | exact bI_okr _ | omega | exact llt_0 | ((repeat apply llt_s) <;> exact llt_0) | fail) only [x223_p0, x223_p1, x223_p2, ex1, ex2, if_true, es, nI_ltI, z1, z2, if_false, or_self, mo_k_v, mo_k_n, mo_v_e, mo_gf_e, mo_pf_e, mo_ia_e, mo_ba_e, mo_za_e, mo_la_e, mo_aa_e, mo_le_e, mo_is_e, mo_bs_e, mo_zs_0, mo_zs_1, mo_ls_e, mo_as_e, mo_na_e, mo_aci_e, mo_acb_e, mo_acj_e, hp_gs, hp_gn, hp_ss, List.getElem?_cons_zero, List.getElem?_cons_succ, List.set_cons_zero, List.set_cons_succ]
    | false =>
      have hil := m_isLetter hc
      rw [hlet] at hil
      cases hdig : digB (t s) with
      | true =>
        have hid := m_isDigit hc
        rw [hdig] at hid
        simp (disch := first | assumption | exact zz_nl_i _ | exact zz_nl_r _ | exact zz_nl_n | exact okv_i _ | exact okv_j _ | exact okv_0 | exact okv_1 | exact okv_o _ _ | exact okv_a _ _ | exact bI_okr _ | omega | exact llt_0 | ((repeat apply llt_s) <;> exact llt_0) | fail) only [x223_p0, x223_p1, x223_p2, hb, nI_eq, c1, c2, if_false, hb2, cneg, hil, bI_f, if_true, hid, bI_t, nI_01, mo_k_v, mo_k_n, mo_v_e, mo_gf_e, mo_pf_e, mo_ia_e, mo_ba_e, mo_za_e, mo_la_e, mo_aa_e, mo_le_e, mo_is_e, mo_bs_e, mo_zs_0, mo_zs_1, mo_ls_e, mo_as_e, mo_na_e, mo_aci_e, mo_acb_e, mo_acj_e, hp_gs, hp_gn, hp_ss, List.getElem?_cons_zero, List.getElem?_cons_succ, List.set_cons_zero, List.set_cons_succ]
        have l2 := lp_wh (N := tkD t tl s) (St := fun i => zz_Y 223 (202, [some (.ref (M)), some (.int (nI (t s)))], [], hp_s h M (mdO M mt mk mp mu (nI tl) (nI (s + i)) mo (nI s) (lN (D10 (fun j => t (s + j) - 48) (min i 3))) me mf mw))) (fun i hi => by
          obtain ⟨b1, b2, b3⟩ := tkD_in hi
          have hbi := m_byteAt (h := hp_s h M (mdO M mt mk mp mu (nI tl) (nI (s + i)) mo (nI s) (lN (D10 (fun j => t (s + j) - 48) (min i 3))) me mf mw)) (hp_gs _ _ _) (wTk _) hT htl b1
          have hci := (hT (s + i) (by omega)).2
          have hli := m_isDigit hci
          rw [show digB (t (s + i)) = true from (rn_in hi).2] at hli
          have es : nI (s + i) - nI s = nI i := by rw [pk_sub (by omega), Nat.add_sub_cancel_left]
          rw [x223_c202]
          by_cases c : i < 3
          · have e1 : lN 10 * lN (D10 (fun j => t (s + j) - 48) (min i 3)) + lN (t (s + i)) - lN 48 = lN (D10 (fun j => t (s + j) - 48) (min (i + 1) 3)) := by
              rw [lNm, lNa, lNs (by omega), show min i 3 = i by omega, show min (i + 1) 3 = i + 1 by omega]
              congr 1
              show _ = D10 (fun j => t (s + j) - 48) i * 10 + (t (s + i) - 48)
              omega
            simp (disch := first | assumption | exact zz_nl_i _ | exact zz_nl_r _ | exact zz_nl_n | exact okv_i _ | exact okv_j _ | exact okv_0 | exact okv_1 | exact okv_o _ _ | exact okv_a _ _ | exact bI_okr _ | omega | exact llt_0 | ((repeat apply llt_s) <;> exact llt_0) | fail) only [x223_p0, x223_p1, x223_p2, hbi, hli, bI_t, nI_01, if_false, es, nI_ltI, c, if_true, nI_L _ hci, e1, nI_add, Nat.add_assoc, mo_k_v, mo_k_n, mo_v_e, mo_gf_e, mo_pf_e, mo_ia_e, mo_ba_e, mo_za_e, mo_la_e, mo_aa_e, mo_le_e, mo_is_e, mo_bs_e, mo_zs_0, mo_zs_1, mo_ls_e, mo_as_e, mo_na_e, mo_aci_e, mo_acb_e, mo_acj_e, hp_gs, hp_gn, hp_ss, List.getElem?_cons_zero, List.getElem?_cons_succ, List.set_cons_zero, List.set_cons_succ]
          · have e1 : min (i + 1) 3 = min i 3 := by omega
            simp (disch := first | assumption | exact zz_nl_i _ | exact zz_nl_r _ | exact zz_nl_n | exact okv_i _ | exact okv_j _ | exact okv_0 | exact okv_1 | exact okv_o _ _ | exact okv_a _ _ | exact bI_okr _ | omega | exact llt_0 | ((repeat apply llt_s) <;> exact llt_0) | fail) only [x223_p0, x223_p1, x223_p2, hbi, hli, bI_t, nI_01, if_false, es, nI_ltI, c, e1, nI_add, Nat.add_assoc, mo_k_v, mo_k_n, mo_v_e, mo_gf_e, mo_pf_e, mo_ia_e, mo_ba_e, mo_za_e, mo_la_e, mo_aa_e, mo_le_e, mo_is_e, mo_bs_e, mo_zs_0, mo_zs_1, mo_ls_e, mo_as_e, mo_na_e, mo_aci_e, mo_acb_e, mo_acj_e, hp_gs, hp_gn, hp_ss, List.getElem?_cons_zero, List.getElem?_cons_succ, List.set_cons_zero, List.set_cons_succ])
        rw [Nat.add_zero] at l2
        have hle2 := rn_le (p := fun i => digB (t i)) (tl := tl) (s := s) hs2
        have hLle : s + tkD t tl s ≤ tl := hle2
        have es : nI (s + tkD t tl s) - nI s = nI (tkD t tl s) := by rw [pk_sub (by omega), Nat.add_sub_cancel_left]
        have en : nxP t tl s = s + tkD t tl s := by
          unfold nxP tkA
          rw [if_neg (fun z => z hlt), if_neg (by rw [hlet]; decide), if_pos hdig]
        have em : mtP t tl s = if 3 < tkD t tl s then 4 else 2 := by
          unfold mtP
          rw [if_neg (fun z => z hlt), if_neg (by rw [hlet]; decide), if_pos hdig]
        have ev : mvP t tl s = lN (D10 (fun j => t (s + j) - 48) (min (tkD t tl s) 3)) := by
          unfold mvP
          rw [if_neg (fun z => z hlt), if_neg (by rw [hlet]; decide), if_pos hdig]
          rfl
        rw [en, em, ev]
        refine Eq.trans l2 ?_
        rw [x223_c202]
        have wE : hp_g (hp_s h M (mdO M mt mk mp mu (nI tl) (nI (s + tkD t tl s)) mo (nI s) (lN (D10 (fun j => t (s + j) - 48) (min (tkD t tl s) 3))) me mf mw)) M = some (mdO M mt mk mp mu (nI tl) (nI (s + tkD t tl s)) mo (nI s) (lN (D10 (fun j => t (s + j) - 48) (min (tkD t tl s) 3))) me mf mw) := hp_gs _ _ _
        have stop : ∃ x, zz_run 224 [.ref M, .int (nI (s + tkD t tl s))] (hp_s h M (mdO M mt mk mp mu (nI tl) (nI (s + tkD t tl s)) mo (nI s) (lN (D10 (fun j => t (s + j) - 48) (min (tkD t tl s) 3))) me mf mw)) = some (some (.int x), hp_s h M (mdO M mt mk mp mu (nI tl) (nI (s + tkD t tl s)) mo (nI s) (lN (D10 (fun j => t (s + j) - 48) (min (tkD t tl s) 3))) me mf mw)) ∧ ∀ k, zz_run 226 [.int x] k = some (some (.int (nI 0)), k) := by
          by_cases z : s + tkD t tl s < tl
          · refine ⟨_, m_byteAt wE (wTk _) hT htl z, fun k => ?_⟩
            have e1 : digB (t (s + tkD t tl s)) = false := rn_end (p := fun i => digB (t i)) z
            rw [m_isDigit (hT _ (by omega)).2, e1]
            rfl
          · exact ⟨_, m_byteNo wE htl z (by omega), fun k => m_isDigit1 k⟩
        obtain ⟨x, ex1, ex2⟩ := stop
        by_cases z1 : 3 < tkD t tl s
        · simp (disch := first | assumption | exact zz_nl_i _ | exact zz_nl_r _ | exact zz_nl_n | exact okv_i _ | exact okv_j _ | exact okv_0 | exact okv_1 | exact okv_o _ _ | exact okv_a _ _ | exact bI_okr _ | omega | exact llt_0 | ((repeat apply llt_s) <;> exact llt_0) | fail) only [x223_p0, x223_p1, x223_p2, ex1, ex2, if_true, es, nI_ltI, z1, mo_k_v, mo_k_n, mo_v_e, mo_gf_e, mo_pf_e, mo_ia_e, mo_ba_e, mo_za_e, mo_la_e, mo_aa_e, mo_le_e, mo_is_e, mo_bs_e, mo_zs_0, mo_zs_1, mo_ls_e, mo_as_e, mo_na_e, mo_aci_e, mo_acb_e, mo_acj_e, hp_gs, hp_gn, hp_ss, List.getElem?_cons_zero, List.getElem?_cons_succ, List.set_cons_zero, List.set_cons_succ]
        · simp (disch := first | assumption | exact zz_nl_i _ | exact zz_nl_r _ | exact zz_nl_n | exact okv_i _ | exact okv_j _ | exact okv_0 | exact okv_1 | exact okv_o _ _ | exact okv_a _ _ | exact bI_okr _ | omega | exact llt_0 | ((repeat apply llt_s) <;> exact llt_0) | fail) only [x223_p0, x223_p1, x223_p2, ex1, ex2, if_true, es, nI_ltI, z1, if_false, mo_k_v, mo_k_n, mo_v_e, mo_gf_e, mo_pf_e, mo_ia_e, mo_ba_e, mo_za_e, mo_la_e, mo_aa_e, mo_le_e, mo_is_e, mo_bs_e, mo_zs_0, mo_zs_1, mo_ls_e, mo_as_e, mo_na_e, mo_aci_e, mo_acb_e, mo_acj_e, hp_gs, hp_gn, hp_ss, List.getElem?_cons_zero, List.getElem?_cons_succ, List.set_cons_zero, List.set_cons_succ]
      | false =>
        have hid := m_isDigit hc
        rw [hdig] at hid
        have en : nxP t tl s = s + 1 := by
          unfold nxP tkA
          rw [if_neg (fun z => z hlt), if_neg (by rw [hlet]; decide), if_neg (by rw [hdig]; decide)]
        have em : mtP t tl s = if t s = 59 ∨ t s = 91 ∨ t s = 93 then 3 else 4 := by
          unfold mtP
          rw [if_neg (fun z => z hlt), if_neg (by rw [hlet]; decide), if_neg (by rw [hdig]; decide)]
        have ev : mvP t tl s = lN (t s) := by
          unfold mvP
          rw [if_neg (fun z => z hlt), if_neg (by rw [hlet]; decide), if_neg (by rw [hdig]; decide)]
        rw [en, em, ev]
        by_cases z1 : t s = 59
        · simp (disch := first | assumption | exact zz_nl_i _ | exact zz_nl_r _ | exact zz_nl_n | exact okv_i _ | exact okv_j _ | exact okv_0 | exact okv_1 | exact okv_o _ _ | exact okv_a _ _ | exact bI_okr _ | omega | exact llt_0 | ((repeat apply llt_s) <;> exact llt_0) | fail) only [x223_p0, x223_p1, x223_p2, hb, nI_eq, c1, c2, if_false, hb2, cneg, hil, bI_f, if_true, hid, nI_L _ hc, eq_true z1, nI_add, true_or, mo_k_v, mo_k_n, mo_v_e, mo_gf_e, mo_pf_e, mo_ia_e, mo_ba_e, mo_za_e, mo_la_e, mo_aa_e, mo_le_e, mo_is_e, mo_bs_e, mo_zs_0, mo_zs_1, mo_ls_e, mo_as_e, mo_na_e, mo_aci_e, mo_acb_e, mo_acj_e, hp_gs, hp_gn, hp_ss, List.getElem?_cons_zero, List.getElem?_cons_succ, List.set_cons_zero, List.set_cons_succ]
        · by_cases z2 : t s = 91
          · simp (disch := first | assumption | exact zz_nl_i _ | exact zz_nl_r _ | exact zz_nl_n | exact okv_i _ | exact okv_j _ | exact okv_0 | exact okv_1 | exact okv_o _ _ | exact okv_a _ _ | exact bI_okr _ | omega | exact llt_0 | ((repeat apply llt_s) <;> exact llt_0) | fail) only [x223_p0, x223_p1, x223_p2, hb, nI_eq, c1, c2, if_false, hb2, cneg, hil, bI_f, if_true, hid, nI_L _ hc, z1, eq_true z2, nI_add, true_or, or_true, mo_k_v, mo_k_n, mo_v_e, mo_gf_e, mo_pf_e, mo_ia_e, mo_ba_e, mo_za_e, mo_la_e, mo_aa_e, mo_le_e, mo_is_e, mo_bs_e, mo_zs_0, mo_zs_1, mo_ls_e, mo_as_e, mo_na_e, mo_aci_e, mo_acb_e, mo_acj_e, hp_gs, hp_gn, hp_ss, List.getElem?_cons_zero, List.getElem?_cons_succ, List.set_cons_zero, List.set_cons_succ]
          · by_cases z3 : t s = 93
            · simp (disch := first | assumption | exact zz_nl_i _ | exact zz_nl_r _ | exact zz_nl_n | exact okv_i _ | exact okv_j _ | exact okv_0 | exact okv_1 | exact okv_o _ _ | exact okv_a _ _ | exact bI_okr _ | omega | exact llt_0 | ((repeat apply llt_s) <;> exact llt_0) | fail) only [x223_p0, x223_p1, x223_p2, hb, nI_eq, c1, c2, if_false, hb2, cneg, hil, bI_f, if_true, hid, nI_L _ hc, z1, z2, eq_true z3, nI_add, or_true, mo_k_v, mo_k_n, mo_v_e, mo_gf_e, mo_pf_e, mo_ia_e, mo_ba_e, mo_za_e, mo_la_e, mo_aa_e, mo_le_e, mo_is_e, mo_bs_e, mo_zs_0, mo_zs_1, mo_ls_e, mo_as_e, mo_na_e, mo_aci_e, mo_acb_e, mo_acj_e, hp_gs, hp_gn, hp_ss, List.getElem?_cons_zero, List.getElem?_cons_succ, List.set_cons_zero, List.set_cons_succ]
            · simp (disch := first | assumption | exact zz_nl_i _ | exact zz_nl_r _ | exact zz_nl_n | exact okv_i _ | exact okv_j _ | exact okv_0 | exact okv_1 | exact okv_o _ _ | exact okv_a _ _ | exact bI_okr _ | omega | exact llt_0 | ((repeat apply llt_s) <;> exact llt_0) | fail) only [x223_p0, x223_p1, x223_p2, hb, nI_eq, c1, c2, if_false, hb2, cneg, hil, bI_f, if_true, hid, nI_L _ hc, z1, z2, z3, nI_add, or_self, mo_k_v, mo_k_n, mo_v_e, mo_gf_e, mo_pf_e, mo_ia_e, mo_ba_e, mo_za_e, mo_la_e, mo_aa_e, mo_le_e, mo_is_e, mo_bs_e, mo_zs_0, mo_zs_1, mo_ls_e, mo_as_e, mo_na_e, mo_aci_e, mo_acb_e, mo_acj_e, hp_gs, hp_gn, hp_ss, List.getElem?_cons_zero, List.getElem?_cons_succ, List.set_cons_zero, List.set_cons_succ]
  · have hb := m_byteNo wS htl hlt (by omega)
    have hb2 := m_byteNo wS2 htl hlt (by omega)
    have en : nxP t tl s = s := by
      unfold nxP tkA
      rw [if_pos hlt]
    have em : mtP t tl s = 0 := by
      unfold mtP
      rw [if_pos hlt]
    have ev : mvP t tl s = lN 0 := by
      unfold mvP
      rw [if_pos hlt]
    rw [en, em, ev]
    simp (disch := first | assumption | exact zz_nl_i _ | exact zz_nl_r _ | exact zz_nl_n | exact okv_i _ | exact okv_j _ | exact okv_0 | exact okv_1 | exact okv_o _ _ | exact okv_a _ _ | exact bI_okr _ | omega | exact llt_0 | ((repeat apply llt_s) <;> exact llt_0) | fail) only [x223_p0, x223_p1, x223_p2, hb, m32, m10, if_false, hb2, eq_true m1_lt0, if_true, mo_k_v, mo_k_n, mo_v_e, mo_gf_e, mo_pf_e, mo_ia_e, mo_ba_e, mo_za_e, mo_la_e, mo_aa_e, mo_le_e, mo_is_e, mo_bs_e, mo_zs_0, mo_zs_1, mo_ls_e, mo_as_e, mo_na_e, mo_aci_e, mo_acb_e, mo_acj_e, hp_gs, hp_gn, hp_ss, List.getElem?_cons_zero, List.getElem?_cons_succ, List.set_cons_zero, List.set_cons_succ]
end
