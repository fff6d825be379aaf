/-! the tape and its tokens -/
def isTape (h : zz_H) (a : Nat) (tb : Nat → Int32) (tl : Nat) : Prop := hp_g h a = some (.inr (8, [.ref (a + 1), .int (nI tl)])) ∧ hp_g h (a + 1) = some (.inl (.byte, 600, .inl tb)) ∧ tl ≤ 600
def blkB (c : Nat) : Bool := decide (c = 10 ∨ c = 32)
def letB (c : Nat) : Bool := decide (97 ≤ c ∧ c ≤ 122)
def digB (c : Nat) : Bool := decide (48 ≤ c ∧ c ≤ 57)
def sgn (c : Nat) : Nat := if c = 59 then 4 else if c = 91 then 5 else if c = 93 then 6 else 1
/-- the numbers that bytes stand for -/
def byt (tb : Nat → Int32) (t : Nat → Nat) : Prop := ∀ k, k < 600 → tb k &&& nI 255 = nI (t k) ∧ t k < 256
theorem c_isBlank {c : Nat} (hc : c < 256) (h : zz_H) : zz_run 25 [.int (nI c)] h = some (some (.int (bI (blkB c))), h) := by
  rw [en25]
  simp (disch := first | assumption | exact zz_nl_i _ | exact zz_nl_r _ | exact zz_nl_n | exact okv_i _ | exact okv_j _ | exact okv_0 | exact okv_1 | exact okv_o _ _ | exact okv_a _ _ | omega | exact llt_0 | ((repeat apply llt_s) <;> exact llt_0) | fail) only [x25, xb25, mo_k_v, mo_k_n, mo_v_e, mo_gf_e, mo_pf_e, mo_ia_e, mo_ba_e, mo_za_e, mo_la_e, mo_aa_e, mo_le_e, mo_is_e, mo_bs_e, mo_zs_0, mo_zs_1, mo_ls_e, mo_as_e, mo_na_e, mo_aci_e, mo_acb_e, mo_acj_e, hp_gs, hp_gn, hp_ss, List.getElem?_cons_zero, List.getElem?_cons_succ, List.set_cons_zero, List.set_cons_succ]
  unfold blkB
  simp only [nI_eq (show c < 2147483648 by omega) (show 10 < 2147483648 by omega), nI_eq (show c < 2147483648 by omega) (show 32 < 2147483648 by omega)]
  by_cases h1 : c = 10
  · simp [h1, bI]
  · by_cases h2 : c = 32 <;> simp [h1, h2, bI]
theorem c_isLetter {c : Nat} (hc : c < 256) (h : zz_H) : zz_run 26 [.int (nI c)] h = some (some (.int (bI (letB c))), h) := by
  rw [en26]
  simp (disch := first | assumption | exact zz_nl_i _ | exact zz_nl_r _ | exact zz_nl_n | exact okv_i _ | exact okv_j _ | exact okv_0 | exact okv_1 | exact okv_o _ _ | exact okv_a _ _ | omega | exact llt_0 | ((repeat apply llt_s) <;> exact llt_0) | fail) only [x26, xb26, nI_ltI, mo_k_v, mo_k_n, mo_v_e, mo_gf_e, mo_pf_e, mo_ia_e, mo_ba_e, mo_za_e, mo_la_e, mo_aa_e, mo_le_e, mo_is_e, mo_bs_e, mo_zs_0, mo_zs_1, mo_ls_e, mo_as_e, mo_na_e, mo_aci_e, mo_acb_e, mo_acj_e, hp_gs, hp_gn, hp_ss, List.getElem?_cons_zero, List.getElem?_cons_succ, List.set_cons_zero, List.set_cons_succ]
  unfold letB
  by_cases h1 : c < 97
  · simp [h1, bI, show ¬ 97 ≤ c by omega]
  · by_cases h2 : 122 < c
    · simp [h1, h2, bI, show ¬ c ≤ 122 by omega]
    · simp [h1, h2, bI, show 97 ≤ c by omega, show c ≤ 122 by omega]
theorem c_isDigit {c : Nat} (hc : c < 256) (h : zz_H) : zz_run 29 [.int (nI c)] h = some (some (.int (bI (digB c))), h) := by
  rw [en29]
  simp (disch := first | assumption | exact zz_nl_i _ | exact zz_nl_r _ | exact zz_nl_n | exact okv_i _ | exact okv_j _ | exact okv_0 | exact okv_1 | exact okv_o _ _ | exact okv_a _ _ | omega | exact llt_0 | ((repeat apply llt_s) <;> exact llt_0) | fail) only [x29, xb29, nI_ltI, mo_k_v, mo_k_n, mo_v_e, mo_gf_e, mo_pf_e, mo_ia_e, mo_ba_e, mo_za_e, mo_la_e, mo_aa_e, mo_le_e, mo_is_e, mo_bs_e, mo_zs_0, mo_zs_1, mo_ls_e, mo_as_e, mo_na_e, mo_aci_e, mo_acb_e, mo_acj_e, hp_gs, hp_gn, hp_ss, List.getElem?_cons_zero, List.getElem?_cons_succ, List.set_cons_zero, List.set_cons_succ]
  unfold digB
  by_cases h1 : c < 48
  · simp [h1, bI, show ¬ 48 ≤ c by omega]
  · by_cases h2 : 57 < c
    · simp [h1, h2, bI, show ¬ c ≤ 57 by omega]
    · simp [h1, h2, bI, show 48 ≤ c by omega, show c ≤ 57 by omega]
theorem c_signKind {c : Nat} (hc : c < 256) (h : zz_H) : zz_run 31 [.int (nI c)] h = some (some (.int (nI (sgn c))), h) := by
  rw [en31]
  unfold sgn
  by_cases h1 : c = 59
  · subst h1
    simp (disch := first | assumption | exact zz_nl_i _ | exact zz_nl_r _ | exact zz_nl_n | exact okv_i _ | exact okv_j _ | exact okv_0 | exact okv_1 | exact okv_o _ _ | exact okv_a _ _ | omega | exact llt_0 | ((repeat apply llt_s) <;> exact llt_0) | fail) only [x31, zz_sw, if_true, mo_k_v, mo_k_n, mo_v_e, mo_gf_e, mo_pf_e, mo_ia_e, mo_ba_e, mo_za_e, mo_la_e, mo_aa_e, mo_le_e, mo_is_e, mo_bs_e, mo_zs_0, mo_zs_1, mo_ls_e, mo_as_e, mo_na_e, mo_aci_e, mo_acb_e, mo_acj_e, hp_gs, hp_gn, hp_ss, List.getElem?_cons_zero, List.getElem?_cons_succ, List.set_cons_zero, List.set_cons_succ]
  · by_cases h2 : c = 91
    · subst h2
      simp (disch := first | assumption | exact zz_nl_i _ | exact zz_nl_r _ | exact zz_nl_n | exact okv_i _ | exact okv_j _ | exact okv_0 | exact okv_1 | exact okv_o _ _ | exact okv_a _ _ | omega | exact llt_0 | ((repeat apply llt_s) <;> exact llt_0) | fail) only [x31, zz_sw, nI_eq, Nat.reduceEqDiff, if_true, if_false, mo_k_v, mo_k_n, mo_v_e, mo_gf_e, mo_pf_e, mo_ia_e, mo_ba_e, mo_za_e, mo_la_e, mo_aa_e, mo_le_e, mo_is_e, mo_bs_e, mo_zs_0, mo_zs_1, mo_ls_e, mo_as_e, mo_na_e, mo_aci_e, mo_acb_e, mo_acj_e, hp_gs, hp_gn, hp_ss, List.getElem?_cons_zero, List.getElem?_cons_succ, List.set_cons_zero, List.set_cons_succ]
    · by_cases h3 : c = 93
      · subst h3
        simp (disch := first | assumption | exact zz_nl_i _ | exact zz_nl_r _ | exact zz_nl_n | exact okv_i _ | exact okv_j _ | exact okv_0 | exact okv_1 | exact okv_o _ _ | exact okv_a _ _ | omega | exact llt_0 | ((repeat apply llt_s) <;> exact llt_0) | fail) only [x31, zz_sw, nI_eq, Nat.reduceEqDiff, if_true, if_false, mo_k_v, mo_k_n, mo_v_e, mo_gf_e, mo_pf_e, mo_ia_e, mo_ba_e, mo_za_e, mo_la_e, mo_aa_e, mo_le_e, mo_is_e, mo_bs_e, mo_zs_0, mo_zs_1, mo_ls_e, mo_as_e, mo_na_e, mo_aci_e, mo_acb_e, mo_acj_e, hp_gs, hp_gn, hp_ss, List.getElem?_cons_zero, List.getElem?_cons_succ, List.set_cons_zero, List.set_cons_succ]
      · simp (disch := first | assumption | exact zz_nl_i _ | exact zz_nl_r _ | exact zz_nl_n | exact okv_i _ | exact okv_j _ | exact okv_0 | exact okv_1 | exact okv_o _ _ | exact okv_a _ _ | omega | exact llt_0 | ((repeat apply llt_s) <;> exact llt_0) | fail) only [x31, zz_sw, nI_eq, h1, h2, h3, if_false, mo_k_v, mo_k_n, mo_v_e, mo_gf_e, mo_pf_e, mo_ia_e, mo_ba_e, mo_za_e, mo_la_e, mo_aa_e, mo_le_e, mo_is_e, mo_bs_e, mo_zs_0, mo_zs_1, mo_ls_e, mo_as_e, mo_na_e, mo_aci_e, mo_acb_e, mo_acj_e, hp_gs, hp_gn, hp_ss, List.getElem?_cons_zero, List.getElem?_cons_succ, List.set_cons_zero, List.set_cons_succ]
section
variable {h : zz_H} {a : Nat} {tb : Nat → Int32} {tl : Nat} {t : Nat → Nat}
theorem c_byteAt (ht : isTape h a tb tl) (hb : byt tb t) {k : Nat} (hk : k < tl) : zz_run 24 [.ref a, .int (nI k)] h = some (some (.int (nI (t k))), h) := by
  obtain ⟨t0, t1, t2⟩ := ht
  have e := (hb k (by omega)).1
  rw [en24 t0]
  simp (disch := first | assumption | exact zz_nl_i _ | exact zz_nl_r _ | exact zz_nl_n | exact okv_i _ | exact okv_j _ | exact okv_0 | exact okv_1 | exact okv_o _ _ | exact okv_a _ _ | omega | exact llt_0 | ((repeat apply llt_s) <;> exact llt_0) | fail) only [x24, t0, t1, nI_ltI, hk, if_true, if_false, Nat.not_lt_zero, e, mo_k_v, mo_k_n, mo_v_e, mo_gf_e, mo_pf_e, mo_ia_e, mo_ba_e, mo_za_e, mo_la_e, mo_aa_e, mo_le_e, mo_is_e, mo_bs_e, mo_zs_0, mo_zs_1, mo_ls_e, mo_as_e, mo_na_e, mo_aci_e, mo_acb_e, mo_acj_e, hp_gs, hp_gn, hp_ss, List.getElem?_cons_zero, List.getElem?_cons_succ, List.set_cons_zero, List.set_cons_succ]
theorem c_byteNo (ht : isTape h a tb tl) {k : Nat} (hk : ¬ k < tl) (hk2 : k < 2147483648) : zz_run 24 [.ref a, .int (nI k)] h = some (some (.int (-1)), h) := by
  obtain ⟨t0, t1, t2⟩ := ht
  rw [en24 t0]
  simp (disch := first | assumption | exact zz_nl_i _ | exact zz_nl_r _ | exact zz_nl_n | exact okv_i _ | exact okv_j _ | exact okv_0 | exact okv_1 | exact okv_o _ _ | exact okv_a _ _ | omega | exact llt_0 | ((repeat apply llt_s) <;> exact llt_0) | fail) only [x24, t0, t1, nI_ltI, hk, if_false, Nat.not_lt_zero, mo_k_v, mo_k_n, mo_v_e, mo_gf_e, mo_pf_e, mo_ia_e, mo_ba_e, mo_za_e, mo_la_e, mo_aa_e, mo_le_e, mo_is_e, mo_bs_e, mo_zs_0, mo_zs_1, mo_ls_e, mo_as_e, mo_na_e, mo_aci_e, mo_acb_e, mo_acj_e, hp_gs, hp_gn, hp_ss, List.getElem?_cons_zero, List.getElem?_cons_succ, List.set_cons_zero, List.set_cons_succ]
theorem c_hasRoom (ht : isTape h a tb tl) {k : Nat} (hk : k ≤ 100) : zz_run 14 [.ref a, .int (nI k)] h = some (some (.int (bI (decide (tl + 4 * k ≤ 600)))), h) := by
  obtain ⟨t0, t1, t2⟩ := ht
  rw [en14 t0]
  simp (disch := first | assumption | exact zz_nl_i _ | exact zz_nl_r _ | exact zz_nl_n | exact okv_i _ | exact okv_j _ | exact okv_0 | exact okv_1 | exact okv_o _ _ | exact okv_a _ _ | omega | exact llt_0 | ((repeat apply llt_s) <;> exact llt_0) | fail) only [x14, xb14, t0, pk_mul, nI_add, nI_ltI, mo_k_v, mo_k_n, mo_v_e, mo_gf_e, mo_pf_e, mo_ia_e, mo_ba_e, mo_za_e, mo_la_e, mo_aa_e, mo_le_e, mo_is_e, mo_bs_e, mo_zs_0, mo_zs_1, mo_ls_e, mo_as_e, mo_na_e, mo_aci_e, mo_acb_e, mo_acj_e, hp_gs, hp_gn, hp_ss, List.getElem?_cons_zero, List.getElem?_cons_succ, List.set_cons_zero, List.set_cons_succ]
  by_cases h1 : tl + 4 * k ≤ 600
  · simp [h1, bI, show ¬ 600 < tl + 4 * k by omega]
  · simp [h1, bI, show 600 < tl + 4 * k by omega]
end
theorem lp_wh {ρ : Type} {N : Nat} {St : Nat → ρ} (hs : ∀ b, b < N → St b = St (b + 1)) : St 0 = St N := by
  have key : ∀ b, b ≤ N → St 0 = St b := by
    intro b
    induction b with
    | zero => exact fun _ => rfl
    | succ b ih => exact fun hb => (ih (by omega)).trans (hs b (by omega))
  exact key N (Nat.le_refl N)
def wkd (w : Int64) : Nat := if w = lN 132264 then 7 else if w = lN 180599091 then 8 else if w = lN 833581 then 9 else if w = lN 5943350 then 10 else if w = lN 457 then 11 else if w = lN 153586866 then 12 else if w = lN 591 then 13 else if w = lN 4545 then 14 else if w = lN 642220 then 15 else if w = lN 12673 then 16 else 2
def wS (t : Nat → Nat) (s i : Nat) (w : Int64) : Int64 := if i < 8 then w ||| (nI (t (s + i)) &&& nI 31).toInt64 <<< ((nI (5 * i)).toInt64 &&& 63) else w
def W5 (t : Nat → Nat) (s m : Nat) : Int64 := lp_it (wS t s) m (lN 0)
def nS (t : Nat → Nat) (s i : Nat) (x : Int32) : Int32 := if i < 3 then x * nI 10 + nI (t (s + i)) - nI 48 else x
def N3 (t : Nat → Nat) (s m : Nat) : Int32 := lp_it (nS t s) m (nI 0)
/-- how many in a row from a place on -/
def rn (p : Nat → Bool) (tl s : Nat) : Nat := fa_first (fun i => !p (s + i)) (tl - s)
theorem rn_in {p : Nat → Bool} {tl s i : Nat} (h : i < rn p tl s) : s + i < tl ∧ p (s + i) = true := by
  have h1 := fa_first_le (fun i => !p (s + i)) (tl - s)
  have h2 := fa_first_no (fun i => !p (s + i)) (tl - s) i h
  unfold rn at h
  refine ⟨by omega, ?_⟩
  simpa using h2
theorem rn_end {p : Nat → Bool} {tl s : Nat} (h : s + rn p tl s < tl) : p (s + rn p tl s) = false := by
  have h2 := fa_first_yes (fun i => !p (s + i)) (tl - s) (by unfold rn at h; omega)
  unfold rn
  simpa using h2
theorem rn_le {p : Nat → Bool} {tl s : Nat} (h : s ≤ tl) : s + rn p tl s ≤ tl := by
  have h1 := fa_first_le (fun i => !p (s + i)) (tl - s)
  unfold rn
  omega
def tkS (t : Nat → Nat) (tl q : Nat) : Nat := q + rn (fun i => blkB (t i)) tl q
def tkL (t : Nat → Nat) (tl s : Nat) : Nat := rn (fun i => letB (t i)) tl s
def tkD (t : Nat → Nat) (tl s : Nat) : Nat := rn (fun i => digB (t i)) tl s
/-- a token that begins at a place: what comes next, its kind, the number, the word -/
def tkA (t : Nat → Nat) (tl s : Nat) (nu : Int32) (wd : Int64) : Nat × Nat × Int32 × Int64 :=
  if ¬ s < tl then (s, 0, nu, wd)
  else if letB (t s) = true then (s + tkL t tl s, if tkL t tl s < 2 ∨ 8 < tkL t tl s then 1 else wkd (W5 t s (tkL t tl s)), nu, W5 t s (tkL t tl s))
  else if digB (t s) = true then (s + tkD t tl s, if 3 < tkD t tl s then 1 else 3, N3 t s (tkD t tl s), wd)
  else (s + 1, sgn (t s), nu, wd)
def tokO (tp nx : Nat) (kd pl nu : Int32) (wd : Int64) (fk fp : Int32) : zz_E := .inr (9, [.ref tp, .int (nI nx), .int kd, .int pl, .int nu, .long wd, .int fk, .int fp])
section
variable {h : zz_H} {a tp nx : Nat} {kd pl nu fk fp : Int32} {wd : Int64}
theorem c_wordKind (ho : hp_g h a = some (tokO tp nx kd pl nu wd fk fp)) : zz_run 28 [.ref a] h = some (some (.int (nI (wkd wd))), h) := by
  unfold tokO at ho
  rw [en28 ho]
  simp (disch := first | assumption | exact zz_nl_i _ | exact zz_nl_r _ | exact zz_nl_n | exact okv_i _ | exact okv_j _ | exact okv_0 | exact okv_1 | exact okv_o _ _ | exact okv_a _ _ | omega | exact llt_0 | ((repeat apply llt_s) <;> exact llt_0) | fail) only [x28_p0, x28_p1, ho, cmp_0, mo_k_v, mo_k_n, mo_v_e, mo_gf_e, mo_pf_e, mo_ia_e, mo_ba_e, mo_za_e, mo_la_e, mo_aa_e, mo_le_e, mo_is_e, mo_bs_e, mo_zs_0, mo_zs_1, mo_ls_e, mo_as_e, mo_na_e, mo_aci_e, mo_acb_e, mo_acj_e, hp_gs, hp_gn, hp_ss, List.getElem?_cons_zero, List.getElem?_cons_succ, List.set_cons_zero, List.set_cons_succ]
  unfold wkd
  split
  · rfl
  · split
    · rfl
    · split
      · rfl
      · split
        · rfl
        · split
          · rfl
          · split
            · rfl
            · split
              · rfl
              · split
                · rfl
                · split
                  · rfl
                  · split <;> rfl
theorem isTape_off {tb : Nat → Int32} {tl b : Nat} {e : zz_E} (ht : isTape h tp tb tl) (h1 : b ≠ tp) (h2 : b ≠ tp + 1) : isTape (hp_s h b e) tp tb tl := ⟨by rw [hp_gn (Ne.symm h1)]; exact ht.1, by rw [hp_gn (Ne.symm h2)]; exact ht.2.1, ht.2.2⟩
theorem c_readWord (ho : hp_g h a = some (tokO tp nx kd pl nu wd fk fp)) {tb : Nat → Int32} {tl : Nat} {t : Nat → Nat} (ht : isTape h tp tb tl) (hb : byt tb t) (ha1 : a ≠ tp) (ha2 : a ≠ tp + 1) (hn : nx ≤ tl) : zz_run 27 [.ref a] h = some (none, hp_s h a (tokO tp (nx + tkL t tl nx) (nI (if tkL t tl nx < 2 ∨ 8 < tkL t tl nx then 1 else wkd (W5 t nx (tkL t tl nx)))) pl nu (W5 t nx (tkL t tl nx)) fk fp)) := by
  have t2 := ht.2.2
  have step : ∀ i w, i < tkL t tl nx → zz_Y 27 (7, [some (.ref (a)), some (.int (nI (i)))], [], hp_s h a (tokO tp (nx + i) kd pl nu w fk fp)) = zz_Y 27 (7, [some (.ref (a)), some (.int (nI (i + 1)))], [], hp_s h a (tokO tp (nx + (i + 1)) kd pl nu (wS t nx i w) fk fp)) := by
    intro i w hi
    obtain ⟨h1, h2⟩ := rn_in hi
    have ht' := isTape_off (e := tokO tp (nx + i) kd pl nu w fk fp) ht ha1 ha2
    have e1 := c_byteAt ht' hb h1
    have e2 := c_isLetter (hb (nx + i) (by omega)).2
    have t0 := ht'.1
    rw [x27_c7]
    unfold wS
    unfold tokO at *
    by_cases h8 : i < 8
    · simp (disch := first | assumption | exact zz_nl_i _ | exact zz_nl_r _ | exact zz_nl_n | exact okv_i _ | exact okv_j _ | exact okv_0 | exact okv_1 | exact okv_o _ _ | exact okv_a _ _ | omega | exact llt_0 | ((repeat apply llt_s) <;> exact llt_0) | fail) only [x27, t0, nI_ltI, h1, if_true, e1, e2, h2, bI_t, nI_01, if_false, nI_add, pk_mul, h8, mo_k_v, mo_k_n, mo_v_e, mo_gf_e, mo_pf_e, mo_ia_e, mo_ba_e, mo_za_e, mo_la_e, mo_aa_e, mo_le_e, mo_is_e, mo_bs_e, mo_zs_0, mo_zs_1, mo_ls_e, mo_as_e, mo_na_e, mo_aci_e, mo_acb_e, mo_acj_e, hp_gs, hp_gn, hp_ss, List.getElem?_cons_zero, List.getElem?_cons_succ, List.set_cons_zero, List.set_cons_succ]
      rfl
    · simp (disch := first | assumption | exact zz_nl_i _ | exact zz_nl_r _ | exact zz_nl_n | exact okv_i _ | exact okv_j _ | exact okv_0 | exact okv_1 | exact okv_o _ _ | exact okv_a _ _ | omega | exact llt_0 | ((repeat apply llt_s) <;> exact llt_0) | fail) only [x27, t0, nI_ltI, h1, if_true, e1, e2, h2, bI_t, nI_01, if_false, nI_add, pk_mul, h8, mo_k_v, mo_k_n, mo_v_e, mo_gf_e, mo_pf_e, mo_ia_e, mo_ba_e, mo_za_e, mo_la_e, mo_aa_e, mo_le_e, mo_is_e, mo_bs_e, mo_zs_0, mo_zs_1, mo_ls_e, mo_as_e, mo_na_e, mo_aci_e, mo_acb_e, mo_acj_e, hp_gs, hp_gn, hp_ss, List.getElem?_cons_zero, List.getElem?_cons_succ, List.set_cons_zero, List.set_cons_succ]
      rfl
  have hle := rn_le (p := fun i => letB (t i)) hn
  change nx + tkL t tl nx ≤ tl at hle
  have ho' := ho
  unfold tokO at ho'
  rw [en27 ho']
  simp (disch := first | assumption | exact zz_nl_i _ | exact zz_nl_r _ | exact zz_nl_n | exact okv_i _ | exact okv_j _ | exact okv_0 | exact okv_1 | exact okv_o _ _ | exact okv_a _ _ | omega | exact llt_0 | ((repeat apply llt_s) <;> exact llt_0) | fail) only [x27, ho', mo_k_v, mo_k_n, mo_v_e, mo_gf_e, mo_pf_e, mo_ia_e, mo_ba_e, mo_za_e, mo_la_e, mo_aa_e, mo_le_e, mo_is_e, mo_bs_e, mo_zs_0, mo_zs_1, mo_ls_e, mo_as_e, mo_na_e, mo_aci_e, mo_acb_e, mo_acj_e, hp_gs, hp_gn, hp_ss, List.getElem?_cons_zero, List.getElem?_cons_succ, List.set_cons_zero, List.set_cons_succ]
  refine (lp_fold (N := tkL t tl nx) (St := fun i w => zz_Y 27 (7, [some (.ref (a)), some (.int (nI (i)))], [], hp_s h a (tokO tp (nx + i) kd pl nu w fk fp))) step).trans ?_
  have ew : lp_it (wS t nx) (tkL t tl nx) (lN 0) = W5 t nx (tkL t tl nx) := rfl
  rw [ew]
  try dsimp only
  have ht' := isTape_off (e := tokO tp (nx + tkL t tl nx) kd pl nu (W5 t nx (tkL t tl nx)) fk fp) ht ha1 ha2
  have t0 := ht'.1
  have ek := c_wordKind (hp_gs h a (tokO tp (nx + tkL t tl nx) kd pl nu (W5 t nx (tkL t tl nx)) fk fp))
  rw [x27_c7]
  by_cases h0 : nx + tkL t tl nx < tl
  · have e1 := c_byteAt ht' hb h0
    have e2 := c_isLetter (hb (nx + tkL t tl nx) (by omega)).2
    have e3 : letB (t (nx + tkL t tl nx)) = false := rn_end (p := fun i => letB (t i)) h0
    unfold tokO at *
    by_cases h1 : tkL t tl nx < 2
    · simp (disch := first | assumption | exact zz_nl_i _ | exact zz_nl_r _ | exact zz_nl_n | exact okv_i _ | exact okv_j _ | exact okv_0 | exact okv_1 | exact okv_o _ _ | exact okv_a _ _ | omega | exact llt_0 | ((repeat apply llt_s) <;> exact llt_0) | fail) only [x27, t0, nI_ltI, h0, e1, e2, e3, bI_f, h1, if_true, true_or, mo_k_v, mo_k_n, mo_v_e, mo_gf_e, mo_pf_e, mo_ia_e, mo_ba_e, mo_za_e, mo_la_e, mo_aa_e, mo_le_e, mo_is_e, mo_bs_e, mo_zs_0, mo_zs_1, mo_ls_e, mo_as_e, mo_na_e, mo_aci_e, mo_acb_e, mo_acj_e, hp_gs, hp_gn, hp_ss, List.getElem?_cons_zero, List.getElem?_cons_succ, List.set_cons_zero, List.set_cons_succ]
    · by_cases h2 : 8 < tkL t tl nx
      · simp (disch := first | assumption | exact zz_nl_i _ | exact zz_nl_r _ | exact zz_nl_n | exact okv_i _ | exact okv_j _ | exact okv_0 | exact okv_1 | exact okv_o _ _ | exact okv_a _ _ | omega | exact llt_0 | ((repeat apply llt_s) <;> exact llt_0) | fail) only [x27, t0, nI_ltI, h0, e1, e2, e3, bI_f, h1, h2, if_true, if_false, or_true, mo_k_v, mo_k_n, mo_v_e, mo_gf_e, mo_pf_e, mo_ia_e, mo_ba_e, mo_za_e, mo_la_e, mo_aa_e, mo_le_e, mo_is_e, mo_bs_e, mo_zs_0, mo_zs_1, mo_ls_e, mo_as_e, mo_na_e, mo_aci_e, mo_acb_e, mo_acj_e, hp_gs, hp_gn, hp_ss, List.getElem?_cons_zero, List.getElem?_cons_succ, List.set_cons_zero, List.set_cons_succ]
      · simp (disch := first | assumption | exact zz_nl_i _ | exact zz_nl_r _ | exact zz_nl_n | exact okv_i _ | exact okv_j _ | exact okv_0 | exact okv_1 | exact okv_o _ _ | exact okv_a _ _ | omega | exact llt_0 | ((repeat apply llt_s) <;> exact llt_0) | fail) only [x27, t0, nI_ltI, h0, e1, e2, e3, bI_f, h1, h2, if_true, if_false, or_self, ek, mo_k_v, mo_k_n, mo_v_e, mo_gf_e, mo_pf_e, mo_ia_e, mo_ba_e, mo_za_e, mo_la_e, mo_aa_e, mo_le_e, mo_is_e, mo_bs_e, mo_zs_0, mo_zs_1, mo_ls_e, mo_as_e, mo_na_e, mo_aci_e, mo_acb_e, mo_acj_e, hp_gs, hp_gn, hp_ss, List.getElem?_cons_zero, List.getElem?_cons_succ, List.set_cons_zero, List.set_cons_succ]
  · unfold tokO at *
    by_cases h1 : tkL t tl nx < 2
    · simp (disch := first | assumption | exact zz_nl_i _ | exact zz_nl_r _ | exact zz_nl_n | exact okv_i _ | exact okv_j _ | exact okv_0 | exact okv_1 | exact okv_o _ _ | exact okv_a _ _ | omega | exact llt_0 | ((repeat apply llt_s) <;> exact llt_0) | fail) only [x27, t0, nI_ltI, h0, h1, if_true, if_false, true_or, mo_k_v, mo_k_n, mo_v_e, mo_gf_e, mo_pf_e, mo_ia_e, mo_ba_e, mo_za_e, mo_la_e, mo_aa_e, mo_le_e, mo_is_e, mo_bs_e, mo_zs_0, mo_zs_1, mo_ls_e, mo_as_e, mo_na_e, mo_aci_e, mo_acb_e, mo_acj_e, hp_gs, hp_gn, hp_ss, List.getElem?_cons_zero, List.getElem?_cons_succ, List.set_cons_zero, List.set_cons_succ]
    · by_cases h2 : 8 < tkL t tl nx
      · simp (disch := first | assumption | exact zz_nl_i _ | exact zz_nl_r _ | exact zz_nl_n | exact okv_i _ | exact okv_j _ | exact okv_0 | exact okv_1 | exact okv_o _ _ | exact okv_a _ _ | omega | exact llt_0 | ((repeat apply llt_s) <;> exact llt_0) | fail) only [x27, t0, nI_ltI, h0, h1, h2, if_true, if_false, or_true, mo_k_v, mo_k_n, mo_v_e, mo_gf_e, mo_pf_e, mo_ia_e, mo_ba_e, mo_za_e, mo_la_e, mo_aa_e, mo_le_e, mo_is_e, mo_bs_e, mo_zs_0, mo_zs_1, mo_ls_e, mo_as_e, mo_na_e, mo_aci_e, mo_acb_e, mo_acj_e, hp_gs, hp_gn, hp_ss, List.getElem?_cons_zero, List.getElem?_cons_succ, List.set_cons_zero, List.set_cons_succ]
      · simp (disch := first | assumption | exact zz_nl_i _ | exact zz_nl_r _ | exact zz_nl_n | exact okv_i _ | exact okv_j _ | exact okv_0 | exact okv_1 | exact okv_o _ _ | exact okv_a _ _ | omega | exact llt_0 | ((repeat apply llt_s) <;> exact llt_0) | fail) only [x27, t0, nI_ltI, h0, h1, h2, if_true, if_false, or_self, ek, mo_k_v, mo_k_n, mo_v_e, mo_gf_e, mo_pf_e, mo_ia_e, mo_ba_e, mo_za_e, mo_la_e, mo_aa_e, mo_le_e, mo_is_e, mo_bs_e, mo_zs_0, mo_zs_1, mo_ls_e, mo_as_e, mo_na_e, mo_aci_e, mo_acb_e, mo_acj_e, hp_gs, hp_gn, hp_ss, List.getElem?_cons_zero, List.getElem?_cons_succ, List.set_cons_zero, List.set_cons_succ]
theorem c_readNumber (ho : hp_g h a = some (tokO tp nx kd pl nu wd fk fp)) {tb : Nat → Int32} {tl : Nat} {t : Nat → Nat} (ht : isTape h tp tb tl) (hb : byt tb t) (ha1 : a ≠ tp) (ha2 : a ≠ tp + 1) (hn : nx ≤ tl) : zz_run 30 [.ref a] h = some (none, hp_s h a (tokO tp (nx + tkD t tl nx) (nI (if 3 < tkD t tl nx then 1 else 3)) pl (N3 t nx (tkD t tl nx)) wd fk fp)) := by
  have t2 := ht.2.2
  have step : ∀ i w, i < tkD t tl nx → zz_Y 30 (7, [some (.ref (a)), some (.int (nI (i)))], [], hp_s h a (tokO tp (nx + i) kd pl w wd fk fp)) = zz_Y 30 (7, [some (.ref (a)), some (.int (nI (i + 1)))], [], hp_s h a (tokO tp (nx + (i + 1)) kd pl (nS t nx i w) wd fk fp)) := by
    intro i w hi
    obtain ⟨h1, h2⟩ := rn_in hi
    have ht' := isTape_off (e := tokO tp (nx + i) kd pl w wd fk fp) ht ha1 ha2
    have e1 := c_byteAt ht' hb h1
    have e2 := c_isDigit (hb (nx + i) (by omega)).2
    have t0 := ht'.1
    rw [x30_c7]
    unfold nS
    unfold tokO at *
    by_cases h8 : i < 3
    · simp (disch := first | assumption | exact zz_nl_i _ | exact zz_nl_r _ | exact zz_nl_n | exact okv_i _ | exact okv_j _ | exact okv_0 | exact okv_1 | exact okv_o _ _ | exact okv_a _ _ | omega | exact llt_0 | ((repeat apply llt_s) <;> exact llt_0) | fail) only [x30, t0, nI_ltI, h1, if_true, e1, e2, h2, bI_t, nI_01, if_false, nI_add, h8, mo_k_v, mo_k_n, mo_v_e, mo_gf_e, mo_pf_e, mo_ia_e, mo_ba_e, mo_za_e, mo_la_e, mo_aa_e, mo_le_e, mo_is_e, mo_bs_e, mo_zs_0, mo_zs_1, mo_ls_e, mo_as_e, mo_na_e, mo_aci_e, mo_acb_e, mo_acj_e, hp_gs, hp_gn, hp_ss, List.getElem?_cons_zero, List.getElem?_cons_succ, List.set_cons_zero, List.set_cons_succ]
      rfl
    · simp (disch := first | assumption | exact zz_nl_i _ | exact zz_nl_r _ | exact zz_nl_n | exact okv_i _ | exact okv_j _ | exact okv_0 | exact okv_1 | exact okv_o _ _ | exact okv_a _ _ | omega | exact llt_0 | ((repeat apply llt_s) <;> exact llt_0) | fail) only [x30, t0, nI_ltI, h1, if_true, e1, e2, h2, bI_t, nI_01, if_false, nI_add, h8, mo_k_v, mo_k_n, mo_v_e, mo_gf_e, mo_pf_e, mo_ia_e, mo_ba_e, mo_za_e, mo_la_e, mo_aa_e, mo_le_e, mo_is_e, mo_bs_e, mo_zs_0, mo_zs_1, mo_ls_e, mo_as_e, mo_na_e, mo_aci_e, mo_acb_e, mo_acj_e, hp_gs, hp_gn, hp_ss, List.getElem?_cons_zero, List.getElem?_cons_succ, List.set_cons_zero, List.set_cons_succ]
      rfl
  have hle := rn_le (p := fun i => digB (t i)) hn
  change nx + tkD t tl nx ≤ tl at hle
  have ho' := ho
  unfold tokO at ho'
  rw [en30 ho']
  simp (disch := first | assumption | exact zz_nl_i _ | exact zz_nl_r _ | exact zz_nl_n | exact okv_i _ | exact okv_j _ | exact okv_0 | exact okv_1 | exact okv_o _ _ | exact okv_a _ _ | omega | exact llt_0 | ((repeat apply llt_s) <;> exact llt_0) | fail) only [x30, ho', mo_k_v, mo_k_n, mo_v_e, mo_gf_e, mo_pf_e, mo_ia_e, mo_ba_e, mo_za_e, mo_la_e, mo_aa_e, mo_le_e, mo_is_e, mo_bs_e, mo_zs_0, mo_zs_1, mo_ls_e, mo_as_e, mo_na_e, mo_aci_e, mo_acb_e, mo_acj_e, hp_gs, hp_gn, hp_ss, List.getElem?_cons_zero, List.getElem?_cons_succ, List.set_cons_zero, List.set_cons_succ]
  refine (lp_fold (N := tkD t tl nx) (St := fun i w => zz_Y 30 (7, [some (.ref (a)), some (.int (nI (i)))], [], hp_s h a (tokO tp (nx + i) kd pl w wd fk fp))) step).trans ?_
  have ew : lp_it (nS t nx) (tkD t tl nx) (nI 0) = N3 t nx (tkD t tl nx) := rfl
  rw [ew]
  try dsimp only
  have ht' := isTape_off (e := tokO tp (nx + tkD t tl nx) kd pl (N3 t nx (tkD t tl nx)) wd fk fp) ht ha1 ha2
  have t0 := ht'.1
  rw [x30_c7]
  by_cases h0 : nx + tkD t tl nx < tl
  · have e1 := c_byteAt ht' hb h0
    have e2 := c_isDigit (hb (nx + tkD t tl nx) (by omega)).2
    have e3 : digB (t (nx + tkD t tl nx)) = false := rn_end (p := fun i => digB (t i)) h0
    unfold tokO at *
    by_cases h1 : 3 < tkD t tl nx
    · simp (disch := first | assumption | exact zz_nl_i _ | exact zz_nl_r _ | exact zz_nl_n | exact okv_i _ | exact okv_j _ | exact okv_0 | exact okv_1 | exact okv_o _ _ | exact okv_a _ _ | omega | exact llt_0 | ((repeat apply llt_s) <;> exact llt_0) | fail) only [x30, t0, nI_ltI, h0, e1, e2, e3, bI_f, h1, if_true, mo_k_v, mo_k_n, mo_v_e, mo_gf_e, mo_pf_e, mo_ia_e, mo_ba_e, mo_za_e, mo_la_e, mo_aa_e, mo_le_e, mo_is_e, mo_bs_e, mo_zs_0, mo_zs_1, mo_ls_e, mo_as_e, mo_na_e, mo_aci_e, mo_acb_e, mo_acj_e, hp_gs, hp_gn, hp_ss, List.getElem?_cons_zero, List.getElem?_cons_succ, List.set_cons_zero, List.set_cons_succ]
    · simp (disch := first | assumption | exact zz_nl_i _ | exact zz_nl_r _ | exact zz_nl_n | exact okv_i _ | exact okv_j _ | exact okv_0 | exact okv_1 | exact okv_o _ _ | exact okv_a _ _ | omega | exact llt_0 | ((repeat apply llt_s) <;> exact llt_0) | fail) only [x30, t0, nI_ltI, h0, e1, e2, e3, bI_f, h1, if_true, if_false, mo_k_v, mo_k_n, mo_v_e, mo_gf_e, mo_pf_e, mo_ia_e, mo_ba_e, mo_za_e, mo_la_e, mo_aa_e, mo_le_e, mo_is_e, mo_bs_e, mo_zs_0, mo_zs_1, mo_ls_e, mo_as_e, mo_na_e, mo_aci_e, mo_acb_e, mo_acj_e, hp_gs, hp_gn, hp_ss, List.getElem?_cons_zero, List.getElem?_cons_succ, List.set_cons_zero, List.set_cons_succ]
  · unfold tokO at *
    by_cases h1 : 3 < tkD t tl nx
    · simp (disch := first | assumption | exact zz_nl_i _ | exact zz_nl_r _ | exact zz_nl_n | exact okv_i _ | exact okv_j _ | exact okv_0 | exact okv_1 | exact okv_o _ _ | exact okv_a _ _ | omega | exact llt_0 | ((repeat apply llt_s) <;> exact llt_0) | fail) only [x30, t0, nI_ltI, h0, h1, if_true, if_false, mo_k_v, mo_k_n, mo_v_e, mo_gf_e, mo_pf_e, mo_ia_e, mo_ba_e, mo_za_e, mo_la_e, mo_aa_e, mo_le_e, mo_is_e, mo_bs_e, mo_zs_0, mo_zs_1, mo_ls_e, mo_as_e, mo_na_e, mo_aci_e, mo_acb_e, mo_acj_e, hp_gs, hp_gn, hp_ss, List.getElem?_cons_zero, List.getElem?_cons_succ, List.set_cons_zero, List.set_cons_succ]
    · simp (disch := first | assumption | exact zz_nl_i _ | exact zz_nl_r _ | exact zz_nl_n | exact okv_i _ | exact okv_j _ | exact okv_0 | exact okv_1 | exact okv_o _ _ | exact okv_a _ _ | omega | exact llt_0 | ((repeat apply llt_s) <;> exact llt_0) | fail) only [x30, t0, nI_ltI, h0, h1, if_true, if_false, mo_k_v, mo_k_n, mo_v_e, mo_gf_e, mo_pf_e, mo_ia_e, mo_ba_e, mo_za_e, mo_la_e, mo_aa_e, mo_le_e, mo_is_e, mo_bs_e, mo_zs_0, mo_zs_1, mo_ls_e, mo_as_e, mo_na_e, mo_aci_e, mo_acb_e, mo_acj_e, hp_gs, hp_gn, hp_ss, List.getElem?_cons_zero, List.getElem?_cons_succ, List.set_cons_zero, List.set_cons_succ]
theorem c_step (ho : hp_g h a = some (tokO tp nx kd pl nu wd fk fp)) {tb : Nat → Int32} {tl : Nat} {t : Nat → Nat} (ht : isTape h tp tb tl) (hb : byt tb t) (ha1 : a ≠ tp) (ha2 : a ≠ tp + 1) (hn : nx ≤ tl) : zz_run 23 [.ref a] h = some (none, hp_s h a (tokO tp (tkA t tl (tkS t tl nx) nu wd).1 (nI (tkA t tl (tkS t tl nx) nu wd).2.1) (nI (tkS t tl nx)) (tkA t tl (tkS t tl nx) nu wd).2.2.1 (tkA t tl (tkS t tl nx) nu wd).2.2.2 fk fp)) := by
  have t2 := ht.2.2
  have step : ∀ i, i < rn (fun i => blkB (t i)) tl nx → zz_Y 23 (0, [some (.ref (a)), none], [], hp_s h a (tokO tp (nx + i) kd pl nu wd fk fp)) = zz_Y 23 (0, [some (.ref (a)), none], [], hp_s h a (tokO tp (nx + (i + 1)) kd pl nu wd fk fp)) := by
    intro i hi
    obtain ⟨h1, h2⟩ := rn_in hi
    have ht' := isTape_off (e := tokO tp (nx + i) kd pl nu wd fk fp) ht ha1 ha2
    have e1 := c_byteAt ht' hb h1
    have e2 := c_isBlank (hb (nx + i) (by omega)).2
    have t0 := ht'.1
    rw [x23_c0]
    unfold tokO at *
    simp (disch := first | assumption | exact zz_nl_i _ | exact zz_nl_r _ | exact zz_nl_n | exact okv_i _ | exact okv_j _ | exact okv_0 | exact okv_1 | exact okv_o _ _ | exact okv_a _ _ | omega | exact llt_0 | ((repeat apply llt_s) <;> exact llt_0) | fail) only [x23, t0, nI_ltI, h1, if_true, e1, e2, h2, bI_t, nI_01, if_false, nI_add, mo_k_v, mo_k_n, mo_v_e, mo_gf_e, mo_pf_e, mo_ia_e, mo_ba_e, mo_za_e, mo_la_e, mo_aa_e, mo_le_e, mo_is_e, mo_bs_e, mo_zs_0, mo_zs_1, mo_ls_e, mo_as_e, mo_na_e, mo_aci_e, mo_acb_e, mo_acj_e, hp_gs, hp_gn, hp_ss, List.getElem?_cons_zero, List.getElem?_cons_succ, List.set_cons_zero, List.set_cons_succ]
    rfl
  have hle := rn_le (p := fun i => blkB (t i)) hn
  have ho' := ho
  unfold tokO at ho'
  rw [en23 ho']
  have e0 : zz_Y 23 (0, [some (.ref (a)), none], [], h) = zz_Y 23 (0, [some (.ref (a)), none], [], hp_s h a (tokO tp (nx + 0) kd pl nu wd fk fp)) := by
    rw [Nat.add_zero, hp_same ho]
  refine e0.trans ?_
  refine (lp_wh (N := rn (fun i => blkB (t i)) tl nx) (St := fun i => zz_Y 23 (0, [some (.ref (a)), none], [], hp_s h a (tokO tp (nx + i) kd pl nu wd fk fp))) step).trans ?_
  try dsimp only
  have es : nx + rn (fun i => blkB (t i)) tl nx = tkS t tl nx := rfl
  have hend : tkS t tl nx < tl → blkB (t (tkS t tl nx)) = false := fun hh => rn_end (p := fun i => blkB (t i)) hh
  rw [es] at hle ⊢
  generalize tkS t tl nx = s at hle hend ⊢
  have ht' := isTape_off (e := tokO tp s kd pl nu wd fk fp) ht ha1 ha2
  have ht2 := isTape_off (e := tokO tp s kd (nI s) nu wd fk fp) ht ha1 ha2
  have t0 := ht'.1
  have t02 := ht2.1
  rw [x23_c0]
  unfold tkA
  by_cases h0 : s < tl
  · have e1 := c_byteAt ht' hb h0
    have e1' := c_byteAt ht2 hb h0
    have hc := (hb s (by omega)).2
    have e2 := c_isBlank hc
    have e3 := c_isLetter hc
    have e4 := c_isDigit hc
    have e5 := c_signKind hc
    have e6 := hend h0
    have m1 := nI_m1 (show t s < 2147483648 by omega)
    have r1 := c_readWord (hp_gs h a (tokO tp s kd (nI s) nu wd fk fp)) ht2 hb ha1 ha2 hle
    have r2 := c_readNumber (hp_gs h a (tokO tp s kd (nI s) nu wd fk fp)) ht2 hb ha1 ha2 hle
    cases h3 : letB (t s)
    · cases h4 : digB (t s)
      · unfold tokO at *
        simp (disch := first | assumption | exact zz_nl_i _ | exact zz_nl_r _ | exact zz_nl_n | exact okv_i _ | exact okv_j _ | exact okv_0 | exact okv_1 | exact okv_o _ _ | exact okv_a _ _ | omega | exact llt_0 | ((repeat apply llt_s) <;> exact llt_0) | fail) only [x23, t0, t02, nI_ltI, h0, if_true, if_false, e1, e1', e2, e6, bI_f, m1, e3, h3, e4, h4, e5, nI_add, not_true, Bool.false_eq_true, mo_k_v, mo_k_n, mo_v_e, mo_gf_e, mo_pf_e, mo_ia_e, mo_ba_e, mo_za_e, mo_la_e, mo_aa_e, mo_le_e, mo_is_e, mo_bs_e, mo_zs_0, mo_zs_1, mo_ls_e, mo_as_e, mo_na_e, mo_aci_e, mo_acb_e, mo_acj_e, hp_gs, hp_gn, hp_ss, List.getElem?_cons_zero, List.getElem?_cons_succ, List.set_cons_zero, List.set_cons_succ]
      · unfold tokO at *
        simp (disch := first | assumption | exact zz_nl_i _ | exact zz_nl_r _ | exact zz_nl_n | exact okv_i _ | exact okv_j _ | exact okv_0 | exact okv_1 | exact okv_o _ _ | exact okv_a _ _ | omega | exact llt_0 | ((repeat apply llt_s) <;> exact llt_0) | fail) only [x23, t0, t02, nI_ltI, h0, if_true, if_false, e1, e1', e2, e6, bI_f, bI_t, nI_01, m1, e3, h3, e4, h4, r2, not_true, Bool.false_eq_true, mo_k_v, mo_k_n, mo_v_e, mo_gf_e, mo_pf_e, mo_ia_e, mo_ba_e, mo_za_e, mo_la_e, mo_aa_e, mo_le_e, mo_is_e, mo_bs_e, mo_zs_0, mo_zs_1, mo_ls_e, mo_as_e, mo_na_e, mo_aci_e, mo_acb_e, mo_acj_e, hp_gs, hp_gn, hp_ss, List.getElem?_cons_zero, List.getElem?_cons_succ, List.set_cons_zero, List.set_cons_succ]
    · unfold tokO at *
      simp (disch := first | assumption | exact zz_nl_i _ | exact zz_nl_r _ | exact zz_nl_n | exact okv_i _ | exact okv_j _ | exact okv_0 | exact okv_1 | exact okv_o _ _ | exact okv_a _ _ | omega | exact llt_0 | ((repeat apply llt_s) <;> exact llt_0) | fail) only [x23, t0, t02, nI_ltI, h0, if_true, if_false, e1, e1', e2, e6, bI_f, bI_t, nI_01, m1, e3, h3, r1, not_true, mo_k_v, mo_k_n, mo_v_e, mo_gf_e, mo_pf_e, mo_ia_e, mo_ba_e, mo_za_e, mo_la_e, mo_aa_e, mo_le_e, mo_is_e, mo_bs_e, mo_zs_0, mo_zs_1, mo_ls_e, mo_as_e, mo_na_e, mo_aci_e, mo_acb_e, mo_acj_e, hp_gs, hp_gn, hp_ss, List.getElem?_cons_zero, List.getElem?_cons_succ, List.set_cons_zero, List.set_cons_succ]
  · have e1 := c_byteNo ht2 h0 (by omega)
    unfold tokO at *
    simp (disch := first | assumption | exact zz_nl_i _ | exact zz_nl_r _ | exact zz_nl_n | exact okv_i _ | exact okv_j _ | exact okv_0 | exact okv_1 | exact okv_o _ _ | exact okv_a _ _ | omega | exact llt_0 | ((repeat apply llt_s) <;> exact llt_0) | fail) only [x23, t0, t02, nI_ltI, h0, if_true, if_false, e1, not_false_iff, mo_k_v, mo_k_n, mo_v_e, mo_gf_e, mo_pf_e, mo_ia_e, mo_ba_e, mo_za_e, mo_la_e, mo_aa_e, mo_le_e, mo_is_e, mo_bs_e, mo_zs_0, mo_zs_1, mo_ls_e, mo_as_e, mo_na_e, mo_aci_e, mo_acb_e, mo_acj_e, hp_gs, hp_gn, hp_ss, List.getElem?_cons_zero, List.getElem?_cons_succ, List.set_cons_zero, List.set_cons_succ]
theorem c_fail (ho : hp_g h a = some (tokO tp nx kd pl nu wd fk fp)) (x : Int32) : zz_run 35 [.ref a, .int x] h = some (some (.int (nI 0)), hp_s h a (tokO tp nx kd pl nu wd x pl)) := by
  unfold tokO at *
  rw [en35 ho]
  simp (disch := first | assumption | exact zz_nl_i _ | exact zz_nl_r _ | exact zz_nl_n | exact okv_i _ | exact okv_j _ | exact okv_0 | exact okv_1 | exact okv_o _ _ | exact okv_a _ _ | omega | exact llt_0 | ((repeat apply llt_s) <;> exact llt_0) | fail) only [x35, xb35, ho, mo_k_v, mo_k_n, mo_v_e, mo_gf_e, mo_pf_e, mo_ia_e, mo_ba_e, mo_za_e, mo_la_e, mo_aa_e, mo_le_e, mo_is_e, mo_bs_e, mo_zs_0, mo_zs_1, mo_ls_e, mo_as_e, mo_na_e, mo_aci_e, mo_acb_e, mo_acj_e, hp_gs, hp_gn, hp_ss, List.getElem?_cons_zero, List.getElem?_cons_succ, List.set_cons_zero, List.set_cons_succ]
end
