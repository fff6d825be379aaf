/-! the class: tokens and small readers -/
def kdP (t : Nat → Nat) (tl s : Nat) : Nat := (tkA t tl s 0 0).2.1
def nxP (t : Nat → Nat) (tl s : Nat) : Nat := (tkA t tl s 0 0).1
def advP (t : Nat → Nat) (tl s : Nat) : Nat := tkS t tl (nxP t tl s)
def isW (k : Nat) : Prop := k = 2 ∨ 7 ≤ k
def wP (t : Nat → Nat) (tl s : Nat) : Int64 := W5 t s (tkL t tl s)
def nP (t : Nat → Nat) (tl s : Nat) : Int32 := N3 t s (tkD t tl s)
theorem wkd_cases (w : Int64) : isW (wkd w) ∧ wkd w ≤ 16 := by
  unfold wkd isW
  repeat' split
  all_goals omega
theorem sgn_cases (c : Nat) : sgn c = 1 ∨ sgn c = 4 ∨ sgn c = 5 ∨ sgn c = 6 := by
  unfold sgn
  repeat' split
  all_goals omega
theorem tk_ind (t : Nat → Nat) (tl s : Nat) (nu : Int32) (wd : Int64) : (tkA t tl s nu wd).1 = nxP t tl s ∧ (tkA t tl s nu wd).2.1 = kdP t tl s ∧ (kdP t tl s = 3 → (tkA t tl s nu wd).2.2.1 = nP t tl s) ∧ (isW (kdP t tl s) → (tkA t tl s nu wd).2.2.2 = wP t tl s) := by
  unfold nxP kdP nP wP tkA
  by_cases h1 : ¬ s < tl
  · simp only [if_pos h1]
    exact ⟨trivial, trivial, fun c => by omega, fun c => by unfold isW at c; omega⟩
  · simp only [if_neg h1]
    by_cases h2 : letB (t s) = true
    · simp only [if_pos h2]
      refine ⟨trivial, trivial, fun c => ?_, fun _ => trivial⟩
      have := wkd_cases (W5 t s (tkL t tl s))
      unfold isW at this
      split at c <;> omega
    · simp only [if_neg h2]
      by_cases h3 : digB (t s) = true
      · simp only [if_pos h3]
        refine ⟨trivial, trivial, fun _ => trivial, fun c => ?_⟩
        unfold isW at c
        split at c <;> omega
      · simp only [if_neg h3]
        have := sgn_cases (t s)
        refine ⟨trivial, trivial, fun c => by omega, fun c => ?_⟩
        unfold isW at c
        omega
theorem kd_le (t : Nat → Nat) (tl s : Nat) : kdP t tl s ≤ 16 := by
  unfold kdP tkA
  have h1 := (wkd_cases (W5 t s (tkL t tl s))).2
  have h2 := sgn_cases (t s)
  repeat' split
  all_goals (dsimp only; omega)
theorem nx_le {t : Nat → Nat} {tl s : Nat} (hs : s ≤ tl) : s ≤ nxP t tl s ∧ nxP t tl s ≤ tl ∧ (s < tl → s < nxP t tl s) := by
  unfold nxP tkA
  by_cases h1 : ¬ s < tl
  · rw [if_pos h1]
    exact ⟨Nat.le_refl _, hs, fun c => absurd c h1⟩
  · rw [if_neg h1]
    have hlt : s < tl := by omega
    by_cases h2 : letB (t s) = true
    · rw [if_pos h2]
      dsimp only
      have e1 := rn_le (p := fun i => letB (t i)) hs
      have e2 : tkL t tl s ≠ 0 := fun c => by
        have e := rn_end (p := fun i => letB (t i)) (tl := tl) (s := s) (by unfold tkL at c; rw [c]; omega)
        unfold tkL at c
        rw [c] at e
        rw [Nat.add_zero, h2] at e
        cases e
      unfold tkL at *
      exact ⟨by omega, e1, fun _ => by omega⟩
    · rw [if_neg h2]
      by_cases h3 : digB (t s) = true
      · rw [if_pos h3]
        dsimp only
        have e1 := rn_le (p := fun i => digB (t i)) hs
        have e2 : tkD t tl s ≠ 0 := fun c => by
          have e := rn_end (p := fun i => digB (t i)) (tl := tl) (s := s) (by unfold tkD at c; rw [c]; omega)
          unfold tkD at c
          rw [c] at e
          rw [Nat.add_zero, h3] at e
          cases e
        unfold tkD at *
        exact ⟨by omega, e1, fun _ => by omega⟩
      · rw [if_neg h3]
        dsimp only
        exact ⟨by omega, by omega, fun _ => by omega⟩
theorem tkS_le {t : Nat → Nat} {tl q : Nat} (hq : q ≤ tl) : q ≤ tkS t tl q ∧ tkS t tl q ≤ tl := by
  have := rn_le (p := fun i => blkB (t i)) hq
  unfold tkS
  exact ⟨by omega, this⟩
theorem adv_le {t : Nat → Nat} {tl s : Nat} (hs : s ≤ tl) : s ≤ advP t tl s ∧ advP t tl s ≤ tl ∧ (s < tl → s < advP t tl s) := by
  obtain ⟨h1, h2, h3⟩ := nx_le (t := t) hs
  obtain ⟨h4, h5⟩ := tkS_le (t := t) h2
  unfold advP
  exact ⟨by omega, h5, fun c => by have := h3 c; omega⟩
theorem kd_stop {t : Nat → Nat} {tl s : Nat} (hs : s ≤ tl) : kdP t tl s = 0 ↔ s = tl := by
  unfold kdP tkA
  have h1 := (wkd_cases (W5 t s (tkL t tl s))).1
  have h2 := sgn_cases (t s)
  unfold isW at h1
  constructor
  · intro e
    split at e
    · omega
    · exfalso
      repeat' split at e
      all_goals (dsimp only at e; omega)
  · intro e
    rw [if_pos (by omega)]
def isTk (h : zz_H) (a : Nat) (t : Nat → Nat) (tl s : Nat) (fk fp : Int32) : Prop := ∃ nu wd, hp_g h a = some (tokO (a + 1) (nxP t tl s) (nI (kdP t tl s)) (nI s) nu wd fk fp) ∧ (kdP t tl s = 3 → nu = nP t tl s) ∧ (isW (kdP t tl s) → wd = wP t tl s) ∧ s ≤ tl
theorem isTk_sam {h k : zz_H} {a : Nat} {t : Nat → Nat} {tl s : Nat} {fk fp : Int32} (ht : isTk h a t tl s fk fp) (hk : hp_g k a = hp_g h a) : isTk k a t tl s fk fp := by
  obtain ⟨nu, wd, h1, h2⟩ := ht
  exact ⟨nu, wd, hk.trans h1, h2⟩
theorem frm_ss {h k : zz_H} {lo hi c : Nat} {e : zz_E} (hf : frm h k lo hi) : frm (hp_s h c e) (hp_s k c e) lo hi := by
  refine ⟨hf.1, hf.2.1, hf.2.2.1, fun b hb => ?_⟩
  by_cases c1 : b = c
  · subst c1
    rw [hp_gs, hp_gs]
  · rw [hp_gn c1, hp_gn c1]
    exact hf.2.2.2 b hb
section
variable {h : zz_H} {a : Nat} {tb : Nat → Int32} {tl s : Nat} {t : Nat → Nat} {fk fp : Int32}
theorem s_step (ht : isTape h (a + 1) tb tl) (hb : byt tb t) (hk : isTk h a t tl s fk fp) : ∃ k, zz_run 23 [.ref a] h = some (none, k) ∧ isTk k a t tl (advP t tl s) fk fp ∧ frm h k a (a + 1) := by
  obtain ⟨nu, wd, h1, h2, h3, h4⟩ := hk
  have hn := (nx_le (t := t) h4).2.1
  obtain ⟨i1, i2, i3, i4⟩ := tk_ind t tl (advP t tl s) nu wd
  refine ⟨_, c_step h1 ht hb (by omega) (by omega) hn, ?_, frm_s ⟨by omega, by omega⟩ (frm_refl _ _ _)⟩
  rw [show tkS t tl (nxP t tl s) = advP t tl s from rfl, i1, i2]
  exact ⟨_, _, hp_gs _ _ _, i3, i4, (adv_le h4).2.1⟩
/-- an emptied tape -/
abbrev emT (c : Nat) : zz_E := .inr (8, [.ref (c + 1), .int (nI 0)])
/-- a tape is taken -/
theorem s_take {c nx : Nat} {kd pl nu : Int32} {wd : Int64} {fk fp : Int32} {tb0 : Nat → Int32} {tl0 : Nat} (h1 : hp_g h a = some (tokO (a + 1) nx kd pl nu wd fk fp)) (h2 : isTape h (a + 1) tb0 tl0) (ht : isTape h c tb tl) (hb : byt tb t) (hc : c + 2 ≤ a) : ∃ k tb', zz_run 22 [.ref a, .ref c] h = some (none, k) ∧ isTk k a t tl (tkS t tl 0) (nI 0) (-1) ∧ isTape k (a + 1) tb' tl ∧ byt tb' t ∧ frm (hp_s h c (emT c)) k a (a + 3) := by
  obtain ⟨k1, tb', e1, t1, q1, f1⟩ := c_copyTape h2 ht (Or.inr (by omega))
  have h1' := (f1.2.2.2 a (by omega)).trans h1
  have ht' : isTape k1 c tb tl := isTape_sam ht (frm_sam f1 (by omega))
  have hb' : byt tb' t := fun i hi => by
    rw [q1 i hi]
    exact hb i hi
  have tk : isTape (hp_s k1 c (emT c)) (a + 1) tb' tl := isTape_off t1 (by omega) (by omega)
  have e4 := c_step (hp_gs (hp_s k1 c (emT c)) a (tokO (a + 1) 0 kd pl nu wd (nI 0) (-1))) (isTape_off (e := tokO (a + 1) 0 kd pl nu wd (nI 0) (-1)) tk (by omega) (by omega)) hb' (by omega) (by omega) (Nat.zero_le _)
  obtain ⟨i1, i2, i3, i4⟩ := tk_ind t tl (tkS t tl 0) nu wd
  have t0 := ht'.1
  refine ⟨hp_s (hp_s k1 c (emT c)) a (tokO (a + 1) (tkA t tl (tkS t tl 0) nu wd).1 (nI (tkA t tl (tkS t tl 0) nu wd).2.1) (nI (tkS t tl 0)) (tkA t tl (tkS t tl 0) nu wd).2.2.1 (tkA t tl (tkS t tl 0) nu wd).2.2.2 (nI 0) (-1)), tb', ?_, ?_, isTape_off tk (by omega) (by omega), hb', frm_s ⟨by omega, by omega⟩ (frm_ss (frm_mono f1 (by omega) (by omega)))⟩
  · unfold tokO at *
    rw [en22 h1]
    simp (disch := first | assumption | exact zz_nl_i _ | exact zz_nl_r _ | exact zz_nl_n | exact okv_i _ | exact okv_j _ | exact okv_0 | exact okv_1 | exact okv_o _ _ | exact okv_a _ _ | exact bI_okr _ | omega | exact llt_0 | ((repeat apply llt_s) <;> exact llt_0) | fail) only [x22, h1, e1, h1', t0, e4, mo_k_v, mo_k_n, mo_v_e, mo_gf_e, mo_pf_e, mo_ia_e, mo_ba_e, mo_za_e, mo_la_e, mo_aa_e, mo_le_e, mo_is_e, mo_bs_e, mo_zs_0, mo_zs_1, mo_ls_e, mo_as_e, mo_na_e, mo_aci_e, mo_acb_e, mo_acj_e, hp_gs, hp_gn, hp_ss, List.getElem?_cons_zero, List.getElem?_cons_succ, List.set_cons_zero, List.set_cons_succ]
  · rw [i1, i2]
    exact ⟨_, _, hp_gs _ _ _, i3, i4, (tkS_le (Nat.zero_le _)).2⟩
theorem s_fail (hk : isTk h a t tl s fk fp) (x : Int32) : ∃ k, zz_run 35 [.ref a, .int x] h = some (some (.int (nI 0)), k) ∧ isTk k a t tl s x (nI s) ∧ frm h k a (a + 1) := by
  obtain ⟨nu, wd, h1, h2, h3, h4⟩ := hk
  exact ⟨_, c_fail h1 x, ⟨_, _, hp_gs _ _ _, h2, h3, h4⟩, frm_s ⟨by omega, by omega⟩ (frm_refl _ _ _)⟩
end
section
variable {h : zz_H} {X : Nat} {tb : Nat → Int32} {tl s : Nat} {t : Nat → Nat} {fk fp : Int32} {p : Pl} {rk tg f : Nat → Int32}
abbrev shO (X : Nat) : zz_E := .inr (5, [.ref (X + 30), .ref (X + 33)])
def tkn (p : Pl) (w : Int64) : Bool := decide (fa_first (fun v => decide (phn p v = w)) (pnh p) < pnh p) || decide (fa_first (fun v => decide (pvn p v = w)) (pnv p) < pnv p)
def nmF (p : Pl) (t : Nat → Nat) (tl s : Nat) : Nat := if ¬ kdP t tl s = 2 then 1 else if tkn p (wP t tl s) = true then 3 else 0
def frR (h k : zz_H) (X : Nat) : Prop := frm h k (X + 30) (X + 47) ∧ sam h k (X + 31) (X + 33)
theorem frR_of {h k : zz_H} {X lo hi : Nat} (hf : frm h k lo hi) (h1 : X + 30 ≤ lo) (h2 : hi ≤ X + 47) (h3 : hi ≤ X + 31 ∨ X + 33 ≤ lo) : frR h k X := ⟨frm_mono hf h1 h2, frm_sam hf (by omega)⟩
theorem frR_trans {h k l : zz_H} {X : Nat} (h1 : frR h k X) (h2 : frR k l X) : frR h l X := ⟨frm_trans h1.1 h2.1, fun b g1 g2 => (h2.2 b g1 g2).trans (h1.2 b g1 g2)⟩
/-- a fault is told -/
def fOut (h : zz_H) (X : Nat) (t : Nat → Nat) (tl m : Nat) (as : List Value) (a b : Nat) : Prop := ∃ k, zz_run m as h = some (some (.int (nI 0)), k) ∧ (∃ s', isTk k (X + 30) t tl s' (nI a) (nI b)) ∧ (∃ p rk tg f, isStock k (X + 33) p rk tg f) ∧ frR h k X
theorem c_isNew (w0 : hp_g h (X + 29) = some (shO X)) (hk : isTk h (X + 30) t tl s fk fp) (hs : isStock h (X + 33) p rk tg f) : (nmF p t tl s = 0 → zz_run 36 [.ref (X + 29)] h = some (some (.int (nI 1)), h)) ∧ (¬ nmF p t tl s = 0 → fOut h X t tl 36 [.ref (X + 29)] (nmF p t tl s) s) := by
  have hle := kd_le t tl s
  have hk0 := hk
  obtain ⟨nu, wd, h1, h2, h3, h4⟩ := hk
  have h1' := h1
  unfold tokO at h1'
  have hs0 := hs
  obtain ⟨t0, t1, t2, t3, t4⟩ := hs
  unfold nmF
  rw [en36 w0]
  by_cases c : kdP t tl s = 2
  · have hwd := h3 (Or.inl c)
    have ct := eq_true c
    rw [if_neg (fun q => q c)]
    have it := c_isTaken t1 (wP t tl s)
    rw [show (decide (fa_first (fun v => decide (phn p v = wP t tl s)) (pnh p) < pnh p) || decide (fa_first (fun v => decide (pvn p v = wP t tl s)) (pnv p) < pnv p)) = tkn p (wP t tl s) from rfl] at it
    subst hwd
    cases ck : tkn p (wP t tl s) with
    | false =>
      rw [ck] at it
      refine ⟨fun _ => ?_, fun q => absurd rfl q⟩
      simp (disch := first | assumption | exact zz_nl_i _ | exact zz_nl_r _ | exact zz_nl_n | exact okv_i _ | exact okv_j _ | exact okv_0 | exact okv_1 | exact okv_o _ _ | exact okv_a _ _ | exact bI_okr _ | omega | exact llt_0 | ((repeat apply llt_s) <;> exact llt_0) | fail) only [x36, xb36, w0, h1', nI_eq, ct, if_true, t0, it, bI_f, mo_k_v, mo_k_n, mo_v_e, mo_gf_e, mo_pf_e, mo_ia_e, mo_ba_e, mo_za_e, mo_la_e, mo_aa_e, mo_le_e, mo_is_e, mo_bs_e, mo_zs_0, mo_zs_1, mo_ls_e, mo_as_e, mo_na_e, mo_aci_e, mo_acb_e, mo_acj_e, hp_gs, hp_gn, hp_ss, List.getElem?_cons_zero, List.getElem?_cons_succ, List.set_cons_zero, List.set_cons_succ]
    | true =>
      rw [ck] at it
      refine ⟨fun q => (by cases q), fun _ => ?_⟩
      obtain ⟨k, e, k1, k2⟩ := s_fail hk0 (nI 3)
      refine ⟨k, ?_, ⟨s, k1⟩, ⟨_, _, _, _, isStock_sam hs0 (frm_sam k2 (by omega))⟩, frR_of k2 (by omega) (by omega) (by omega)⟩
      rw [en36 w0]
      simp (disch := first | assumption | exact zz_nl_i _ | exact zz_nl_r _ | exact zz_nl_n | exact okv_i _ | exact okv_j _ | exact okv_0 | exact okv_1 | exact okv_o _ _ | exact okv_a _ _ | exact bI_okr _ | omega | exact llt_0 | ((repeat apply llt_s) <;> exact llt_0) | fail) only [x36, xb36, w0, h1', nI_eq, ct, if_true, t0, it, bI_t, nI_01, if_false, e, show ((1 : Nat) = 0) = False from eq_false (by omega), mo_k_v, mo_k_n, mo_v_e, mo_gf_e, mo_pf_e, mo_ia_e, mo_ba_e, mo_za_e, mo_la_e, mo_aa_e, mo_le_e, mo_is_e, mo_bs_e, mo_zs_0, mo_zs_1, mo_ls_e, mo_as_e, mo_na_e, mo_aci_e, mo_acb_e, mo_acj_e, hp_gs, hp_gn, hp_ss, List.getElem?_cons_zero, List.getElem?_cons_succ, List.set_cons_zero, List.set_cons_succ]
  · rw [if_pos c]
    refine ⟨fun q => by omega, fun _ => ?_⟩
    obtain ⟨k, e, k1, k2⟩ := s_fail hk0 (nI 1)
    refine ⟨k, ?_, ⟨s, k1⟩, ⟨_, _, _, _, isStock_sam hs0 (frm_sam k2 (by omega))⟩, frR_of k2 (by omega) (by omega) (by omega)⟩
    rw [en36 w0]
    simp (disch := first | assumption | exact zz_nl_i _ | exact zz_nl_r _ | exact zz_nl_n | exact okv_i _ | exact okv_j _ | exact okv_0 | exact okv_1 | exact okv_o _ _ | exact okv_a _ _ | exact bI_okr _ | omega | exact llt_0 | ((repeat apply llt_s) <;> exact llt_0) | fail) only [x36, xb36, w0, h1', nI_eq, c, if_false, e, mo_k_v, mo_k_n, mo_v_e, mo_gf_e, mo_pf_e, mo_ia_e, mo_ba_e, mo_za_e, mo_la_e, mo_aa_e, mo_le_e, mo_is_e, mo_bs_e, mo_zs_0, mo_zs_1, mo_ls_e, mo_as_e, mo_na_e, mo_aci_e, mo_acb_e, mo_acj_e, hp_gs, hp_gn, hp_ss, List.getElem?_cons_zero, List.getElem?_cons_succ, List.set_cons_zero, List.set_cons_succ]
def ltF (p : Pl) (t : Nat → Nat) (tl s : Nat) : Nat := if ¬ kdP t tl s = 2 then 1 else if fa_first (fun v => decide (pvn p v = wP t tl s)) (pnv p) < pnv p ∧ pho p (fa_first (fun v => decide (pvn p v = wP t tl s)) (pnv p)) = nI (pnh p - 1) then 0 else 3
theorem c_isLate (w0 : hp_g h (X + 29) = some (shO X)) (hk : isTk h (X + 30) t tl s fk fp) (hs : isStock h (X + 33) p rk tg f) (hp : 0 < pnh p) : (ltF p t tl s = 0 → zz_run 42 [.ref (X + 29)] h = some (some (.int (nI 1)), h)) ∧ (¬ ltF p t tl s = 0 → fOut h X t tl 42 [.ref (X + 29)] (ltF p t tl s) s) := by
  have hle := kd_le t tl s
  have hk0 := hk
  obtain ⟨nu, wd, h1, h2, h3, h4⟩ := hk
  have h1' := h1
  unfold tokO at h1'
  have hs0 := hs
  obtain ⟨t0, t1, t2, t3, t4⟩ := hs
  have t1' := t1
  obtain ⟨p0, p1, p2, p3, p4, p5, p6, p7, p8, q1, q2⟩ := t1'
  have es : nI (pnh p) - nI 1 = nI (pnh p - 1) := pk_sub (by omega)
  unfold ltF
  rw [en42 w0]
  by_cases c : kdP t tl s = 2
  · have hwd := h3 (Or.inl c)
    have ct := eq_true c
    rw [if_neg (fun q => q c)]
    have vn := c_valueNamed t1 (wP t tl s)
    unfold FI at vn
    subst hwd
    generalize fa_first (fun v => decide (pvn p v = wP t tl s)) (pnv p) = v at *
    by_cases c1 : v < pnv p
    · rw [if_pos c1] at vn
      have c1m : ¬ nI v = -1 := nI_m1 (by omega)
      by_cases c2 : pho p v = nI (pnh p - 1)
      · rw [if_pos ⟨c1, c2⟩]
        refine ⟨fun _ => ?_, fun q => absurd rfl q⟩
        simp (disch := first | assumption | exact zz_nl_i _ | exact zz_nl_r _ | exact zz_nl_n | exact okv_i _ | exact okv_j _ | exact okv_0 | exact okv_1 | exact okv_o _ _ | exact okv_a _ _ | exact bI_okr _ | omega | exact llt_0 | ((repeat apply llt_s) <;> exact llt_0) | fail) only [x42, xb42, w0, h1', nI_eq, ct, if_true, t0, vn, c1m, if_false, p0, p6, es, eq_true c2, mo_k_v, mo_k_n, mo_v_e, mo_gf_e, mo_pf_e, mo_ia_e, mo_ba_e, mo_za_e, mo_la_e, mo_aa_e, mo_le_e, mo_is_e, mo_bs_e, mo_zs_0, mo_zs_1, mo_ls_e, mo_as_e, mo_na_e, mo_aci_e, mo_acb_e, mo_acj_e, hp_gs, hp_gn, hp_ss, List.getElem?_cons_zero, List.getElem?_cons_succ, List.set_cons_zero, List.set_cons_succ]
      · rw [if_neg (fun q => c2 q.2)]
        refine ⟨fun q => by omega, fun _ => ?_⟩
        obtain ⟨k, e, k1, k2⟩ := s_fail hk0 (nI 3)
        refine ⟨k, ?_, ⟨s, k1⟩, ⟨_, _, _, _, isStock_sam hs0 (frm_sam k2 (by omega))⟩, frR_of k2 (by omega) (by omega) (by omega)⟩
        rw [en42 w0]
        simp (disch := first | assumption | exact zz_nl_i _ | exact zz_nl_r _ | exact zz_nl_n | exact okv_i _ | exact okv_j _ | exact okv_0 | exact okv_1 | exact okv_o _ _ | exact okv_a _ _ | exact bI_okr _ | omega | exact llt_0 | ((repeat apply llt_s) <;> exact llt_0) | fail) only [x42, xb42, w0, h1', nI_eq, ct, if_true, t0, vn, c1m, if_false, p0, p6, es, c2, e, mo_k_v, mo_k_n, mo_v_e, mo_gf_e, mo_pf_e, mo_ia_e, mo_ba_e, mo_za_e, mo_la_e, mo_aa_e, mo_le_e, mo_is_e, mo_bs_e, mo_zs_0, mo_zs_1, mo_ls_e, mo_as_e, mo_na_e, mo_aci_e, mo_acb_e, mo_acj_e, hp_gs, hp_gn, hp_ss, List.getElem?_cons_zero, List.getElem?_cons_succ, List.set_cons_zero, List.set_cons_succ]
    · rw [if_neg c1] at vn
      rw [if_neg (fun q => c1 q.1)]
      refine ⟨fun q => by omega, fun _ => ?_⟩
      obtain ⟨k, e, k1, k2⟩ := s_fail hk0 (nI 3)
      refine ⟨k, ?_, ⟨s, k1⟩, ⟨_, _, _, _, isStock_sam hs0 (frm_sam k2 (by omega))⟩, frR_of k2 (by omega) (by omega) (by omega)⟩
      rw [en42 w0]
      simp (disch := first | assumption | exact zz_nl_i _ | exact zz_nl_r _ | exact zz_nl_n | exact okv_i _ | exact okv_j _ | exact okv_0 | exact okv_1 | exact okv_o _ _ | exact okv_a _ _ | exact bI_okr _ | omega | exact llt_0 | ((repeat apply llt_s) <;> exact llt_0) | fail) only [x42, xb42, w0, h1', nI_eq, ct, if_true, t0, vn, e, mo_k_v, mo_k_n, mo_v_e, mo_gf_e, mo_pf_e, mo_ia_e, mo_ba_e, mo_za_e, mo_la_e, mo_aa_e, mo_le_e, mo_is_e, mo_bs_e, mo_zs_0, mo_zs_1, mo_ls_e, mo_as_e, mo_na_e, mo_aci_e, mo_acb_e, mo_acj_e, hp_gs, hp_gn, hp_ss, List.getElem?_cons_zero, List.getElem?_cons_succ, List.set_cons_zero, List.set_cons_succ]
  · rw [if_pos c]
    refine ⟨fun q => by omega, fun _ => ?_⟩
    obtain ⟨k, e, k1, k2⟩ := s_fail hk0 (nI 1)
    refine ⟨k, ?_, ⟨s, k1⟩, ⟨_, _, _, _, isStock_sam hs0 (frm_sam k2 (by omega))⟩, frR_of k2 (by omega) (by omega) (by omega)⟩
    rw [en42 w0]
    simp (disch := first | assumption | exact zz_nl_i _ | exact zz_nl_r _ | exact zz_nl_n | exact okv_i _ | exact okv_j _ | exact okv_0 | exact okv_1 | exact okv_o _ _ | exact okv_a _ _ | exact bI_okr _ | omega | exact llt_0 | ((repeat apply llt_s) <;> exact llt_0) | fail) only [x42, xb42, w0, h1', nI_eq, c, if_false, e, mo_k_v, mo_k_n, mo_v_e, mo_gf_e, mo_pf_e, mo_ia_e, mo_ba_e, mo_za_e, mo_la_e, mo_aa_e, mo_le_e, mo_is_e, mo_bs_e, mo_zs_0, mo_zs_1, mo_ls_e, mo_as_e, mo_na_e, mo_aci_e, mo_acb_e, mo_acj_e, hp_gs, hp_gn, hp_ss, List.getElem?_cons_zero, List.getElem?_cons_succ, List.set_cons_zero, List.set_cons_succ]
def nuF (t : Nat → Nat) (tl m s : Nat) : Nat := if ¬ kdP t tl s = 3 then 1 else if nI m < nP t tl s then 2 else 0
theorem c_isNum (w0 : hp_g h (X + 29) = some (shO X)) (hk : isTk h (X + 30) t tl s fk fp) (hs : isStock h (X + 33) p rk tg f) (m : Nat) : (nuF t tl m s = 0 → zz_run 46 [.ref (X + 29), .int (nI m)] h = some (some (.int (nI 1)), h)) ∧ (¬ nuF t tl m s = 0 → fOut h X t tl 46 [.ref (X + 29), .int (nI m)] (nuF t tl m s) s) := by
  have hle := kd_le t tl s
  have hk0 := hk
  obtain ⟨nu, wd, h1, h2, h3, h4⟩ := hk
  have h1' := h1
  unfold tokO at h1'
  unfold nuF
  rw [en46 w0]
  by_cases c : kdP t tl s = 3
  · have hnu := h2 c
    have ct := eq_true c
    rw [if_neg (fun q => q c)]
    subst hnu
    by_cases c2 : nI m < nP t tl s
    · rw [if_pos c2]
      refine ⟨fun q => by omega, fun _ => ?_⟩
      obtain ⟨k, e, k1, k2⟩ := s_fail hk0 (nI 2)
      refine ⟨k, ?_, ⟨s, k1⟩, ⟨_, _, _, _, isStock_sam hs (frm_sam k2 (by omega))⟩, frR_of k2 (by omega) (by omega) (by omega)⟩
      rw [en46 w0]
      simp (disch := first | assumption | exact zz_nl_i _ | exact zz_nl_r _ | exact zz_nl_n | exact okv_i _ | exact okv_j _ | exact okv_0 | exact okv_1 | exact okv_o _ _ | exact okv_a _ _ | exact bI_okr _ | omega | exact llt_0 | ((repeat apply llt_s) <;> exact llt_0) | fail) only [x46, xb46, w0, h1', nI_eq, ct, if_true, c2, e, mo_k_v, mo_k_n, mo_v_e, mo_gf_e, mo_pf_e, mo_ia_e, mo_ba_e, mo_za_e, mo_la_e, mo_aa_e, mo_le_e, mo_is_e, mo_bs_e, mo_zs_0, mo_zs_1, mo_ls_e, mo_as_e, mo_na_e, mo_aci_e, mo_acb_e, mo_acj_e, hp_gs, hp_gn, hp_ss, List.getElem?_cons_zero, List.getElem?_cons_succ, List.set_cons_zero, List.set_cons_succ]
    · rw [if_neg c2]
      refine ⟨fun _ => ?_, fun q => absurd rfl q⟩
      simp (disch := first | assumption | exact zz_nl_i _ | exact zz_nl_r _ | exact zz_nl_n | exact okv_i _ | exact okv_j _ | exact okv_0 | exact okv_1 | exact okv_o _ _ | exact okv_a _ _ | exact bI_okr _ | omega | exact llt_0 | ((repeat apply llt_s) <;> exact llt_0) | fail) only [x46, xb46, w0, h1', nI_eq, ct, if_true, c2, if_false, mo_k_v, mo_k_n, mo_v_e, mo_gf_e, mo_pf_e, mo_ia_e, mo_ba_e, mo_za_e, mo_la_e, mo_aa_e, mo_le_e, mo_is_e, mo_bs_e, mo_zs_0, mo_zs_1, mo_ls_e, mo_as_e, mo_na_e, mo_aci_e, mo_acb_e, mo_acj_e, hp_gs, hp_gn, hp_ss, List.getElem?_cons_zero, List.getElem?_cons_succ, List.set_cons_zero, List.set_cons_succ]
  · rw [if_pos c]
    refine ⟨fun q => by omega, fun _ => ?_⟩
    obtain ⟨k, e, k1, k2⟩ := s_fail hk0 (nI 1)
    refine ⟨k, ?_, ⟨s, k1⟩, ⟨_, _, _, _, isStock_sam hs (frm_sam k2 (by omega))⟩, frR_of k2 (by omega) (by omega) (by omega)⟩
    rw [en46 w0]
    simp (disch := first | assumption | exact zz_nl_i _ | exact zz_nl_r _ | exact zz_nl_n | exact okv_i _ | exact okv_j _ | exact okv_0 | exact okv_1 | exact okv_o _ _ | exact okv_a _ _ | exact bI_okr _ | omega | exact llt_0 | ((repeat apply llt_s) <;> exact llt_0) | fail) only [x46, xb46, w0, h1', nI_eq, c, if_false, e, mo_k_v, mo_k_n, mo_v_e, mo_gf_e, mo_pf_e, mo_ia_e, mo_ba_e, mo_za_e, mo_la_e, mo_aa_e, mo_le_e, mo_is_e, mo_bs_e, mo_zs_0, mo_zs_1, mo_ls_e, mo_as_e, mo_na_e, mo_aci_e, mo_acb_e, mo_acj_e, hp_gs, hp_gn, hp_ss, List.getElem?_cons_zero, List.getElem?_cons_succ, List.set_cons_zero, List.set_cons_succ]
end
