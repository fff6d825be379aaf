/-! the class: records, lines, the scheme -/
def D10 (l : Nat → Nat) : Nat → Nat
  | 0 => 0
  | n + 1 => D10 l n * 10 + l n
theorem D10_lt {l : Nat → Nat} : ∀ {n : Nat}, (∀ i, i < n → l i ≤ 9) → D10 l n < 10 ^ n
  | 0, _ => Nat.zero_lt_one
  | n + 1, h => by
    have i1 := D10_lt (n := n) (fun i hi => h i (by omega))
    have i2 := h n (by omega)
    show D10 l n * 10 + l n < 10 ^ (n + 1)
    rw [Nat.pow_succ]
    omega
def nuN (t : Nat → Nat) (tl s : Nat) : Nat := D10 (fun i => t (s + i) - 48) (min (tkD t tl s) 3)
theorem tkD_in {t : Nat → Nat} {tl s i : Nat} (h : i < tkD t tl s) : s + i < tl ∧ 48 ≤ t (s + i) ∧ t (s + i) ≤ 57 := by
  obtain ⟨h1, h2⟩ := rn_in h
  unfold digB at h2
  rw [decide_eq_true_iff] at h2
  exact ⟨h1, h2⟩
theorem tkL_in {t : Nat → Nat} {tl s i : Nat} (h : i < tkL t tl s) : s + i < tl ∧ 97 ≤ t (s + i) ∧ t (s + i) ≤ 122 := by
  obtain ⟨h1, h2⟩ := rn_in h
  unfold letB at h2
  rw [decide_eq_true_iff] at h2
  exact ⟨h1, h2⟩
theorem nuN_lt (t : Nat → Nat) (tl s : Nat) : nuN t tl s < 1000 := by
  unfold nuN
  have h1 := D10_lt (l := fun i => t (s + i) - 48) (n := min (tkD t tl s) 3) (fun i hi => by
    have := tkD_in (show i < tkD t tl s by omega)
    omega)
  have h2 : 10 ^ min (tkD t tl s) 3 ≤ 10 ^ 3 := Nat.pow_le_pow_right (by omega) (by omega)
  omega
theorem nP_nI (t : Nat → Nat) (tl s : Nat) : nP t tl s = nI (nuN t tl s) := by
  unfold nP nuN N3
  have key : ∀ m, m ≤ tkD t tl s → lp_it (nS t s) m (nI 0) = nI (D10 (fun i => t (s + i) - 48) (min m 3)) := by
    intro m
    induction m with
    | zero => intro _; rfl
    | succ m ih =>
      intro hm
      rw [lp_it_s, ih (by omega)]
      unfold nS
      by_cases c : m < 3
      · have hd := tkD_in (show m < tkD t tl s by omega)
        rw [if_pos c, show min (m + 1) 3 = m + 1 by omega, show min m 3 = m by omega, pk_mul, nI_add, pk_sub (by omega)]
        congr 1
        show _ = D10 (fun i => t (s + i) - 48) m * 10 + (t (s + m) - 48)
        omega
      · rw [if_neg c, show min (m + 1) 3 = min m 3 by omega]
  exact key _ (Nat.le_refl _)
def recordP (t : Nat → Nat) (tl s : Nat) (D : Sk) : Out :=
  if ¬ nuF t tl 255 (advP t tl s) = 0 then .inl (nuF t tl 255 (advP t tl s), advP t tl s) else
  if thrC D.2.1 (nI (nuN t tl (advP t tl s))) = true then .inl (5, advP t tl s) else
  if ¬ nuF t tl 999 (advP t tl (advP t tl s)) = 0 then .inl (nuF t tl 999 (advP t tl (advP t tl s)), advP t tl (advP t tl s)) else
  tagsO D (nuN t tl (advP t tl s)) (nI (nuN t tl (advP t tl (advP t tl s)))) (tagsP t tl D.1 601 (advP t tl (advP t tl (advP t tl s))) (nI 0))
def semP (t : Nat → Nat) (tl : Nat) (o : Out) : Out := match o with
  | .inl e => .inl e
  | .inr (s, D) => if ¬ kdP t tl s = 4 then .inl (1, s) else .inr (advP t tl s, D)
def lineP (t : Nat → Nat) (tl s : Nat) (D : Sk) : Out :=
  if kdP t tl s = 7 then semP t tl (headP t tl s D) else if kdP t tl s = 10 then semP t tl (valueP t tl s D) else if kdP t tl s = 12 then semP t tl (recordP t tl s D) else .inl (1, s)
def schP (t : Nat → Nat) (tl : Nat) : Nat → Nat → Sk → Out
  | 0, s, D => .inr (s, D)
  | n + 1, s, D => if kdP t tl s = 0 then .inr (s, D) else match lineP t tl s D with
    | .inl e => .inl e
    | .inr (s', D') => schP t tl n s' D'
theorem nuF_0 {t : Nat → Nat} {tl m s : Nat} (h : nuF t tl m s = 0) : kdP t tl s = 3 ∧ ¬ nI m < nP t tl s := by
  unfold nuF at h
  split at h
  · omega
  · next c =>
    split at h
    · omega
    · next c2 => exact ⟨Classical.not_not.mp c, c2⟩
section
variable {h : zz_H} {X : Nat} {tb : Nat → Int32} {tl s : Nat} {t : Nat → Nat} {fk fp : Int32} {p : Pl} {rk tg f : Nat → Int32}
theorem c_readRecord (hwf : wfP p) (htl : tl ≤ 600) (w0 : hp_g h (X + 29) = some (shO X)) (ht : isTape h (X + 30 + 1) tb tl) (hb : byt tb t) (hk : isTk h (X + 30) t tl s fk fp) (hs : isStock h (X + 33) p rk tg f) : rdQ h X t tl 45 [.ref (X + 29)] fk fp (recordP t tl s (p, rk, tg, f)) := by
  unfold recordP
  dsimp only
  obtain ⟨k1, e1, i1, f1⟩ := s_step ht hb hk
  have w01 := (f1.2.2.2 (X + 29) (by omega)).trans w0
  have s1 := isStock_sam hs (frm_sam f1 (by omega))
  have tp1 := isTape_sam ht (frm_sam f1 (by omega))
  have F1 : frR h k1 X := frR_of f1 (by omega) (by omega) (by omega)
  have n1 := c_isNum w01 i1 s1 255
  by_cases c1 : nuF t tl 255 (advP t tl s) = 0
  · rw [if_neg (fun q => q c1)]
    have e2 := n1.1 c1
    obtain ⟨ck, cn⟩ := nuF_0 c1
    have i1' := i1
    obtain ⟨nu, wd, h1, h2, h3, h4⟩ := i1
    have hnu := h2 ck
    rw [nP_nI] at hnu cn
    have hlt := nuN_lt t tl (advP t tl s)
    rw [nI_ltI (by omega) (by omega)] at cn
    unfold tokO at h1
    subst hnu
    have th := c_isThere s1 (nI (nuN t tl (advP t tl s)))
    by_cases c2 : thrC rk (nI (nuN t tl (advP t tl s))) = true
    · rw [if_pos c2]
      rw [c2] at th
      obtain ⟨k2, e3, i2, f2⟩ := s_fail i1' (nI 5)
      refine ⟨k2, ?_, ⟨_, i2⟩, ⟨p, rk, tg, f, isStock_sam s1 (frm_sam f2 (by omega))⟩, frR_trans F1 (frR_of f2 (by omega) (by omega) (by omega))⟩
      rw [en45 w0]
      simp (disch := first | assumption | exact zz_nl_i _ | exact zz_nl_r _ | exact zz_nl_n | exact okv_i _ | exact okv_j _ | exact okv_0 | exact okv_1 | exact okv_o _ _ | exact okv_a _ _ | exact bI_okr _ | omega | exact llt_0 | ((repeat apply llt_s) <;> exact llt_0) | fail) only [x45, xb45, w0, e1, e2, nI_01, if_false, w01, h1, th, bI_t, e3, mo_k_v, mo_k_n, mo_v_e, mo_gf_e, mo_pf_e, mo_ia_e, mo_ba_e, mo_za_e, mo_la_e, mo_aa_e, mo_le_e, mo_is_e, mo_bs_e, mo_zs_0, mo_zs_1, mo_ls_e, mo_as_e, mo_na_e, mo_aci_e, mo_acb_e, mo_acj_e, hp_gs, hp_gn, hp_ss, List.getElem?_cons_zero, List.getElem?_cons_succ, List.set_cons_zero, List.set_cons_succ]
    · rw [if_neg c2]
      rw [Bool.eq_false_iff.mpr c2] at th
      obtain ⟨k2, e3, i2, f2⟩ := s_step tp1 hb i1'
      have w02 := (f2.2.2.2 (X + 29) (by omega)).trans w01
      have s2 := isStock_sam s1 (frm_sam f2 (by omega))
      have tp2 := isTape_sam tp1 (frm_sam f2 (by omega))
      have F2 : frR h k2 X := frR_trans F1 (frR_of f2 (by omega) (by omega) (by omega))
      have n2 := c_isNum w02 i2 s2 999
      by_cases c3 : nuF t tl 999 (advP t tl (advP t tl s)) = 0
      · rw [if_neg (fun q => q c3)]
        have e4 := n2.1 c3
        obtain ⟨ck2, cn2⟩ := nuF_0 c3
        have i2' := i2
        obtain ⟨nu2, wd2, g1, g2, g3, g4⟩ := i2
        have hnu2 := g2 ck2
        rw [nP_nI] at hnu2
        unfold tokO at g1
        subst hnu2
        obtain ⟨k3, e5, i3, f3⟩ := s_step tp2 hb i2'
        have w03 := (f3.2.2.2 (X + 29) (by omega)).trans w02
        have s3 := isStock_sam s2 (frm_sam f3 (by omega))
        have tp3 := isTape_sam tp2 (frm_sam f3 (by omega))
        have F3 : frR h k3 X := frR_trans F2 (frR_of f3 (by omega) (by omega) (by omega))
        have r := c_tagsLoop (X := X) hwf htl (show nuN t tl (advP t tl s) < 256 by omega) (nI (nuN t tl (advP t tl (advP t tl s)))) hb 601 k3 (advP t tl (advP t tl (advP t tl s))) 0 (nI 0) none w03 tp3 i3 s3 (by omega) (by omega) zz_nl_n
        have r := rdY_frm r F3
        have e49 : zz_run 49 [.ref (X + 29), .int (nI (nuN t tl (advP t tl s))), .int (nI (nuN t tl (advP t tl (advP t tl s))))] k3 = zz_Y 49 (5, [some (.ref (X + 29)), some (.int (nI (nuN t tl (advP t tl s)))), some (.int (nI (nuN t tl (advP t tl (advP t tl s))))), some (.int (nI (0))), some (.int (nI (0))), none], [], k3) := by
          rw [en49 w03]
          simp (disch := first | assumption | exact zz_nl_i _ | exact zz_nl_r _ | exact zz_nl_n | exact okv_i _ | exact okv_j _ | exact okv_0 | exact okv_1 | exact okv_o _ _ | exact okv_a _ _ | exact bI_okr _ | omega | exact llt_0 | ((repeat apply llt_s) <;> exact llt_0) | fail) only [x49_p0, x49_p1, xb49, mo_k_v, mo_k_n, mo_v_e, mo_gf_e, mo_pf_e, mo_ia_e, mo_ba_e, mo_za_e, mo_la_e, mo_aa_e, mo_le_e, mo_is_e, mo_bs_e, mo_zs_0, mo_zs_1, mo_ls_e, mo_as_e, mo_na_e, mo_aci_e, mo_acb_e, mo_acj_e, hp_gs, hp_gn, hp_ss, List.getElem?_cons_zero, List.getElem?_cons_succ, List.set_cons_zero, List.set_cons_succ]
        rw [← e49] at r
        have fin : ∀ b k, (b = nI 0 ∨ b = nI 1) → zz_run 49 [.ref (X + 29), .int (nI (nuN t tl (advP t tl s))), .int (nI (nuN t tl (advP t tl (advP t tl s))))] k3 = some (some (.int b), k) → zz_run 45 [.ref (X + 29)] h = some (some (.int b), k) := by
          intro b k hb01 e
          rw [en45 w0]
          rcases hb01 with rfl | rfl
          · simp (disch := first | assumption | exact zz_nl_i _ | exact zz_nl_r _ | exact zz_nl_n | exact okv_i _ | exact okv_j _ | exact okv_0 | exact okv_1 | exact okv_o _ _ | exact okv_a _ _ | exact bI_okr _ | omega | exact llt_0 | ((repeat apply llt_s) <;> exact llt_0) | fail) only [x45, xb45, w0, e1, e2, nI_01, if_false, w01, h1, th, bI_f, if_true, e3, e4, w02, g1, e5, e, mo_k_v, mo_k_n, mo_v_e, mo_gf_e, mo_pf_e, mo_ia_e, mo_ba_e, mo_za_e, mo_la_e, mo_aa_e, mo_le_e, mo_is_e, mo_bs_e, mo_zs_0, mo_zs_1, mo_ls_e, mo_as_e, mo_na_e, mo_aci_e, mo_acb_e, mo_acj_e, hp_gs, hp_gn, hp_ss, List.getElem?_cons_zero, List.getElem?_cons_succ, List.set_cons_zero, List.set_cons_succ]
          · simp (disch := first | assumption | exact zz_nl_i _ | exact zz_nl_r _ | exact zz_nl_n | exact okv_i _ | exact okv_j _ | exact okv_0 | exact okv_1 | exact okv_o _ _ | exact okv_a _ _ | exact bI_okr _ | omega | exact llt_0 | ((repeat apply llt_s) <;> exact llt_0) | fail) only [x45, xb45, w0, e1, e2, nI_01, if_false, w01, h1, th, bI_f, if_true, e3, e4, w02, g1, e5, e, mo_k_v, mo_k_n, mo_v_e, mo_gf_e, mo_pf_e, mo_ia_e, mo_ba_e, mo_za_e, mo_la_e, mo_aa_e, mo_le_e, mo_is_e, mo_bs_e, mo_zs_0, mo_zs_1, mo_ls_e, mo_as_e, mo_na_e, mo_aci_e, mo_acb_e, mo_acj_e, hp_gs, hp_gn, hp_ss, List.getElem?_cons_zero, List.getElem?_cons_succ, List.set_cons_zero, List.set_cons_succ]
        generalize tagsO (p, rk, tg, f) (nuN t tl (advP t tl s)) (nI (nuN t tl (advP t tl (advP t tl s)))) (tagsP t tl p 601 (advP t tl (advP t tl (advP t tl s))) (nI 0)) = o at *
        match o, r with
        | .inl (a, b), ⟨k, e, r1, r2, r3⟩ => exact ⟨k, fin _ _ (Or.inl rfl) e, r1, r2, r3⟩
        | .inr (s', p', rk', tg', f'), ⟨k, e, r1, r2, r3⟩ => exact ⟨k, fin _ _ (Or.inr rfl) e, r1, r2, r3⟩
      · rw [if_pos c3]
        refine fOut_of (n2.2 c3) F2 (fun l e => ?_)
        rw [en45 w0]
        simp (disch := first | assumption | exact zz_nl_i _ | exact zz_nl_r _ | exact zz_nl_n | exact okv_i _ | exact okv_j _ | exact okv_0 | exact okv_1 | exact okv_o _ _ | exact okv_a _ _ | exact bI_okr _ | omega | exact llt_0 | ((repeat apply llt_s) <;> exact llt_0) | fail) only [x45, xb45, w0, e1, e2, nI_01, if_false, w01, h1, th, bI_f, if_true, e3, e, mo_k_v, mo_k_n, mo_v_e, mo_gf_e, mo_pf_e, mo_ia_e, mo_ba_e, mo_za_e, mo_la_e, mo_aa_e, mo_le_e, mo_is_e, mo_bs_e, mo_zs_0, mo_zs_1, mo_ls_e, mo_as_e, mo_na_e, mo_aci_e, mo_acb_e, mo_acj_e, hp_gs, hp_gn, hp_ss, List.getElem?_cons_zero, List.getElem?_cons_succ, List.set_cons_zero, List.set_cons_succ]
  · rw [if_pos c1]
    refine fOut_of (n1.2 c1) F1 (fun l e => ?_)
    rw [en45 w0]
    simp (disch := first | assumption | exact zz_nl_i _ | exact zz_nl_r _ | exact zz_nl_n | exact okv_i _ | exact okv_j _ | exact okv_0 | exact okv_1 | exact okv_o _ _ | exact okv_a _ _ | exact bI_okr _ | omega | exact llt_0 | ((repeat apply llt_s) <;> exact llt_0) | fail) only [x45, xb45, w0, e1, e, if_true, mo_k_v, mo_k_n, mo_v_e, mo_gf_e, mo_pf_e, mo_ia_e, mo_ba_e, mo_za_e, mo_la_e, mo_aa_e, mo_le_e, mo_is_e, mo_bs_e, mo_zs_0, mo_zs_1, mo_ls_e, mo_as_e, mo_na_e, mo_aci_e, mo_acb_e, mo_acj_e, hp_gs, hp_gn, hp_ss, List.getElem?_cons_zero, List.getElem?_cons_succ, List.set_cons_zero, List.set_cons_succ]
theorem c_readLine (hwf : wfP p) (htl : tl ≤ 600) (w0 : hp_g h (X + 29) = some (shO X)) (ht : isTape h (X + 30 + 1) tb tl) (hb : byt tb t) (hk : isTk h (X + 30) t tl s fk fp) (hs : isStock h (X + 33) p rk tg f) : rdQ h X t tl 32 [.ref (X + 29)] fk fp (lineP t tl s (p, rk, tg, f)) := by
  have hle := kd_le t tl s
  have hk0 := hk
  obtain ⟨nu, wd, h1, h2, h3, h4⟩ := hk
  have h1' := h1
  unfold tokO at h1'
  have sw7 : kdP t tl s = 7 → zz_sw [(nI 7, 40), (nI 10, 48), (nI 12, 56)] 64 (nI (kdP t tl s)) = 40 := fun c => by rw [c]; decide +kernel
  have sw10 : kdP t tl s = 10 → zz_sw [(nI 7, 40), (nI 10, 48), (nI 12, 56)] 64 (nI (kdP t tl s)) = 48 := fun c => by rw [c]; decide +kernel
  have sw12 : kdP t tl s = 12 → zz_sw [(nI 7, 40), (nI 10, 48), (nI 12, 56)] 64 (nI (kdP t tl s)) = 56 := fun c => by rw [c]; decide +kernel
  have swx : ¬ kdP t tl s = 7 → ¬ kdP t tl s = 10 → ¬ kdP t tl s = 12 → zz_sw [(nI 7, 40), (nI 10, 48), (nI 12, 56)] 64 (nI (kdP t tl s)) = 64 := fun c1 c2 c3 => by
    have : ∀ k, k ≤ 16 → ¬ k = 7 → ¬ k = 10 → ¬ k = 12 → zz_sw [(nI 7, 40), (nI 10, 48), (nI 12, 56)] 64 (nI k) = 64 := by decide +kernel
    exact this _ hle c1 c2 c3
  -- behind a reader
  have tail : ∀ (o : Out) (m : Nat), rdQ h X t tl m [.ref (X + 29)] fk fp o → (∀ b k, (b = nI 0 ∨ b = nI 1) → zz_run m [.ref (X + 29)] h = some (some (.int b), k) → zz_run 32 [.ref (X + 29)] h = zz_Y 32 (73, [some (.ref (X + 29)), some (.int b)], [], k)) → rdQ h X t tl 32 [.ref (X + 29)] fk fp (semP t tl o) := by
    intro o m hq hrun
    match o, hq with
    | .inl (a, b), ⟨k, e, r1, r2, r3⟩ =>
      refine ⟨k, ?_, r1, r2, r3⟩
      rw [hrun _ _ (Or.inl rfl) e]
      simp (disch := first | assumption | exact zz_nl_i _ | exact zz_nl_r _ | exact zz_nl_n | exact okv_i _ | exact okv_j _ | exact okv_0 | exact okv_1 | exact okv_o _ _ | exact okv_a _ _ | exact bI_okr _ | omega | exact llt_0 | ((repeat apply llt_s) <;> exact llt_0) | fail) only [x32, xb32, if_true, mo_k_v, mo_k_n, mo_v_e, mo_gf_e, mo_pf_e, mo_ia_e, mo_ba_e, mo_za_e, mo_la_e, mo_aa_e, mo_le_e, mo_is_e, mo_bs_e, mo_zs_0, mo_zs_1, mo_ls_e, mo_as_e, mo_na_e, mo_aci_e, mo_acb_e, mo_acj_e, hp_gs, hp_gn, hp_ss, List.getElem?_cons_zero, List.getElem?_cons_succ, List.set_cons_zero, List.set_cons_succ]
    | .inr (s', p', rk', tg', f'), ⟨k, e, r1, r2, r3⟩ =>
      have w0' : hp_g k (X + 29) = some (shO X) := (r3.1.2.2.2 _ (by omega)).trans w0
      have hle' := kd_le t tl s'
      have r1' := r1
      obtain ⟨nu', wd', g1, g2, g3, g4⟩ := r1
      unfold tokO at g1
      unfold semP
      dsimp only
      by_cases c : kdP t tl s' = 4
      · rw [if_neg (fun q => q c)]
        obtain ⟨k2, e2, i2, f2⟩ := s_step (isTape_sam ht r3.2) hb r1'
        refine ⟨k2, ?_, i2, isStock_sam r2 (frm_sam f2 (by omega)), frR_trans r3 (frR_of f2 (by omega) (by omega) (by omega))⟩
        rw [hrun _ _ (Or.inr rfl) e]
        simp (disch := first | assumption | exact zz_nl_i _ | exact zz_nl_r _ | exact zz_nl_n | exact okv_i _ | exact okv_j _ | exact okv_0 | exact okv_1 | exact okv_o _ _ | exact okv_a _ _ | exact bI_okr _ | omega | exact llt_0 | ((repeat apply llt_s) <;> exact llt_0) | fail) only [x32, xb32, nI_01, if_false, w0', g1, nI_eq, eq_true c, if_true, e2, show ((1 : Nat) = 0) = False from eq_false (by omega), mo_k_v, mo_k_n, mo_v_e, mo_gf_e, mo_pf_e, mo_ia_e, mo_ba_e, mo_za_e, mo_la_e, mo_aa_e, mo_le_e, mo_is_e, mo_bs_e, mo_zs_0, mo_zs_1, mo_ls_e, mo_as_e, mo_na_e, mo_aci_e, mo_acb_e, mo_acj_e, hp_gs, hp_gn, hp_ss, List.getElem?_cons_zero, List.getElem?_cons_succ, List.set_cons_zero, List.set_cons_succ]
      · rw [if_pos c]
        obtain ⟨k2, e2, i2, f2⟩ := s_fail r1' (nI 1)
        refine ⟨k2, ?_, ⟨_, i2⟩, ⟨p', rk', tg', f', isStock_sam r2 (frm_sam f2 (by omega))⟩, frR_trans r3 (frR_of f2 (by omega) (by omega) (by omega))⟩
        rw [hrun _ _ (Or.inr rfl) e]
        simp (disch := first | assumption | exact zz_nl_i _ | exact zz_nl_r _ | exact zz_nl_n | exact okv_i _ | exact okv_j _ | exact okv_0 | exact okv_1 | exact okv_o _ _ | exact okv_a _ _ | exact bI_okr _ | omega | exact llt_0 | ((repeat apply llt_s) <;> exact llt_0) | fail) only [x32, xb32, nI_01, if_false, w0', g1, nI_eq, c, e2, show ((1 : Nat) = 0) = False from eq_false (by omega), mo_k_v, mo_k_n, mo_v_e, mo_gf_e, mo_pf_e, mo_ia_e, mo_ba_e, mo_za_e, mo_la_e, mo_aa_e, mo_le_e, mo_is_e, mo_bs_e, mo_zs_0, mo_zs_1, mo_ls_e, mo_as_e, mo_na_e, mo_aci_e, mo_acb_e, mo_acj_e, hp_gs, hp_gn, hp_ss, List.getElem?_cons_zero, List.getElem?_cons_succ, List.set_cons_zero, List.set_cons_succ]
  unfold lineP
  by_cases c7 : kdP t tl s = 7
  · rw [if_pos c7]
    refine tail _ 33 (c_readHead w0 ht hb hk0 hs) (fun b k hb01 e => ?_)
    rw [en32 w0]
    simp (disch := first | assumption | exact zz_nl_i _ | exact zz_nl_r _ | exact zz_nl_n | exact okv_i _ | exact okv_j _ | exact okv_0 | exact okv_1 | exact okv_o _ _ | exact okv_a _ _ | exact bI_okr _ | omega | exact llt_0 | ((repeat apply llt_s) <;> exact llt_0) | fail) only [x32, xb32, w0, h1', sw7 c7, e, mo_k_v, mo_k_n, mo_v_e, mo_gf_e, mo_pf_e, mo_ia_e, mo_ba_e, mo_za_e, mo_la_e, mo_aa_e, mo_le_e, mo_is_e, mo_bs_e, mo_zs_0, mo_zs_1, mo_ls_e, mo_as_e, mo_na_e, mo_aci_e, mo_acb_e, mo_acj_e, hp_gs, hp_gn, hp_ss, List.getElem?_cons_zero, List.getElem?_cons_succ, List.set_cons_zero, List.set_cons_succ]
  · rw [if_neg c7]
    by_cases c10 : kdP t tl s = 10
    · rw [if_pos c10]
      refine tail _ 40 (c_readValue w0 ht hb hk0 hs) (fun b k hb01 e => ?_)
      rw [en32 w0]
      simp (disch := first | assumption | exact zz_nl_i _ | exact zz_nl_r _ | exact zz_nl_n | exact okv_i _ | exact okv_j _ | exact okv_0 | exact okv_1 | exact okv_o _ _ | exact okv_a _ _ | exact bI_okr _ | omega | exact llt_0 | ((repeat apply llt_s) <;> exact llt_0) | fail) only [x32, xb32, w0, h1', sw10 c10, e, mo_k_v, mo_k_n, mo_v_e, mo_gf_e, mo_pf_e, mo_ia_e, mo_ba_e, mo_za_e, mo_la_e, mo_aa_e, mo_le_e, mo_is_e, mo_bs_e, mo_zs_0, mo_zs_1, mo_ls_e, mo_as_e, mo_na_e, mo_aci_e, mo_acb_e, mo_acj_e, hp_gs, hp_gn, hp_ss, List.getElem?_cons_zero, List.getElem?_cons_succ, List.set_cons_zero, List.set_cons_succ]
    · rw [if_neg c10]
      by_cases c12 : kdP t tl s = 12
      · rw [if_pos c12]
        refine tail _ 45 (c_readRecord hwf htl w0 ht hb hk0 hs) (fun b k hb01 e => ?_)
        rw [en32 w0]
        simp (disch := first | assumption | exact zz_nl_i _ | exact zz_nl_r _ | exact zz_nl_n | exact okv_i _ | exact okv_j _ | exact okv_0 | exact okv_1 | exact okv_o _ _ | exact okv_a _ _ | exact bI_okr _ | omega | exact llt_0 | ((repeat apply llt_s) <;> exact llt_0) | fail) only [x32, xb32, w0, h1', sw12 c12, e, mo_k_v, mo_k_n, mo_v_e, mo_gf_e, mo_pf_e, mo_ia_e, mo_ba_e, mo_za_e, mo_la_e, mo_aa_e, mo_le_e, mo_is_e, mo_bs_e, mo_zs_0, mo_zs_1, mo_ls_e, mo_as_e, mo_na_e, mo_aci_e, mo_acb_e, mo_acj_e, hp_gs, hp_gn, hp_ss, List.getElem?_cons_zero, List.getElem?_cons_succ, List.set_cons_zero, List.set_cons_succ]
      · rw [if_neg c12]
        obtain ⟨k, e, k1, k2⟩ := s_fail hk0 (nI 1)
        refine ⟨k, ?_, ⟨s, k1⟩, ⟨p, rk, tg, f, isStock_sam hs (frm_sam k2 (by omega))⟩, frR_of k2 (by omega) (by omega) (by omega)⟩
        rw [en32 w0]
        simp (disch := first | assumption | exact zz_nl_i _ | exact zz_nl_r _ | exact zz_nl_n | exact okv_i _ | exact okv_j _ | exact okv_0 | exact okv_1 | exact okv_o _ _ | exact okv_a _ _ | exact bI_okr _ | omega | exact llt_0 | ((repeat apply llt_s) <;> exact llt_0) | fail) only [x32, xb32, w0, h1', swx c7 c10 c12, e, mo_k_v, mo_k_n, mo_v_e, mo_gf_e, mo_pf_e, mo_ia_e, mo_ba_e, mo_za_e, mo_la_e, mo_aa_e, mo_le_e, mo_is_e, mo_bs_e, mo_zs_0, mo_zs_1, mo_ls_e, mo_as_e, mo_na_e, mo_aci_e, mo_acb_e, mo_acj_e, hp_gs, hp_gn, hp_ss, List.getElem?_cons_zero, List.getElem?_cons_succ, List.set_cons_zero, List.set_cons_succ]
end
