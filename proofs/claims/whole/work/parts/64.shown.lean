/-! the reference: left, by ranks -/
def ahB (S : Nat → Bool) (R : Nat → Nat) (r o : Nat) : Bool := S o && (decide (R r < R o) || (decide (R o = R r) && decide (o < r)))
def ahd (S : Nat → Bool) (R : Nat → Nat) (r : Nat) : Nat := fb_ct (ahB S R r) 256
def geR (S : Nat → Bool) (R : Nat → Nat) (x : Nat) : Nat := fb_ct (fun q => S q && decide (x ≤ R q)) 256
theorem ah_lt {S : Nat → Bool} {R : Nat → Nat} {a b : Nat} (ha : a < 256) (hS : S a = true) (hab : ahB S R b a = true) : ahd S R a < ahd S R b := by
  have h1 : ∀ o, ahB S R a o = true → ahB S R b o = true ∧ o ≠ a := by
    intro o ho
    unfold ahB at ho hab ⊢
    simp only [Bool.and_eq_true, Bool.or_eq_true, decide_eq_true_iff] at ho hab ⊢
    refine ⟨⟨ho.1, ?_⟩, ?_⟩
    · omega
    · rintro rfl; omega
  have h2 := fb_ct_upd (ahB S R a) true ha
  have h3 : ahB S R a a = false := by
    rw [← Bool.not_eq_true]
    exact fun c => (h1 a c).2 rfl
  rw [h3] at h2
  simp only [Bool.false_eq_true, if_false, if_true, Nat.add_zero] at h2
  have h4 : fb_ct (fun k => if k = a then true else ahB S R a k) 256 ≤ fb_ct (ahB S R b) 256 := fb_ct_sub (fun k hk hc => by
    by_cases e : k = a
    · subst e; exact hab
    · rw [if_neg e] at hc
      exact (h1 k hc).1)
  unfold ahd
  omega
theorem ah_one {S : Nat → Bool} {R : Nat → Nat} {a b : Nat} (ha : a < 256) (hb : b < 256) (hSa : S a = true) (hSb : S b = true) (e : ahd S R a = ahd S R b) : a = b := by
  by_cases c : a = b
  · exact c
  · exfalso
    by_cases c1 : ahB S R b a = true
    · have := ah_lt ha hSa c1
      omega
    · by_cases c2 : ahB S R a b = true
      · have := ah_lt hb hSb c2
        omega
      · unfold ahB at c1 c2
        simp only [hSa, hSb, Bool.and_eq_true, Bool.or_eq_true, decide_eq_true_iff, true_and] at c1 c2
        omega
theorem ah_bound {S : Nat → Bool} {R : Nat → Nat} {a : Nat} (ha : a < 256) (hS : S a = true) : ahd S R a < fb_ct S 256 := by
  have h3 : ahB S R a a = false := by
    unfold ahB
    rw [decide_eq_false (by omega), decide_eq_false (show ¬ a < a by omega), Bool.and_false, Bool.or_self, Bool.and_false]
  have h2 := fb_ct_upd (ahB S R a) true ha
  rw [h3] at h2
  simp only [Bool.false_eq_true, if_false, if_true, Nat.add_zero] at h2
  have h4 : fb_ct (fun k => if k = a then true else ahB S R a k) 256 ≤ fb_ct S 256 := fb_ct_sub (fun k hk hc => by
    by_cases e : k = a
    · subst e; exact hS
    · rw [if_neg e] at hc
      unfold ahB at hc
      rw [Bool.and_eq_true] at hc
      exact hc.1)
  unfold ahd
  omega
theorem ah_split {S : Nat → Bool} {R : Nat → Nat} {r : Nat} (hr : r < 256) : ahd S R r = geR S R (R r + 1) + fb_ct (fun q => decide (R q = R r) && S q) r := by
  obtain ⟨d, hd⟩ : ∃ d, 256 = r + d := ⟨256 - r, by omega⟩
  have e1 : ahd S R r = fb_ct (fun o => (S o && decide (R r + 1 ≤ R o)) || (S o && (decide (R o = R r) && decide (o < r)))) 256 := fb_ct_cong (fun o _ => by
    unfold ahB
    rw [Bool.and_or_distrib_left]
    rfl)
  rw [e1, fb_ct_or (fun k hk => by
    simp only [Bool.and_eq_true, decide_eq_true_iff]
    omega)]
  have e2 : fb_ct (fun o => S o && (decide (R o = R r) && decide (o < r))) 256 = fb_ct (fun q => decide (R q = R r) && S q) r := by
    rw [hd, fb_ct_split]
    have z : fb_ct (fun k => S (r + k) && (decide (R (r + k) = R r) && decide (r + k < r))) d = 0 := fb_ct_zero.mpr (fun k hk => by rw [decide_eq_false (show ¬ r + k < r by omega), Bool.and_false, Bool.and_false])
    rw [z, Nat.add_zero]
    exact fb_ct_cong (fun o ho => by rw [decide_eq_true ho, Bool.and_true, Bool.and_comm])
  rw [e2]
  rfl
theorem ge_anti {S : Nat → Bool} {R : Nat → Nat} {x y : Nat} (h : x ≤ y) : geR S R y ≤ geR S R x := fb_ct_sub (fun k _ hc => by
  simp only [Bool.and_eq_true, decide_eq_true_iff] at hc ⊢
  exact ⟨hc.1, by omega⟩)
theorem ge_eq {S : Nat → Bool} {R : Nat → Nat} (x : Nat) : geR S R x = geR S R (x + 1) + fb_ct (fun q => decide (R q = x) && S q) 256 := by
  unfold geR
  rw [← fb_ct_or (fun k hk => by
    simp only [Bool.and_eq_true, decide_eq_true_iff]
    omega)]
  exact fb_ct_cong (fun k _ => Bool.eq_iff_iff.mpr (by
    simp only [Bool.and_eq_true, Bool.or_eq_true, decide_eq_true_iff]
    constructor
    · rintro ⟨a, b⟩
      by_cases e : R k = x
      · exact Or.inr ⟨e, a⟩
      · exact Or.inl ⟨a, by omega⟩
    · rintro (⟨a, b⟩ | ⟨a, b⟩)
      · exact ⟨a, by omega⟩
      · exact ⟨b, by omega⟩))
section
variable {rk lf : Nat → Int32} {R : Nat → Nat}
theorem fr_ge (hR : ∀ q, q < 256 → pb lf q = true → rk q = nI (R q) ∧ R q < 1000) {x : Nat} (hx : x < 2147483648) : frC rk lf (nI x) = geR (pb lf) R x := fb_ct_cong (fun q hq => by
  cases c : pb lf q
  · rw [Bool.and_false, Bool.false_and]
  · obtain ⟨h1, h2⟩ := hR q hq c
    rw [Bool.and_true, Bool.true_and]
    apply Bool.eq_iff_iff.mpr
    rw [Bool.not_eq_true', decide_eq_false_iff_not, decide_eq_true_iff, h1, nI_ltI (by omega) hx]
    omega)
theorem ge_top (hR : ∀ q, q < 256 → pb lf q = true → rk q = nI (R q) ∧ R q < 1000) {x : Nat} (hx : 1000 ≤ x) : geR (pb lf) R x = 0 := fb_ct_zero.mpr (fun q hq => by
  rw [← Bool.not_eq_true, Bool.and_eq_true, decide_eq_true_iff]
  rintro ⟨h1, h2⟩
  have := (hR q hq h1).2
  omega)
def shI (lf : Nat → Int32) (R : Nat → Nat) (j st r : Nat) : Prop := r ≤ 999 ∧ j < geR (pb lf) R r ∧ ∀ x, r + st ≤ x → geR (pb lf) R x ≤ j
theorem sh_step (hR : ∀ q, q < 256 → pb lf q = true → rk q = nI (R q) ∧ R q < 1000) {j st r : Nat} (hst : st ≤ 1024) (h : shI lf R j (2 * st) r) : shI lf R j st (shS rk lf j st r) := by
  obtain ⟨h1, h2, h3⟩ := h
  unfold shS
  rw [fr_ge hR (show r + st < 2147483648 by omega)]
  by_cases c : r + st ≤ 999 ∧ j < geR (pb lf) R (r + st)
  · rw [if_pos c]
    exact ⟨c.1, c.2, fun x hx => h3 x (by omega)⟩
  · rw [if_neg c]
    refine ⟨h1, h2, fun x hx => ?_⟩
    by_cases c2 : r + st ≤ 999
    · have : ¬ j < geR (pb lf) R (r + st) := fun q => c ⟨c2, q⟩
      have := ge_anti (S := pb lf) (R := R) hx
      omega
    · rw [ge_top hR (by omega)]
      omega
theorem sh_all (hR : ∀ q, q < 256 → pb lf q = true → rk q = nI (R q) ∧ R q < 1000) {j : Nat} (hj : j < amt lf) : shI lf R j 1 (shR rk lf j) := by
  have h0 : shI lf R j (2 * 512) 0 := ⟨by omega, by
    have : geR (pb lf) R 0 = amt lf := by
      rw [← ct_256]
      exact fb_ct_cong (fun q _ => by rw [decide_eq_true (Nat.zero_le _), Bool.and_true])
    omega, fun x hx => by rw [ge_top hR (by omega)]; omega⟩
  unfold shR
  exact sh_step hR (by omega) (sh_step hR (st := 2) (by omega) (sh_step hR (st := 4) (by omega) (sh_step hR (st := 8) (by omega) (sh_step hR (st := 16) (by omega) (sh_step hR (st := 32) (by omega) (sh_step hR (st := 64) (by omega) (sh_step hR (st := 128) (by omega) (sh_step hR (st := 256) (by omega) (sh_step hR (st := 512) (by omega) h0)))))))))
/-- both orders are one -/
theorem shown_eq (hR : ∀ q, q < 256 → pb lf q = true → rk q = nI (R q) ∧ R q < 1000) {j : Nat} (hj : j < 2147483648) : (if j < amt lf then KT (fun q => decide (rk q = nI (shR rk lf j)) && pb lf q) 256 (nI j - nI (frC rk lf (nI (shR rk lf j + 1)))) else -1) = FI (fun r => pb lf r && decide (ahd (pb lf) R r = j)) 256 := by
  by_cases c : j < amt lf
  · rw [if_pos c]
    obtain ⟨h1, h2, h3⟩ := sh_all hR c
    generalize shR rk lf j = r at *
    have h4 := h3 (r + 1) (by omega)
    have hT : ∀ q, q < 256 → (decide (rk q = nI r) && pb lf q) = (decide (R q = r) && pb lf q) := fun q hq => by
      cases c2 : pb lf q
      · rw [Bool.and_false, Bool.and_false]
      · obtain ⟨g1, g2⟩ := hR q hq c2
        rw [Bool.and_true, Bool.and_true, g1]
        exact Bool.eq_iff_iff.mpr (by rw [decide_eq_true_iff, decide_eq_true_iff, nI_eq (by omega) (by omega)])
    have hle := fb_ct_le (fun q => pb lf q && decide (r + 1 ≤ R q)) 256
    have hle' : geR (pb lf) R (r + 1) ≤ 256 := hle
    rw [KT_cong hT, fr_ge hR (show r + 1 < 2147483648 by omega), pk_sub (by omega)]
    have h5 := ge_eq (S := pb lf) (R := R) r
    have hlt : j - geR (pb lf) R (r + 1) < fb_ct (fun q => decide (R q = r) && pb lf q) 256 := by omega
    rw [KT_lt hlt (by omega)]
    obtain ⟨k1, k2, k3⟩ := kth_spec hlt
    generalize kth (fun q => decide (R q = r) && pb lf q) 256 (j - geR (pb lf) R (r + 1)) = q at *
    simp only [Bool.and_eq_true, decide_eq_true_iff] at k2
    have e : ahd (pb lf) R q = j := by
      rw [ah_split k1, k2.1, k3]
      omega
    rw [FI_of (i := q) k1 (by rw [k2.2, e, decide_eq_true rfl]; rfl) (fun i hi => ?_)]
    rw [← Bool.not_eq_true, Bool.and_eq_true, decide_eq_true_iff]
    rintro ⟨g1, g2⟩
    have := ah_one (by omega) k1 g1 k2.2 (g2.trans e.symm)
    omega
  · rw [if_neg c, FI_none (fun i hi => ?_)]
    rw [← Bool.not_eq_true, Bool.and_eq_true, decide_eq_true_iff]
    rintro ⟨g1, g2⟩
    have := ah_bound (R := R) hi g1
    rw [ct_256] at this
    omega
end
section
variable {h : zz_H} {M : Nat} {A : Nat → Int32} {mt mk mp mu ms mn mo ml : Int32} {mv : Int64} {me mf mw : Int32} {p : Pl} {rk tg f ch ba : Nat → Int32}
theorem m_left_plain (w0 : hp_g h M = some (mdO M mt mk mp mu ms mn mo ml mv me mf mw)) (wA : hp_g h (M + 1) = some (iA 12639 A)) (hr : RS A 0 p rk tg ch ba) (hc : CI p rk tg f ch ba) (hs : scr3 h M) (x : Int32) : ∃ k, zz_run 192 [.ref M, .int x, .int (nI 0)] h = some (some (.int (KT (pb (fun b => lfW p f ch ba b (-1) (-1))) 256 x)), k) ∧ scr3 k M ∧ frm h k (M + 4) (M + 7) := by
  obtain ⟨k, e, a6, s, hf⟩ := m_laysLeft w0 wA hr hc hs (-1)
  have w0' := (hf.2.2.2 M (by omega)).trans w0
  refine ⟨k, ?_, s, hf⟩
  rw [en192 w0]
  simp (disch := first | assumption | exact zz_nl_i _ | exact zz_nl_r _ | exact zz_nl_n | exact okv_i _ | exact okv_j _ | exact okv_0 | exact okv_1 | exact okv_o _ _ | exact okv_a _ _ | exact bI_okr _ | omega | exact llt_0 | ((repeat apply llt_s) <;> exact llt_0) | fail) only [x192_p0, x192_p1, e, if_true, w0', a_at w0' a6, mo_k_v, mo_k_n, mo_v_e, mo_gf_e, mo_pf_e, mo_ia_e, mo_ba_e, mo_za_e, mo_la_e, mo_aa_e, mo_le_e, mo_is_e, mo_bs_e, mo_zs_0, mo_zs_1, mo_ls_e, mo_as_e, mo_na_e, mo_aci_e, mo_acb_e, mo_acj_e, hp_gs, hp_gn, hp_ss, List.getElem?_cons_zero, List.getElem?_cons_succ, List.set_cons_zero, List.set_cons_succ]
theorem m_left_shown (w0 : hp_g h M = some (mdO M mt mk mp mu ms mn mo ml mv me mf mw)) (wA : hp_g h (M + 1) = some (iA 12639 A)) (hr : RS A 0 p rk tg ch ba) (hc : CI p rk tg f ch ba) (hs : scr3 h M) (x : Int32) : ∃ k, zz_run 192 [.ref M, .int x, .int (nI 1)] h = some (some (.int (FI (fun r => pb (fun b => lfW p f ch ba b (-1) (-1)) r && decide (nI (ahd (pb (fun b => lfW p f ch ba b (-1) (-1))) (fun q => (rk q).toNatClampNeg) r) = x)) 256)), k) ∧ scr3 k M ∧ frm h k (M + 4) (M + 7) := by
  obtain ⟨k, e, a6, s, hf⟩ := m_laysLeft w0 wA hr hc hs (-1)
  have w0' := (hf.2.2.2 M (by omega)).trans w0
  have wA' := (hf.2.2.2 (M + 1) (by omega)).trans wA
  have hL : ∀ q, q < 256 → pb (fun b => lfW p f ch ba b (-1) (-1)) q = true → ∃ a, a < 1000 ∧ rk q = nI a ∧ A (462 + q) = nI a := by
    intro q hq hp
    unfold pb at hp
    have h1 := ((lf_bt hc.1 f ch ba (-1) (-1) (show q % 32 < 32 by omega) hr.1.2.1).mp hp).1
    rw [hc.2.2.2.2.1 q hq, Bool.not_eq_true', decide_eq_false_iff_not] at h1
    have h2 := (hr.2.2.2.1 q hq).2.resolve_left h1
    rw [Nat.zero_add] at h2
    rcases (hc.2.2.2.1 q hq).2 with ⟨c, _⟩ | ⟨a, h3, h4⟩
    · exact absurd c h1
    · exact ⟨a, h3, h4, h2.trans h4⟩
  generalize (fun b => lfW p f ch ba b (-1) (-1)) = L at *
  refine ⟨k, ?_, s, hf⟩
  have hin : ∀ r, r < 256 → pb L r = true → ∀ o1 : Option Value, zz_nl o1 = true → ∃ o2, zz_nl o2 = true ∧ zz_Y 192 (48, [some (.ref (M)), some (.int (x)), some (.int (nI (1))), some (.int (nI (r))), some (.int (nI (0))), some (.int (nI (0))), o1], [], k) = zz_Y 192 (48, [some (.ref (M)), some (.int (x)), some (.int (nI (1))), some (.int (nI (r))), some (.int (nI (ahd (pb L) (fun q => (rk q).toNatClampNeg) r))), some (.int (nI (256))), o2], [], k) := by
    intro r hr1 hpr o1 ho1
    obtain ⟨a, ha, hra, hAa⟩ := hL r hr1 hpr
    have step : ∀ b n (t : Option Value), b < 256 → zz_nl t = true → ∃ t', zz_nl t' = true ∧ zz_Y 192 (48, [some (.ref (M)), some (.int (x)), some (.int (nI (1))), some (.int (nI (r))), some (.int (nI (n))), some (.int (nI (b))), t], [], k) = zz_Y 192 (48, [some (.ref (M)), some (.int (x)), some (.int (nI (1))), some (.int (nI (r))), some (.int (nI (n + (if ahB (pb L) (fun q => (rk q).toNatClampNeg) r b = true then 1 else 0)))), some (.int (nI (b + 1))), t'], [], k) := by
      intro b n t hb ht
      have ai := a_inSet a6 hb
      refine ⟨some (.int (A (462 + b) - A (462 + r))), zz_nl_i _, ?_⟩
      rw [x192_c48]
      cases c : pb L b with
      | false =>
        rw [c] at ai
        have e0 : ahB (pb L) (fun q => (rk q).toNatClampNeg) r b = false := by unfold ahB; rw [c, Bool.false_and]
        simp (disch := first | assumption | exact zz_nl_i _ | exact zz_nl_r _ | exact zz_nl_n | exact okv_i _ | exact okv_j _ | exact okv_0 | exact okv_1 | exact okv_o _ _ | exact okv_a _ _ | exact bI_okr _ | omega | exact llt_0 | ((repeat apply llt_s) <;> exact llt_0) | fail) only [x192_p0, x192_p1, w0', wA', nI_ltI, hb, if_true, nI_add, ai, bI_f, e0, Bool.false_eq_true, if_false, mo_k_v, mo_k_n, mo_v_e, mo_gf_e, mo_pf_e, mo_ia_e, mo_ba_e, mo_za_e, mo_la_e, mo_aa_e, mo_le_e, mo_is_e, mo_bs_e, mo_zs_0, mo_zs_1, mo_ls_e, mo_as_e, mo_na_e, mo_aci_e, mo_acb_e, mo_acj_e, hp_gs, hp_gn, hp_ss, List.getElem?_cons_zero, List.getElem?_cons_succ, List.set_cons_zero, List.set_cons_succ]
      | true =>
        rw [c] at ai
        obtain ⟨a2, ha2, hra2, hAa2⟩ := hL b hb c
        have hd : nI a2 - nI a = nI 0 ↔ a2 = a := by
          constructor
          · intro e
            have : nI a2 = nI a := by
              have e2 := congrArg (fun z => z + nI a) e
              rw [show nI a2 - nI a + nI a = nI a2 from Int32.sub_add_cancel _ _, nI_add, Nat.zero_add] at e2
              exact e2
            exact (nI_eq (by omega) (by omega)).mp this
          · rintro rfl; rw [pk_sub (Nat.le_refl _), Nat.sub_self]
        have hg : nI 0 < nI a2 - nI a ↔ a < a2 := by
          by_cases c3 : a ≤ a2
          · rw [pk_sub (by omega), nI_ltI (by omega) (by omega)]
            omega
          · refine ⟨fun q => ?_, fun q => by omega⟩
            rw [Int32.lt_iff_toInt_lt, Int32.toInt_sub, nI_toInt (by omega), nI_toInt (by omega), nI_toInt (by omega)] at q
            rw [show ((a2 : Int) - (a : Int)).bmod (2 ^ 32) = (a2 : Int) - (a : Int) by
              apply Int.bmod_eq_of_le <;> omega] at q
            omega
        have e0 : ahB (pb L) (fun q => (rk q).toNatClampNeg) r b = (decide (a < a2) || (decide (a2 = a) && decide (b < r))) := by
          have f1 : (rk r).toNatClampNeg = a := by rw [hra, nI_clamp (by omega)]
          have f2 : (rk b).toNatClampNeg = a2 := by rw [hra2, nI_clamp (by omega)]
          unfold ahB
          simp only [c, f1, f2, Bool.true_and]
        rw [e0]
        by_cases c3 : a < a2
        · have c3' := hg.mpr c3
          simp (disch := first | assumption | exact zz_nl_i _ | exact zz_nl_r _ | exact zz_nl_n | exact okv_i _ | exact okv_j _ | exact okv_0 | exact okv_1 | exact okv_o _ _ | exact okv_a _ _ | exact bI_okr _ | omega | exact llt_0 | ((repeat apply llt_s) <;> exact llt_0) | fail) only [x192_p0, x192_p1, w0', wA', nI_ltI, hb, if_true, nI_add, ai, bI_t, nI_01, if_false, hAa, hAa2, c3', eq_true c3, decide_true, Bool.true_or, mo_k_v, mo_k_n, mo_v_e, mo_gf_e, mo_pf_e, mo_ia_e, mo_ba_e, mo_za_e, mo_la_e, mo_aa_e, mo_le_e, mo_is_e, mo_bs_e, mo_zs_0, mo_zs_1, mo_ls_e, mo_as_e, mo_na_e, mo_aci_e, mo_acb_e, mo_acj_e, hp_gs, hp_gn, hp_ss, List.getElem?_cons_zero, List.getElem?_cons_succ, List.set_cons_zero, List.set_cons_succ]
        · have c3' : ¬ nI 0 < nI a2 - nI a := fun q => c3 (hg.mp q)
          by_cases c4 : a2 = a
          · have c4' := eq_true (hd.mpr c4)
            by_cases c5 : b < r
            · simp (disch := first | assumption | exact zz_nl_i _ | exact zz_nl_r _ | exact zz_nl_n | exact okv_i _ | exact okv_j _ | exact okv_0 | exact okv_1 | exact okv_o _ _ | exact okv_a _ _ | exact bI_okr _ | omega | exact llt_0 | ((repeat apply llt_s) <;> exact llt_0) | fail) only [x192_p0, x192_p1, w0', wA', nI_ltI, hb, if_true, nI_add, ai, bI_t, nI_01, if_false, hAa, hAa2, c3', c4', c5, c3, eq_true c4, decide_true, decide_false, Bool.and_self, Bool.false_or, mo_k_v, mo_k_n, mo_v_e, mo_gf_e, mo_pf_e, mo_ia_e, mo_ba_e, mo_za_e, mo_la_e, mo_aa_e, mo_le_e, mo_is_e, mo_bs_e, mo_zs_0, mo_zs_1, mo_ls_e, mo_as_e, mo_na_e, mo_aci_e, mo_acb_e, mo_acj_e, hp_gs, hp_gn, hp_ss, List.getElem?_cons_zero, List.getElem?_cons_succ, List.set_cons_zero, List.set_cons_succ]
            · simp (disch := first | assumption | exact zz_nl_i _ | exact zz_nl_r _ | exact zz_nl_n | exact okv_i _ | exact okv_j _ | exact okv_0 | exact okv_1 | exact okv_o _ _ | exact okv_a _ _ | exact bI_okr _ | omega | exact llt_0 | ((repeat apply llt_s) <;> exact llt_0) | fail) only [x192_p0, x192_p1, w0', wA', nI_ltI, hb, if_true, nI_add, ai, bI_t, nI_01, if_false, hAa, hAa2, c3', c4', c5, c3, eq_true c4, decide_true, decide_false, Bool.and_false, Bool.or_self, Bool.false_eq_true, mo_k_v, mo_k_n, mo_v_e, mo_gf_e, mo_pf_e, mo_ia_e, mo_ba_e, mo_za_e, mo_la_e, mo_aa_e, mo_le_e, mo_is_e, mo_bs_e, mo_zs_0, mo_zs_1, mo_ls_e, mo_as_e, mo_na_e, mo_aci_e, mo_acb_e, mo_acj_e, hp_gs, hp_gn, hp_ss, List.getElem?_cons_zero, List.getElem?_cons_succ, List.set_cons_zero, List.set_cons_succ]
          · have c4' : ¬ nI a2 - nI a = nI 0 := fun q => c4 (hd.mp q)
            simp (disch := first | assumption | exact zz_nl_i _ | exact zz_nl_r _ | exact zz_nl_n | exact okv_i _ | exact okv_j _ | exact okv_0 | exact okv_1 | exact okv_o _ _ | exact okv_a _ _ | exact bI_okr _ | omega | exact llt_0 | ((repeat apply llt_s) <;> exact llt_0) | fail) only [x192_p0, x192_p1, w0', wA', nI_ltI, hb, if_true, nI_add, ai, bI_t, nI_01, if_false, hAa, hAa2, c3', c4', c3, c4, decide_false, Bool.false_and, Bool.or_self, Bool.false_eq_true, mo_k_v, mo_k_n, mo_v_e, mo_gf_e, mo_pf_e, mo_ia_e, mo_ba_e, mo_za_e, mo_la_e, mo_aa_e, mo_le_e, mo_is_e, mo_bs_e, mo_zs_0, mo_zs_1, mo_ls_e, mo_as_e, mo_na_e, mo_aci_e, mo_acb_e, mo_acj_e, hp_gs, hp_gn, hp_ss, List.getElem?_cons_zero, List.getElem?_cons_succ, List.set_cons_zero, List.set_cons_succ]
    obtain ⟨o2, ho2, e2⟩ := lp_foldE (N := 256) (St := fun b n t => zz_Y 192 (48, [some (.ref (M)), some (.int (x)), some (.int (nI (1))), some (.int (nI (r))), some (.int (nI (n))), some (.int (nI (b))), t], [], k)) (Inv := fun t => zz_nl t = true) step (s := 0) (t := o1) ho1
    refine ⟨o2, ho2, e2.trans ?_⟩
    rw [lp_ct, Nat.zero_add]
    rfl
  have step : ∀ r (s : Option Value × Option Value × Option Value), r < 256 → (zz_nl s.1 = true ∧ zz_nl s.2.1 = true ∧ zz_nl s.2.2 = true) → ∃ s' : Option Value × Option Value × Option Value, (zz_nl s'.1 = true ∧ zz_nl s'.2.1 = true ∧ zz_nl s'.2.2 = true) ∧ zz_Y 192 (21, [some (.ref (M)), some (.int (x)), some (.int (nI (1))), some (.int (nI (r))), s.1, s.2.1, s.2.2], [], k) = if (pb L r && decide (nI (ahd (pb L) (fun q => (rk q).toNatClampNeg) r) = x)) = true then some (some (.int (nI r)), k) else zz_Y 192 (21, [some (.ref (M)), some (.int (x)), some (.int (nI (1))), some (.int (nI (r + 1))), s'.1, s'.2.1, s'.2.2], [], k) := by
    rintro r ⟨s1, s2, s3⟩ hr1 ⟨h1, h2, h3⟩
    dsimp only at h1 h2 h3 ⊢
    have ai := a_inSet a6 hr1
    rw [x192_c21]
    cases c : pb L r with
    | false =>
      rw [c] at ai
      refine ⟨(s1, s2, s3), ⟨h1, h2, h3⟩, ?_⟩
      simp (disch := first | assumption | exact zz_nl_i _ | exact zz_nl_r _ | exact zz_nl_n | exact okv_i _ | exact okv_j _ | exact okv_0 | exact okv_1 | exact okv_o _ _ | exact okv_a _ _ | exact bI_okr _ | omega | exact llt_0 | ((repeat apply llt_s) <;> exact llt_0) | fail) only [x192_p0, x192_p1, w0', nI_ltI, hr1, if_true, ai, bI_f, nI_add, Bool.false_and, Bool.false_eq_true, if_false, mo_k_v, mo_k_n, mo_v_e, mo_gf_e, mo_pf_e, mo_ia_e, mo_ba_e, mo_za_e, mo_la_e, mo_aa_e, mo_le_e, mo_is_e, mo_bs_e, mo_zs_0, mo_zs_1, mo_ls_e, mo_as_e, mo_na_e, mo_aci_e, mo_acb_e, mo_acj_e, hp_gs, hp_gn, hp_ss, List.getElem?_cons_zero, List.getElem?_cons_succ, List.set_cons_zero, List.set_cons_succ]
    | true =>
      rw [c] at ai
      obtain ⟨o2, ho2, e2⟩ := hin r hr1 c s3 h3
      refine ⟨(some (.int (nI (ahd (pb L) (fun q => (rk q).toNatClampNeg) r))), some (.int (nI 256)), o2), ⟨zz_nl_i _, zz_nl_i _, ho2⟩, ?_⟩
      simp (disch := first | assumption | exact zz_nl_i _ | exact zz_nl_r _ | exact zz_nl_n | exact okv_i _ | exact okv_j _ | exact okv_0 | exact okv_1 | exact okv_o _ _ | exact okv_a _ _ | exact bI_okr _ | omega | exact llt_0 | ((repeat apply llt_s) <;> exact llt_0) | fail) only [x192_p0, x192_p1, w0', nI_ltI, hr1, if_true, ai, bI_t, nI_01, if_false, Bool.true_and, mo_k_v, mo_k_n, mo_v_e, mo_gf_e, mo_pf_e, mo_ia_e, mo_ba_e, mo_za_e, mo_la_e, mo_aa_e, mo_le_e, mo_is_e, mo_bs_e, mo_zs_0, mo_zs_1, mo_ls_e, mo_as_e, mo_na_e, mo_aci_e, mo_acb_e, mo_acj_e, hp_gs, hp_gn, hp_ss, List.getElem?_cons_zero, List.getElem?_cons_succ, List.set_cons_zero, List.set_cons_succ]
      rw [e2, x192_c48]
      by_cases c2 : nI (ahd (pb L) (fun q => (rk q).toNatClampNeg) r) = x
      · simp (disch := first | assumption | exact zz_nl_i _ | exact zz_nl_r _ | exact zz_nl_n | exact okv_i _ | exact okv_j _ | exact okv_0 | exact okv_1 | exact okv_o _ _ | exact okv_a _ _ | exact bI_okr _ | omega | exact llt_0 | ((repeat apply llt_s) <;> exact llt_0) | fail) only [x192_p0, x192_p1, nI_ltI, Nat.lt_irrefl, if_false, eq_true c2, if_true, decide_true, mo_k_v, mo_k_n, mo_v_e, mo_gf_e, mo_pf_e, mo_ia_e, mo_ba_e, mo_za_e, mo_la_e, mo_aa_e, mo_le_e, mo_is_e, mo_bs_e, mo_zs_0, mo_zs_1, mo_ls_e, mo_as_e, mo_na_e, mo_aci_e, mo_acb_e, mo_acj_e, hp_gs, hp_gn, hp_ss, List.getElem?_cons_zero, List.getElem?_cons_succ, List.set_cons_zero, List.set_cons_succ]
      · simp (disch := first | assumption | exact zz_nl_i _ | exact zz_nl_r _ | exact zz_nl_n | exact okv_i _ | exact okv_j _ | exact okv_0 | exact okv_1 | exact okv_o _ _ | exact okv_a _ _ | exact bI_okr _ | omega | exact llt_0 | ((repeat apply llt_s) <;> exact llt_0) | fail) only [x192_p0, x192_p1, nI_ltI, Nat.lt_irrefl, if_false, c2, decide_false, Bool.false_eq_true, nI_add, mo_k_v, mo_k_n, mo_v_e, mo_gf_e, mo_pf_e, mo_ia_e, mo_ba_e, mo_za_e, mo_la_e, mo_aa_e, mo_le_e, mo_is_e, mo_bs_e, mo_zs_0, mo_zs_1, mo_ls_e, mo_as_e, mo_na_e, mo_aci_e, mo_acb_e, mo_acj_e, hp_gs, hp_gn, hp_ss, List.getElem?_cons_zero, List.getElem?_cons_succ, List.set_cons_zero, List.set_cons_succ]
  obtain ⟨⟨s1, s2, s3⟩, ⟨g1, g2, g3⟩, e3⟩ := lp_findE (N := 256) (St := fun r (s : Option Value × Option Value × Option Value) => zz_Y 192 (21, [some (.ref (M)), some (.int (x)), some (.int (nI (1))), some (.int (nI (r))), s.1, s.2.1, s.2.2], [], k)) (Inv := fun s => zz_nl s.1 = true ∧ zz_nl s.2.1 = true ∧ zz_nl s.2.2 = true) (p := fun r => pb L r && decide (nI (ahd (pb L) (fun q => (rk q).toNatClampNeg) r) = x)) (R := fun r => some (some (.int (nI r)), k)) step (s := (none, none, none)) ⟨zz_nl_n, zz_nl_n, zz_nl_n⟩
  rw [en192 w0]
  simp (disch := first | assumption | exact zz_nl_i _ | exact zz_nl_r _ | exact zz_nl_n | exact okv_i _ | exact okv_j _ | exact okv_0 | exact okv_1 | exact okv_o _ _ | exact okv_a _ _ | exact bI_okr _ | omega | exact llt_0 | ((repeat apply llt_s) <;> exact llt_0) | fail) only [x192_p0, x192_p1, e, nI_01, if_false, mo_k_v, mo_k_n, mo_v_e, mo_gf_e, mo_pf_e, mo_ia_e, mo_ba_e, mo_za_e, mo_la_e, mo_aa_e, mo_le_e, mo_is_e, mo_bs_e, mo_zs_0, mo_zs_1, mo_ls_e, mo_as_e, mo_na_e, mo_aci_e, mo_acb_e, mo_acj_e, hp_gs, hp_gn, hp_ss, List.getElem?_cons_zero, List.getElem?_cons_succ, List.set_cons_zero, List.set_cons_succ]
  refine e3.trans ?_
  dsimp only at g1 g2 g3 ⊢
  unfold FI
  split
  · rfl
  · rw [x192_c21]
    simp (disch := first | assumption | exact zz_nl_i _ | exact zz_nl_r _ | exact zz_nl_n | exact okv_i _ | exact okv_j _ | exact okv_0 | exact okv_1 | exact okv_o _ _ | exact okv_a _ _ | exact bI_okr _ | omega | exact llt_0 | ((repeat apply llt_s) <;> exact llt_0) | fail) only [x192_p0, x192_p1, nI_ltI, Nat.lt_irrefl, if_false, mo_k_v, mo_k_n, mo_v_e, mo_gf_e, mo_pf_e, mo_ia_e, mo_ba_e, mo_za_e, mo_la_e, mo_aa_e, mo_le_e, mo_is_e, mo_bs_e, mo_zs_0, mo_zs_1, mo_ls_e, mo_as_e, mo_na_e, mo_aci_e, mo_acb_e, mo_acj_e, hp_gs, hp_gn, hp_ss, List.getElem?_cons_zero, List.getElem?_cons_succ, List.set_cons_zero, List.set_cons_succ]
end
