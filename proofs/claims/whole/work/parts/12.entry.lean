/-! what the micro steps do where their things are known -/
section MO
variable {y p k n a ci : Nat} {ls : zz_L} {st : List Value} {h : zz_H}
theorem mo_k_v {v : Value} {h1 : zz_H} : mo_k y p ls st (some (some v, h1)) = zz_Y y (p, ls, v :: st, h1) := rfl
theorem mo_k_n {h1 : zz_H} : mo_k y p ls st (some (none, h1)) = zz_Y y (p, ls, st, h1) := rfl
theorem mo_v_e {v : Value} : mo_v (some v) y p ls st h = zz_Y y (p, ls, v :: st, h) := rfl
theorem mo_gf_e {fs : List Value} : mo_gf (some (.inr (ci, fs))) ci k y p ls st h = mo_v (fs[k]?) y p ls st h := by
  unfold mo_gf zz_gf
  simp only [if_true]
  cases fs[k]? with
  | none => rfl
  | some v => rfl
theorem mo_pf_e {fs : List Value} {ty : FieldType} {x : Value} (h1 : decide (k < fs.length) = true) (h2 : zz_okv ty x = true) : mo_pf (some (.inr (ci, fs))) ci k ty x a y p ls st h = zz_Y y (p, ls, st, hp_s h a (.inr (ci, fs.set k x))) := by
  unfold mo_pf
  simp only [of_decide_eq_true h1, h2, and_self, if_true]
theorem zz_ix_e (h1 : k < n) (h2 : n ≤ 2147483647) : zz_ix (nI k) n = true := by
  unfold zz_ix
  exact decide_eq_true (nI_in h1 (by omega))
theorem mo_ia_e {f : Nat → Int32} (h1 : k < n) (h2 : n ≤ 2147483647) : mo_ia (some (.inl (.int, n, .inl f))) (nI k) a y p ls st h = zz_Y y (p, ls, .int (f k) :: st, h) := by
  unfold mo_ia zz_ia
  simp only [zz_ix_e h1 h2, if_true, nI_clamp (show k < 2 ^ 31 by omega)]
  rfl
theorem mo_ia_x (ha : a = h.2.2.2.1) (h1 : k < h.2.2.2.2.1) (h2 : h.2.2.2.2.1 ≤ 2147483647) : mo_ia none (nI k) a y p ls st h = zz_Y y (p, ls, .int (h.2.2.2.2.2 k) :: st, h) := by
  unfold mo_ia zz_ia
  simp only [zz_ix_e h1 h2, ha, and_self, if_true, nI_clamp (show k < 2 ^ 31 by omega)]
  rfl
theorem mo_ba_e {f : Nat → Int32} (h1 : k < n) (h2 : n ≤ 2147483647) : mo_ba (some (.inl (.byte, n, .inl f))) (nI k) y p ls st h = zz_Y y (p, ls, .int (f k) :: st, h) := by
  unfold mo_ba zz_ba
  simp only [zz_ix_e h1 h2, if_true, nI_clamp (show k < 2 ^ 31 by omega)]
  rfl
theorem mo_za_e {f : Nat → Int32} (h1 : k < n) (h2 : n ≤ 2147483647) : mo_ba (some (.inl (.boolean, n, .inl f))) (nI k) y p ls st h = zz_Y y (p, ls, .int (f k) :: st, h) := by
  unfold mo_ba zz_ba
  simp only [zz_ix_e h1 h2, if_true, nI_clamp (show k < 2 ^ 31 by omega)]
  rfl
theorem mo_la_e {f : Nat → Int64} (h1 : k < n) (h2 : n ≤ 2147483647) : mo_la (some (.inl (.long, n, .inr (.inl f)))) (nI k) y p ls st h = zz_Y y (p, ls, .long (f k) :: st, h) := by
  unfold mo_la zz_la
  simp only [zz_ix_e h1 h2, if_true, nI_clamp (show k < 2 ^ 31 by omega)]
  rfl
theorem mo_aa_e {f : Nat → Option Nat} (h1 : k < n) (h2 : n ≤ 2147483647) : mo_aa (some (.inl (zz_ev, n, .inr (.inr (.inr (.inr f)))))) (nI k) y p ls st h = zz_Y y (p, ls, va_rf (f k) :: st, h) := by
  unfold mo_aa zz_aa
  simp only [zz_ix_e h1 h2, and_self, if_true, nI_clamp (show k < 2 ^ 31 by omega)]
  rfl
theorem mo_le_e {f : Nat → Int32} : mo_le (some (.inl (.int, n, .inl f))) a y p ls st h = zz_Y y (p, ls, .int (nI n) :: st, h) := rfl
theorem mo_le_x (ha : a = h.2.2.2.1) : mo_le none a y p ls st h = zz_Y y (p, ls, .int (nI h.2.2.2.2.1) :: st, h) := by
  unfold mo_le zz_le
  simp only [ha, if_true]
  rfl
theorem mo_is_e {f : Nat → Int32} {x : Int32} (h1 : k < n) (h2 : n ≤ 2147483647) : mo_is (some (.inl (.int, n, .inl f))) x (nI k) a y p ls st h = zz_Y y (p, ls, st, hp_s h a (.inl (.int, n, .inl (upd f k x)))) := by
  unfold mo_is zz_is
  simp only [zz_ix_e h1 h2, if_true, nI_clamp (show k < 2 ^ 31 by omega)]
  rfl
theorem mo_bs_e {f : Nat → Int32} {x : Int32} (h1 : k < n) (h2 : n ≤ 2147483647) : mo_bs (some (.inl (.byte, n, .inl f))) x (nI k) a y p ls st h = zz_Y y (p, ls, st, hp_s h a (.inl (.byte, n, .inl (upd f k x.toInt8.toInt32)))) := by
  unfold mo_bs zz_bs
  simp only [zz_ix_e h1 h2, if_true, nI_clamp (show k < 2 ^ 31 by omega)]
  rfl
theorem mo_zs_0 {f : Nat → Int32} (h1 : k < n) (h2 : n ≤ 2147483647) : mo_bs (some (.inl (.boolean, n, .inl f))) (nI 0) (nI k) a y p ls st h = zz_Y y (p, ls, st, hp_s h a (.inl (.boolean, n, .inl (upd f k (nI 0))))) := by
  unfold mo_bs zz_bs
  simp only [zz_ix_e h1 h2, show (nI 0 = 0 ∨ nI 0 = 1) = True from eq_true (Or.inl rfl), and_self, if_true, nI_clamp (show k < 2 ^ 31 by omega)]
  rfl
theorem mo_zs_1 {f : Nat → Int32} (h1 : k < n) (h2 : n ≤ 2147483647) : mo_bs (some (.inl (.boolean, n, .inl f))) (nI 1) (nI k) a y p ls st h = zz_Y y (p, ls, st, hp_s h a (.inl (.boolean, n, .inl (upd f k (nI 1))))) := by
  unfold mo_bs zz_bs
  simp only [zz_ix_e h1 h2, show (nI 1 = 0 ∨ nI 1 = 1) = True from eq_true (Or.inr rfl), and_self, if_true, nI_clamp (show k < 2 ^ 31 by omega)]
  rfl
theorem mo_ls_e {f : Nat → Int64} {x : Int64} (h1 : k < n) (h2 : n ≤ 2147483647) : mo_ls (some (.inl (.long, n, .inr (.inl f)))) x (nI k) a y p ls st h = zz_Y y (p, ls, st, hp_s h a (.inl (.long, n, .inr (.inl (vp_updL f k x))))) := by
  unfold mo_ls zz_lst
  simp only [zz_ix_e h1 h2, if_true, nI_clamp (show k < 2 ^ 31 by omega)]
  rfl
theorem mo_as_e {f : Nat → Option Nat} {x : Nat} {fs : List Value} (h1 : k < n) (h2 : n ≤ 2147483647) : mo_as (some (.inl (zz_ev, n, .inr (.inr (.inr (.inr f)))))) (some (.inr (1, fs))) x (nI k) a y p ls st h = zz_Y y (p, ls, st, hp_s h a (.inl (zz_ev, n, .inr (.inr (.inr (.inr (va_up f k (some x)))))))) := by
  unfold mo_as zz_ast
  simp only [zz_ix_e h1 h2, and_self, if_true, nI_clamp (show k < 2 ^ 31 by omega)]
  rfl
theorem mo_na_e {ty : FieldType} {c : Nat → vp_A} (h1 : n ≤ 65536) : mo_na ty c (nI n) y p ls st h = zz_Y y (p, ls, .ref h.1 :: st, hp_n h n (.inl (ty, c n))) := by
  unfold mo_na zz_na
  have e : (¬ nI n < 0 ∧ n ≤ 65536) = True := eq_true ⟨nI_pos (by omega), h1⟩
  simp only [nI_clamp (show n < 2 ^ 31 by omega), e, if_true]
  rfl
variable {sp dp n0 n1 : Nat}
theorem mo_aci_e {f g : Nat → Int32} (h1 : sp + n ≤ n0) (h2 : dp + n ≤ n1) (h3 : n0 ≤ 2147483647) (h4 : n1 ≤ 2147483647) : mo_ac (some (.inl (.int, n0, .inl f))) (some (.inl (.int, n1, .inl g))) (nI sp) (nI dp) (nI n) a y p ls st h = zz_Y y (p, ls, st, hp_s h a (.inl (.int, n1, .inl (va_cpy f g sp dp n)))) := by
  unfold mo_ac zz_ac
  simp only [nI_clamp (show sp < 2 ^ 31 by omega), nI_clamp (show dp < 2 ^ 31 by omega), nI_clamp (show n < 2 ^ 31 by omega), eq_true (nI_pos (show sp < 2 ^ 31 by omega)), eq_true (nI_pos (show dp < 2 ^ 31 by omega)), eq_true (nI_pos (show n < 2 ^ 31 by omega)), h1, h2, and_self, if_true]
  rfl
theorem mo_acb_e {f g : Nat → Int32} (h1 : sp + n ≤ n0) (h2 : dp + n ≤ n1) (h3 : n0 ≤ 2147483647) (h4 : n1 ≤ 2147483647) : mo_ac (some (.inl (.byte, n0, .inl f))) (some (.inl (.byte, n1, .inl g))) (nI sp) (nI dp) (nI n) a y p ls st h = zz_Y y (p, ls, st, hp_s h a (.inl (.byte, n1, .inl (va_cpy f g sp dp n)))) := by
  unfold mo_ac zz_ac
  simp only [nI_clamp (show sp < 2 ^ 31 by omega), nI_clamp (show dp < 2 ^ 31 by omega), nI_clamp (show n < 2 ^ 31 by omega), eq_true (nI_pos (show sp < 2 ^ 31 by omega)), eq_true (nI_pos (show dp < 2 ^ 31 by omega)), eq_true (nI_pos (show n < 2 ^ 31 by omega)), h1, h2, and_self, if_true]
  rfl
theorem mo_acj_e {f g : Nat → Int64} (h1 : sp + n ≤ n0) (h2 : dp + n ≤ n1) (h3 : n0 ≤ 2147483647) (h4 : n1 ≤ 2147483647) : mo_ac (some (.inl (.long, n0, .inr (.inl f)))) (some (.inl (.long, n1, .inr (.inl g)))) (nI sp) (nI dp) (nI n) a y p ls st h = zz_Y y (p, ls, st, hp_s h a (.inl (.long, n1, .inr (.inl (va_cpy f g sp dp n))))) := by
  unfold mo_ac zz_ac
  simp only [nI_clamp (show sp < 2 ^ 31 by omega), nI_clamp (show dp < 2 ^ 31 by omega), nI_clamp (show n < 2 ^ 31 by omega), eq_true (nI_pos (show sp < 2 ^ 31 by omega)), eq_true (nI_pos (show dp < 2 ^ 31 by omega)), eq_true (nI_pos (show n < 2 ^ 31 by omega)), h1, h2, and_self, if_true]
  rfl
end MO
/-! the heap -/
theorem hp_gs (h : zz_H) (a : Nat) (e : zz_E) : hp_g (hp_s h a e) a = some e := by simp [hp_g, hp_s]
theorem hp_gn {h : zz_H} {a b : Nat} {e : zz_E} (hab : b ≠ a) : hp_g (hp_s h a e) b = hp_g h b := by simp [hp_g, hp_s, hab]
theorem hp_ga (h : zz_H) (k : Nat) (e : zz_E) : hp_g (hp_n h k e) h.1 = some e := by simp [hp_g, hp_n]
theorem hp_gb {h : zz_H} {k b : Nat} {e : zz_E} (hab : b ≠ h.1) : hp_g (hp_n h k e) b = hp_g h b := by simp [hp_g, hp_n, hab]
theorem hp_ss (h : zz_H) (a : Nat) (e e' : zz_E) : hp_s (hp_s h a e) a e' = hp_s h a e' := by
  unfold hp_s
  simp only [Prod.mk.injEq, true_and, and_true]
  funext q
  by_cases hq : q = a <;> simp [hq]
theorem hp_same {h : zz_H} {a : Nat} {e : zz_E} (hg : hp_g h a = some e) : hp_s h a e = h := by
  obtain ⟨n, s, f, x⟩ := h
  simp only [hp_s, hp_g] at *
  congr 3
  funext q
  by_cases hq : q = a
  · rw [if_pos hq, hq, hg]
  · rw [if_neg hq]
theorem hp_comm {h : zz_H} {a b : Nat} {e e' : zz_E} (hab : a ≠ b) : hp_s (hp_s h a e) b e' = hp_s (hp_s h b e') a e := by
  unfold hp_s
  simp only [Prod.mk.injEq, true_and, and_true]
  funext q
  by_cases hq : q = a
  · subst hq; simp [hab]
  · simp [hq]
theorem hp_s1 (h : zz_H) (a : Nat) (e : zz_E) : (hp_s h a e).1 = h.1 := rfl
theorem hp_s2 (h : zz_H) (a : Nat) (e : zz_E) : (hp_s h a e).2.1 = h.2.1 := rfl
theorem hp_sx (h : zz_H) (a : Nat) (e : zz_E) : (hp_s h a e).2.2.2 = h.2.2.2 := rfl
theorem hp_n1 (h : zz_H) (k : Nat) (e : zz_E) : (hp_n h k e).1 = h.1 + 1 := rfl
theorem hp_n2 (h : zz_H) (k : Nat) (e : zz_E) : (hp_n h k e).2.1 = h.2.1 + k := rfl
theorem hp_nx (h : zz_H) (k : Nat) (e : zz_E) : (hp_n h k e).2.2.2 = h.2.2.2 := rfl
/-! entries -/
theorem en_of {z n : Nat} {vs : List Value} {h : zz_H} {l0 : zz_L} (hn : zz_ml z = n) (hl : decide ((lg_sl vs).length ≤ n) = true) (hr : zz_rc z vs h = true) (he : zz_e0 vs n = l0) : zz_run z vs h = zz_Y z (0, l0, [], h) := by
  subst hn; subst he
  unfold zz_run zz_ent
  rw [if_pos ⟨of_decide_eq_true hl, hr⟩]
theorem rc_s {z : Nat} {vs : List Value} {h : zz_H} (hs : zz_st z = true) : zz_rc z vs h = true := by unfold zz_rc; rw [hs]; rfl
theorem rc_i {z a : Nat} {vs : List Value} {h : zz_H} (hi : zz_in z = true) : zz_rc z (.ref a :: vs) h = true := by unfold zz_rc; simp [hi]
theorem rc_v {z a ci : Nat} {vs fs : List Value} {h : zz_H} (hc : zz_co z = ci) (hg : hp_g h a = some (.inr (ci, fs))) : zz_rc z (.ref a :: vs) h = true := by unfold zz_rc; simp [hg, hc]
theorem en1 : ∀ a h, zz_run 1 [.ref a] h = zz_Y 1 (0, [some (.ref a)], [], h) := fun _ _ => en_of xml1 rfl (rc_i (by decide +kernel)) rfl
theorem en2 : ∀ a h, zz_run 2 [.ref a] h = zz_Y 2 (0, [some (.ref a)], [], h) := fun _ _ => en_of xml2 rfl (rc_i (by decide +kernel)) rfl
theorem en3 : ∀ a h, zz_run 3 [.ref a] h = zz_Y 3 (0, [some (.ref a)], [], h) := fun _ _ => en_of xml3 rfl (rc_i (by decide +kernel)) rfl
theorem en4 : ∀ a h, zz_run 4 [.ref a] h = zz_Y 4 (0, [some (.ref a)], [], h) := fun _ _ => en_of xml4 rfl (rc_i (by decide +kernel)) rfl
theorem en5 : ∀ a h, zz_run 5 [.ref a] h = zz_Y 5 (0, [some (.ref a)], [], h) := fun _ _ => en_of xml5 rfl (rc_i (by decide +kernel)) rfl
theorem en6 : ∀ a x0 h, zz_run 6 [.ref a, .int x0] h = zz_Y 6 (0, [some (.ref a), some (.int x0)], [], h) := fun _ _ _ => en_of xml6 rfl (rc_i (by decide +kernel)) rfl
theorem en7 : ∀ x0 x1 h, zz_run 7 [.ref x0, .int x1] h = zz_Y 7 (0, [some (.ref x0), some (.int x1), none, none], [], h) := fun _ _ _ => en_of xml7 rfl (rc_s (by decide +kernel)) rfl
theorem en8 : ∀ a h, zz_run 8 [.ref a] h = zz_Y 8 (0, [some (.ref a)], [], h) := fun _ _ => en_of xml8 rfl (rc_i (by decide +kernel)) rfl
theorem en9 : ∀ a h, zz_run 9 [.ref a] h = zz_Y 9 (0, [some (.ref a)], [], h) := fun _ _ => en_of xml9 rfl (rc_i (by decide +kernel)) rfl
theorem en10 : ∀ a x0 h, zz_run 10 [.ref a, .ref x0] h = zz_Y 10 (0, [some (.ref a), some (.ref x0)], [], h) := fun _ _ _ => en_of xml10 rfl (rc_i (by decide +kernel)) rfl
theorem en11 : ∀ a x0 h, zz_run 11 [.ref a, .ref x0] h = zz_Y 11 (0, [some (.ref a), some (.ref x0)], [], h) := fun _ _ _ => en_of xml11 rfl (rc_i (by decide +kernel)) rfl
theorem en12 : ∀ a x0 x1 h, zz_run 12 [.ref a, .ref x0, .ref x1] h = zz_Y 12 (0, [some (.ref a), some (.ref x0), some (.ref x1)], [], h) := fun _ _ _ _ => en_of xml12 rfl (rc_i (by decide +kernel)) rfl
theorem en13 {a : Nat} {fs : List Value} {h : zz_H} (hg : hp_g h a = some (.inr (10, fs))) : ∀ x0 x1 x2 x3 x4, zz_run 13 [.ref a, .int x0, .int x1, .int x2, .int x3, .int x4] h = zz_Y 13 (0, [some (.ref a), some (.int x0), some (.int x1), some (.int x2), some (.int x3), some (.int x4), none], [], h) := fun _ _ _ _ _ => en_of xml13 rfl (rc_v xco13 hg) rfl
theorem en14 {a : Nat} {fs : List Value} {h : zz_H} (hg : hp_g h a = some (.inr (8, fs))) : ∀ x0, zz_run 14 [.ref a, .int x0] h = zz_Y 14 (0, [some (.ref a), some (.int x0)], [], h) := fun _ => en_of xml14 rfl (rc_v xco14 hg) rfl
theorem en15 {a : Nat} {fs : List Value} {h : zz_H} (hg : hp_g h a = some (.inr (8, fs))) : ∀ x0, zz_run 15 [.ref a, .int x0] h = zz_Y 15 (0, [some (.ref a), some (.int x0), none], [], h) := fun _ => en_of xml15 rfl (rc_v xco15 hg) rfl
theorem en16 {a : Nat} {fs : List Value} {h : zz_H} (hg : hp_g h a = some (.inr (10, fs))) : ∀ x0, zz_run 16 [.ref a, .int x0] h = zz_Y 16 (0, [some (.ref a), some (.int x0)], [], h) := fun _ => en_of xml16 rfl (rc_v xco16 hg) rfl
theorem en17 {a : Nat} {fs : List Value} {h : zz_H} (hg : hp_g h a = some (.inr (10, fs))) : zz_run 17 [.ref a] h = zz_Y 17 (0, [some (.ref a), none], [], h) := en_of xml17 rfl (rc_v xco17 hg) rfl
theorem en18 {a : Nat} {fs : List Value} {h : zz_H} (hg : hp_g h a = some (.inr (5, fs))) : zz_run 18 [.ref a] h = zz_Y 18 (0, [some (.ref a), none, none], [], h) := en_of xml18 rfl (rc_v xco18 hg) rfl
theorem en19 {a : Nat} {fs : List Value} {h : zz_H} (hg : hp_g h a = some (.inr (7, fs))) : zz_run 19 [.ref a] h = zz_Y 19 (0, [some (.ref a)], [], h) := en_of xml19 rfl (rc_v xco19 hg) rfl
theorem en20 {a : Nat} {fs : List Value} {h : zz_H} (hg : hp_g h a = some (.inr (3, fs))) : zz_run 20 [.ref a] h = zz_Y 20 (0, [some (.ref a)], [], h) := en_of xml20 rfl (rc_v xco20 hg) rfl
theorem en21 {a : Nat} {fs : List Value} {h : zz_H} (hg : hp_g h a = some (.inr (6, fs))) : zz_run 21 [.ref a] h = zz_Y 21 (0, [some (.ref a)], [], h) := en_of xml21 rfl (rc_v xco21 hg) rfl
theorem en22 {a : Nat} {fs : List Value} {h : zz_H} (hg : hp_g h a = some (.inr (9, fs))) : zz_run 22 [.ref a] h = zz_Y 22 (0, [some (.ref a)], [], h) := en_of xml22 rfl (rc_v xco22 hg) rfl
theorem en23 {a : Nat} {fs : List Value} {h : zz_H} (hg : hp_g h a = some (.inr (9, fs))) : zz_run 23 [.ref a] h = zz_Y 23 (0, [some (.ref a), none], [], h) := en_of xml23 rfl (rc_v xco23 hg) rfl
theorem en24 {a : Nat} {fs : List Value} {h : zz_H} (hg : hp_g h a = some (.inr (8, fs))) : ∀ x0, zz_run 24 [.ref a, .int x0] h = zz_Y 24 (0, [some (.ref a), some (.int x0)], [], h) := fun _ => en_of xml24 rfl (rc_v xco24 hg) rfl
theorem en25 : ∀ x0 h, zz_run 25 [.int x0] h = zz_Y 25 (0, [some (.int x0)], [], h) := fun _ _ => en_of xml25 rfl (rc_s (by decide +kernel)) rfl
theorem en26 : ∀ x0 h, zz_run 26 [.int x0] h = zz_Y 26 (0, [some (.int x0)], [], h) := fun _ _ => en_of xml26 rfl (rc_s (by decide +kernel)) rfl
theorem en27 {a : Nat} {fs : List Value} {h : zz_H} (hg : hp_g h a = some (.inr (9, fs))) : zz_run 27 [.ref a] h = zz_Y 27 (0, [some (.ref a), none], [], h) := en_of xml27 rfl (rc_v xco27 hg) rfl
theorem en28 {a : Nat} {fs : List Value} {h : zz_H} (hg : hp_g h a = some (.inr (9, fs))) : zz_run 28 [.ref a] h = zz_Y 28 (0, [some (.ref a)], [], h) := en_of xml28 rfl (rc_v xco28 hg) rfl
theorem en29 : ∀ x0 h, zz_run 29 [.int x0] h = zz_Y 29 (0, [some (.int x0)], [], h) := fun _ _ => en_of xml29 rfl (rc_s (by decide +kernel)) rfl
theorem en30 {a : Nat} {fs : List Value} {h : zz_H} (hg : hp_g h a = some (.inr (9, fs))) : zz_run 30 [.ref a] h = zz_Y 30 (0, [some (.ref a), none], [], h) := en_of xml30 rfl (rc_v xco30 hg) rfl
theorem en31 : ∀ x0 h, zz_run 31 [.int x0] h = zz_Y 31 (0, [some (.int x0)], [], h) := fun _ _ => en_of xml31 rfl (rc_s (by decide +kernel)) rfl
theorem en32 {a : Nat} {fs : List Value} {h : zz_H} (hg : hp_g h a = some (.inr (5, fs))) : zz_run 32 [.ref a] h = zz_Y 32 (0, [some (.ref a), none], [], h) := en_of xml32 rfl (rc_v xco32 hg) rfl
theorem en33 {a : Nat} {fs : List Value} {h : zz_H} (hg : hp_g h a = some (.inr (5, fs))) : zz_run 33 [.ref a] h = zz_Y 33 (0, [some (.ref a), none, none], [], h) := en_of xml33 rfl (rc_v xco33 hg) rfl
theorem en34 {a : Nat} {fs : List Value} {h : zz_H} (hg : hp_g h a = some (.inr (3, fs))) : zz_run 34 [.ref a] h = zz_Y 34 (0, [some (.ref a)], [], h) := en_of xml34 rfl (rc_v xco34 hg) rfl
theorem en35 {a : Nat} {fs : List Value} {h : zz_H} (hg : hp_g h a = some (.inr (9, fs))) : ∀ x0, zz_run 35 [.ref a, .int x0] h = zz_Y 35 (0, [some (.ref a), some (.int x0)], [], h) := fun _ => en_of xml35 rfl (rc_v xco35 hg) rfl
theorem en36 {a : Nat} {fs : List Value} {h : zz_H} (hg : hp_g h a = some (.inr (5, fs))) : zz_run 36 [.ref a] h = zz_Y 36 (0, [some (.ref a)], [], h) := en_of xml36 rfl (rc_v xco36 hg) rfl
theorem en37 {a : Nat} {fs : List Value} {h : zz_H} (hg : hp_g h a = some (.inr (3, fs))) : ∀ x0, zz_run 37 [.ref a, .long x0] h = zz_Y 37 (0, [some (.ref a), some (.long x0), none, none], [], h) := fun _ => en_of xml37 rfl (rc_v xco37 hg) rfl
theorem en38 {a : Nat} {fs : List Value} {h : zz_H} (hg : hp_g h a = some (.inr (3, fs))) : ∀ x0, zz_run 38 [.ref a, .long x0] h = zz_Y 38 (0, [some (.ref a), some (.long x0), none, none], [], h) := fun _ => en_of xml38 rfl (rc_v xco38 hg) rfl
theorem en39 {a : Nat} {fs : List Value} {h : zz_H} (hg : hp_g h a = some (.inr (3, fs))) : ∀ x0 x1, zz_run 39 [.ref a, .long x0, .int x1] h = zz_Y 39 (0, [some (.ref a), some (.long x0), none, some (.int x1)], [], h) := fun _ _ => en_of xml39 rfl (rc_v xco39 hg) rfl
theorem en40 {a : Nat} {fs : List Value} {h : zz_H} (hg : hp_g h a = some (.inr (5, fs))) : zz_run 40 [.ref a] h = zz_Y 40 (0, [some (.ref a), none, none, none], [], h) := en_of xml40 rfl (rc_v xco40 hg) rfl
theorem en41 {a : Nat} {fs : List Value} {h : zz_H} (hg : hp_g h a = some (.inr (3, fs))) : zz_run 41 [.ref a] h = zz_Y 41 (0, [some (.ref a)], [], h) := en_of xml41 rfl (rc_v xco41 hg) rfl
theorem en42 {a : Nat} {fs : List Value} {h : zz_H} (hg : hp_g h a = some (.inr (5, fs))) : zz_run 42 [.ref a] h = zz_Y 42 (0, [some (.ref a), none], [], h) := en_of xml42 rfl (rc_v xco42 hg) rfl
theorem en43 {a : Nat} {fs : List Value} {h : zz_H} (hg : hp_g h a = some (.inr (3, fs))) : ∀ x0 x1, zz_run 43 [.ref a, .long x0, .int x1] h = zz_Y 43 (0, [some (.ref a), some (.long x0), none, some (.int x1)], [], h) := fun _ _ => en_of xml43 rfl (rc_v xco43 hg) rfl
theorem en44 {a : Nat} {fs : List Value} {h : zz_H} (hg : hp_g h a = some (.inr (3, fs))) : ∀ x0, zz_run 44 [.ref a, .int x0] h = zz_Y 44 (0, [some (.ref a), some (.int x0)], [], h) := fun _ => en_of xml44 rfl (rc_v xco44 hg) rfl
theorem en45 {a : Nat} {fs : List Value} {h : zz_H} (hg : hp_g h a = some (.inr (5, fs))) : zz_run 45 [.ref a] h = zz_Y 45 (0, [some (.ref a), none, none], [], h) := en_of xml45 rfl (rc_v xco45 hg) rfl
theorem en46 {a : Nat} {fs : List Value} {h : zz_H} (hg : hp_g h a = some (.inr (5, fs))) : ∀ x0, zz_run 46 [.ref a, .int x0] h = zz_Y 46 (0, [some (.ref a), some (.int x0)], [], h) := fun _ => en_of xml46 rfl (rc_v xco46 hg) rfl
theorem en47 {a : Nat} {fs : List Value} {h : zz_H} (hg : hp_g h a = some (.inr (7, fs))) : ∀ x0, zz_run 47 [.ref a, .int x0] h = zz_Y 47 (0, [some (.ref a), some (.int x0)], [], h) := fun _ => en_of xml47 rfl (rc_v xco47 hg) rfl
theorem en48 : ∀ x0 h, zz_run 48 [.int x0] h = zz_Y 48 (0, [some (.int x0)], [], h) := fun _ _ => en_of xml48 rfl (rc_s (by decide +kernel)) rfl
theorem en49 {a : Nat} {fs : List Value} {h : zz_H} (hg : hp_g h a = some (.inr (5, fs))) : ∀ x0 x1, zz_run 49 [.ref a, .int x0, .int x1] h = zz_Y 49 (0, [some (.ref a), some (.int x0), some (.int x1), none, none, none], [], h) := fun _ _ => en_of xml49 rfl (rc_v xco49 hg) rfl
theorem en50 : ∀ x0 x1 h, zz_run 50 [.int x0, .int x1] h = zz_Y 50 (0, [some (.int x0), some (.int x1)], [], h) := fun _ _ _ => en_of xml50 rfl (rc_s (by decide +kernel)) rfl
theorem en51 {a : Nat} {fs : List Value} {h : zz_H} (hg : hp_g h a = some (.inr (3, fs))) : ∀ x0 x1, zz_run 51 [.ref a, .int x0, .int x1] h = zz_Y 51 (0, [some (.ref a), some (.int x0), some (.int x1), none, none], [], h) := fun _ _ => en_of xml51 rfl (rc_v xco51 hg) rfl
theorem en52 {a : Nat} {fs : List Value} {h : zz_H} (hg : hp_g h a = some (.inr (7, fs))) : ∀ x0 x1 x2, zz_run 52 [.ref a, .int x0, .int x1, .int x2] h = zz_Y 52 (0, [some (.ref a), some (.int x0), some (.int x1), some (.int x2), none, none], [], h) := fun _ _ _ => en_of xml52 rfl (rc_v xco52 hg) rfl
theorem en53 {a : Nat} {fs : List Value} {h : zz_H} (hg : hp_g h a = some (.inr (6, fs))) : ∀ x0 x1 x2, zz_run 53 [.ref a, .int x0, .int x1, .int x2] h = zz_Y 53 (0, [some (.ref a), some (.int x0), some (.int x1), some (.int x2), none, none, none], [], h) := fun _ _ _ => en_of xml53 rfl (rc_v xco53 hg) rfl
theorem en54 {a : Nat} {fs : List Value} {h : zz_H} (hg : hp_g h a = some (.inr (6, fs))) : ∀ x0 x1, zz_run 54 [.ref a, .int x0, .int x1] h = zz_Y 54 (0, [some (.ref a), some (.int x0), some (.int x1)], [], h) := fun _ _ => en_of xml54 rfl (rc_v xco54 hg) rfl
theorem en55 {a : Nat} {fs : List Value} {h : zz_H} (hg : hp_g h a = some (.inr (3, fs))) : ∀ x0, zz_run 55 [.ref a, .int x0] h = zz_Y 55 (0, [some (.ref a), some (.int x0), none, none], [], h) := fun _ => en_of xml55 rfl (rc_v xco55 hg) rfl
theorem en56 {a : Nat} {fs : List Value} {h : zz_H} (hg : hp_g h a = some (.inr (10, fs))) : zz_run 56 [.ref a] h = zz_Y 56 (0, [some (.ref a)], [], h) := en_of xml56 rfl (rc_v xco56 hg) rfl
theorem en57 {a : Nat} {fs : List Value} {h : zz_H} (hg : hp_g h a = some (.inr (7, fs))) : ∀ x0, zz_run 57 [.ref a, .ref x0] h = zz_Y 57 (0, [some (.ref a), some (.ref x0)], [], h) := fun _ => en_of xml57 rfl (rc_v xco57 hg) rfl
theorem en58 {a : Nat} {fs : List Value} {h : zz_H} (hg : hp_g h a = some (.inr (3, fs))) : ∀ x0, zz_run 58 [.ref a, .ref x0] h = zz_Y 58 (0, [some (.ref a), some (.ref x0)], [], h) := fun _ => en_of xml58 rfl (rc_v xco58 hg) rfl
theorem en59 {a : Nat} {fs : List Value} {h : zz_H} (hg : hp_g h a = some (.inr (6, fs))) : ∀ x0, zz_run 59 [.ref a, .ref x0] h = zz_Y 59 (0, [some (.ref a), some (.ref x0)], [], h) := fun _ => en_of xml59 rfl (rc_v xco59 hg) rfl
theorem en60 {a : Nat} {fs : List Value} {h : zz_H} (hg : hp_g h a = some (.inr (0, fs))) : zz_run 60 [.ref a] h = zz_Y 60 (0, [some (.ref a)], [], h) := en_of xml60 rfl (rc_v xco60 hg) rfl
theorem en61 {a : Nat} {fs : List Value} {h : zz_H} (hg : hp_g h a = some (.inr (2, fs))) : zz_run 61 [.ref a] h = zz_Y 61 (0, [some (.ref a)], [], h) := en_of xml61 rfl (rc_v xco61 hg) rfl
theorem en62 {a : Nat} {fs : List Value} {h : zz_H} (hg : hp_g h a = some (.inr (6, fs))) : ∀ x0, zz_run 62 [.ref a, .int x0] h = zz_Y 62 (0, [some (.ref a), some (.int x0), none, none], [], h) := fun _ => en_of xml62 rfl (rc_v xco62 hg) rfl
theorem en63 {a : Nat} {fs : List Value} {h : zz_H} (hg : hp_g h a = some (.inr (6, fs))) : ∀ x0 x1, zz_run 63 [.ref a, .int x0, .int x1] h = zz_Y 63 (0, [some (.ref a), some (.int x0), some (.int x1)], [], h) := fun _ _ => en_of xml63 rfl (rc_v xco63 hg) rfl
theorem en64 : ∀ x0 h, zz_run 64 [.int x0] h = zz_Y 64 (0, [some (.int x0)], [], h) := fun _ _ => en_of xml64 rfl (rc_s (by decide +kernel)) rfl
theorem en65 {a : Nat} {fs : List Value} {h : zz_H} (hg : hp_g h a = some (.inr (10, fs))) : zz_run 65 [.ref a] h = zz_Y 65 (0, [some (.ref a), none], [], h) := en_of xml65 rfl (rc_v xco65 hg) rfl
theorem en66 {a : Nat} {fs : List Value} {h : zz_H} (hg : hp_g h a = some (.inr (4, fs))) : zz_run 66 [.ref a] h = zz_Y 66 (0, [some (.ref a), none, none], [], h) := en_of xml66 rfl (rc_v xco66 hg) rfl
theorem en67 {a : Nat} {fs : List Value} {h : zz_H} (hg : hp_g h a = some (.inr (4, fs))) : ∀ x0, zz_run 67 [.ref a, .int x0] h = zz_Y 67 (0, [some (.ref a), some (.int x0)], [], h) := fun _ => en_of xml67 rfl (rc_v xco67 hg) rfl
theorem en68 {a : Nat} {fs : List Value} {h : zz_H} (hg : hp_g h a = some (.inr (4, fs))) : zz_run 68 [.ref a] h = zz_Y 68 (0, [some (.ref a)], [], h) := en_of xml68 rfl (rc_v xco68 hg) rfl
theorem en69 {a : Nat} {fs : List Value} {h : zz_H} (hg : hp_g h a = some (.inr (4, fs))) : ∀ x0, zz_run 69 [.ref a, .int x0] h = zz_Y 69 (0, [some (.ref a), some (.int x0)], [], h) := fun _ => en_of xml69 rfl (rc_v xco69 hg) rfl
theorem en70 {a : Nat} {fs : List Value} {h : zz_H} (hg : hp_g h a = some (.inr (6, fs))) : ∀ x0 x1 x2, zz_run 70 [.ref a, .int x0, .ref x1, .int x2] h = zz_Y 70 (0, [some (.ref a), some (.int x0), some (.ref x1), some (.int x2), none], [], h) := fun _ _ _ => en_of xml70 rfl (rc_v xco70 hg) rfl
theorem en71 {a : Nat} {fs : List Value} {h : zz_H} (hg : hp_g h a = some (.inr (6, fs))) : ∀ x0 x1 x2, zz_run 71 [.ref a, .int x0, .int x1, .int x2] h = zz_Y 71 (0, [some (.ref a), some (.int x0), some (.int x1), some (.int x2)], [], h) := fun _ _ _ => en_of xml71 rfl (rc_v xco71 hg) rfl
theorem en72 {a : Nat} {fs : List Value} {h : zz_H} (hg : hp_g h a = some (.inr (4, fs))) : zz_run 72 [.ref a] h = zz_Y 72 (0, [some (.ref a)], [], h) := en_of xml72 rfl (rc_v xco72 hg) rfl
theorem en73 {a : Nat} {fs : List Value} {h : zz_H} (hg : hp_g h a = some (.inr (4, fs))) : ∀ x0, zz_run 73 [.ref a, .int x0] h = zz_Y 73 (0, [some (.ref a), some (.int x0), none, none, none], [], h) := fun _ => en_of xml73 rfl (rc_v xco73 hg) rfl
theorem en74 : ∀ x0 x1 x2 h, zz_run 74 [.int x0, .int x1, .int x2] h = zz_Y 74 (0, [some (.int x0), some (.int x1), some (.int x2), none], [], h) := fun _ _ _ _ => en_of xml74 rfl (rc_s (by decide +kernel)) rfl
theorem en75 : ∀ x0 h, zz_run 75 [.int x0] h = zz_Y 75 (0, [some (.int x0), none], [], h) := fun _ _ => en_of xml75 rfl (rc_s (by decide +kernel)) rfl
theorem en76 : ∀ x0 x1 x2 h, zz_run 76 [.int x0, .int x1, .int x2] h = zz_Y 76 (0, [some (.int x0), some (.int x1), some (.int x2)], [], h) := fun _ _ _ _ => en_of xml76 rfl (rc_s (by decide +kernel)) rfl
theorem en77 {a : Nat} {fs : List Value} {h : zz_H} (hg : hp_g h a = some (.inr (4, fs))) : zz_run 77 [.ref a] h = zz_Y 77 (0, [some (.ref a)], [], h) := en_of xml77 rfl (rc_v xco77 hg) rfl
theorem en78 {a : Nat} {fs : List Value} {h : zz_H} (hg : hp_g h a = some (.inr (4, fs))) : zz_run 78 [.ref a] h = zz_Y 78 (0, [some (.ref a)], [], h) := en_of xml78 rfl (rc_v xco78 hg) rfl
theorem en79 {a : Nat} {fs : List Value} {h : zz_H} (hg : hp_g h a = some (.inr (10, fs))) : ∀ x0, zz_run 79 [.ref a, .int x0] h = zz_Y 79 (0, [some (.ref a), some (.int x0)], [], h) := fun _ => en_of xml79 rfl (rc_v xco79 hg) rfl
theorem en80 {a : Nat} {fs : List Value} {h : zz_H} (hg : hp_g h a = some (.inr (6, fs))) : ∀ x0, zz_run 80 [.ref a, .int x0] h = zz_Y 80 (0, [some (.ref a), some (.int x0), none, none], [], h) := fun _ => en_of xml80 rfl (rc_v xco80 hg) rfl
theorem en81 {a : Nat} {fs : List Value} {h : zz_H} (hg : hp_g h a = some (.inr (6, fs))) : ∀ x0 x1, zz_run 81 [.ref a, .int x0, .int x1] h = zz_Y 81 (0, [some (.ref a), some (.int x0), some (.int x1), none, none, none, none], [], h) := fun _ _ => en_of xml81 rfl (rc_v xco81 hg) rfl
theorem en82 : ∀ x0 x1 h, zz_run 82 [.int x0, .int x1] h = zz_Y 82 (0, [some (.int x0), some (.int x1), none, none], [], h) := fun _ _ _ => en_of xml82 rfl (rc_s (by decide +kernel)) rfl
theorem en83 {a : Nat} {fs : List Value} {h : zz_H} (hg : hp_g h a = some (.inr (10, fs))) : ∀ x0, zz_run 83 [.ref a, .int x0] h = zz_Y 83 (0, [some (.ref a), some (.int x0)], [], h) := fun _ => en_of xml83 rfl (rc_v xco83 hg) rfl
theorem en84 {a : Nat} {fs : List Value} {h : zz_H} (hg : hp_g h a = some (.inr (10, fs))) : ∀ x0 x1, zz_run 84 [.ref a, .int x0, .int x1] h = zz_Y 84 (0, [some (.ref a), some (.int x0), some (.int x1)], [], h) := fun _ _ => en_of xml84 rfl (rc_v xco84 hg) rfl
theorem en85 : ∀ x0 h, zz_run 85 [.int x0] h = zz_Y 85 (0, [some (.int x0)], [], h) := fun _ _ => en_of xml85 rfl (rc_s (by decide +kernel)) rfl
theorem en86 {a : Nat} {fs : List Value} {h : zz_H} (hg : hp_g h a = some (.inr (10, fs))) : ∀ x0, zz_run 86 [.ref a, .int x0] h = zz_Y 86 (0, [some (.ref a), some (.int x0)], [], h) := fun _ => en_of xml86 rfl (rc_v xco86 hg) rfl
theorem en87 {a : Nat} {fs : List Value} {h : zz_H} (hg : hp_g h a = some (.inr (1, fs))) : ∀ x0 x1, zz_run 87 [.ref a, .int x0, .int x1] h = zz_Y 87 (0, [some (.ref a), some (.int x0), some (.int x1)], [], h) := fun _ _ => en_of xml87 rfl (rc_v xco87 hg) rfl
theorem en88 {a : Nat} {fs : List Value} {h : zz_H} (hg : hp_g h a = some (.inr (10, fs))) : ∀ x0 x1 x2, zz_run 88 [.ref a, .int x0, .int x1, .int x2] h = zz_Y 88 (0, [some (.ref a), some (.int x0), some (.int x1), some (.int x2), none], [], h) := fun _ _ _ => en_of xml88 rfl (rc_v xco88 hg) rfl
theorem en89 {a : Nat} {fs : List Value} {h : zz_H} (hg : hp_g h a = some (.inr (2, fs))) : ∀ x0 x1 x2 x3, zz_run 89 [.ref a, .int x0, .int x1, .int x2, .int x3] h = zz_Y 89 (0, [some (.ref a), some (.int x0), some (.int x1), some (.int x2), some (.int x3)], [], h) := fun _ _ _ _ => en_of xml89 rfl (rc_v xco89 hg) rfl
theorem en90 {a : Nat} {fs : List Value} {h : zz_H} (hg : hp_g h a = some (.inr (10, fs))) : zz_run 90 [.ref a] h = zz_Y 90 (0, [some (.ref a)], [], h) := en_of xml90 rfl (rc_v xco90 hg) rfl
theorem en91 {a : Nat} {fs : List Value} {h : zz_H} (hg : hp_g h a = some (.inr (10, fs))) : ∀ x0, zz_run 91 [.ref a, .int x0] h = zz_Y 91 (0, [some (.ref a), some (.int x0)], [], h) := fun _ => en_of xml91 rfl (rc_v xco91 hg) rfl
theorem en92 {a : Nat} {fs : List Value} {h : zz_H} (hg : hp_g h a = some (.inr (10, fs))) : ∀ x0 x1, zz_run 92 [.ref a, .int x0, .int x1] h = zz_Y 92 (0, [some (.ref a), some (.int x0), some (.int x1), none, none, none], [], h) := fun _ _ => en_of xml92 rfl (rc_v xco92 hg) rfl
theorem en93 {a : Nat} {fs : List Value} {h : zz_H} (hg : hp_g h a = some (.inr (10, fs))) : ∀ x0 x1, zz_run 93 [.ref a, .int x0, .int x1] h = zz_Y 93 (0, [some (.ref a), some (.int x0), some (.int x1), none], [], h) := fun _ _ => en_of xml93 rfl (rc_v xco93 hg) rfl
theorem en94 {a : Nat} {fs : List Value} {h : zz_H} (hg : hp_g h a = some (.inr (10, fs))) : ∀ x0 x1, zz_run 94 [.ref a, .int x0, .int x1] h = zz_Y 94 (0, [some (.ref a), some (.int x0), some (.int x1), none], [], h) := fun _ _ => en_of xml94 rfl (rc_v xco94 hg) rfl
theorem en95 {a : Nat} {fs : List Value} {h : zz_H} (hg : hp_g h a = some (.inr (10, fs))) : ∀ x0 x1, zz_run 95 [.ref a, .int x0, .int x1] h = zz_Y 95 (0, [some (.ref a), some (.int x0), some (.int x1), none], [], h) := fun _ _ => en_of xml95 rfl (rc_v xco95 hg) rfl
theorem en96 {a : Nat} {fs : List Value} {h : zz_H} (hg : hp_g h a = some (.inr (10, fs))) : ∀ x0 x1, zz_run 96 [.ref a, .int x0, .int x1] h = zz_Y 96 (0, [some (.ref a), some (.int x0), some (.int x1), none, none], [], h) := fun _ _ => en_of xml96 rfl (rc_v xco96 hg) rfl
theorem en97 {a : Nat} {fs : List Value} {h : zz_H} (hg : hp_g h a = some (.inr (3, fs))) : ∀ x0, zz_run 97 [.ref a, .int x0] h = zz_Y 97 (0, [some (.ref a), some (.int x0)], [], h) := fun _ => en_of xml97 rfl (rc_v xco97 hg) rfl
theorem en98 {a : Nat} {fs : List Value} {h : zz_H} (hg : hp_g h a = some (.inr (10, fs))) : ∀ x0 x1, zz_run 98 [.ref a, .int x0, .int x1] h = zz_Y 98 (0, [some (.ref a), some (.int x0), some (.int x1)], [], h) := fun _ _ => en_of xml98 rfl (rc_v xco98 hg) rfl
theorem en99 {a : Nat} {fs : List Value} {h : zz_H} (hg : hp_g h a = some (.inr (10, fs))) : zz_run 99 [.ref a] h = zz_Y 99 (0, [some (.ref a)], [], h) := en_of xml99 rfl (rc_v xco99 hg) rfl
theorem en100 {a : Nat} {fs : List Value} {h : zz_H} (hg : hp_g h a = some (.inr (2, fs))) : ∀ x0, zz_run 100 [.ref a, .ref x0] h = zz_Y 100 (0, [some (.ref a), some (.ref x0), none], [], h) := fun _ => en_of xml100 rfl (rc_v xco100 hg) rfl
theorem en101 {a : Nat} {fs : List Value} {h : zz_H} (hg : hp_g h a = some (.inr (10, fs))) : ∀ x0, zz_run 101 [.ref a, .int x0] h = zz_Y 101 (0, [some (.ref a), some (.int x0), none], [], h) := fun _ => en_of xml101 rfl (rc_v xco101 hg) rfl
theorem en102 {a : Nat} {fs : List Value} {h : zz_H} (hg : hp_g h a = some (.inr (1, fs))) : ∀ x0 x1 x2, zz_run 102 [.ref a, .int x0, .int x1, .int x2] h = zz_Y 102 (0, [some (.ref a), some (.int x0), some (.int x1), some (.int x2), none, none], [], h) := fun _ _ _ => en_of xml102 rfl (rc_v xco102 hg) rfl
theorem en103 {a : Nat} {fs : List Value} {h : zz_H} (hg : hp_g h a = some (.inr (1, fs))) : ∀ x0 x1 x2, zz_run 103 [.ref a, .int x0, .int x1, .int x2] h = zz_Y 103 (0, [some (.ref a), some (.int x0), some (.int x1), some (.int x2), none, none], [], h) := fun _ _ _ => en_of xml103 rfl (rc_v xco103 hg) rfl
theorem en104 {a : Nat} {fs : List Value} {h : zz_H} (hg : hp_g h a = some (.inr (0, fs))) : ∀ x0 x1 x2 x3 x4, zz_run 104 [.ref a, .ref x0, .int x1, .int x2, .int x3, .int x4] h = zz_Y 104 (0, [some (.ref a), some (.ref x0), some (.int x1), some (.int x2), some (.int x3), some (.int x4), none, none, none, none, none, none, none], [], h) := fun _ _ _ _ _ => en_of xml104 rfl (rc_v xco104 hg) rfl
theorem en105 {a : Nat} {fs : List Value} {h : zz_H} (hg : hp_g h a = some (.inr (7, fs))) : zz_run 105 [.ref a] h = zz_Y 105 (0, [some (.ref a), none, none], [], h) := en_of xml105 rfl (rc_v xco105 hg) rfl
theorem en106 {a : Nat} {fs : List Value} {h : zz_H} (hg : hp_g h a = some (.inr (7, fs))) : ∀ x0, zz_run 106 [.ref a, .int x0] h = zz_Y 106 (0, [some (.ref a), some (.int x0), none, none], [], h) := fun _ => en_of xml106 rfl (rc_v xco106 hg) rfl
theorem en107 {a : Nat} {fs : List Value} {h : zz_H} (hg : hp_g h a = some (.inr (6, fs))) : ∀ x0 x1, zz_run 107 [.ref a, .int x0, .int x1] h = zz_Y 107 (0, [some (.ref a), some (.int x0), some (.int x1), none, none, none], [], h) := fun _ _ => en_of xml107 rfl (rc_v xco107 hg) rfl
theorem en108 : ∀ x0 h, zz_run 108 [.int x0] h = zz_Y 108 (0, [some (.int x0), none], [], h) := fun _ _ => en_of xml108 rfl (rc_s (by decide +kernel)) rfl
theorem en109 : ∀ x0 h, zz_run 109 [.int x0] h = zz_Y 109 (0, [some (.int x0)], [], h) := fun _ _ => en_of xml109 rfl (rc_s (by decide +kernel)) rfl
theorem en110 {a : Nat} {fs : List Value} {h : zz_H} (hg : hp_g h a = some (.inr (7, fs))) : zz_run 110 [.ref a] h = zz_Y 110 (0, [some (.ref a), none, none], [], h) := en_of xml110 rfl (rc_v xco110 hg) rfl
theorem en111 {a : Nat} {fs : List Value} {h : zz_H} (hg : hp_g h a = some (.inr (10, fs))) : zz_run 111 [.ref a] h = zz_Y 111 (0, [some (.ref a), none, none, none], [], h) := en_of xml111 rfl (rc_v xco111 hg) rfl
theorem en112 {a : Nat} {fs : List Value} {h : zz_H} (hg : hp_g h a = some (.inr (10, fs))) : zz_run 112 [.ref a] h = zz_Y 112 (0, [some (.ref a), none], [], h) := en_of xml112 rfl (rc_v xco112 hg) rfl
theorem en113 {a : Nat} {fs : List Value} {h : zz_H} (hg : hp_g h a = some (.inr (10, fs))) : ∀ x0, zz_run 113 [.ref a, .int x0] h = zz_Y 113 (0, [some (.ref a), some (.int x0), none, none], [], h) := fun _ => en_of xml113 rfl (rc_v xco113 hg) rfl
theorem en114 {a : Nat} {fs : List Value} {h : zz_H} (hg : hp_g h a = some (.inr (10, fs))) : zz_run 114 [.ref a] h = zz_Y 114 (0, [some (.ref a), none, none], [], h) := en_of xml114 rfl (rc_v xco114 hg) rfl
theorem en115 {a : Nat} {fs : List Value} {h : zz_H} (hg : hp_g h a = some (.inr (10, fs))) : zz_run 115 [.ref a] h = zz_Y 115 (0, [some (.ref a), none, none, none, none, none, none], [], h) := en_of xml115 rfl (rc_v xco115 hg) rfl
theorem en116 {a : Nat} {fs : List Value} {h : zz_H} (hg : hp_g h a = some (.inr (10, fs))) : ∀ x0 x1, zz_run 116 [.ref a, .int x0, .int x1] h = zz_Y 116 (0, [some (.ref a), some (.int x0), some (.int x1), none], [], h) := fun _ _ => en_of xml116 rfl (rc_v xco116 hg) rfl
theorem en117 {a : Nat} {fs : List Value} {h : zz_H} (hg : hp_g h a = some (.inr (0, fs))) : ∀ x0 x1, zz_run 117 [.ref a, .ref x0, .int x1] h = zz_Y 117 (0, [some (.ref a), some (.ref x0), some (.int x1), none, none], [], h) := fun _ _ => en_of xml117 rfl (rc_v xco117 hg) rfl
theorem en118 : ∀ x0 x1 h, zz_run 118 [.long x0, .int x1] h = zz_Y 118 (0, [some (.long x0), none, some (.int x1)], [], h) := fun _ _ _ => en_of xml118 rfl (rc_s (by decide +kernel)) rfl
theorem en119 : ∀ x0 x1 h, zz_run 119 [.long x0, .int x1] h = zz_Y 119 (0, [some (.long x0), none, some (.int x1), none], [], h) := fun _ _ _ => en_of xml119 rfl (rc_s (by decide +kernel)) rfl
theorem en120 {a : Nat} {fs : List Value} {h : zz_H} (hg : hp_g h a = some (.inr (10, fs))) : ∀ x0 x1, zz_run 120 [.ref a, .int x0, .int x1] h = zz_Y 120 (0, [some (.ref a), some (.int x0), some (.int x1), none, none], [], h) := fun _ _ => en_of xml120 rfl (rc_v xco120 hg) rfl
theorem en121 {a : Nat} {fs : List Value} {h : zz_H} (hg : hp_g h a = some (.inr (7, fs))) : ∀ x0, zz_run 121 [.ref a, .int x0] h = zz_Y 121 (0, [some (.ref a), some (.int x0), none, none], [], h) := fun _ => en_of xml121 rfl (rc_v xco121 hg) rfl
theorem en122 {a : Nat} {fs : List Value} {h : zz_H} (hg : hp_g h a = some (.inr (10, fs))) : ∀ x0, zz_run 122 [.ref a, .int x0] h = zz_Y 122 (0, [some (.ref a), some (.int x0), none, none], [], h) := fun _ => en_of xml122 rfl (rc_v xco122 hg) rfl
theorem en123 {a : Nat} {fs : List Value} {h : zz_H} (hg : hp_g h a = some (.inr (10, fs))) : ∀ x0 x1 x2, zz_run 123 [.ref a, .int x0, .int x1, .int x2] h = zz_Y 123 (0, [some (.ref a), some (.int x0), some (.int x1), some (.int x2), none], [], h) := fun _ _ _ => en_of xml123 rfl (rc_v xco123 hg) rfl
theorem en124 {a : Nat} {fs : List Value} {h : zz_H} (hg : hp_g h a = some (.inr (10, fs))) : ∀ x0 x1, zz_run 124 [.ref a, .int x0, .int x1] h = zz_Y 124 (0, [some (.ref a), some (.int x0), some (.int x1), none], [], h) := fun _ _ => en_of xml124 rfl (rc_v xco124 hg) rfl
theorem en125 {a : Nat} {fs : List Value} {h : zz_H} (hg : hp_g h a = some (.inr (10, fs))) : ∀ x0 x1, zz_run 125 [.ref a, .int x0, .int x1] h = zz_Y 125 (0, [some (.ref a), some (.int x0), some (.int x1)], [], h) := fun _ _ => en_of xml125 rfl (rc_v xco125 hg) rfl
theorem en126 {a : Nat} {fs : List Value} {h : zz_H} (hg : hp_g h a = some (.inr (6, fs))) : ∀ x0 x1, zz_run 126 [.ref a, .int x0, .int x1] h = zz_Y 126 (0, [some (.ref a), some (.int x0), some (.int x1)], [], h) := fun _ _ => en_of xml126 rfl (rc_v xco126 hg) rfl
theorem en127 {a : Nat} {fs : List Value} {h : zz_H} (hg : hp_g h a = some (.inr (10, fs))) : ∀ x0 x1, zz_run 127 [.ref a, .int x0, .int x1] h = zz_Y 127 (0, [some (.ref a), some (.int x0), some (.int x1)], [], h) := fun _ _ => en_of xml127 rfl (rc_v xco127 hg) rfl
theorem en128 {a : Nat} {fs : List Value} {h : zz_H} (hg : hp_g h a = some (.inr (10, fs))) : ∀ x0, zz_run 128 [.ref a, .int x0] h = zz_Y 128 (0, [some (.ref a), some (.int x0), none, none], [], h) := fun _ => en_of xml128 rfl (rc_v xco128 hg) rfl
theorem en129 {a : Nat} {fs : List Value} {h : zz_H} (hg : hp_g h a = some (.inr (10, fs))) : ∀ x0, zz_run 129 [.ref a, .int x0] h = zz_Y 129 (0, [some (.ref a), some (.int x0), none, none], [], h) := fun _ => en_of xml129 rfl (rc_v xco129 hg) rfl
theorem en130 {a : Nat} {fs : List Value} {h : zz_H} (hg : hp_g h a = some (.inr (10, fs))) : ∀ x0 x1, zz_run 130 [.ref a, .int x0, .int x1] h = zz_Y 130 (0, [some (.ref a), some (.int x0), some (.int x1), none, none], [], h) := fun _ _ => en_of xml130 rfl (rc_v xco130 hg) rfl
theorem en131 {a : Nat} {fs : List Value} {h : zz_H} (hg : hp_g h a = some (.inr (10, fs))) : ∀ x0 x1, zz_run 131 [.ref a, .int x0, .int x1] h = zz_Y 131 (0, [some (.ref a), some (.int x0), some (.int x1)], [], h) := fun _ _ => en_of xml131 rfl (rc_v xco131 hg) rfl
theorem en132 {a : Nat} {fs : List Value} {h : zz_H} (hg : hp_g h a = some (.inr (10, fs))) : ∀ x0 x1 x2, zz_run 132 [.ref a, .int x0, .int x1, .int x2] h = zz_Y 132 (0, [some (.ref a), some (.int x0), some (.int x1), some (.int x2), none], [], h) := fun _ _ _ => en_of xml132 rfl (rc_v xco132 hg) rfl
theorem en133 {a : Nat} {fs : List Value} {h : zz_H} (hg : hp_g h a = some (.inr (6, fs))) : ∀ x0 x1 x2, zz_run 133 [.ref a, .int x0, .int x1, .int x2] h = zz_Y 133 (0, [some (.ref a), some (.int x0), some (.int x1), some (.int x2), none, none], [], h) := fun _ _ _ => en_of xml133 rfl (rc_v xco133 hg) rfl
theorem en134 {a : Nat} {fs : List Value} {h : zz_H} (hg : hp_g h a = some (.inr (6, fs))) : ∀ x0 x1 x2, zz_run 134 [.ref a, .int x0, .int x1, .int x2] h = zz_Y 134 (0, [some (.ref a), some (.int x0), some (.int x1), some (.int x2), none, none], [], h) := fun _ _ _ => en_of xml134 rfl (rc_v xco134 hg) rfl
theorem en135 {a : Nat} {fs : List Value} {h : zz_H} (hg : hp_g h a = some (.inr (10, fs))) : ∀ x0, zz_run 135 [.ref a, .int x0] h = zz_Y 135 (0, [some (.ref a), some (.int x0)], [], h) := fun _ => en_of xml135 rfl (rc_v xco135 hg) rfl
theorem en136 {a : Nat} {fs : List Value} {h : zz_H} (hg : hp_g h a = some (.inr (7, fs))) : ∀ x0, zz_run 136 [.ref a, .int x0] h = zz_Y 136 (0, [some (.ref a), some (.int x0), none, none, none, none, none, none], [], h) := fun _ => en_of xml136 rfl (rc_v xco136 hg) rfl
theorem en137 {a : Nat} {fs : List Value} {h : zz_H} (hg : hp_g h a = some (.inr (10, fs))) : ∀ x0 x1, zz_run 137 [.ref a, .int x0, .int x1] h = zz_Y 137 (0, [some (.ref a), some (.int x0), some (.int x1), none, none], [], h) := fun _ _ => en_of xml137 rfl (rc_v xco137 hg) rfl
theorem en138 {a : Nat} {fs : List Value} {h : zz_H} (hg : hp_g h a = some (.inr (7, fs))) : ∀ x0, zz_run 138 [.ref a, .int x0] h = zz_Y 138 (0, [some (.ref a), some (.int x0), none, none], [], h) := fun _ => en_of xml138 rfl (rc_v xco138 hg) rfl
theorem en139 {a : Nat} {fs : List Value} {h : zz_H} (hg : hp_g h a = some (.inr (7, fs))) : ∀ x0, zz_run 139 [.ref a, .int x0] h = zz_Y 139 (0, [some (.ref a), some (.int x0), none], [], h) := fun _ => en_of xml139 rfl (rc_v xco139 hg) rfl
theorem en140 {a : Nat} {fs : List Value} {h : zz_H} (hg : hp_g h a = some (.inr (7, fs))) : ∀ x0 x1 x2, zz_run 140 [.ref a, .int x0, .int x1, .int x2] h = zz_Y 140 (0, [some (.ref a), some (.int x0), some (.int x1), some (.int x2), none, none], [], h) := fun _ _ _ => en_of xml140 rfl (rc_v xco140 hg) rfl
theorem en141 {a : Nat} {fs : List Value} {h : zz_H} (hg : hp_g h a = some (.inr (7, fs))) : ∀ x0, zz_run 141 [.ref a, .int x0] h = zz_Y 141 (0, [some (.ref a), some (.int x0), none, none], [], h) := fun _ => en_of xml141 rfl (rc_v xco141 hg) rfl
theorem en142 {a : Nat} {fs : List Value} {h : zz_H} (hg : hp_g h a = some (.inr (7, fs))) : ∀ x0, zz_run 142 [.ref a, .int x0] h = zz_Y 142 (0, [some (.ref a), some (.int x0), none, none, none], [], h) := fun _ => en_of xml142 rfl (rc_v xco142 hg) rfl
theorem en143 {a : Nat} {fs : List Value} {h : zz_H} (hg : hp_g h a = some (.inr (10, fs))) : ∀ x0, zz_run 143 [.ref a, .int x0] h = zz_Y 143 (0, [some (.ref a), some (.int x0)], [], h) := fun _ => en_of xml143 rfl (rc_v xco143 hg) rfl
theorem en144 {a : Nat} {fs : List Value} {h : zz_H} (hg : hp_g h a = some (.inr (7, fs))) : ∀ x0, zz_run 144 [.ref a, .int x0] h = zz_Y 144 (0, [some (.ref a), some (.int x0), none, none, none], [], h) := fun _ => en_of xml144 rfl (rc_v xco144 hg) rfl
theorem en145 {a : Nat} {fs : List Value} {h : zz_H} (hg : hp_g h a = some (.inr (10, fs))) : ∀ x0, zz_run 145 [.ref a, .int x0] h = zz_Y 145 (0, [some (.ref a), some (.int x0), none, none], [], h) := fun _ => en_of xml145 rfl (rc_v xco145 hg) rfl
theorem en146 {a : Nat} {fs : List Value} {h : zz_H} (hg : hp_g h a = some (.inr (7, fs))) : ∀ x0, zz_run 146 [.ref a, .int x0] h = zz_Y 146 (0, [some (.ref a), some (.int x0)], [], h) := fun _ => en_of xml146 rfl (rc_v xco146 hg) rfl
theorem en147 {a : Nat} {fs : List Value} {h : zz_H} (hg : hp_g h a = some (.inr (10, fs))) : ∀ x0, zz_run 147 [.ref a, .int x0] h = zz_Y 147 (0, [some (.ref a), some (.int x0)], [], h) := fun _ => en_of xml147 rfl (rc_v xco147 hg) rfl
theorem en148 {a : Nat} {fs : List Value} {h : zz_H} (hg : hp_g h a = some (.inr (1, fs))) : ∀ x0, zz_run 148 [.ref a, .ref x0] h = zz_Y 148 (0, [some (.ref a), some (.ref x0)], [], h) := fun _ => en_of xml148 rfl (rc_v xco148 hg) rfl
theorem en149 {a : Nat} {fs : List Value} {h : zz_H} (hg : hp_g h a = some (.inr (8, fs))) : ∀ x0, zz_run 149 [.ref a, .ref x0] h = zz_Y 149 (0, [some (.ref a), some (.ref x0)], [], h) := fun _ => en_of xml149 rfl (rc_v xco149 hg) rfl
theorem en150 {a : Nat} {fs : List Value} {h : zz_H} (hg : hp_g h a = some (.inr (0, fs))) : ∀ x0, zz_run 150 [.ref a, .ref x0] h = zz_Y 150 (0, [some (.ref a), some (.ref x0)], [], h) := fun _ => en_of xml150 rfl (rc_v xco150 hg) rfl
theorem en151 {a : Nat} {fs : List Value} {h : zz_H} (hg : hp_g h a = some (.inr (10, fs))) : ∀ x0, zz_run 151 [.ref a, .int x0] h = zz_Y 151 (0, [some (.ref a), some (.int x0)], [], h) := fun _ => en_of xml151 rfl (rc_v xco151 hg) rfl
theorem en152 : ∀ a h, zz_run 152 [.ref a] h = zz_Y 152 (0, [some (.ref a)], [], h) := fun _ _ => en_of xml152 rfl (rc_i (by decide +kernel)) rfl
theorem en153 {a : Nat} {fs : List Value} {h : zz_H} (hg : hp_g h a = some (.inr (11, fs))) : ∀ x0, zz_run 153 [.ref a, .int x0] h = zz_Y 153 (0, [some (.ref a), some (.int x0)], [], h) := fun _ => en_of xml153 rfl (rc_v xco153 hg) rfl
theorem en154 : ∀ x0 x1 x2 h, zz_run 154 [.int x0, .int x1, .int x2] h = zz_Y 154 (0, [some (.int x0), some (.int x1), some (.int x2)], [], h) := fun _ _ _ _ => en_of xml154 rfl (rc_s (by decide +kernel)) rfl
theorem en155 {a : Nat} {fs : List Value} {h : zz_H} (hg : hp_g h a = some (.inr (11, fs))) : ∀ x0, zz_run 155 [.ref a, .int x0] h = zz_Y 155 (0, [some (.ref a), some (.int x0), none, none, none], [], h) := fun _ => en_of xml155 rfl (rc_v xco155 hg) rfl
theorem en156 {a : Nat} {fs : List Value} {h : zz_H} (hg : hp_g h a = some (.inr (11, fs))) : ∀ x0 x1, zz_run 156 [.ref a, .ref x0, .int x1] h = zz_Y 156 (0, [some (.ref a), some (.ref x0), some (.int x1), none, none], [], h) := fun _ _ => en_of xml156 rfl (rc_v xco156 hg) rfl
theorem en157 {a : Nat} {fs : List Value} {h : zz_H} (hg : hp_g h a = some (.inr (11, fs))) : ∀ x0 x1, zz_run 157 [.ref a, .int x0, .int x1] h = zz_Y 157 (0, [some (.ref a), some (.int x0), some (.int x1), none], [], h) := fun _ _ => en_of xml157 rfl (rc_v xco157 hg) rfl
theorem en158 : ∀ x0 h, zz_run 158 [.int x0] h = zz_Y 158 (0, [some (.int x0)], [], h) := fun _ _ => en_of xml158 rfl (rc_s (by decide +kernel)) rfl
theorem en159 {a : Nat} {fs : List Value} {h : zz_H} (hg : hp_g h a = some (.inr (11, fs))) : ∀ x0, zz_run 159 [.ref a, .int x0] h = zz_Y 159 (0, [some (.ref a), some (.int x0), none, none], [], h) := fun _ => en_of xml159 rfl (rc_v xco159 hg) rfl
theorem en160 : ∀ x0 h, zz_run 160 [.int x0] h = zz_Y 160 (0, [some (.int x0), none, none], [], h) := fun _ _ => en_of xml160 rfl (rc_s (by decide +kernel)) rfl
theorem en161 : ∀ x0 h, zz_run 161 [.ref x0] h = zz_Y 161 (0, [some (.ref x0), none, none], [], h) := fun _ _ => en_of xml161 rfl (rc_s (by decide +kernel)) rfl
theorem en162 : ∀ x0 h, zz_run 162 [.int x0] h = zz_Y 162 (0, [some (.int x0), none, none, none], [], h) := fun _ _ => en_of xml162 rfl (rc_s (by decide +kernel)) rfl
theorem en163 : ∀ x0 h, zz_run 163 [.int x0] h = zz_Y 163 (0, [some (.int x0)], [], h) := fun _ _ => en_of xml163 rfl (rc_s (by decide +kernel)) rfl
theorem en164 : ∀ x0 h, zz_run 164 [.int x0] h = zz_Y 164 (0, [some (.int x0)], [], h) := fun _ _ => en_of xml164 rfl (rc_s (by decide +kernel)) rfl
theorem en165 {a : Nat} {fs : List Value} {h : zz_H} (hg : hp_g h a = some (.inr (11, fs))) : zz_run 165 [.ref a] h = zz_Y 165 (0, [some (.ref a), none, none], [], h) := en_of xml165 rfl (rc_v xco165 hg) rfl
theorem en166 {a : Nat} {fs : List Value} {h : zz_H} (hg : hp_g h a = some (.inr (11, fs))) : zz_run 166 [.ref a] h = zz_Y 166 (0, [some (.ref a)], [], h) := en_of xml166 rfl (rc_v xco166 hg) rfl
theorem en167 {a : Nat} {fs : List Value} {h : zz_H} (hg : hp_g h a = some (.inr (11, fs))) : ∀ x0, zz_run 167 [.ref a, .int x0] h = zz_Y 167 (0, [some (.ref a), some (.int x0), none, none], [], h) := fun _ => en_of xml167 rfl (rc_v xco167 hg) rfl
theorem en168 {a : Nat} {fs : List Value} {h : zz_H} (hg : hp_g h a = some (.inr (11, fs))) : ∀ x0, zz_run 168 [.ref a, .int x0] h = zz_Y 168 (0, [some (.ref a), some (.int x0), none, none, none, none], [], h) := fun _ => en_of xml168 rfl (rc_v xco168 hg) rfl
theorem en169 : ∀ x0 h, zz_run 169 [.int x0] h = zz_Y 169 (0, [some (.int x0)], [], h) := fun _ _ => en_of xml169 rfl (rc_s (by decide +kernel)) rfl
theorem en170 {a : Nat} {fs : List Value} {h : zz_H} (hg : hp_g h a = some (.inr (11, fs))) : ∀ x0, zz_run 170 [.ref a, .int x0] h = zz_Y 170 (0, [some (.ref a), some (.int x0)], [], h) := fun _ => en_of xml170 rfl (rc_v xco170 hg) rfl
theorem en171 {a : Nat} {fs : List Value} {h : zz_H} (hg : hp_g h a = some (.inr (11, fs))) : ∀ x0, zz_run 171 [.ref a, .int x0] h = zz_Y 171 (0, [some (.ref a), some (.int x0)], [], h) := fun _ => en_of xml171 rfl (rc_v xco171 hg) rfl
theorem en172 : ∀ x0 h, zz_run 172 [.ref x0] h = zz_Y 172 (0, [some (.ref x0), none, none], [], h) := fun _ _ => en_of xml172 rfl (rc_s (by decide +kernel)) rfl
theorem en173 {a : Nat} {fs : List Value} {h : zz_H} (hg : hp_g h a = some (.inr (11, fs))) : ∀ x0, zz_run 173 [.ref a, .int x0] h = zz_Y 173 (0, [some (.ref a), some (.int x0), none, none], [], h) := fun _ => en_of xml173 rfl (rc_v xco173 hg) rfl
theorem en174 {a : Nat} {fs : List Value} {h : zz_H} (hg : hp_g h a = some (.inr (11, fs))) : ∀ x0, zz_run 174 [.ref a, .int x0] h = zz_Y 174 (0, [some (.ref a), some (.int x0)], [], h) := fun _ => en_of xml174 rfl (rc_v xco174 hg) rfl
theorem en175 {a : Nat} {fs : List Value} {h : zz_H} (hg : hp_g h a = some (.inr (11, fs))) : ∀ x0, zz_run 175 [.ref a, .int x0] h = zz_Y 175 (0, [some (.ref a), some (.int x0), none, none], [], h) := fun _ => en_of xml175 rfl (rc_v xco175 hg) rfl
theorem en176 {a : Nat} {fs : List Value} {h : zz_H} (hg : hp_g h a = some (.inr (11, fs))) : ∀ x0, zz_run 176 [.ref a, .int x0] h = zz_Y 176 (0, [some (.ref a), some (.int x0), none], [], h) := fun _ => en_of xml176 rfl (rc_v xco176 hg) rfl
theorem en177 {a : Nat} {fs : List Value} {h : zz_H} (hg : hp_g h a = some (.inr (11, fs))) : ∀ x0, zz_run 177 [.ref a, .int x0] h = zz_Y 177 (0, [some (.ref a), some (.int x0), none], [], h) := fun _ => en_of xml177 rfl (rc_v xco177 hg) rfl
theorem en178 {a : Nat} {fs : List Value} {h : zz_H} (hg : hp_g h a = some (.inr (11, fs))) : zz_run 178 [.ref a] h = zz_Y 178 (0, [some (.ref a), none, none, none, none, none, none], [], h) := en_of xml178 rfl (rc_v xco178 hg) rfl
theorem en179 {a : Nat} {fs : List Value} {h : zz_H} (hg : hp_g h a = some (.inr (11, fs))) : ∀ x0 x1, zz_run 179 [.ref a, .int x0, .int x1] h = zz_Y 179 (0, [some (.ref a), some (.int x0), some (.int x1), none, none, none], [], h) := fun _ _ => en_of xml179 rfl (rc_v xco179 hg) rfl
theorem en180 {a : Nat} {fs : List Value} {h : zz_H} (hg : hp_g h a = some (.inr (11, fs))) : ∀ x0, zz_run 180 [.ref a, .int x0] h = zz_Y 180 (0, [some (.ref a), some (.int x0)], [], h) := fun _ => en_of xml180 rfl (rc_v xco180 hg) rfl
theorem en181 {a : Nat} {fs : List Value} {h : zz_H} (hg : hp_g h a = some (.inr (11, fs))) : ∀ x0 x1, zz_run 181 [.ref a, .int x0, .int x1] h = zz_Y 181 (0, [some (.ref a), some (.int x0), some (.int x1)], [], h) := fun _ _ => en_of xml181 rfl (rc_v xco181 hg) rfl
theorem en182 {a : Nat} {fs : List Value} {h : zz_H} (hg : hp_g h a = some (.inr (11, fs))) : ∀ x0 x1, zz_run 182 [.ref a, .int x0, .int x1] h = zz_Y 182 (0, [some (.ref a), some (.int x0), some (.int x1), none, none, none], [], h) := fun _ _ => en_of xml182 rfl (rc_v xco182 hg) rfl
theorem en183 {a : Nat} {fs : List Value} {h : zz_H} (hg : hp_g h a = some (.inr (11, fs))) : ∀ x0, zz_run 183 [.ref a, .int x0] h = zz_Y 183 (0, [some (.ref a), some (.int x0)], [], h) := fun _ => en_of xml183 rfl (rc_v xco183 hg) rfl
theorem en184 {a : Nat} {fs : List Value} {h : zz_H} (hg : hp_g h a = some (.inr (11, fs))) : ∀ x0, zz_run 184 [.ref a, .int x0] h = zz_Y 184 (0, [some (.ref a), some (.int x0)], [], h) := fun _ => en_of xml184 rfl (rc_v xco184 hg) rfl
theorem en185 {a : Nat} {fs : List Value} {h : zz_H} (hg : hp_g h a = some (.inr (11, fs))) : ∀ x0 x1 x2, zz_run 185 [.ref a, .int x0, .int x1, .int x2] h = zz_Y 185 (0, [some (.ref a), some (.int x0), some (.int x1), some (.int x2), none], [], h) := fun _ _ _ => en_of xml185 rfl (rc_v xco185 hg) rfl
theorem en186 {a : Nat} {fs : List Value} {h : zz_H} (hg : hp_g h a = some (.inr (11, fs))) : ∀ x0 x1, zz_run 186 [.ref a, .int x0, .int x1] h = zz_Y 186 (0, [some (.ref a), some (.int x0), some (.int x1), none, none], [], h) := fun _ _ => en_of xml186 rfl (rc_v xco186 hg) rfl
theorem en187 {a : Nat} {fs : List Value} {h : zz_H} (hg : hp_g h a = some (.inr (11, fs))) : ∀ x0, zz_run 187 [.ref a, .int x0] h = zz_Y 187 (0, [some (.ref a), some (.int x0)], [], h) := fun _ => en_of xml187 rfl (rc_v xco187 hg) rfl
theorem en188 : ∀ x0 h, zz_run 188 [.int x0] h = zz_Y 188 (0, [some (.int x0)], [], h) := fun _ _ => en_of xml188 rfl (rc_s (by decide +kernel)) rfl
theorem en189 {a : Nat} {fs : List Value} {h : zz_H} (hg : hp_g h a = some (.inr (11, fs))) : ∀ x0 x1, zz_run 189 [.ref a, .int x0, .int x1] h = zz_Y 189 (0, [some (.ref a), some (.int x0), some (.int x1)], [], h) := fun _ _ => en_of xml189 rfl (rc_v xco189 hg) rfl
theorem en190 : ∀ x0 x1 h, zz_run 190 [.ref x0, .int x1] h = zz_Y 190 (0, [some (.ref x0), some (.int x1)], [], h) := fun _ _ _ => en_of xml190 rfl (rc_s (by decide +kernel)) rfl
theorem en191 {a : Nat} {fs : List Value} {h : zz_H} (hg : hp_g h a = some (.inr (11, fs))) : ∀ x0 x1, zz_run 191 [.ref a, .int x0, .int x1] h = zz_Y 191 (0, [some (.ref a), some (.int x0), some (.int x1)], [], h) := fun _ _ => en_of xml191 rfl (rc_v xco191 hg) rfl
theorem en192 {a : Nat} {fs : List Value} {h : zz_H} (hg : hp_g h a = some (.inr (11, fs))) : ∀ x0 x1, zz_run 192 [.ref a, .int x0, .int x1] h = zz_Y 192 (0, [some (.ref a), some (.int x0), some (.int x1), none, none, none, none], [], h) := fun _ _ => en_of xml192 rfl (rc_v xco192 hg) rfl
theorem en193 {a : Nat} {fs : List Value} {h : zz_H} (hg : hp_g h a = some (.inr (11, fs))) : ∀ x0 x1, zz_run 193 [.ref a, .ref x0, .int x1] h = zz_Y 193 (0, [some (.ref a), some (.ref x0), some (.int x1), none, none], [], h) := fun _ _ => en_of xml193 rfl (rc_v xco193 hg) rfl
theorem en194 {a : Nat} {fs : List Value} {h : zz_H} (hg : hp_g h a = some (.inr (11, fs))) : ∀ x0 x1, zz_run 194 [.ref a, .int x0, .int x1] h = zz_Y 194 (0, [some (.ref a), some (.int x0), some (.int x1), none, none], [], h) := fun _ _ => en_of xml194 rfl (rc_v xco194 hg) rfl
theorem en195 {a : Nat} {fs : List Value} {h : zz_H} (hg : hp_g h a = some (.inr (11, fs))) : ∀ x0 x1 x2, zz_run 195 [.ref a, .int x0, .int x1, .int x2] h = zz_Y 195 (0, [some (.ref a), some (.int x0), some (.int x1), some (.int x2), none], [], h) := fun _ _ _ => en_of xml195 rfl (rc_v xco195 hg) rfl
theorem en196 {a : Nat} {fs : List Value} {h : zz_H} (hg : hp_g h a = some (.inr (11, fs))) : zz_run 196 [.ref a] h = zz_Y 196 (0, [some (.ref a), none, none], [], h) := en_of xml196 rfl (rc_v xco196 hg) rfl
theorem en197 : ∀ x0 x1 x2 h, zz_run 197 [.ref x0, .ref x1, .int x2] h = zz_Y 197 (0, [some (.ref x0), some (.ref x1), some (.int x2), none, none, none], [], h) := fun _ _ _ _ => en_of xml197 rfl (rc_s (by decide +kernel)) rfl
theorem en198 {a : Nat} {fs : List Value} {h : zz_H} (hg : hp_g h a = some (.inr (11, fs))) : ∀ x0, zz_run 198 [.ref a, .int x0] h = zz_Y 198 (0, [some (.ref a), some (.int x0), none, none, none, none, none, none], [], h) := fun _ => en_of xml198 rfl (rc_v xco198 hg) rfl
theorem en199 {a : Nat} {fs : List Value} {h : zz_H} (hg : hp_g h a = some (.inr (11, fs))) : ∀ x0 x1, zz_run 199 [.ref a, .int x0, .int x1] h = zz_Y 199 (0, [some (.ref a), some (.int x0), some (.int x1), none, none], [], h) := fun _ _ => en_of xml199 rfl (rc_v xco199 hg) rfl
theorem en200 {a : Nat} {fs : List Value} {h : zz_H} (hg : hp_g h a = some (.inr (11, fs))) : ∀ x0 x1, zz_run 200 [.ref a, .int x0, .int x1] h = zz_Y 200 (0, [some (.ref a), some (.int x0), some (.int x1), none, none], [], h) := fun _ _ => en_of xml200 rfl (rc_v xco200 hg) rfl
theorem en201 {a : Nat} {fs : List Value} {h : zz_H} (hg : hp_g h a = some (.inr (11, fs))) : ∀ x0, zz_run 201 [.ref a, .int x0] h = zz_Y 201 (0, [some (.ref a), some (.int x0), none, none], [], h) := fun _ => en_of xml201 rfl (rc_v xco201 hg) rfl
theorem en202 {a : Nat} {fs : List Value} {h : zz_H} (hg : hp_g h a = some (.inr (11, fs))) : ∀ x0, zz_run 202 [.ref a, .int x0] h = zz_Y 202 (0, [some (.ref a), some (.int x0), none, none], [], h) := fun _ => en_of xml202 rfl (rc_v xco202 hg) rfl
theorem en203 {a : Nat} {fs : List Value} {h : zz_H} (hg : hp_g h a = some (.inr (11, fs))) : ∀ x0, zz_run 203 [.ref a, .int x0] h = zz_Y 203 (0, [some (.ref a), some (.int x0), none, none], [], h) := fun _ => en_of xml203 rfl (rc_v xco203 hg) rfl
theorem en204 {a : Nat} {fs : List Value} {h : zz_H} (hg : hp_g h a = some (.inr (11, fs))) : ∀ x0 x1, zz_run 204 [.ref a, .int x0, .int x1] h = zz_Y 204 (0, [some (.ref a), some (.int x0), some (.int x1), none], [], h) := fun _ _ => en_of xml204 rfl (rc_v xco204 hg) rfl
theorem en205 {a : Nat} {fs : List Value} {h : zz_H} (hg : hp_g h a = some (.inr (11, fs))) : ∀ x0 x1, zz_run 205 [.ref a, .int x0, .int x1] h = zz_Y 205 (0, [some (.ref a), some (.int x0), some (.int x1)], [], h) := fun _ _ => en_of xml205 rfl (rc_v xco205 hg) rfl
theorem en206 {a : Nat} {fs : List Value} {h : zz_H} (hg : hp_g h a = some (.inr (11, fs))) : zz_run 206 [.ref a] h = zz_Y 206 (0, [some (.ref a)], [], h) := en_of xml206 rfl (rc_v xco206 hg) rfl
theorem en207 {a : Nat} {fs : List Value} {h : zz_H} (hg : hp_g h a = some (.inr (11, fs))) : ∀ x0 x1 x2, zz_run 207 [.ref a, .int x0, .int x1, .int x2] h = zz_Y 207 (0, [some (.ref a), some (.int x0), some (.int x1), some (.int x2), none], [], h) := fun _ _ _ => en_of xml207 rfl (rc_v xco207 hg) rfl
theorem en208 {a : Nat} {fs : List Value} {h : zz_H} (hg : hp_g h a = some (.inr (11, fs))) : ∀ x0 x1, zz_run 208 [.ref a, .int x0, .int x1] h = zz_Y 208 (0, [some (.ref a), some (.int x0), some (.int x1)], [], h) := fun _ _ => en_of xml208 rfl (rc_v xco208 hg) rfl
theorem en209 {a : Nat} {fs : List Value} {h : zz_H} (hg : hp_g h a = some (.inr (11, fs))) : ∀ x0, zz_run 209 [.ref a, .int x0] h = zz_Y 209 (0, [some (.ref a), some (.int x0), none, none], [], h) := fun _ => en_of xml209 rfl (rc_v xco209 hg) rfl
theorem en210 {a : Nat} {fs : List Value} {h : zz_H} (hg : hp_g h a = some (.inr (11, fs))) : ∀ x0 x1, zz_run 210 [.ref a, .int x0, .int x1] h = zz_Y 210 (0, [some (.ref a), some (.int x0), some (.int x1), none, none, none, none], [], h) := fun _ _ => en_of xml210 rfl (rc_v xco210 hg) rfl
theorem en211 {a : Nat} {fs : List Value} {h : zz_H} (hg : hp_g h a = some (.inr (11, fs))) : ∀ x0 x1 x2, zz_run 211 [.ref a, .int x0, .int x1, .int x2] h = zz_Y 211 (0, [some (.ref a), some (.int x0), some (.int x1), some (.int x2), none, none], [], h) := fun _ _ _ => en_of xml211 rfl (rc_v xco211 hg) rfl
theorem en212 {a : Nat} {fs : List Value} {h : zz_H} (hg : hp_g h a = some (.inr (11, fs))) : ∀ x0 x1, zz_run 212 [.ref a, .int x0, .int x1] h = zz_Y 212 (0, [some (.ref a), some (.int x0), some (.int x1), none, none], [], h) := fun _ _ => en_of xml212 rfl (rc_v xco212 hg) rfl
theorem en213 {a : Nat} {fs : List Value} {h : zz_H} (hg : hp_g h a = some (.inr (11, fs))) : ∀ x0 x1, zz_run 213 [.ref a, .int x0, .int x1] h = zz_Y 213 (0, [some (.ref a), some (.int x0), some (.int x1), none], [], h) := fun _ _ => en_of xml213 rfl (rc_v xco213 hg) rfl
theorem en214 {a : Nat} {fs : List Value} {h : zz_H} (hg : hp_g h a = some (.inr (11, fs))) : ∀ x0 x1, zz_run 214 [.ref a, .int x0, .int x1] h = zz_Y 214 (0, [some (.ref a), some (.int x0), some (.int x1), none], [], h) := fun _ _ => en_of xml214 rfl (rc_v xco214 hg) rfl
theorem en215 {a : Nat} {fs : List Value} {h : zz_H} (hg : hp_g h a = some (.inr (11, fs))) : ∀ x0 x1, zz_run 215 [.ref a, .int x0, .int x1] h = zz_Y 215 (0, [some (.ref a), some (.int x0), some (.int x1), none, none], [], h) := fun _ _ => en_of xml215 rfl (rc_v xco215 hg) rfl
theorem en216 {a : Nat} {fs : List Value} {h : zz_H} (hg : hp_g h a = some (.inr (11, fs))) : ∀ x0 x1, zz_run 216 [.ref a, .int x0, .int x1] h = zz_Y 216 (0, [some (.ref a), some (.int x0), some (.int x1)], [], h) := fun _ _ => en_of xml216 rfl (rc_v xco216 hg) rfl
theorem en217 {a : Nat} {fs : List Value} {h : zz_H} (hg : hp_g h a = some (.inr (11, fs))) : zz_run 217 [.ref a] h = zz_Y 217 (0, [some (.ref a)], [], h) := en_of xml217 rfl (rc_v xco217 hg) rfl
theorem en218 {a : Nat} {fs : List Value} {h : zz_H} (hg : hp_g h a = some (.inr (11, fs))) : ∀ x0 x1 x2 x3 x4, zz_run 218 [.ref a, .int x0, .int x1, .int x2, .int x3, .int x4] h = zz_Y 218 (0, [some (.ref a), some (.int x0), some (.int x1), some (.int x2), some (.int x3), some (.int x4), none, none], [], h) := fun _ _ _ _ _ => en_of xml218 rfl (rc_v xco218 hg) rfl
theorem en219 {a : Nat} {fs : List Value} {h : zz_H} (hg : hp_g h a = some (.inr (11, fs))) : ∀ x0, zz_run 219 [.ref a, .int x0] h = zz_Y 219 (0, [some (.ref a), some (.int x0)], [], h) := fun _ => en_of xml219 rfl (rc_v xco219 hg) rfl
theorem en220 {a : Nat} {fs : List Value} {h : zz_H} (hg : hp_g h a = some (.inr (11, fs))) : ∀ x0, zz_run 220 [.ref a, .int x0] h = zz_Y 220 (0, [some (.ref a), some (.int x0)], [], h) := fun _ => en_of xml220 rfl (rc_v xco220 hg) rfl
theorem en221 {a : Nat} {fs : List Value} {h : zz_H} (hg : hp_g h a = some (.inr (11, fs))) : zz_run 221 [.ref a] h = zz_Y 221 (0, [some (.ref a), none], [], h) := en_of xml221 rfl (rc_v xco221 hg) rfl
theorem en222 {a : Nat} {fs : List Value} {h : zz_H} (hg : hp_g h a = some (.inr (11, fs))) : zz_run 222 [.ref a] h = zz_Y 222 (0, [some (.ref a)], [], h) := en_of xml222 rfl (rc_v xco222 hg) rfl
theorem en223 {a : Nat} {fs : List Value} {h : zz_H} (hg : hp_g h a = some (.inr (11, fs))) : zz_run 223 [.ref a] h = zz_Y 223 (0, [some (.ref a), none], [], h) := en_of xml223 rfl (rc_v xco223 hg) rfl
theorem en224 {a : Nat} {fs : List Value} {h : zz_H} (hg : hp_g h a = some (.inr (11, fs))) : ∀ x0, zz_run 224 [.ref a, .int x0] h = zz_Y 224 (0, [some (.ref a), some (.int x0)], [], h) := fun _ => en_of xml224 rfl (rc_v xco224 hg) rfl
theorem en225 : ∀ x0 h, zz_run 225 [.int x0] h = zz_Y 225 (0, [some (.int x0)], [], h) := fun _ _ => en_of xml225 rfl (rc_s (by decide +kernel)) rfl
theorem en226 : ∀ x0 h, zz_run 226 [.int x0] h = zz_Y 226 (0, [some (.int x0)], [], h) := fun _ _ => en_of xml226 rfl (rc_s (by decide +kernel)) rfl
theorem en227 {a : Nat} {fs : List Value} {h : zz_H} (hg : hp_g h a = some (.inr (11, fs))) : zz_run 227 [.ref a] h = zz_Y 227 (0, [some (.ref a)], [], h) := en_of xml227 rfl (rc_v xco227 hg) rfl
theorem en228 {a : Nat} {fs : List Value} {h : zz_H} (hg : hp_g h a = some (.inr (11, fs))) : zz_run 228 [.ref a] h = zz_Y 228 (0, [some (.ref a)], [], h) := en_of xml228 rfl (rc_v xco228 hg) rfl
theorem en229 {a : Nat} {fs : List Value} {h : zz_H} (hg : hp_g h a = some (.inr (11, fs))) : ∀ x0, zz_run 229 [.ref a, .long x0] h = zz_Y 229 (0, [some (.ref a), some (.long x0), none], [], h) := fun _ => en_of xml229 rfl (rc_v xco229 hg) rfl
theorem en230 {a : Nat} {fs : List Value} {h : zz_H} (hg : hp_g h a = some (.inr (11, fs))) : zz_run 230 [.ref a] h = zz_Y 230 (0, [some (.ref a), none, none, none], [], h) := en_of xml230 rfl (rc_v xco230 hg) rfl
theorem en231 {a : Nat} {fs : List Value} {h : zz_H} (hg : hp_g h a = some (.inr (11, fs))) : ∀ x0 x1, zz_run 231 [.ref a, .int x0, .int x1] h = zz_Y 231 (0, [some (.ref a), some (.int x0), some (.int x1)], [], h) := fun _ _ => en_of xml231 rfl (rc_v xco231 hg) rfl
theorem en232 {a : Nat} {fs : List Value} {h : zz_H} (hg : hp_g h a = some (.inr (11, fs))) : ∀ x0, zz_run 232 [.ref a, .int x0] h = zz_Y 232 (0, [some (.ref a), some (.int x0), none], [], h) := fun _ => en_of xml232 rfl (rc_v xco232 hg) rfl
theorem en233 {a : Nat} {fs : List Value} {h : zz_H} (hg : hp_g h a = some (.inr (11, fs))) : zz_run 233 [.ref a] h = zz_Y 233 (0, [some (.ref a)], [], h) := en_of xml233 rfl (rc_v xco233 hg) rfl
theorem en234 : ∀ x0 h, zz_run 234 [.long x0] h = zz_Y 234 (0, [some (.long x0), none], [], h) := fun _ _ => en_of xml234 rfl (rc_s (by decide +kernel)) rfl
theorem en235 {a : Nat} {fs : List Value} {h : zz_H} (hg : hp_g h a = some (.inr (11, fs))) : ∀ x0 x1, zz_run 235 [.ref a, .int x0, .long x1] h = zz_Y 235 (0, [some (.ref a), some (.int x0), some (.long x1), none, none], [], h) := fun _ _ => en_of xml235 rfl (rc_v xco235 hg) rfl
theorem en236 {a : Nat} {fs : List Value} {h : zz_H} (hg : hp_g h a = some (.inr (11, fs))) : ∀ x0, zz_run 236 [.ref a, .int x0] h = zz_Y 236 (0, [some (.ref a), some (.int x0), none, none, none], [], h) := fun _ => en_of xml236 rfl (rc_v xco236 hg) rfl
theorem en237 {a : Nat} {fs : List Value} {h : zz_H} (hg : hp_g h a = some (.inr (11, fs))) : ∀ x0 x1, zz_run 237 [.ref a, .int x0, .long x1] h = zz_Y 237 (0, [some (.ref a), some (.int x0), some (.long x1), none, none], [], h) := fun _ _ => en_of xml237 rfl (rc_v xco237 hg) rfl
theorem en238 {a : Nat} {fs : List Value} {h : zz_H} (hg : hp_g h a = some (.inr (11, fs))) : zz_run 238 [.ref a] h = zz_Y 238 (0, [some (.ref a), none, none, none, none], [], h) := en_of xml238 rfl (rc_v xco238 hg) rfl
theorem en239 {a : Nat} {fs : List Value} {h : zz_H} (hg : hp_g h a = some (.inr (11, fs))) : ∀ x0, zz_run 239 [.ref a, .long x0] h = zz_Y 239 (0, [some (.ref a), some (.long x0), none, none], [], h) := fun _ => en_of xml239 rfl (rc_v xco239 hg) rfl
theorem en240 {a : Nat} {fs : List Value} {h : zz_H} (hg : hp_g h a = some (.inr (11, fs))) : zz_run 240 [.ref a] h = zz_Y 240 (0, [some (.ref a), none, none], [], h) := en_of xml240 rfl (rc_v xco240 hg) rfl
theorem en241 {a : Nat} {fs : List Value} {h : zz_H} (hg : hp_g h a = some (.inr (11, fs))) : ∀ x0 x1, zz_run 241 [.ref a, .int x0, .int x1] h = zz_Y 241 (0, [some (.ref a), some (.int x0), some (.int x1)], [], h) := fun _ _ => en_of xml241 rfl (rc_v xco241 hg) rfl
theorem en242 {a : Nat} {fs : List Value} {h : zz_H} (hg : hp_g h a = some (.inr (11, fs))) : ∀ x0, zz_run 242 [.ref a, .int x0] h = zz_Y 242 (0, [some (.ref a), some (.int x0), none], [], h) := fun _ => en_of xml242 rfl (rc_v xco242 hg) rfl
theorem en243 {a : Nat} {fs : List Value} {h : zz_H} (hg : hp_g h a = some (.inr (11, fs))) : ∀ x0, zz_run 243 [.ref a, .int x0] h = zz_Y 243 (0, [some (.ref a), some (.int x0), none], [], h) := fun _ => en_of xml243 rfl (rc_v xco243 hg) rfl
theorem en244 {a : Nat} {fs : List Value} {h : zz_H} (hg : hp_g h a = some (.inr (11, fs))) : ∀ x0, zz_run 244 [.ref a, .int x0] h = zz_Y 244 (0, [some (.ref a), some (.int x0)], [], h) := fun _ => en_of xml244 rfl (rc_v xco244 hg) rfl
theorem en245 {a : Nat} {fs : List Value} {h : zz_H} (hg : hp_g h a = some (.inr (11, fs))) : zz_run 245 [.ref a] h = zz_Y 245 (0, [some (.ref a), none, none], [], h) := en_of xml245 rfl (rc_v xco245 hg) rfl
theorem en246 {a : Nat} {fs : List Value} {h : zz_H} (hg : hp_g h a = some (.inr (11, fs))) : zz_run 246 [.ref a] h = zz_Y 246 (0, [some (.ref a)], [], h) := en_of xml246 rfl (rc_v xco246 hg) rfl
theorem en247 {a : Nat} {fs : List Value} {h : zz_H} (hg : hp_g h a = some (.inr (11, fs))) : zz_run 247 [.ref a] h = zz_Y 247 (0, [some (.ref a), none, none, none], [], h) := en_of xml247 rfl (rc_v xco247 hg) rfl
theorem en248 {a : Nat} {fs : List Value} {h : zz_H} (hg : hp_g h a = some (.inr (11, fs))) : zz_run 248 [.ref a] h = zz_Y 248 (0, [some (.ref a), none, none], [], h) := en_of xml248 rfl (rc_v xco248 hg) rfl
theorem en249 {a : Nat} {fs : List Value} {h : zz_H} (hg : hp_g h a = some (.inr (11, fs))) : ∀ x0 x1, zz_run 249 [.ref a, .ref x0, .ref x1] h = zz_Y 249 (0, [some (.ref a), some (.ref x0), some (.ref x1), none], [], h) := fun _ _ => en_of xml249 rfl (rc_v xco249 hg) rfl
theorem en250 {a : Nat} {fs : List Value} {h : zz_H} (hg : hp_g h a = some (.inr (11, fs))) : ∀ x0 x1, zz_run 250 [.ref a, .ref x0, .ref x1] h = zz_Y 250 (0, [some (.ref a), some (.ref x0), some (.ref x1), none], [], h) := fun _ _ => en_of xml250 rfl (rc_v xco250 hg) rfl
theorem en251 {a : Nat} {fs : List Value} {h : zz_H} (hg : hp_g h a = some (.inr (11, fs))) : zz_run 251 [.ref a] h = zz_Y 251 (0, [some (.ref a)], [], h) := en_of xml251 rfl (rc_v xco251 hg) rfl
theorem en252 {a : Nat} {fs : List Value} {h : zz_H} (hg : hp_g h a = some (.inr (11, fs))) : zz_run 252 [.ref a] h = zz_Y 252 (0, [some (.ref a), none], [], h) := en_of xml252 rfl (rc_v xco252 hg) rfl
theorem en253 {a : Nat} {fs : List Value} {h : zz_H} (hg : hp_g h a = some (.inr (11, fs))) : ∀ x0, zz_run 253 [.ref a, .int x0] h = zz_Y 253 (0, [some (.ref a), some (.int x0), none], [], h) := fun _ => en_of xml253 rfl (rc_v xco253 hg) rfl
theorem en254 {a : Nat} {fs : List Value} {h : zz_H} (hg : hp_g h a = some (.inr (11, fs))) : ∀ x0, zz_run 254 [.ref a, .int x0] h = zz_Y 254 (0, [some (.ref a), some (.int x0), none, none], [], h) := fun _ => en_of xml254 rfl (rc_v xco254 hg) rfl
theorem en255 {a : Nat} {fs : List Value} {h : zz_H} (hg : hp_g h a = some (.inr (11, fs))) : ∀ x0, zz_run 255 [.ref a, .int x0] h = zz_Y 255 (0, [some (.ref a), some (.int x0), none, none], [], h) := fun _ => en_of xml255 rfl (rc_v xco255 hg) rfl
