/-! what a draft keeps -/
def z0 : Nat → Int32 := fun _ => nI 0
def DI (D : Sk) : Prop := match D with
  | (p, rk, tg, f) => pnh p ≤ 4 ∧ pnv p ≤ 20 ∧ CI p rk tg f z0 z0 ∧ (0 < pnh p → ∃ fi si, pfi p (pnh p - 1) = nI fi ∧ psi p (pnh p - 1) = nI si ∧ fi + si = pnv p) ∧ ∀ v, pnv p ≤ v → v < 20 → ∀ b, b < 8 → f (8 * v + b) = nI 0
theorem lin_cong {p q : Pl} (t : Int32) : ∀ n, (∀ u, u < n → pli p u = pli q u) → linOf p t n = linOf q t n
  | 0, _ => rfl
  | n + 1, h => by
    show (if bt t n = true then linOf p t n ||| pli p n else linOf p t n) = (if bt t n = true then linOf q t n ||| pli q n else linOf q t n)
    rw [lin_cong t n (fun u hu => h u (by omega)), h n (by omega)]
theorem CI_put {p : Pl} {rk tg f ch ba : Nat → Int32} (hc : CI p rk tg f ch ba) (hn : pnv p ≤ 20) {q : Nat} (hq : q < 256) {x g : Int32} (ho : okRT (pnv p) x g) : CI p (upd rk q x) (upd tg q g) (putF f (pnv p) q (!decide (x = -1)) (linOf p g (pnv p))) ch ba := by
  obtain ⟨c1, c2, c3, c4, c5, c6⟩ := hc
  refine ⟨c1, c2, c3, fun r hr => ?_, fun r hr => ?_, fun v hv r hr => ?_⟩
  · by_cases c : r = q
    · subst c
      rw [upd_eq, upd_eq]
      exact ho
    · rw [upd_ne c, upd_ne c]
      exact c4 r hr
  · unfold putF
    rw [if_neg (by omega)]
    by_cases c : r / 32 = q / 32
    · rw [c, if_pos rfl, b_sbit (by omega) (by omega)]
      by_cases c2 : r = q
      · subst c2; rw [if_pos rfl, upd_eq]
      · rw [if_neg (by omega), upd_ne c2, ← c]; exact c5 r hr
    · rw [if_neg (by omega), upd_ne (fun e => c (by rw [e]))]
      exact c5 r hr
  · unfold putF
    have e1 : (8 * v + r / 32) % 8 = r / 32 := by omega
    have e2 : (8 * v + r / 32) / 8 = v := by omega
    rw [e1, e2]
    by_cases c : r / 32 = q / 32
    · rw [if_pos ⟨c, hv⟩, b_sbit (by omega) (by omega)]
      by_cases c2 : r = q
      · subst c2; rw [if_pos rfl, upd_eq]
      · rw [if_neg (by omega), upd_ne c2]; exact c6 v hv r hr
    · rw [if_neg (fun z => c z.1), if_neg (by omega), upd_ne (fun e => c (by rw [e]))]
      exact c6 v hv r hr
section
variable {p : Pl} {rk tg f : Nat → Int32}
theorem DI_put (hd : DI (p, rk, tg, f)) {q : Nat} (hq : q < 256) {x g : Int32} (ho : okRT (pnv p) x g) : DI (putP (p, rk, tg, f) q x g) := by
  obtain ⟨d1, d2, d3, d4, d5⟩ := hd
  refine ⟨d1, d2, CI_put d3 d2 hq ho, d4, fun v h1 h2 b hb => ?_⟩
  have h1' : pnv p ≤ v := h1
  show putF f (pnv p) q _ _ (8 * v + b) = nI 0
  unfold putF
  rw [if_neg (fun z => by omega), if_neg (by omega)]
  exact d5 v h1 h2 b hb
theorem DI_addH (hd : DI (p, rk, tg, f)) (h4 : pnh p < 4) (w : Int64) (m : Bool) : DI (addH p w m, rk, tg, f) := by
  obtain ⟨d1, d2, ⟨⟨w1, w2⟩, c2, c3, c4, c5, c6⟩, d4, d5⟩ := hd
  refine ⟨show pnh p + 1 ≤ 4 by omega, d2, ⟨⟨fun d hd => ?_, fun v hv => ?_⟩, fun d hd => ?_, c3, c4, c5, fun v hv q hq => ?_⟩, fun _ => ⟨pnv p, 0, ?_, ?_, rfl⟩, d5⟩
  · have hd' : d < pnh p + 1 := hd
    by_cases c : d = pnh p
    · subst c
      refine ⟨pnv p, 0, upd_eq _ _ _, upd_eq _ _ _, Nat.le_refl _, fun v hv => ⟨fun e => ?_, fun e => by omega⟩⟩
      obtain ⟨⟨hd2, h1, h2⟩, _⟩ := w2 v hv
      have e' : pho p v = nI (pnh p) := e
      rw [h2, nI_eq (by omega) (by omega)] at e'
      omega
    · obtain ⟨fi, si, e1, e2, e3, e4⟩ := w1 d (by omega)
      exact ⟨fi, si, (upd_ne c).trans e1, (upd_ne c).trans e2, e3, e4⟩
  · obtain ⟨⟨hd2, h1, h2⟩, h3⟩ := w2 v hv
    exact ⟨⟨hd2, show hd2 < pnh p + 1 by omega, h2⟩, h3⟩
  · have hd' : d < pnh p + 1 := hd
    refine ⟨?_, Or.inl rfl⟩
    by_cases c : d = pnh p
    · subst c
      show upd (pmn p) (pnh p) (bI m) (pnh p) = nI 0 ∨ upd (pmn p) (pnh p) (bI m) (pnh p) = nI 1
      rw [upd_eq]
      exact bI_okr m
    · show upd (pmn p) (pnh p) (bI m) d = nI 0 ∨ upd (pmn p) (pnh p) (bI m) d = nI 1
      rw [upd_ne c]
      exact (c2 d (by omega)).1
  · rw [show linOf (addH p w m) (tg q) (pnv (addH p w m)) = linOf p (tg q) (pnv p) from lin_cong _ _ (fun _ _ => rfl)]
    exact c6 v hv q hq
  · show upd (pfi p) (pnh p) (nI (pnv p)) (pnh p + 1 - 1) = nI (pnv p)
    rw [Nat.add_sub_cancel, upd_eq]
  · show upd (psi p) (pnh p) (nI 0) (pnh p + 1 - 1) = nI 0
    rw [Nat.add_sub_cancel, upd_eq]
theorem DI_addV (hd : DI (p, rk, tg, f)) (h0 : 0 < pnh p) (h20 : pnv p < 20) (w : Int64) {par : Int32} (hp : par = -1 ∨ ∃ u, u < pnv p ∧ par = nI u ∧ pho p u = nI (pnh p - 1)) : DI (addV p w par, rk, tg, f) := by
  obtain ⟨d1, d2, ⟨⟨w1, w2⟩, c2, c3, c4, c5, c6⟩, d4, d5⟩ := hd
  obtain ⟨fi0, si0, f1, f2, f3⟩ := d4 h0
  have hpli : ∀ u, u < pnv p → pli (addV p w par) u = pli p u := fun u hu => upd_ne (by omega)
  have hpho : ∀ u, u < pnv p → pho (addV p w par) u = pho p u := fun u hu => upd_ne (by omega)
  have hphn : pho (addV p w par) (pnv p) = nI (pnh p - 1) := upd_eq _ _ _
  have hlin : ∀ q, q < 256 → linOf (addV p w par) (tg q) (pnv p + 1) = linOf p (tg q) (pnv p) := fun q hq => by
    show (if bt (tg q) (pnv p) = true then linOf (addV p w par) (tg q) (pnv p) ||| pli (addV p w par) (pnv p) else linOf (addV p w par) (tg q) (pnv p)) = _
    rw [(c4 q hq).1 (pnv p) (Nat.le_refl _) (by omega), if_neg (by decide)]
    exact lin_cong _ _ hpli
  refine ⟨d1, show pnv p + 1 ≤ 20 by omega, ⟨⟨fun d hd => ?_, fun v hv => ?_⟩, c2, fun v _ => Or.inl rfl, fun q hq => ⟨fun v h1 h2 => (c4 q hq).1 v (by (have h1' : pnv p + 1 ≤ v := h1); omega) h2, (c4 q hq).2⟩, c5, fun v hv q hq => ?_⟩, fun _ => ⟨fi0, si0 + 1, f1, ?_, show fi0 + (si0 + 1) = pnv p + 1 by omega⟩, fun v h1 h2 b hb => d5 v (by (have h1' : pnv p + 1 ≤ v := h1); omega) h2 b hb⟩
  · have hd' : d < pnh p := hd
    by_cases c : d = pnh p - 1
    · subst c
      refine ⟨fi0, si0 + 1, f1, ?_, show fi0 + (si0 + 1) ≤ pnv p + 1 by omega, fun v hv => ?_⟩
      · show upd (psi p) (pnh p - 1) (psi p (pnh p - 1) + nI 1) (pnh p - 1) = nI (si0 + 1)
        rw [upd_eq, f2, nI_add]
      · have hv' : v < pnv p + 1 := hv
        by_cases cv : v = pnv p
        · subst cv
          rw [hphn]
          exact ⟨fun _ => by omega, fun _ => rfl⟩
        · obtain ⟨fi, si, e1, e2, e3, e4⟩ := w1 _ hd'
          rw [f1, nI_eq (by omega) (by omega)] at e1
          rw [f2, nI_eq (by omega) (by omega)] at e2
          subst e1 e2
          rw [hpho v (by omega), e4 v (by omega)]
          omega
    · obtain ⟨fi, si, e1, e2, e3, e4⟩ := w1 d hd'
      refine ⟨fi, si, e1, (upd_ne c).trans e2, show fi + si ≤ pnv p + 1 by omega, fun v hv => ?_⟩
      have hv' : v < pnv p + 1 := hv
      by_cases cv : v = pnv p
      · subst cv
        rw [hphn, nI_eq (by omega) (by omega)]
        omega
      · rw [hpho v (by omega)]
        exact e4 v (by omega)
  · have hv' : v < pnv p + 1 := hv
    by_cases cv : v = pnv p
    · subst cv
      refine ⟨⟨pnh p - 1, show pnh p - 1 < pnh p by omega, hphn⟩, ?_⟩
      have e1 : ppa (addV p w par) (pnv p) = par := upd_eq _ _ _
      have e2 : pli (addV p w par) (pnv p) = sh1 (pnv p) ||| if isV (pnv p) par = true then pli p par.toNatClampNeg else nI 0 := upd_eq _ _ _
      rcases hp with hp | ⟨u, h1, h2, h3⟩
      · refine Or.inl ⟨e1.trans hp, ?_⟩
        rw [e2, hp, if_neg (fun q => ?_)]
        obtain ⟨k, hk, e⟩ := (isV_iff (by omega)).mp q
        exact m1_nI (by omega) e
      · refine Or.inr ⟨u, h1, e1.trans h2, ?_, ?_⟩
        · rw [hpho u h1, hphn, h3]
        · rw [e2, hpli u h1, h2, if_pos (isV_nI (by omega) h1), nI_clamp (by omega)]
    · obtain ⟨⟨hd2, h1, h2⟩, h3⟩ := w2 v (by omega)
      refine ⟨⟨hd2, h1, (hpho v (by omega)).trans h2⟩, ?_⟩
      have e1 : ppa (addV p w par) v = ppa p v := upd_ne cv
      rw [e1, hpli v (by omega)]
      rcases h3 with h3 | ⟨u, g1, g2, g3, g4⟩
      · exact Or.inl h3
      · exact Or.inr ⟨u, g1, g2, by rw [hpho u (by omega), hpho v (by omega)]; exact g3, by rw [hpli u (by omega)]; exact g4⟩
  · have hv' : v < pnv p + 1 := hv
    rw [show linOf (addV p w par) (tg q) (pnv (addV p w par)) = linOf (addV p w par) (tg q) (pnv p + 1) from rfl, hlin q hq]
    by_cases cv : v = pnv p
    · subst cv
      rw [d5 (pnv p) (Nat.le_refl _) h20 (q / 32) (by omega), nI_0, b_0]
      exact (lin_lt ⟨w1, w2⟩ d2 (tg q) (by omega) (Nat.le_refl _)).symm
    · exact c6 v (by omega) q hq
  · show upd (psi p) (pnh p - 1) (psi p (pnh p - 1) + nI 1) (pnh p - 1) = nI (si0 + 1)
    rw [upd_eq, f2, nI_add]
theorem DI_tags (hn : pnv p ≤ 20) {t : Nat → Nat} {tl : Nat} : ∀ n s (g : Int32), s ≤ tl → (∀ v, pnv p ≤ v → v < 32 → bt g v = false) → ∀ s' g', tagsP t tl p n s g = .inr (s', g') → s ≤ s' ∧ s' ≤ tl ∧ ∀ v, pnv p ≤ v → v < 32 → bt g' v = false := by
  intro n
  induction n with
  | zero =>
    intro s g hs hg s' g' e
    cases e
    exact ⟨Nat.le_refl _, hs, hg⟩
  | succ n ih =>
    intro s g hs hg s' g' e
    unfold tagsP at e
    split at e
    · cases e
      exact ⟨Nat.le_refl _, hs, hg⟩
    · split at e
      · cases e
      · next c1 =>
        split at e
        · cases e
        · have ha := adv_le (t := t) hs
          obtain ⟨h1, h2, h3⟩ := ih _ _ ha.2.1 (fun v h1 h2 => by
            rw [b_or, hg v h1 h2, b_sh1 (by omega) h2, decide_eq_false (by omega)]
            rfl) s' g' e
          exact ⟨by omega, h2, h3⟩
theorem DI_line (hd : DI (p, rk, tg, f)) {t : Nat → Nat} {tl s : Nat} (hs : s ≤ tl) (hk : ¬ kdP t tl s = 0) {s' : Nat} {D' : Sk} (e : lineP t tl s (p, rk, tg, f) = .inr (s', D')) : DI D' ∧ s < s' ∧ s' ≤ tl := by
  have hst : s < tl := by
    by_cases z : s = tl
    · exact absurd ((kd_stop hs).mpr z) hk
    · omega
  have a1 := adv_le (t := t) hs
  have a1s := a1.2.2 hst
  have a2 := adv_le (t := t) a1.2.1
  have a3 := adv_le (t := t) a2.2.1
  have a4 := adv_le (t := t) a3.2.1
  have sem : ∀ o : Out, semP t tl o = .inr (s', D') → (∀ s1 D1, o = .inr (s1, D1) → DI D1 ∧ s < s1 ∧ s1 ≤ tl) → DI D' ∧ s < s' ∧ s' ≤ tl := by
    intro o eo ho
    match o with
    | .inl _ => cases eo
    | .inr (s1, D1) =>
      obtain ⟨h1, h2, h3⟩ := ho s1 D1 rfl
      unfold semP at eo
      dsimp only at eo
      split at eo
      · cases eo
      · cases eo
        have := adv_le (t := t) h3
        exact ⟨h1, by omega, this.2.1⟩
  unfold lineP at e
  split at e
  · refine sem _ e (fun s1 D1 eo => ?_)
    unfold headP at eo
    dsimp only at eo
    split at eo
    · cases eo
    · next c1 =>
      split at eo
      · cases eo
      · split at eo
        · cases eo
        · cases eo
          exact ⟨DI_addH hd (Classical.not_not.mp c1) _ _, by omega, a3.2.1⟩
  · split at e
    · refine sem _ e (fun s1 D1 eo => ?_)
      unfold valueP at eo
      dsimp only at eo
      split at eo
      · cases eo
      · next c1 =>
        have c1 := Classical.not_not.mp c1
        split at eo
        · cases eo
        · split at eo
          · split at eo
            · cases eo
            · next c4 =>
              cases eo
              obtain ⟨_, l1, l2⟩ := ltF_0 (Classical.not_not.mp c4)
              exact ⟨DI_addV hd c1.1 c1.2 _ (Or.inr ⟨_, l1, rfl, l2⟩), by omega, a4.2.1⟩
          · cases eo
            exact ⟨DI_addV hd c1.1 c1.2 _ (Or.inl rfl), by omega, a2.2.1⟩
    · split at e
      · refine sem _ e (fun s1 D1 eo => ?_)
        unfold recordP at eo
        dsimp only at eo
        split at eo
        · cases eo
        · next c1 =>
          split at eo
          · cases eo
          · split at eo
            · cases eo
            · obtain ⟨_, cn⟩ := nuF_0 (Classical.not_not.mp c1)
              have l1 := nuN_lt t tl (advP t tl s)
              have l2 := nuN_lt t tl (advP t tl (advP t tl s))
              rw [nP_nI, nI_ltI (by omega) (by omega)] at cn
              cases ht : tagsP t tl p 601 (advP t tl (advP t tl (advP t tl s))) (nI 0) with
              | inl x => rw [ht] at eo; cases eo
              | inr x =>
                obtain ⟨s2, g2⟩ := x
                rw [ht] at eo
                cases eo
                obtain ⟨b1, b2, b3⟩ := DI_tags hd.2.1 601 _ _ a3.2.1 (fun v _ _ => by rw [nI_0]; exact b_0 v) s1 g2 ht
                exact ⟨DI_put hd (by omega) ⟨b3, Or.inr ⟨_, l2, rfl⟩⟩, by omega, b2⟩
      · cases e
end
