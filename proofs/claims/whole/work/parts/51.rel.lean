/-! what both hold -/
def nmR (A : Nat → Int32) (at_ : Nat) (w : Int64) : Prop := ∃ (n : Nat) (l : Nat → Nat), 2 ≤ n ∧ n ≤ 8 ∧ A at_ = nI n ∧ (∀ i, i < n → 1 ≤ l i ∧ l i ≤ 26 ∧ A (at_ + 1 + i) = nI (96 + l i)) ∧ w = W5 (fun i => 96 + l i) 0 n
def RS (A : Nat → Int32) (o : Nat) (p : Pl) (rk tg ch ba : Nat → Int32) : Prop :=
  (pnh p ≤ 4 ∧ pnv p ≤ 20 ∧ A o = nI (pnh p) ∧ A (o + 1) = nI (pnv p)) ∧
  (∀ d, d < pnh p → A (o + (10 + 11 * d)) = pmn p d ∧ A (o + (10 + 11 * d) + 1) = ba d ∧ nmR A (o + (10 + 11 * d) + 2) (phn p d)) ∧
  (∀ v, v < pnv p → A (o + (54 + 12 * v)) = pho p v ∧ A (o + (54 + 12 * v) + 1) = ppa p v ∧ A (o + (54 + 12 * v) + 2) = ch v ∧ nmR A (o + (54 + 12 * v) + 3) (pvn p v)) ∧
  (∀ q, q < 256 → bt (A (o + 294 + q / 32)) (q % 32) = !decide (rk q = -1) ∧ (rk q = -1 ∨ A (o + 462 + q) = rk q)) ∧
  (∀ v, v < pnv p → ∀ q, q < 256 → bt (A (o + 302 + 8 * v + q / 32)) (q % 32) = bt (tg q) v)
/-- what the class keeps by itself -/
def CI (p : Pl) (rk tg f ch ba : Nat → Int32) : Prop :=
  wfP p ∧ (∀ d, d < pnh p → (pmn p d = nI 0 ∨ pmn p d = nI 1) ∧ (ba d = nI 0 ∨ ba d = nI 1)) ∧
  (∀ v, v < pnv p → ch v = nI 0 ∨ ch v = nI 1 ∨ ch v = nI 2) ∧
  (∀ q, q < 256 → (∀ v, pnv p ≤ v → v < 32 → bt (tg q) v = false) ∧ (rk q = -1 ∧ tg q = nI 0 ∨ ∃ r, r < 1000 ∧ rk q = nI r)) ∧
  (∀ q, q < 256 → bt (f (160 + q / 32)) (q % 32) = !decide (rk q = -1)) ∧
  (∀ v, v < pnv p → ∀ q, q < 256 → bt (f (8 * v + q / 32)) (q % 32) = bt (linOf p (tg q) (pnv p)) v)
theorem lin_bt (p : Pl) (t : Int32) (v : Nat) : ∀ n, bt (linOf p t n) v = true ↔ ∃ u, u < n ∧ bt t u = true ∧ bt (pli p u) v = true
  | 0 => by
    constructor
    · intro h
      rw [show linOf p t 0 = nI 0 from rfl, nI_0, b_0] at h
      cases h
    · rintro ⟨u, hu, _⟩
      omega
  | n + 1 => by
    have ih := lin_bt p t v n
    rw [show linOf p t (n + 1) = if bt t n = true then linOf p t n ||| pli p n else linOf p t n from rfl]
    by_cases hb : bt t n = true
    · rw [if_pos hb, b_or, Bool.or_eq_true, ih]
      constructor
      · rintro (⟨u, h1, h2, h3⟩ | h3)
        · exact ⟨u, by omega, h2, h3⟩
        · exact ⟨n, by omega, hb, h3⟩
      · rintro ⟨u, h1, h2, h3⟩
        by_cases hu : u = n
        · subst hu; exact Or.inr h3
        · exact Or.inl ⟨u, by omega, h2, h3⟩
    · rw [if_neg hb, ih]
      constructor
      · rintro ⟨u, h1, h2, h3⟩
        exact ⟨u, by omega, h2, h3⟩
      · rintro ⟨u, h1, h2, h3⟩
        by_cases hu : u = n
        · subst hu; exact absurd h2 hb
        · exact ⟨u, by omega, h2, h3⟩
def rowM (A : Nat → Int32) (p : Pl) (v b : Nat) (n : Nat) : Int32 := lp_it (fun u w => if bt (pli p u) v = true then w ||| A (302 + 8 * u + b) else w) n (nI 0)
theorem row_bt (A : Nat → Int32) (p : Pl) (v b i : Nat) : ∀ n, bt (rowM A p v b n) i = true ↔ ∃ u, u < n ∧ bt (pli p u) v = true ∧ bt (A (302 + 8 * u + b)) i = true
  | 0 => by
    constructor
    · intro h
      rw [show rowM A p v b 0 = nI 0 from rfl, nI_0, b_0] at h
      cases h
    · rintro ⟨u, hu, _⟩
      omega
  | n + 1 => by
    have ih := row_bt A p v b i n
    rw [show rowM A p v b (n + 1) = if bt (pli p n) v = true then rowM A p v b n ||| A (302 + 8 * n + b) else rowM A p v b n from rfl]
    by_cases hb : bt (pli p n) v = true
    · rw [if_pos hb, b_or, Bool.or_eq_true, ih]
      constructor
      · rintro (⟨u, h1, h2, h3⟩ | h3)
        · exact ⟨u, by omega, h2, h3⟩
        · exact ⟨n, by omega, hb, h3⟩
      · rintro ⟨u, h1, h2, h3⟩
        by_cases hu : u = n
        · subst hu; exact Or.inr h3
        · exact Or.inl ⟨u, by omega, h2, h3⟩
    · rw [if_neg hb, ih]
      constructor
      · rintro ⟨u, h1, h2, h3⟩
        exact ⟨u, by omega, h2, h3⟩
      · rintro ⟨u, h1, h2, h3⟩
        by_cases hu : u = n
        · subst hu; exact absurd h2 hb
        · exact ⟨u, by omega, h2, h3⟩
section
variable {A : Nat → Int32} {p : Pl} {rk tg f ch ba : Nat → Int32}
theorem row_eq (hr : RS A 0 p rk tg ch ba) (hc : CI p rk tg f ch ba) {v b : Nat} (hv : v < pnv p) (hb : b < 8) : rowM A p v b (pnv p) = f (8 * v + b) := by
  refine b_ext (fun i hi => Bool.eq_iff_iff.mpr ?_)
  have e := hc.2.2.2.2.2 v hv (32 * b + i) (by omega)
  rw [show (32 * b + i) / 32 = b by omega, show (32 * b + i) % 32 = i by omega] at e
  rw [row_bt, e, lin_bt]
  constructor
  · rintro ⟨u, h1, h2, h3⟩
    have t := hr.2.2.2.2 u h1 (32 * b + i) (by omega)
    rw [show (32 * b + i) / 32 = b by omega, show (32 * b + i) % 32 = i by omega, Nat.zero_add, h3] at t
    exact ⟨u, h1, t.symm, h2⟩
  · rintro ⟨u, h1, h2, h3⟩
    have t := hr.2.2.2.2 u h1 (32 * b + i) (by omega)
    rw [show (32 * b + i) / 32 = b by omega, show (32 * b + i) % 32 = i by omega, Nat.zero_add, h2] at t
    exact ⟨u, h1, h3, t⟩
theorem there_eq (hr : RS A 0 p rk tg ch ba) (hc : CI p rk tg f ch ba) {b : Nat} (hb : b < 8) : A (294 + b) = f (8 * 20 + b) := by
  refine b_ext (fun i hi => ?_)
  have e := hc.2.2.2.2.1 (32 * b + i) (by omega)
  have t := (hr.2.2.2.1 (32 * b + i) (by omega)).1
  rw [show (32 * b + i) / 32 = b by omega, show (32 * b + i) % 32 = i by omega] at e t
  rw [Nat.zero_add] at t
  rw [t, show 8 * 20 + b = 160 + b by omega, e]
end
/-- a head lets a bit through -/
def okH (p : Pl) (fb : Nat → Bool) (ch ba : Nat → Int32) (d : Nat) : Prop := (∀ v, v < pnv p → pho p v = nI d → ¬ ch v = nI 1) ∨ (if ba d = nI 1 then ∀ v, v < pnv p → pho p v = nI d → ch v = nI 1 → fb v = true else ∃ v, v < pnv p ∧ pho p v = nI d ∧ ch v = nI 1 ∧ fb v = true)
def okL (p : Pl) (fb : Nat → Bool) (ch ba : Nat → Int32) (th : Bool) (op : Int32) : Prop := th = true ∧ (∀ d, d < pnh p → ¬ nI d = op → okH p fb ch ba d) ∧ ∀ v, v < pnv p → ch v = nI 2 → fb v = false
def exC (ch : Nat → Int32) (ex : Int32) : Nat → Int32 := fun v => if nI v = ex then nI 1 else ch v
theorem n12 : ¬ nI 1 = nI 2 := by decide +kernel
theorem ps_bt (f ch : Nat → Int32) (fi b : Nat) (op : Bool) (ex : Int32) (i : Nat) (hi : i < 32) : ∀ n,
    (bt (psI f ch fi n b op ex).1 i = true ↔ op = false ∧ ∃ j, j < n ∧ exC ch ex (fi + j) = nI 1 ∧ bt (f (8 * (fi + j) + b)) i = true) ∧
    (bt (psI f ch fi n b op ex).2.1 i = true ↔ (op = false → ∀ j, j < n → exC ch ex (fi + j) = nI 1 → bt (f (8 * (fi + j) + b)) i = true)) ∧
    (bt (psI f ch fi n b op ex).2.2.1 i = true ↔ ∃ j, j < n ∧ exC ch ex (fi + j) = nI 2 ∧ bt (f (8 * (fi + j) + b)) i = true) ∧
    ((psI f ch fi n b op ex).2.2.2 = true ↔ op = false ∧ ∃ j, j < n ∧ exC ch ex (fi + j) = nI 1)
  | 0 => by
    rw [show psI f ch fi 0 b op ex = (nI 0, -1, nI 0, false) from rfl]
    refine ⟨?_, ?_, ?_, ?_⟩
    · rw [nI_0, b_0]
      exact ⟨fun c => (by cases c), fun ⟨_, j, hj, _⟩ => by omega⟩
    · rw [b_m1 i hi]
      exact ⟨fun _ _ j hj => by omega, fun _ => rfl⟩
    · rw [nI_0, b_0]
      exact ⟨fun c => (by cases c), fun ⟨j, hj, _⟩ => by omega⟩
    · exact ⟨fun c => (by cases c), fun ⟨_, j, hj, _⟩ => by omega⟩
  | n + 1 => by
    obtain ⟨i1, i2, i3, i4⟩ := ps_bt f ch fi b op ex i hi n
    rw [show psI f ch fi (n + 1) b op ex = psS f ch b op ex (fi + n) (psI f ch fi n b op ex) from rfl]
    generalize psI f ch fi n b op ex = s at *
    unfold psS
    rw [show (if nI (fi + n) = ex then nI 1 else ch (fi + n)) = exC ch ex (fi + n) from rfl]
    by_cases c2 : exC ch ex (fi + n) = nI 2
    · rw [if_pos c2]
      have c1 : ¬ exC ch ex (fi + n) = nI 1 := fun e => n12 (e.symm.trans c2)
      refine ⟨?_, ?_, ?_, ?_⟩
      · rw [i1]
        exact ⟨fun ⟨a, j, h1, h2⟩ => ⟨a, j, by omega, h2⟩, fun ⟨a, j, h1, h2⟩ => ⟨a, j, by (have : j ≠ n := fun e => c1 (e ▸ h2.1)); omega, h2⟩⟩
      · rw [i2]
        exact ⟨fun a o j h1 h2 => a o j (by (have : j ≠ n := fun e => c1 (e ▸ h2)); omega) h2, fun a o j h1 h2 => a o j (by omega) h2⟩
      · rw [b_or, Bool.or_eq_true, i3]
        constructor
        · rintro (⟨j, h1, h2⟩ | h1)
          · exact ⟨j, by omega, h2⟩
          · exact ⟨n, by omega, c2, h1⟩
        · rintro ⟨j, h1, h2, h3⟩
          by_cases e : j = n
          · subst e; exact Or.inr h3
          · exact Or.inl ⟨j, by omega, h2, h3⟩
      · rw [i4]
        exact ⟨fun ⟨a, j, h1, h2⟩ => ⟨a, j, by omega, h2⟩, fun ⟨a, j, h1, h2⟩ => ⟨a, j, by (have : j ≠ n := fun e => c1 (e ▸ h2)); omega, h2⟩⟩
    · rw [if_neg c2]
      by_cases c1 : exC ch ex (fi + n) = nI 1 ∧ op = false
      · rw [if_pos c1]
        refine ⟨?_, ?_, ?_, ?_⟩
        · rw [b_or, Bool.or_eq_true, i1]
          constructor
          · rintro (⟨a, j, h1, h2⟩ | h1)
            · exact ⟨a, j, by omega, h2⟩
            · exact ⟨c1.2, n, by omega, c1.1, h1⟩
          · rintro ⟨a, j, h1, h2, h3⟩
            by_cases e : j = n
            · subst e; exact Or.inr h3
            · exact Or.inl ⟨a, j, by omega, h2, h3⟩
        · rw [b_and, Bool.and_eq_true, i2]
          constructor
          · rintro ⟨a, h3⟩ o j h1 h2
            by_cases e : j = n
            · subst e; exact h3
            · exact a o j (by omega) h2
          · intro a
            exact ⟨fun o j h1 h2 => a o j (by omega) h2, a c1.2 n (by omega) c1.1⟩
        · rw [i3]
          exact ⟨fun ⟨j, h1, h2⟩ => ⟨j, by omega, h2⟩, fun ⟨j, h1, h2⟩ => ⟨j, by (have : j ≠ n := fun e => c2 (e ▸ h2.1)); omega, h2⟩⟩
        · exact ⟨fun _ => ⟨c1.2, n, by omega, c1.1⟩, fun _ => rfl⟩
      · rw [if_neg c1]
        refine ⟨?_, ?_, ?_, ?_⟩
        · rw [i1]
          exact ⟨fun ⟨a, j, h1, h2⟩ => ⟨a, j, by omega, h2⟩, fun ⟨a, j, h1, h2⟩ => ⟨a, j, by (have : j ≠ n := fun e => c1 ⟨e ▸ h2.1, a⟩); omega, h2⟩⟩
        · rw [i2]
          exact ⟨fun a o j h1 h2 => a o j (by (have : j ≠ n := fun e => c1 ⟨e ▸ h2, o⟩); omega) h2, fun a o j h1 h2 => a o j (by omega) h2⟩
        · rw [i3]
          exact ⟨fun ⟨j, h1, h2⟩ => ⟨j, by omega, h2⟩, fun ⟨j, h1, h2⟩ => ⟨j, by (have : j ≠ n := fun e => c2 (e ▸ h2.1)); omega, h2⟩⟩
        · rw [i4]
          exact ⟨fun ⟨a, j, h1, h2⟩ => ⟨a, j, by omega, h2⟩, fun ⟨a, j, h1, h2⟩ => ⟨a, j, by (have : j ≠ n := fun e => c1 ⟨e ▸ h2, a⟩); omega, h2⟩⟩
/-- what is left, bit by bit -/
theorem lf_bt {p : Pl} (hw : wfP p) (f ch ba : Nat → Int32) {b : Nat} (op ex : Int32) {i : Nat} (hi : i < 32) (hnv : pnv p ≤ 20) : bt (lfW p f ch ba b op ex) i = true ↔ okL p (fun v => bt (f (8 * v + b)) i) (exC ch ex) ba (bt (f (8 * 20 + b)) i) op := by
  have key : ∀ n, n ≤ pnh p → (bt (lp_it (lfS p f ch ba b op ex) n (f (8 * 20 + b))) i = true ↔ bt (f (8 * 20 + b)) i = true ∧ (∀ d, d < n → ¬ nI d = op → okH p (fun v => bt (f (8 * v + b)) i) (exC ch ex) ba d) ∧ ∀ v d, v < pnv p → d < n → pho p v = nI d → exC ch ex v = nI 2 → bt (f (8 * v + b)) i = false) := by
    intro n
    induction n with
    | zero =>
      intro _
      exact ⟨fun e => ⟨e, fun d hd => by omega, fun v d _ hd => by omega⟩, fun e => e.1⟩
    | succ n ih =>
      intro hn
      obtain ⟨fi, si, e1, e2, e3, e4⟩ := hw.1 n (by omega)
      rw [lp_it_s, show ∀ w, lfS p f ch ba b op ex n w = w &&& psE (decide (ba n = nI 1)) (psI f ch (pfi p n).toNatClampNeg (psi p n).toNatClampNeg b (decide (nI n = op)) ex) from fun _ => rfl]
      rw [b_and, Bool.and_eq_true, ih (by omega), e1, e2, nI_clamp (show fi < 2147483648 by omega), nI_clamp (show si < 2147483648 by omega)]
      obtain ⟨p1, p2, p3, p4⟩ := ps_bt f ch fi b (decide (nI n = op)) ex i hi si
      generalize psI f ch fi si b (decide (nI n = op)) ex = s at *
      have key2 : bt (psE (decide (ba n = nI 1)) s) i = true ↔ (¬ nI n = op → okH p (fun v => bt (f (8 * v + b)) i) (exC ch ex) ba n) ∧ ∀ v, v < pnv p → pho p v = nI n → exC ch ex v = nI 2 → bt (f (8 * v + b)) i = false := by
        have sh : bt (s.2.2.1 ^^^ (-1)) i = true ↔ ∀ v, v < pnv p → pho p v = nI n → exC ch ex v = nI 2 → bt (f (8 * v + b)) i = false := by
          rw [b_not hi, Bool.not_eq_true', ← Bool.not_eq_true, p3]
          constructor
          · intro a v h1 h2 h3
            obtain ⟨g1, g2⟩ := (e4 v h1).mp h2
            rw [← Bool.not_eq_true]
            intro h4
            exact a ⟨v - fi, by omega, by rw [show fi + (v - fi) = v by omega]; exact ⟨h3, h4⟩⟩
          · rintro a ⟨j, h1, h2, h3⟩
            rw [a (fi + j) (by omega) ((e4 (fi + j) (by omega)).mpr ⟨by omega, by omega⟩) h2] at h3
            cases h3
        unfold psE
        cases ha : s.2.2.2 with
        | false =>
          rw [if_pos rfl, sh]
          constructor
          · intro a
            refine ⟨fun hne => Or.inl (fun v h1 h2 h3 => ?_), a⟩
            obtain ⟨g1, g2⟩ := (e4 v h1).mp h2
            have := p4.mpr ⟨decide_eq_false hne, v - fi, by omega, by rw [show fi + (v - fi) = v by omega]; exact h3⟩
            rw [ha] at this
            cases this
          · exact fun a => a.2
        | true =>
          rw [if_neg (by decide)]
          obtain ⟨o1, j, h1, h2⟩ := p4.mp ha
          have hne := of_decide_eq_false o1
          have hno : ¬ ∀ v, v < pnv p → pho p v = nI n → ¬ exC ch ex v = nI 1 := fun a => a (fi + j) (by omega) ((e4 (fi + j) (by omega)).mpr ⟨by omega, by omega⟩) h2
          rw [b_and, Bool.and_eq_true, sh]
          refine and_congr ?_ Iff.rfl
          unfold okH
          by_cases hal : ba n = nI 1
          · rw [decide_eq_true hal, if_pos rfl, if_pos hal, p2]
            constructor
            · intro a _
              refine Or.inr (fun v g1 g2 g3 => ?_)
              obtain ⟨k1, k2⟩ := (e4 v g1).mp g2
              have := a o1 (v - fi) (by omega) (by rw [show fi + (v - fi) = v by omega]; exact g3)
              rw [show fi + (v - fi) = v by omega] at this
              exact this
            · intro a _ k g1 g2
              rcases a hne with c | c
              · exact absurd c hno
              · exact c (fi + k) (by omega) ((e4 (fi + k) (by omega)).mpr ⟨by omega, by omega⟩) g2
          · rw [decide_eq_false hal, if_neg (by decide), if_neg hal, p1]
            constructor
            · rintro ⟨_, k, g1, g2, g3⟩ _
              exact Or.inr ⟨fi + k, by omega, (e4 (fi + k) (by omega)).mpr ⟨by omega, by omega⟩, g2, g3⟩
            · intro a
              rcases a hne with c | ⟨v, g1, g2, g3, g4⟩
              · exact absurd c hno
              · obtain ⟨k1, k2⟩ := (e4 v g1).mp g2
                refine ⟨o1, v - fi, by omega, ?_⟩
                rw [show fi + (v - fi) = v by omega]
                exact ⟨g3, g4⟩
      rw [key2]
      constructor
      · rintro ⟨⟨a1, a2, a3⟩, a4, a5⟩
        refine ⟨a1, fun d h1 h2 => ?_, fun v d h1 h2 h3 h4 => ?_⟩
        · by_cases e : d = n
          · subst e; exact a4 h2
          · exact a2 d (by omega) h2
        · by_cases e : d = n
          · subst e; exact a5 v h1 h3 h4
          · exact a3 v d h1 (by omega) h3 h4
      · rintro ⟨a1, a2, a3⟩
        exact ⟨⟨a1, fun d h1 h2 => a2 d (by omega) h2, fun v d h1 h2 h3 h4 => a3 v d h1 (by omega) h3 h4⟩, fun h2 => a2 n (by omega) h2, fun v h1 h3 h4 => a3 v n h1 (by omega) h3 h4⟩
  unfold lfW
  rw [key (pnh p) (Nat.le_refl _)]
  unfold okL
  refine and_congr Iff.rfl (and_congr Iff.rfl ?_)
  constructor
  · intro a v h1 h2
    obtain ⟨⟨d, h3, h4⟩, _⟩ := hw.2 v h1
    exact a v d h1 h3 h4 h2
  · exact fun a v d h1 _ _ h2 => a v h1 h2
