/-! both side by side -/
def RX (A : Nat → Int32) (o : Nat) (an : Bool) (aw : Int32) (af : Nat → Int32) (rs hd : Int32) : Prop := A (o + 718) = bI an ∧ (an = true → A (o + 719) = aw ∧ ∀ b, b < 8 → A (o + 720 + b) = af b) ∧ A (o + 728) = rs ∧ (rs = nI 4 → A (o + 729) = hd)
def RE (A T : Nat → Int32) (o : Nat) (mt mk mp : Int32) (E : Ev) : Prop := match E with
  | ((tb, tl), (p, rk, tg, f), (ch, ba), (fk, fp), (an, aw, af), (rs, hd)) => ∃ t, byt tb t ∧ tpR T t ∧ tl ≤ 600 ∧ mt = nI tl ∧ mk = fk ∧ mp = fp ∧ RS A o p rk tg ch ba ∧ CI p rk tg f ch ba ∧ RX A o an aw af rs hd
def RJ (A : Nat → Int32) (E : Ev) (J : Jn) (mu : Int32) : Prop := match E, J with
  | ((tb, tl), (p, rk, tg, f), (ch, ba), (fk, fp), (an, aw, af), (rs, hd)), (kn, pl, bf, jt, nx, am) => mu = nI am ∧ am ≤ 10 ∧ nx < 10 ∧ HS A p kn pl bf jt am nx rk tg ch ba
def scM (h : zz_H) (M : Nat) : Prop := scr3 h M ∧ (∃ V, ar8 h (M + 7) V) ∧ scr8 h M ∧ (∃ g, hp_g h (M + 9) = some (iA 256 g)) ∧ (∃ o pa go ho hq, hp_g h (M + 10) = some (iA 56 o) ∧ hp_g h (M + 11) = some (iA 56 pa) ∧ hp_g h (M + 12) = some (iA 7 go) ∧ hp_g h (M + 13) = some (zA 7 ho) ∧ hp_g h (M + 14) = some (zA 7 hq))
def mW (h : zz_H) (M : Nat) (A T I : Nat → Int32) (mt mk mp mu : Int32) : Prop := (∃ ms mn mo ml mv me mf mw, hp_g h M = some (mdO M mt mk mp mu ms mn mo ml mv me mf mw)) ∧ hp_g h (M + 1) = some (iA 12639 A) ∧ hp_g h (M + 2) = some (iA 600 T) ∧ hp_g h (M + 3) = some (zA 3 I) ∧ scM h M
def iRE (A : Nat → Int32) (j : Nat) (F : Ev) : Prop := RE A (fun i => A (8640 + 1333 * j + 730 + i)) (8640 + 1333 * j) (A (8640 + 1333 * j + 1330)) (A (8640 + 1333 * j + 1331)) (A (8640 + 1333 * j + 1332)) F
def imgs (h : zz_H) (X : Nat) (A I : Nat → Int32) (im : Nat → Option Nat) : Prop := (∀ j, j < 3 → (im j = none ∧ I j = nI 0) ∨ ∃ a F, im j = some a ∧ I j = nI 1 ∧ X + 72 ≤ a ∧ a + 22 ≤ h.1 ∧ isEv h a F ∧ iRE A j F) ∧ ∀ i j a b, i < 3 → j < 3 → i ≠ j → im i = some a → im j = some b → a + 22 ≤ b ∨ b + 22 ≤ a
def ni (im : Nat → Option Nat) : Nat := b2n (im 0).isSome + b2n (im 1).isSome + b2n (im 2).isSome
def INV (h : zz_H) (X C : Nat) : Prop := ∃ E J im A T I mt mk mp mu, cW h X E J im ∧ mW h (X + 57) A T I mt mk mp mu ∧ RE A T 0 mt mk mp E ∧ RJ A E J mu ∧ imgs h X A I im ∧ h.1 = X + 72 + 22 * ni im ∧ h.2.1 = C + 1440 * ni im
def keepS (h k : zz_H) (X : Nat) : Prop := k.2.2.2 = h.2.2.2 ∧ ∀ c, c < X → hp_g k c = hp_g h c
def op (h : zz_H) (X C mc mm : Nat) (as : List Value) : Prop := ∃ r k k', zz_run mc (.ref X :: as) h = some (some (.int r), k) ∧ zz_run mm (.ref (X + 57) :: as) k = some (some (.int r), k') ∧ INV k' X C ∧ keepS h k' X ∧ keepS h k X
theorem mW_sam {h k : zz_H} {M : Nat} {A T I : Nat → Int32} {mt mk mp mu : Int32} (hm : mW h M A T I mt mk mp mu) (hs : sam h k M (M + 15)) : mW k M A T I mt mk mp mu := by
  obtain ⟨⟨ms, mn, mo, ml, mv, me, mf, mw, w0⟩, wA, wT, wI, s3, ⟨V, a7⟩, ⟨g8, a8⟩, ⟨g9, a9⟩, o, pa, go, ho, hq, b0, b1, b2, b3, b4⟩ := hm
  exact ⟨⟨ms, mn, mo, ml, mv, me, mf, mw, (hs _ (by omega) (by omega)).trans w0⟩, (hs _ (by omega) (by omega)).trans wA, (hs _ (by omega) (by omega)).trans wT, (hs _ (by omega) (by omega)).trans wI, scr3_sam s3 (sam_sub hs (by omega) (by omega)), ⟨V, ar8_sam a7 (hs _ (by omega) (by omega))⟩, ⟨g8, (hs _ (by omega) (by omega)).trans a8⟩, ⟨g9, (hs _ (by omega) (by omega)).trans a9⟩, o, pa, go, ho, hq, (hs _ (by omega) (by omega)).trans b0, (hs _ (by omega) (by omega)).trans b1, (hs _ (by omega) (by omega)).trans b2, (hs _ (by omega) (by omega)).trans b3, (hs _ (by omega) (by omega)).trans b4⟩
/-- after a question -/
theorem mW_q {h k : zz_H} {M : Nat} {A T I : Nat → Int32} {mt mk mp mu : Int32} (hm : mW h M A T I mt mk mp mu) (h3 : scr3 k M) (hf : frm h k (M + 4) (M + 7)) : mW k M A T I mt mk mp mu ∧ frm h k M (M + 15) := by
  obtain ⟨⟨ms, mn, mo, ml, mv, me, mf, mw, w0⟩, wA, wT, wI, s3, ⟨V, a7⟩, ⟨g8, a8⟩, ⟨g9, a9⟩, o, pa, go, ho, hq, b0, b1, b2, b3, b4⟩ := hm
  have q := fun b hb => hf.2.2.2 b hb
  exact ⟨⟨⟨ms, mn, mo, ml, mv, me, mf, mw, (q _ (by omega)).trans w0⟩, (q _ (by omega)).trans wA, (q _ (by omega)).trans wT, (q _ (by omega)).trans wI, h3, ⟨V, ar8_sam a7 (q _ (by omega))⟩, ⟨g8, (q _ (by omega)).trans a8⟩, ⟨g9, (q _ (by omega)).trans a9⟩, o, pa, go, ho, hq, (q _ (by omega)).trans b0, (q _ (by omega)).trans b1, (q _ (by omega)).trans b2, (q _ (by omega)).trans b3, (q _ (by omega)).trans b4⟩, frm_mono hf (by omega) (by omega)⟩
/-- after an act -/
theorem mW_a {h k : zz_H} {M : Nat} {A T I B : Nat → Int32} {mt mk mp mu mu' ms mn mo ml : Int32} {mv : Int64} {me mf mw : Int32} (hm : mW h M A T I mt mk mp mu) (hu : mU h k M (mdO M mt mk mp mu' ms mn mo ml mv me mf mw) B) : mW k M B T I mt mk mp mu' ∧ frm h k M (M + 15) := by
  obtain ⟨_, wA, wT, wI, s3, ⟨V, a7⟩, ⟨g8, a8⟩, ⟨g9, a9⟩, o, pa, go, ho, hq, b0, b1, b2, b3, b4⟩ := hm
  obtain ⟨u0, uA, uf⟩ := hu
  have q := fun b hb => uf.2.2.2 b hb
  exact ⟨⟨⟨ms, mn, mo, ml, mv, me, mf, mw, u0⟩, uA, (q _ (by omega)).trans wT, (q _ (by omega)).trans wI, scr3_sam s3 (frm_sam uf (by omega)), ⟨V, ar8_sam a7 (q _ (by omega))⟩, ⟨g8, (q _ (by omega)).trans a8⟩, ⟨g9, (q _ (by omega)).trans a9⟩, o, pa, go, ho, hq, (q _ (by omega)).trans b0, (q _ (by omega)).trans b1, (q _ (by omega)).trans b2, (q _ (by omega)).trans b3, (q _ (by omega)).trans b4⟩, frm_mono uf (by omega) (by omega)⟩
theorem RE_cong {A B T U : Nat → Int32} {o o' : Nat} {mt mk mp : Int32} {E : Ev} (hr : RE A T o mt mk mp E) (h1 : ∀ i, i < 730 → B (o' + i) = A (o + i)) (h2 : ∀ i, i < 600 → U i = T i) : RE B U o' mt mk mp E := by
  obtain ⟨⟨tb, tl⟩, ⟨p, rk, tg, f⟩, ⟨ch, ba⟩, ⟨fk, fp⟩, ⟨an, aw, af⟩, ⟨rs, hd⟩⟩ := E
  obtain ⟨t, e1, e2, e3, e4, e5, e6, e7, e8, x1, x2, x3, x4⟩ := hr
  refine ⟨t, e1, fun k hk => by rw [h2 k hk]; exact e2 k hk, e3, e4, e5, e6, RS_shift e7 (fun i hi => h1 i (by omega)), e8, (h1 _ (by omega)).trans x1, fun c => ⟨(h1 _ (by omega)).trans (x2 c).1, fun b hb => ?_⟩, (h1 _ (by omega)).trans x3, fun c => (h1 _ (by omega)).trans (x4 c)⟩
  rw [Nat.add_assoc, h1 _ (by omega), ← Nat.add_assoc]
  exact (x2 c).2 b hb
theorem imgs_tr {h k : zz_H} {X : Nat} {A B I : Nat → Int32} {im : Nat → Option Nat} (hi : imgs h X A I im) (h1 : ∀ b, X + 72 ≤ b → hp_g k b = hp_g h b) (h2 : k.1 = h.1) (h3 : ∀ i, 8640 ≤ i → B i = A i) : imgs k X B I im := by
  refine ⟨fun j hj => ?_, hi.2⟩
  rcases hi.1 j hj with c | ⟨a, F, c1, c2, c3, c4, c5, c6⟩
  · exact Or.inl c
  · refine Or.inr ⟨a, F, c1, c2, c3, by rw [h2]; exact c4, isEv_sam c5 (fun b g1 g2 => h1 b (by omega)), ?_⟩
    unfold iRE at c6 ⊢
    rw [h3 _ (by omega), h3 _ (by omega), h3 _ (by omega)]
    exact RE_cong c6 (fun i hi => h3 _ (by omega)) (fun i hi => h3 _ (by omega))
section
variable {h : zz_H} {X C : Nat} {E E' : Ev} {J J' : Jn} {im : Nat → Option Nat} {A T I : Nat → Int32} {mt mk mp mu : Int32}
theorem op_g {mc mm : Nat} {as : List Value} {r : Int32} (hm : mW h (X + 57) A T I mt mk mp mu) (hi : imgs h X A I im) (h1 : h.1 = X + 72 + 22 * ni im) (h2 : h.2.1 = C + 1440 * ni im) (hc : ∃ k, zz_run mc (.ref X :: as) h = some (some (.int r), k) ∧ cW k X E' J' im ∧ frm h k X (X + 57)) (hmm : ∀ k, mW k (X + 57) A T I mt mk mp mu → ∃ k' A' T' mt' mk' mp' mu', zz_run mm (.ref (X + 57) :: as) k = some (some (.int r), k') ∧ mW k' (X + 57) A' T' I mt' mk' mp' mu' ∧ frm k k' (X + 57) (X + 57 + 15) ∧ RE A' T' 0 mt' mk' mp' E' ∧ RJ A' E' J' mu' ∧ ∀ i, 8640 ≤ i → A' i = A i) : op h X C mc mm as := by
  obtain ⟨k, e1, w1, f1⟩ := hc
  obtain ⟨k', A', T', mt', mk', mp', mu', e2, m2, f2, q1, q2, q3⟩ := hmm k (mW_sam hm (frm_sam f1 (by omega)))
  refine ⟨r, k, k', e1, e2, ⟨E', J', im, A', T', I, mt', mk', mp', mu', cW_sam w1 (frm_sam f2 (by omega)), m2, q1, q2, imgs_tr hi (fun b hb => (f2.2.2.2 b (by omega)).trans (f1.2.2.2 b (by omega))) (f2.1.trans f1.1) q3, (f2.1.trans f1.1).trans h1, (f2.2.1.trans f1.2.1).trans h2⟩, ⟨f2.2.2.1.trans f1.2.2.1, fun c hc => (f2.2.2.2 c (by omega)).trans (f1.2.2.2 c (by omega))⟩, f1.2.2.1, fun c hc => f1.2.2.2 c (by omega)⟩
/-- a question: nothing changes -/
theorem op_q {mc mm : Nat} {as : List Value} {r : Int32} (hw : cW h X E J im) (hm : mW h (X + 57) A T I mt mk mp mu) (hE : RE A T 0 mt mk mp E) (hJ : RJ A E J mu) (hi : imgs h X A I im) (h1 : h.1 = X + 72 + 22 * ni im) (h2 : h.2.1 = C + 1440 * ni im) (hc : ∃ k, zz_run mc (.ref X :: as) h = some (some (.int r), k) ∧ cW k X E J im ∧ frm h k X (X + 57)) (hmm : ∀ k, mW k (X + 57) A T I mt mk mp mu → ∃ k', zz_run mm (.ref (X + 57) :: as) k = some (some (.int r), k') ∧ mW k' (X + 57) A T I mt mk mp mu ∧ frm k k' (X + 57) (X + 57 + 15)) : op h X C mc mm as := op_g hm hi h1 h2 hc (fun k hk => by
  obtain ⟨k', e, m, f⟩ := hmm k hk
  exact ⟨k', A, T, mt, mk, mp, mu, e, m, f, hE, hJ, fun _ _ => rfl⟩)
end
