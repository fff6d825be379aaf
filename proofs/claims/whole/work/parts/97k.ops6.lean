/-! each call: image, again -/
theorem RE_E {A T : Nat → Int32} {o : Nat} {mt mk mp : Int32} {E F : Ev} (hr : RE A T o mt mk mp F) (he : eqE E F) : RE A T o mt mk mp E := by
  obtain ⟨⟨tb, tl⟩, ⟨p, rk, tg, f⟩, ⟨ch, ba⟩, ⟨fk, fp⟩, ⟨an, aw, af⟩, ⟨rs, hd⟩⟩ := F
  obtain ⟨⟨tb', tl'⟩, ⟨p', rk', tg', f'⟩, ⟨ch', ba'⟩, ⟨fk', fp'⟩, ⟨an', aw', af'⟩, ⟨rs', hd'⟩⟩ := E
  obtain ⟨t, q1, q2, q3, q4, q5, q6, hr, hc, x1, x2, x3, x4⟩ := hr
  obtain ⟨e1, e2, e3, e4, e5, e6, e7, e8, e9, e10, e11, e12, e13⟩ := he
  dsimp only at e1 e2 e3 e4 e5 e6 e7 e8 e9 e10 e11 e12 e13
  cases e9
  cases e13
  subst e2
  subst e10
  subst e11
  refine ⟨t, fun k hk => by rw [e1 k hk]; exact q1 k hk, q2, q3, q4, q5, q6, RS_E hr e3 e4 e5 e7 e8, CI_E hc hr.1.2.1 hr.1.1 e3 e4 e5 e6 e7 e8, x1, fun c => ⟨(x2 c).1, fun b hb => ?_⟩, x3, x4⟩
  rw [e12 b hb]
  exact (x2 c).2 b hb
theorem mW_4 {k k' : zz_H} {M : Nat} {A T I B T' I' : Nat → Int32} {mt mk mp mu mt' mk' mp' mu' : Int32} (hm : mW k M A T I mt mk mp mu) (u0 : ∃ ms mn mo ml mv me mf mw, hp_g k' M = some (mdO M mt' mk' mp' mu' ms mn mo ml mv me mf mw)) (uA : hp_g k' (M + 1) = some (iA 12639 B)) (uT : hp_g k' (M + 2) = some (iA 600 T')) (uI : hp_g k' (M + 3) = some (zA 3 I')) (uf : frm k k' M (M + 4)) : mW k' M B T' I' mt' mk' mp' mu' ∧ frm k k' M (M + 15) := by
  obtain ⟨_, wA, wT, wI, s3, ⟨V, a7⟩, ⟨g8, a8⟩, ⟨g9, a9⟩, o, pa, go, ho, hq, b0, b1, b2, b3, b4⟩ := hm
  have q := fun b hb => uf.2.2.2 b hb
  exact ⟨⟨u0, uA, uT, uI, scr3_sam s3 (frm_sam uf (by omega)), ⟨V, ar8_sam a7 (q _ (by omega))⟩, ⟨g8, (q _ (by omega)).trans a8⟩, ⟨g9, (q _ (by omega)).trans a9⟩, o, pa, go, ho, hq, (q _ (by omega)).trans b0, (q _ (by omega)).trans b1, (q _ (by omega)).trans b2, (q _ (by omega)).trans b3, (q _ (by omega)).trans b4⟩, frm_mono uf (by omega) (by omega)⟩
theorem va_eq (im : Nat → Option Nat) (j : Nat) (v : Option Nat) : va_up im j v j = v := if_pos rfl
theorem va_ne {im : Nat → Option Nat} {i j : Nat} {v : Option Nat} (h : i ≠ j) : va_up im j v i = im i := if_neg h
theorem ni_up {im : Nat → Option Nat} {j a : Nat} (hj : j < 3) (hi : im j = none) : ni (va_up im j (some a)) = ni im + 1 := by
  unfold ni
  rcases (show j = 0 ∨ j = 1 ∨ j = 2 by omega) with c | c | c
  · subst c
    rw [va_eq, va_ne (by omega), va_ne (by omega), hi]
    show 1 + _ + _ = 0 + _ + _ + 1
    omega
  · subst c
    rw [va_eq, va_ne (by omega), va_ne (by omega), hi]
    show _ + 1 + _ = _ + 0 + _ + 1
    omega
  · subst c
    rw [va_eq, va_ne (by omega), va_ne (by omega), hi]
    show _ + _ + 1 = _ + _ + 0 + 1
    omega
section
variable {h : zz_H} {X C : Nat}
theorem o_im {E E' : Ev} {J : Jn} {im im' : Nat → Option Nat} {A T I : Nat → Int32} {mt mk mp mu : Int32} {k : zz_H} {j a : Nat} (hj : j < 3) (hm : mW h (X + 57) A T I mt mk mp mu) (hE : RE A T 0 mt mk mp E) (hJ : RJ A E J mu) (hi : imgs h X A I im) (h1 : X + 72 ≤ h.1) (e1 : zz_run 147 [.ref X, .int (nI j)] h = some (some (.int (nI 1)), k)) (w1 : cW k X E J im') (ij : im' j = some a) (io : ∀ i, i ≠ j → im' i = im i) (ha : X + 72 ≤ a) (hb : a + 22 ≤ k.1) (v1 : isEv k a E') (v2 : eqE E' E) (hd : ∀ i b, i < 3 → i ≠ j → im i = some b → a + 22 ≤ b ∨ b + 22 ≤ a) (hs : ∀ b, b < a ∨ a + 22 ≤ b → b < h.1 → b ≠ X + 23 → hp_g k b = hp_g h b) (hk : h.1 ≤ k.1) (n1 : k.1 = X + 72 + 22 * ni im') (n2 : k.2.1 = C + 1440 * ni im') (n3 : k.2.2.2 = h.2.2.2) : op h X C 147 254 [.int (nI j)] := by
  have hk0 := mW_sam (k := k) hm (fun b g1 g2 => hs b (by omega) (by omega) (by omega))
  have hk2 := hk0
  obtain ⟨⟨ms, mn, mo, ml, mv, me, mf, mw, w0⟩, wA, wT, wI, _⟩ := hk0
  obtain ⟨k', B, e2, u0, uA, uT, uI, uf, b1, b2, b3, b4, b5, b6⟩ := m_image_ok w0 wA wT wI hj
  obtain ⟨m1, m2⟩ := mW_4 hk2 ⟨ms, mn, mo, ml, mv, me, mf, mw, u0.trans w0⟩ uA (uT.trans wT) uI uf
  refine ⟨nI 1, k, k', e1, e2, ⟨E, J, im', B, T, upd I j (nI 1), mt, mk, mp, mu, cW_sam w1 (frm_sam uf (by omega)), m1, RE_cong hE (fun i hi => by rw [Nat.zero_add]; exact b6 i (by omega)) (fun _ _ => rfl), ?_, ⟨fun i hi3 => ?_, fun i l b c g1 g2 g3 g4 g5 => ?_⟩, uf.1.trans n1, uf.2.1.trans n2⟩, ⟨uf.2.2.1.trans n3, fun c hc => (uf.2.2.2 c (by omega)).trans (hs c (by omega) (by omega) (by omega))⟩, n3, fun c hc => hs c (by omega) (by omega) (by omega)⟩
  · obtain ⟨⟨tb, tl⟩, ⟨p, rk, tg, f⟩, ⟨ch, ba⟩, ⟨fk, fp⟩, ⟨an, aw, af⟩, ⟨rs, hd⟩⟩ := E
    obtain ⟨kn, pl, bf, jt, nx, am⟩ := J
    obtain ⟨j1, j2, j3, j4⟩ := hJ
    exact ⟨j1, j2, j3, HS_cong (s := 0) am nx rk tg ch ba (fun k hk i hi => by rw [b6 _ (by omega), Nat.add_zero]) (fun j _ _ => ⟨rfl, rfl, rfl, rfl⟩) j4⟩
  · by_cases c : i = j
    · subst c
      refine Or.inr ⟨a, E', ij, upd_eq _ _ _, ha, by rw [uf.1]; exact hb, isEv_sam v1 (frm_sam uf (by omega)), ?_⟩
      unfold iRE
      rw [b3, b4, b5]
      exact RE_E (RE_cong hE (fun i hi => by rw [Nat.zero_add]; exact b1 i hi) (fun i hi => b2 i hi)) v2
    · rw [io i c, upd_ne c]
      rcases hi.1 i hi3 with z | ⟨b, F, c1, c2, c3, c4, c5, c6⟩
      · exact Or.inl z
      · have dd := hd i b hi3 c c1
        refine Or.inr ⟨b, F, c1, c2, c3, by rw [uf.1]; omega, isEv_sam (isEv_sam c5 (fun x g1 g2 => hs x (by omega) (by omega) (by omega))) (frm_sam uf (by omega)), ?_⟩
        unfold iRE at c6 ⊢
        have bo : ∀ x, x < 1333 → B (8640 + 1333 * i + x) = A (8640 + 1333 * i + x) := fun x hx => b6 _ (by omega)
        rw [bo 1330 (by omega), bo 1331 (by omega), bo 1332 (by omega)]
        refine RE_cong c6 (fun x hx => bo x (by omega)) (fun x hx => ?_)
        have := bo (730 + x) (by omega)
        rw [← Nat.add_assoc] at this
        exact this
  · by_cases c1 : i = j
    · subst c1
      rw [ij] at g4
      cases g4
      rw [io l (fun z => g3 z.symm)] at g5
      exact hd l c g2 (fun z => g3 z.symm) g5
    · by_cases c2 : l = j
      · subst c2
        rw [ij] at g5
        cases g5
        rw [io i c1] at g4
        exact (hd i b g1 c1 g4).symm
      · rw [io i c1] at g4
        rw [io l c2] at g5
        exact hi.2 i l b c g1 g2 g3 g4 g5
theorem o_image (hv : INV h X C) (x : Int32) : op h X C 147 254 [.int x] := by
  obtain ⟨E, J, im, A, T, I, mt, mk, mp, mu, hw, hm, hE, hJ, hi, h1, h2⟩ := hv
  obtain ⟨⟨tb, tl⟩, ⟨p, rk, tg, f⟩, ⟨ch, ba⟩, ⟨fk, fp⟩, ⟨an, aw, af⟩, ⟨rs, hd⟩⟩ := E
  obtain ⟨kn, pl, bf, jt, nx, am⟩ := J
  have hE0 := hE
  have hJ0 := hJ
  obtain ⟨t, q1, q2, q3, q4, q5, q6, hr, hc, hx⟩ := hE
  obtain ⟨j1, j2, j3, j4⟩ := hJ
  have hwf := hc.1
  have hn20 := hr.1.2.1
  have hn4 := hr.1.1
  cases cx : isV 3 x with
  | false => exact op_q hw hm hE0 hJ0 hi h1 h2 ⟨h, c_image_no hw cx, hw, frm_refl _ _ _⟩ (fun k hk => by have hk0 := hk; obtain ⟨⟨ms, mn, mo, ml, mv, me, mf, mw, w0⟩, wA, wT, wI, s3, s7, s8, s9, s10⟩ := hk; exact ⟨k, m_image_no w0 wA cx, hk0, frm_refl _ _ _⟩)
  | true =>
    obtain ⟨j, hj, rfl⟩ := (isV_iff (by omega)).mp cx
    rcases hi.1 j hj with ⟨ij, _⟩ | ⟨a, F, ij, c2, c3, c4, c5, _⟩
    · obtain ⟨k, E', e1, w1, v1, v2, n1, n2, n3, hs⟩ := c_image_new hw hj ij rfl (by omega)
      refine o_im hj hm hE0 hJ0 hi (by omega) e1 w1 (va_eq _ _ _) (fun i c => va_ne c) (by omega) (by omega) v1 v2 (fun i b g1 g2 g3 => ?_) (fun b g1 g2 g3 => hs b g2 g3) (by omega) ?_ ?_ n3
      · rcases hi.1 i g1 with ⟨z, _⟩ | ⟨b', F, z1, z2, z3, z4, _⟩
        · rw [z] at g3; cases g3
        · rw [z1] at g3; cases g3; exact Or.inr z4
      · rw [ni_up hj ij]; omega
      · rw [ni_up hj ij, n2, h2, Nat.mul_add, Nat.mul_one, Nat.add_assoc]
    · obtain ⟨k, E', e1, w1, v1, v2, fr⟩ := c_image_old hw hj ij (by omega) c5
      exact o_im hj hm hE0 hJ0 hi (by omega) e1 w1 ij (fun _ _ => rfl) c3 (by rw [fr.1]; exact c4) v1 v2 (fun i b g1 g2 g3 => hi.2 j i a b hj g1 (fun z => g2 z.symm) ij g3) (fun b g1 g2 g3 => fr.2.2.2 b g1) (by rw [fr.1]; exact Nat.le_refl _) (fr.1.trans h1) (fr.2.1.trans h2) fr.2.2.1
theorem o_again (hv : INV h X C) (x : Int32) : op h X C 151 255 [.int x] := by
  obtain ⟨E, J, im, A, T, I, mt, mk, mp, mu, hw, hm, hE, hJ, hi, h1, h2⟩ := hv
  obtain ⟨⟨tb, tl⟩, ⟨p, rk, tg, f⟩, ⟨ch, ba⟩, ⟨fk, fp⟩, ⟨an, aw, af⟩, ⟨rs, hd⟩⟩ := E
  obtain ⟨kn, pl, bf, jt, nx, am⟩ := J
  have hE0 := hE
  have hJ0 := hJ
  obtain ⟨t, q1, q2, q3, q4, q5, q6, hr, hc, hx⟩ := hE
  obtain ⟨j1, j2, j3, j4⟩ := hJ
  have hwf := hc.1
  have hn20 := hr.1.2.1
  have hn4 := hr.1.1
  cases cx : isV 3 x with
  | false => exact op_q hw hm hE0 hJ0 hi h1 h2 ⟨h, c_again_no hw (Or.inl cx), hw, frm_refl _ _ _⟩ (fun k hk => by have hk0 := hk; obtain ⟨⟨ms, mn, mo, ml, mv, me, mf, mw, w0⟩, wA, wT, wI, s3, s7, s8, s9, s10⟩ := hk; exact ⟨k, m_again_no w0 wA wI (Or.inl cx), hk0, frm_refl _ _ _⟩)
  | true =>
    obtain ⟨j, hj, rfl⟩ := (isV_iff (by omega)).mp cx
    rcases hi.1 j hj with ⟨ij, iz⟩ | ⟨a, F, ij, iz, c3, c4, c5, c6⟩
    · exact op_q hw hm hE0 hJ0 hi h1 h2 ⟨h, c_again_no hw (Or.inr ⟨j, hj, rfl, ij⟩), hw, frm_refl _ _ _⟩ (fun k hk => by have hk0 := hk; obtain ⟨⟨ms, mn, mo, ml, mv, me, mf, mw, w0⟩, wA, wT, wI, s3, s7, s8, s9, s10⟩ := hk; exact ⟨k, m_again_no w0 wA wI (Or.inr ⟨j, hj, rfl, iz⟩), hk0, frm_refl _ _ _⟩)
    · obtain ⟨k0, E', e1, w1, v2, fr⟩ := c_again_ok hw hj ij (by omega) c5
      refine op_g hm hi h1 h2 ⟨k0, e1, w1, fr⟩ (fun k hk => ?_)
      have hk0 := hk; obtain ⟨⟨ms, mn, mo, ml, mv, me, mf, mw, w0⟩, wA, wT, wI, s3, s7, s8, s9, s10⟩ := hk
      obtain ⟨k', T', e2, u0, uA, uT, uI, uf, tt⟩ := m_again_ok w0 wA wT wI hj iz
      obtain ⟨m1, m2⟩ := mW_4 hk0 ⟨ms, mn, mo, ml, mv, me, mf, mw, u0⟩ uA uT (uI.trans wI) uf
      refine ⟨k', _, T', _, _, _, _, e2, m1, m2, RE_E (RE_cong c6 (fun i hi => cpA_in hi) tt) v2, ?_, fun i hi => cpA_out (by omega)⟩
      obtain ⟨⟨tb, tl⟩, ⟨p, rk, tg, f⟩, ⟨ch, ba⟩, ⟨fk, fp⟩, ⟨an, aw, af⟩, ⟨rs, hd⟩⟩ := E'
      exact ⟨rfl, by omega, by omega, trivial⟩
end
