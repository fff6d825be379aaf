/-! each call: scheme, ask -/
theorem wfP_E {p q : Pl} (h : plE p q) (hn : pnv q ≤ 20) (hn4 : pnh q ≤ 4) (hw : wfP q) : wfP p := by
  obtain ⟨e1, e2, e3, e4⟩ := h
  refine ⟨fun d hd => ?_, fun v hv => ?_⟩
  · obtain ⟨fi, si, g1, g2, g3, g4⟩ := hw.1 d (by omega)
    obtain ⟨_, _, i1, i2⟩ := e3 d (by omega)
    refine ⟨fi, si, i1.trans g1, i2.trans g2, by omega, fun v hv => ?_⟩
    rw [(e4 v (by omega)).2.1]
    exact g4 v (by omega)
  · obtain ⟨⟨d, g1, g2⟩, g3⟩ := hw.2 v (by omega)
    obtain ⟨_, i2, i3, i4⟩ := e4 v (by omega)
    refine ⟨⟨d, by omega, i2.trans g2⟩, ?_⟩
    rw [i3, i4]
    rcases g3 with g3 | ⟨u, k1, k2, k3, k4⟩
    · exact Or.inl g3
    · obtain ⟨_, l2, l3, l4⟩ := e4 u (by omega)
      refine Or.inr ⟨u, k1, k2, ?_, ?_⟩
      · rw [l2, i2]; exact k3
      · rw [l4]; exact k4
theorem RS_E {A : Nat → Int32} {o : Nat} {p p2 : Pl} {rk tg ch ba rk2 tg2 ch2 ba2 : Nat → Int32} (hr : RS A o p rk tg ch ba) (hp : plE p2 p) (h1 : eqN 256 rk2 rk) (h2 : eqN 256 tg2 tg) (h3 : eqN 20 ch2 ch) (h4 : eqN 4 ba2 ba) : RS A o p2 rk2 tg2 ch2 ba2 := by
  obtain ⟨⟨r1, r2, r3, r4⟩, rH, rV, rT, rG⟩ := hr
  obtain ⟨e1, e2, e3, e4⟩ := hp
  refine ⟨⟨by omega, by omega, by rw [e1]; exact r3, by rw [e2]; exact r4⟩, fun d hd => ?_, fun v hv => ?_, fun q hq => ?_, fun v hv q hq => ?_⟩
  · obtain ⟨i0, i1, _, _⟩ := e3 d (by omega)
    rw [i0, i1, h4 d (by omega)]
    exact rH d (by omega)
  · obtain ⟨i1, i2, i3, i4⟩ := e4 v (by omega)
    rw [i1, i2, i3, h3 v (by omega)]
    exact rV v (by omega)
  · rw [h1 q hq]; exact rT q hq
  · rw [h2 q hq]; exact rG v (by omega) q hq
theorem CI_E {p p2 : Pl} {rk tg f ch ba rk2 tg2 f2 ch2 ba2 : Nat → Int32} (hc : CI p rk tg f ch ba) (hn : pnv p ≤ 20) (hn4 : pnh p ≤ 4) (hp : plE p2 p) (h1 : eqN 256 rk2 rk) (h2 : eqN 256 tg2 tg) (h5 : eqN 168 f2 f) (h3 : eqN 20 ch2 ch) (h4 : eqN 4 ba2 ba) : CI p2 rk2 tg2 f2 ch2 ba2 := by
  have hp0 := hp
  obtain ⟨c1, c2, c3, c4, c5, c6⟩ := hc
  obtain ⟨e1, e2, e3, e4⟩ := hp
  refine ⟨wfP_E hp0 hn hn4 c1, fun d hd => ?_, fun v hv => ?_, fun q hq => ?_, fun q hq => ?_, fun v hv q hq => ?_⟩
  · rw [(e3 d (by omega)).2.1, h4 d (by omega)]; exact c2 d (by omega)
  · rw [h3 v (by omega)]; exact c3 v (by omega)
  · rw [h1 q hq, h2 q hq, e2]; exact c4 q hq
  · rw [h5 _ (by omega), h1 q hq]; exact c5 q hq
  · rw [h5 _ (by omega), h2 q hq, e2, lin_cong (q := p) (tg q) (pnv p) (fun u hu => (e4 u (by omega)).2.2.2)]
    exact c6 v (by omega) q hq
section
variable {h : zz_H} {X C : Nat}
theorem mW_b {k k' : zz_H} {M : Nat} {A T I B : Nat → Int32} {mt mk mp mu mt' mk' mp' mu' ms mn mo ml : Int32} {mv : Int64} {me mf mw : Int32} (hm : mW k M A T I mt mk mp mu) (u0 : hp_g k' M = some (mdO M mt' mk' mp' mu' ms mn mo ml mv me mf mw)) (uA : hp_g k' (M + 1) = some (iA 12639 B)) (uf : frm k k' M (M + 2)) : mW k' M B T I mt' mk' mp' mu' ∧ frm k k' M (M + 15) := by
  obtain ⟨_, wA, wT, wI, s3, ⟨V, a7⟩, ⟨g8, a8⟩, ⟨g9, a9⟩, o, pa, go, ho, hq, b0, b1, b2, b3, b4⟩ := hm
  have q := fun b hb => uf.2.2.2 b hb
  exact ⟨⟨⟨ms, mn, mo, ml, mv, me, mf, mw, u0⟩, uA, (q _ (by omega)).trans wT, (q _ (by omega)).trans wI, scr3_sam s3 (frm_sam uf (by omega)), ⟨V, ar8_sam a7 (q _ (by omega))⟩, ⟨g8, (q _ (by omega)).trans a8⟩, ⟨g9, (q _ (by omega)).trans a9⟩, o, pa, go, ho, hq, (q _ (by omega)).trans b0, (q _ (by omega)).trans b1, (q _ (by omega)).trans b2, (q _ (by omega)).trans b3, (q _ (by omega)).trans b4⟩, frm_mono uf (by omega) (by omega)⟩
theorem o_scheme (hv : INV h X C) : op h X C 17 221 [] := by
  obtain ⟨E, J, im, A, T, I, mt, mk, mp, mu, hw, hm, hE, hJ, hi, h1, h2⟩ := hv
  obtain ⟨⟨tb, tl⟩, ⟨p, rk, tg, f⟩, ⟨ch, ba⟩, ⟨fk, fp⟩, ⟨an, aw, af⟩, ⟨rs, hd⟩⟩ := E
  obtain ⟨kn, pl, bf, jt, nx, am⟩ := J
  have hE0 := hE
  have hJ0 := hJ
  obtain ⟨t, q1, q2, q3, q4, q5, q6, hr, hc, hx⟩ := hE
  obtain ⟨j1, j2, j3, j4⟩ := hJ
  have hwf := hc.1
  have hn20 := hr.1.2.1
  have hn4 := hr.1.1
  obtain ⟨x1, x2, x3, x4⟩ := hx
  obtain ⟨D, em, cl⟩ := c_scheme hw q1
  have md : ∀ k, mW k (X + 57) A T I mt mk mp mu → ∃ ms mn mo ml mv me mf mw, hp_g k (X + 57) = some (mdO (X + 57) (nI tl) mk mp mu ms mn mo ml mv me mf mw) := fun k hk => by
    obtain ⟨⟨ms, mn, mo, ml, mv, me, mf, mw, w0⟩, _⟩ := hk
    rw [q4] at w0
    exact ⟨ms, mn, mo, ml, mv, me, mf, mw, w0⟩
  cases e : schP t tl 601 (tkS t tl 0) D with
  | inl x =>
    obtain ⟨a, b⟩ := x
    rw [e] at cl
    refine op_g hm hi h1 h2 cl (fun k hk => ?_)
    obtain ⟨ms, mn, mo, ml, mv, me, mf, mw, w0⟩ := md k hk
    have ms' := m_scheme (t := t) w0 hk.2.1 hk.2.2.1 q2 q3 em
    rw [e] at ms'
    obtain ⟨k', B, s', e1, u0, uA, uo, uf⟩ := ms'
    obtain ⟨m1, m2⟩ := mW_b hk u0 uA uf
    refine ⟨k', B, T, _, _, _, mu, e1, m1, m2, ⟨t, q1, q2, by omega, rfl, rfl, rfl, RS_shift hr (fun i hi => uo _ (by omega)), hc, (uo _ (by omega)).trans x1, fun c => ⟨(uo _ (by omega)).trans (x2 c).1, fun b hb => (uo _ (by omega)).trans ((x2 c).2 b hb)⟩, (uo _ (by omega)).trans x3, fun c => (uo _ (by omega)).trans (x4 c)⟩, ⟨j1, j2, j3, HS_cong (s := 0) am nx rk tg ch ba (fun k hk i hi => by rw [uo _ (by omega), Nat.add_zero]) (fun j _ _ => ⟨rfl, rfl, rfl, rfl⟩) j4⟩, fun i hi => uo i (by omega)⟩
  | inr x =>
    obtain ⟨s0, p', rk', tg', f'⟩ := x
    rw [e] at cl
    obtain ⟨k0, p2, rk2, tg2, fx, ch2, ba2, z1, z2, z3, z4, z5, z6, z7, z8, z9, z10⟩ := cl
    have ea : amt (rw8 fx 20) = amt (rw8 f' 20) := amt_cong (fun b hb => z7 _ (by omega))
    rw [ea] at z1
    refine op_g hm hi h1 h2 ⟨k0, z1, z2, z10⟩ (fun k hk => ?_)
    obtain ⟨ms, mn, mo, ml, mv, me, mf, mw, w0⟩ := md k hk
    have ms' := m_scheme (t := t) w0 hk.2.1 hk.2.2.1 q2 q3 em
    rw [e] at ms'
    obtain ⟨k', B, s', e1, u0, uA, ur, uo, uf⟩ := ms'
    obtain ⟨m1, m2⟩ := mW_b hk u0 uA uf
    refine ⟨k', B, T, _, _, _, _, e1, m1, m2, ⟨t, q1, q2, by omega, rfl, rfl, rfl, RS_E ur z4 z5 z6 z8 z9, CI_E z3.2.2.1 z3.2.1 z3.1 z4 z5 z6 z7 z8 z9, (uo _ (by omega)).trans x1, fun c => ⟨(uo _ (by omega)).trans (x2 c).1, fun b hb => (uo _ (by omega)).trans ((x2 c).2 b hb)⟩, (uo _ (by omega)).trans x3, fun c => (uo _ (by omega)).trans (x4 c)⟩, ⟨rfl, by omega, by omega, trivial⟩, fun i hi => uo i (by omega)⟩
theorem mW_l {k k' : zz_H} {M : Nat} {A T I B : Nat → Int32} {mt mk mp mu mt' mk' mp' mu' : Int32} (hm : mW k M A T I mt mk mp mu) (u0 : ∃ ms mn mo ml mv me mf mw, hp_g k' M = some (mdO M mt' mk' mp' mu' ms mn mo ml mv me mf mw)) (uA : hp_g k' (M + 1) = some (iA 12639 B)) (u2 : hp_g k' (M + 2) = hp_g k (M + 2)) (u3 : hp_g k' (M + 3) = hp_g k (M + 3)) (s5 : sam k k' (M + 5) (M + 7)) (s8 : sam k k' (M + 8) (M + 10)) (hL : scL k' M) : mW k' M B T I mt' mk' mp' mu' := by
  obtain ⟨_, wA, wT, wI, ⟨_, ⟨V5, a5⟩, ⟨V6, a6⟩⟩, _, ⟨g8, a8⟩, ⟨g9, a9⟩, _⟩ := hm
  obtain ⟨l4, l7, dep, L, o, pa, go, ho, hq, b0, b1, b2, b3, b4, _⟩ := hL
  exact ⟨u0, uA, u2.trans wT, u3.trans wI, ⟨l4, ⟨V5, ar8_sam a5 (s5 _ (by omega) (by omega))⟩, ⟨V6, ar8_sam a6 (s5 _ (by omega) (by omega))⟩⟩, l7, ⟨g8, (s8 _ (by omega) (by omega)).trans a8⟩, ⟨g9, (s8 _ (by omega) (by omega)).trans a9⟩, o, pa, go, ho, hq, b0, b1, b2, b3, b4⟩
theorem o_ask (hv : INV h X C) : op h X C 65 245 [] := by
  obtain ⟨E, J, im, A, T, I, mt, mk, mp, mu, hw, hm, hE, hJ, hi, h1, h2⟩ := hv
  obtain ⟨⟨tb, tl⟩, ⟨p, rk, tg, f⟩, ⟨ch, ba⟩, ⟨fk, fp⟩, ⟨an, aw, af⟩, ⟨rs, hd⟩⟩ := E
  obtain ⟨kn, pl, bf, jt, nx, am⟩ := J
  have hE0 := hE
  have hJ0 := hJ
  obtain ⟨t, q1, q2, q3, q4, q5, q6, hr, hc, hx⟩ := hE
  obtain ⟨j1, j2, j3, j4⟩ := hJ
  have hwf := hc.1
  have hn20 := hr.1.2.1
  have hn4 := hr.1.1
  obtain ⟨x1, x2, x3, x4⟩ := hx
  have cl := c_ask hw q1
  have md : ∀ k, mW k (X + 57) A T I mt mk mp mu → ∃ ms mn mo ml mv me mf mw, hp_g k (X + 57) = some (mdO (X + 57) (nI tl) mk mp mu ms mn mo ml mv me mf mw) := fun k hk => by
    obtain ⟨⟨ms, mn, mo, ml, mv, me, mf, mw, w0⟩, _⟩ := hk
    rw [q4] at w0
    exact ⟨ms, mn, mo, ml, mv, me, mf, mw, w0⟩
  cases e : askP t tl p f 601 (tkS t tl 0) 0 true 0 0 (fun _ => newL) with
  | inl x =>
    obtain ⟨a, b⟩ := x
    rw [e] at cl
    refine op_g hm hi h1 h2 cl (fun k hk => ?_)
    obtain ⟨ms, mn, mo, ml, mv, me, mf, mw, w0⟩ := md k hk
    have r := m_ask w0 hk.2.1 hk.2.2.1 q2 q3 hr hc hk.2.2.2.2.1.1 hk.2.2.2.2.2.1 hk.2.2.2.2.2.2.2.2
    rw [e] at r
    obtain ⟨k', e1, ⟨_, _, vL, s', me', mf', mw', v0⟩, fr⟩ := r
    refine ⟨k', A, T, nI 0, nI a, nI b, mu, e1, mW_l hk ⟨_, _, _, _, _, _, _, _, v0⟩ ((fr.2.1 _ (by omega) (by omega)).trans hk.2.1) (fr.2.1 _ (by omega) (by omega)) (fr.2.1 _ (by omega) (by omega)) fr.2.2.1 fr.2.2.2 vL, fr.1, ⟨t, q1, q2, by omega, rfl, rfl, rfl, hr, hc, x1, x2, x3, x4⟩, ⟨j1, j2, j3, j4⟩, fun _ _ => rfl⟩
  | inr x =>
    obtain ⟨W, w⟩ := x
    rw [e] at cl
    obtain ⟨k0, af', z1, z2, z3, z4⟩ := cl
    refine op_g hm hi h1 h2 ⟨k0, z1, z2, z4⟩ (fun k hk => ?_)
    obtain ⟨ms, mn, mo, ml, mv, me, mf, mw, w0⟩ := md k hk
    have r := m_ask w0 hk.2.1 hk.2.2.1 q2 q3 hr hc hk.2.2.2.2.1.1 hk.2.2.2.2.2.1 hk.2.2.2.2.2.2.2.2
    rw [e] at r
    obtain ⟨k', B, e1, ⟨s', me', mf', v0⟩, vA, c1, c2, c3, uo, y2, y3, s5, s8, ⟨kk, fr, f2⟩, vL⟩ := r
    refine ⟨k', B, T, nI 0, nI 0, -1, mu, e1, mW_l hk ⟨_, _, _, _, _, _, _, _, v0⟩ vA y2 y3 s5 s8 vL, frm_trans fr.1 (frm_mono f2 (by omega) (by omega)), ⟨t, q1, q2, by omega, rfl, rfl, rfl, RS_shift hr (fun i hi => uo _ (by omega)), hc, ?_, fun _ => ⟨?_, fun b hb => ?_⟩, (uo _ (by omega)).trans x3, fun c => (uo _ (by omega)).trans (x4 c)⟩, ⟨j1, j2, j3, HS_cong (s := 0) am nx rk tg ch ba (fun k hk i hi => by rw [uo _ (by omega), Nat.add_zero]) (fun j _ _ => ⟨rfl, rfl, rfl, rfl⟩) j4⟩, fun i hi => uo i (by omega)⟩
    · rw [Nat.zero_add]; exact c1
    · rw [Nat.zero_add]; exact c2
    · rw [Nat.zero_add]; exact (c3 b hb).trans (z3 b hb).symm
end
