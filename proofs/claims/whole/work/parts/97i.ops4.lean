/-! each call: undo, the tape, the readers -/
section
variable {h : zz_H} {X C : Nat}
theorem CI_ba {p : Pl} {rk tg f ch ba : Nat → Int32} (hc : CI p rk tg f ch ba) {v : Nat} {x : Int32} (hx : x = nI 0 ∨ x = nI 1) : CI p rk tg f ch (upd ba v x) := by
  obtain ⟨d1, d2, d3, d4, d5, d6⟩ := hc
  refine ⟨d1, fun d hd1 => ⟨(d2 d hd1).1, ?_⟩, d3, d4, d5, d6⟩
  by_cases e : d = v
  · subst e; rw [upd_eq]; exact hx
  · rw [upd_ne e]; exact (d2 d hd1).2
theorem o_undo (hv : INV h X C) : op h X C 99 217 [] := by
  obtain ⟨E, J, im, A, T, I, mt, mk, mp, mu, hw, hm, hE, hJ, hi, h1, h2⟩ := hv
  obtain ⟨⟨tb, tl⟩, ⟨p, rk, tg, f⟩, ⟨ch, ba⟩, ⟨fk, fp⟩, ⟨an, aw, af⟩, ⟨rs, hd⟩⟩ := E
  obtain ⟨kn, pl, bf, jt, nx, am⟩ := J
  have hE0 := hE
  have hJ0 := hJ
  obtain ⟨t, q1, q2, q3, q4, q5, q6, hr, hc, hx⟩ := hE
  obtain ⟨j1, j2, j3, j4⟩ := hJ
  have hwf := hc.1
  have hn20 := hr.1.2.1
  have hn4 := hr.1.1
  match am, hw, j1, j2, j4, hJ0 with
  | 0, hw, j1, j2, j4, hJ0 =>
    refine op_q (r := -1) hw hm hE0 hJ0 hi h1 h2 ⟨h, c_undo_no hw, hw, frm_refl _ _ _⟩ (fun k hk => ?_)
    have hk0 := hk; obtain ⟨⟨ms, mn, mo, ml, mv, me, mf, mw, w0⟩, wA, wT, wI, s3, s7, s8, s9, s10⟩ := hk
    exact ⟨k, m_undo_no w0 wA j1, hk0, frm_refl _ _ _⟩
  | am + 1, hw, j1, j2, j4, hJ0 =>
    obtain ⟨rk', tg', ch', ba', pv, pr, ph⟩ := j4
    obtain ⟨x1, x2, x3, x4⟩ := hx
    have mod : ∀ f', CI p rk' tg' f' ch' ba' → ∀ k, mW k (X + 57) A T I mt mk mp mu → ∃ k' A' T' mt' mk' mp' mu', zz_run 217 [.ref (X + 57)] k = some (some (.int (nI am)), k') ∧ mW k' (X + 57) A' T' I mt' mk' mp' mu' ∧ frm k k' (X + 57) (X + 57 + 15) ∧ RE A' T' 0 mt' mk' mp' ((tb, tl), (p, rk', tg', f'), (ch', ba'), (fk, fp), (an, aw, af), (rs, hd)) ∧ RJ A' ((tb, tl), (p, rk', tg', f'), (ch', ba'), (fk, fp), (an, aw, af), (rs, hd)) (kn, pl, bf, jt, jLast nx, am) mu' ∧ ∀ i, 8640 ≤ i → A' i = A i := by
      intro f' hci k hk
      have hk0 := hk; obtain ⟨⟨ms, mn, mo, ml, mv, me, mf, mw, w0⟩, wA, wT, wI, s3, s7, s8, s9, s10⟩ := hk
      obtain ⟨k', e, u⟩ := m_undo_ok w0 wA j2 (by omega) j1
      rw [Nat.add_sub_cancel] at e u
      obtain ⟨m1, m2⟩ := mW_a hk0 u
      have off : ∀ i, 718 ≤ i → cpA A (1460 + 718 * am) 0 718 i = A i := fun i hi => cpA_out (by omega)
      refine ⟨k', _, T, mt, mk, mp, _, e, m1, m2, ⟨t, q1, q2, q3, q4, q5, q6, RS_shift pr (fun i hi => cpA_in hi), hci, (off _ (by omega)).trans x1, fun c => ⟨(off _ (by omega)).trans (x2 c).1, fun b hb => (off _ (by omega)).trans ((x2 c).2 b hb)⟩, (off _ (by omega)).trans x3, fun c => (off _ (by omega)).trans (x4 c)⟩, ⟨rfl, by omega, by unfold jLast; omega, HS_cong (s := 0) am (jLast nx) rk' tg' ch' ba' (fun k hk i hi => by rw [off _ (by omega), Nat.add_zero]) (fun j _ _ => ⟨rfl, rfl, rfl, rfl⟩) ph⟩, fun i hi => off i (by omega)⟩
    rcases pv with ⟨a1, ⟨q, a2, a3, a4, a5, a6⟩, a7, a8⟩ | ⟨a1, ⟨v, a2, a3, a4, a5⟩, a6, a7, a8⟩ | ⟨a1, ⟨v, a2, a3, a4, a5⟩, a6, a7, a8⟩
    · subst a5 a6 a7 a8
      have cl := c_undo_rec hw (by omega) a2 a1 a3
      rw [Nat.add_sub_cancel] at cl
      exact op_g hm hi h1 h2 cl (mod _ (CI_put hc hn20 a2 a4))
    · subst a5 a6 a7 a8
      have cl := c_undo_ch hw (by omega) (show v < 20 by omega) a1 a3
      rw [Nat.add_sub_cancel] at cl
      exact op_g hm hi h1 h2 cl (mod f (CI_ch hc a4))
    · subst a5 a6 a7 a8
      have cl := c_undo_ba hw (by omega) (show v < 4 by omega) a1 a3
      rw [Nat.add_sub_cancel] at cl
      exact op_g hm hi h1 h2 cl (mod f (CI_ba hc a4))
/-- the tape alone changes -/
theorem mW_t {k k' : zz_H} {M : Nat} {A T I T' : Nat → Int32} {mt mk mp mu mt' mk' mp' mu' ms mn mo ml : Int32} {mv : Int64} {me mf mw : Int32} (hm : mW k M A T I mt mk mp mu) (u0 : hp_g k' M = some (mdO M mt' mk' mp' mu' ms mn mo ml mv me mf mw)) (u1 : hp_g k' (M + 1) = hp_g k (M + 1)) (u2 : hp_g k' (M + 2) = some (iA 600 T')) (uf : frm k k' M (M + 3)) : mW k' M A T' I mt' mk' mp' mu' ∧ frm k k' M (M + 15) := by
  obtain ⟨_, wA, wT, wI, s3, ⟨V, a7⟩, ⟨g8, a8⟩, ⟨g9, a9⟩, o, pa, go, ho, hq, b0, b1, b2, b3, b4⟩ := hm
  have q := fun b hb => uf.2.2.2 b hb
  exact ⟨⟨⟨ms, mn, mo, ml, mv, me, mf, mw, u0⟩, u1.trans wA, u2, (q _ (by omega)).trans wI, scr3_sam s3 (frm_sam uf (by omega)), ⟨V, ar8_sam a7 (q _ (by omega))⟩, ⟨g8, (q _ (by omega)).trans a8⟩, ⟨g9, (q _ (by omega)).trans a9⟩, o, pa, go, ho, hq, (q _ (by omega)).trans b0, (q _ (by omega)).trans b1, (q _ (by omega)).trans b2, (q _ (by omega)).trans b3, (q _ (by omega)).trans b4⟩, frm_mono uf (by omega) (by omega)⟩
theorem o_end (hv : INV h X C) (x : Int32) : op h X C 16 219 [.int x] := by
  obtain ⟨E, J, im, A, T, I, mt, mk, mp, mu, hw, hm, hE, hJ, hi, h1, h2⟩ := hv
  obtain ⟨⟨tb, tl⟩, ⟨p, rk, tg, f⟩, ⟨ch, ba⟩, ⟨fk, fp⟩, ⟨an, aw, af⟩, ⟨rs, hd⟩⟩ := E
  obtain ⟨kn, pl, bf, jt, nx, am⟩ := J
  have hE0 := hE
  have hJ0 := hJ
  obtain ⟨t, q1, q2, q3, q4, q5, q6, hr, hc, hx⟩ := hE
  obtain ⟨j1, j2, j3, j4⟩ := hJ
  have hwf := hc.1
  have hn20 := hr.1.2.1
  have hn4 := hr.1.1
  cases cx : isV (tl + 1) x with
  | false =>
    refine op_q hw hm hE0 hJ0 hi h1 h2 (r := -1) ⟨h, c_end_no hw cx, hw, frm_refl _ _ _⟩ (fun k hk => ?_)
    have hk0 := hk; obtain ⟨⟨ms, mn, mo, ml, mv, me, mf, mw, w0⟩, wA, wT, wI, s3, s7, s8, s9, s10⟩ := hk
    exact ⟨k, m_end_no w0 q3 q4 cx, hk0, frm_refl _ _ _⟩
  | true =>
    obtain ⟨n, hn, rfl⟩ := (isV_iff (by omega)).mp cx
    refine op_g hm hi h1 h2 (c_end_ok hw (show n ≤ tl by omega)) (fun k hk => ?_)
    have hk0 := hk; obtain ⟨⟨ms, mn, mo, ml, mv, me, mf, mw, w0⟩, wA, wT, wI, s3, s7, s8, s9, s10⟩ := hk
    have e := m_end_ok w0 q3 q4 (show n ≤ tl by omega)
    obtain ⟨m1, m2⟩ := mW_t (k' := hp_s k (X + 57) (mdO (X + 57) (nI n) mk mp mu ms mn mo ml mv me mf mw)) hk0 (hp_gs _ _ _) (hp_gn (by omega)) ((hp_gn (by omega)).trans wT) (frm_s ⟨by omega, by omega⟩ (frm_refl _ _ _))
    exact ⟨_, A, T, nI n, mk, mp, mu, e, m1, m2, ⟨t, q1, q2, by omega, rfl, q5, q6, hr, hc, hx⟩, hJ0, fun _ _ => rfl⟩
theorem fd_lt (a b c d e : Int32) (i : Nat) : ∃ n, n < 256 ∧ fdW a b c d e i = nI n := by
  unfold fdW
  generalize (if i < 4 then a else if i < 8 then b else if i < 12 then c else if i < 16 then d else e) >>> (nI (24 - 8 * (i % 4)) &&& 31) = y
  refine ⟨y.toBitVec.toNat % 256, Nat.mod_lt _ (by omega), ?_⟩
  apply Int32.toBitVec_inj.mp
  rw [Int32.toBitVec_and]
  apply BitVec.eq_of_toNat_eq
  show (y.toBitVec &&& BitVec.ofNat 32 255).toNat = (BitVec.ofNat 32 (y.toBitVec.toNat % 256)).toNat
  rw [BitVec.toNat_and, BitVec.toNat_ofNat, BitVec.toNat_ofNat, show 255 % 2 ^ 32 = 2 ^ 8 - 1 from rfl, Nat.and_two_pow_sub_one_eq_mod]
  omega
theorem o_feed (hv : INV h X C) (a b c d e : Int32) : op h X C 13 218 [.int a, .int b, .int c, .int d, .int e] := by
  obtain ⟨E, J, im, A, T, I, mt, mk, mp, mu, hw, hm, hE, hJ, hi, h1, h2⟩ := hv
  obtain ⟨⟨tb, tl⟩, ⟨p, rk, tg, f⟩, ⟨ch, ba⟩, ⟨fk, fp⟩, ⟨an, aw, af⟩, ⟨rs, hd⟩⟩ := E
  obtain ⟨kn, pl, bf, jt, nx, am⟩ := J
  have hE0 := hE
  have hJ0 := hJ
  obtain ⟨t, q1, q2, q3, q4, q5, q6, hr, hc, hx⟩ := hE
  obtain ⟨j1, j2, j3, j4⟩ := hJ
  have hwf := hc.1
  have hn20 := hr.1.2.1
  have hn4 := hr.1.1
  by_cases cn : tl + 20 ≤ 600
  · obtain ⟨k0, tb', z1, z2, z3, z4, z5⟩ := c_feed_ok hw cn a b c d e
    refine op_g hm hi h1 h2 ⟨k0, z1, z2, z3⟩ (fun k hk => ?_)
    have hk0 := hk; obtain ⟨⟨ms, mn, mo, ml, mv, me, mf, mw, w0⟩, wA, wT, wI, s3, s7, s8, s9, s10⟩ := hk
    obtain ⟨k', T', e1, u0, u2, u3, u4, u1, uf⟩ := m_feed_ok w0 wT q4 cn a b c d e
    obtain ⟨m1, m2⟩ := mW_t hk0 u0 u1 u2 uf
    have hN : ∀ j, ∃ n, j < 600 → n < 256 ∧ tb' j &&& nI 255 = nI n ∧ T' j = nI n := fun j => by
      by_cases cj : tl ≤ j ∧ j < tl + 20
      · obtain ⟨n, n1, n2⟩ := fd_lt a b c d e (j - tl)
        refine ⟨n, fun _ => ⟨n1, ?_, ?_⟩⟩
        · have := z4 (j - tl) (by omega)
          rw [show tl + (j - tl) = j by omega, n2] at this
          exact this
        · have := u3 (j - tl) (by omega)
          rw [show tl + (j - tl) = j by omega, n2] at this
          exact this
      · refine ⟨t j, fun hj => ⟨(q1 j hj).2, ?_, ?_⟩⟩
        · rw [z5 j (by omega)]; exact (q1 j hj).1
        · rw [u4 j (by omega)]; exact (q2 j hj).1
    refine ⟨k', A, T', _, mk, mp, mu, e1, m1, m2, ⟨fun j => Classical.choose (hN j), fun j hj => ?_, fun j hj => ?_, cn, rfl, q5, q6, hr, hc, hx⟩, hJ0, fun _ _ => rfl⟩
    · obtain ⟨n1, n2, n3⟩ := Classical.choose_spec (hN j) hj
      exact ⟨n2, n1⟩
    · obtain ⟨n1, n2, n3⟩ := Classical.choose_spec (hN j) hj
      exact ⟨n3, n1⟩
  · refine op_q hw hm hE0 hJ0 hi h1 h2 (r := -1) ⟨h, c_feed_no hw cn a b c d e, hw, frm_refl _ _ _⟩ (fun k hk => ?_)
    have hk0 := hk; obtain ⟨⟨ms, mn, mo, ml, mv, me, mf, mw, w0⟩, wA, wT, wI, s3, s7, s8, s9, s10⟩ := hk
    exact ⟨k, m_feed_no w0 q3 q4 cn a b c d e, hk0, frm_refl _ _ _⟩
end
