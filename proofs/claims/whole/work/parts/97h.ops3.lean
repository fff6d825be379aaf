/-! each call: acts -/
section
variable {h : zz_H} {X C : Nat} {J : Jn} {im : Nat → Option Nat} {tb : Nat → Int32} {tl : Nat} {p : Pl} {rk tg f ch ba : Nat → Int32} {fk fp : Int32} {an : Bool} {aw : Int32} {af : Nat → Int32} {rs hd : Int32} {kn pl bf jt : Nat → Int32} {nx am : Nat} {A T I : Nat → Int32} {mt mk mp mu : Int32}
theorem op_ref {mc mm : Nat} {as : List Value} {r : Nat} {y y' : Int32} (hm : mW h (X + 57) A T I mt mk mp mu) (hE : RE A T 0 mt mk mp ((tb, tl), (p, rk, tg, f), (ch, ba), (fk, fp), (an, aw, af), (rs, hd))) (hJ : RJ A ((tb, tl), (p, rk, tg, f), (ch, ba), (fk, fp), (an, aw, af), (rs, hd)) (kn, pl, bf, jt, nx, am) mu) (hi : imgs h X A I im) (h1 : h.1 = X + 72 + 22 * ni im) (h2 : h.2.1 = C + 1440 * ni im) (h4 : nI r = nI 4 → y' = y) (hc : ∃ k, zz_run mc (.ref X :: as) h = some (some (.int (nI r)), k) ∧ cW k X (refE ((tb, tl), (p, rk, tg, f), (ch, ba), (fk, fp), (an, aw, af), (rs, hd)) (nI r) y) (kn, pl, bf, jt, nx, am) im ∧ frm h k X (X + 57)) (hmm : ∀ k ms mn mo ml mv me mf mw, hp_g k (X + 57) = some (mdO (X + 57) mt mk mp mu ms mn mo ml mv me mf mw) → hp_g k (X + 57 + 1) = some (iA 12639 A) → ∃ k', zz_run mm (.ref (X + 57) :: as) k = some (some (.int (nI r)), k') ∧ mU k k' (X + 57) (mdO (X + 57) mt mk mp mu ms mn mo ml mv me mf mw) (upd (upd A 728 (nI r)) 729 y')) : op h X C mc mm as := by
  refine op_g hm hi h1 h2 hc (fun k hk => ?_)
  have hk0 := hk
  obtain ⟨⟨ms, mn, mo, ml, mv, me, mf, mw, w0⟩, wA, _⟩ := hk
  obtain ⟨k', e, u⟩ := hmm k ms mn mo ml mv me mf mw w0 wA
  obtain ⟨m1, m2⟩ := mW_a hk0 u
  obtain ⟨t, q1, q2, q3, q4, q5, q6, hr, hc', x1, x2, x3, x4⟩ := hE
  obtain ⟨j1, j2, j3, j4⟩ := hJ
  refine ⟨k', _, T, mt, mk, mp, mu, e, m1, m2, ⟨t, q1, q2, q3, q4, q5, q6, RS_shift hr (fun i hi => by rw [upd_ne (by omega), upd_ne (by omega)]), hc', ?_, fun c => ⟨?_, fun b hb => ?_⟩, ?_, fun c => ?_⟩, ⟨j1, j2, j3, ?_⟩, fun i hi => by rw [upd_ne (by omega), upd_ne (by omega)]⟩
  · rw [upd_ne (by omega), upd_ne (by omega)]; exact x1
  · rw [upd_ne (by omega), upd_ne (by omega)]; exact (x2 c).1
  · rw [upd_ne (by omega), upd_ne (by omega)]; exact (x2 c).2 b hb
  · rw [Nat.zero_add, upd_ne (by omega), upd_eq]
  · rw [Nat.zero_add, upd_eq]; exact h4 c
  · exact HS_cong (s := 0) am nx rk tg ch ba (fun k hk i hi => by rw [upd_ne (by omega), upd_ne (by omega), Nat.add_zero]) (fun j _ _ => ⟨rfl, rfl, rfl, rfl⟩) j4
theorem op_acc {mc mm : Nat} {as : List Value} {rk2 tg2 f2 ch2 ba2 : Nat → Int32} {x1 x2 x3 x4 : Int32} (hm : mW h (X + 57) A T I mt mk mp mu) (hE : RE A T 0 mt mk mp ((tb, tl), (p, rk, tg, f), (ch, ba), (fk, fp), (an, aw, af), (rs, hd))) (hJ : RJ A ((tb, tl), (p, rk, tg, f), (ch, ba), (fk, fp), (an, aw, af), (rs, hd)) (kn, pl, bf, jt, nx, am) mu) (hi : imgs h X A I im) (h1 : h.1 = X + 72 + 22 * ni im) (h2 : h.2.1 = C + 1440 * ni im) (hc : ∃ k, zz_run mc (.ref X :: as) h = some (some (.int (nI 0)), k) ∧ cW k X ((tb, tl), (p, rk2, tg2, f2), (ch2, ba2), (fk, fp), (an, aw, af), (nI 0, -1)) (jnN (kn, pl, bf, jt, nx, am) x1 x2 x3 x4) im ∧ frm h k X (X + 57)) (hmm : ∀ k ms mn mo ml mv me mf mw, hp_g k (X + 57) = some (mdO (X + 57) mt mk mp mu ms mn mo ml mv me mf mw) → hp_g k (X + 57 + 1) = some (iA 12639 A) → ∃ k' B, zz_run mm (.ref (X + 57) :: as) k = some (some (.int (nI 0)), k') ∧ mU k k' (X + 57) (mdO (X + 57) mt mk mp (nI (min (am + 1) 10)) ms mn mo ml mv me mf mw) B ∧ acc A B am ∧ RS B 0 p rk2 tg2 ch2 ba2) (hci : CI p rk2 tg2 f2 ch2 ba2) (hpr : prv p (upd kn nx x1) (upd pl nx x2) (upd bf nx x3) (upd jt nx x4) nx rk2 tg2 ch2 ba2 rk tg ch ba) : op h X C mc mm as := by
  refine op_g hm hi h1 h2 hc (fun k hk => ?_)
  have hk0 := hk
  obtain ⟨⟨ms, mn, mo, ml, mv, me, mf, mw, w0⟩, wA, _⟩ := hk
  obtain ⟨k', B, e, u, ⟨a1, a2, a3, a4⟩, hrB⟩ := hmm k ms mn mo ml mv me mf mw w0 wA
  obtain ⟨m1, m2⟩ := mW_a hk0 u
  obtain ⟨t, q1, q2, q3, q4, q5, q6, hr, hc', y1, y2, y3, y4⟩ := hE
  obtain ⟨j1, j2, j3, j4⟩ := hJ
  refine ⟨k', B, T, mt, mk, mp, _, e, m1, m2, ⟨t, q1, q2, q3, q4, q5, q6, hrB, hci, ?_, fun c => ⟨?_, fun b hb => ?_⟩, ?_, fun c => absurd c (by decide +kernel)⟩, ⟨rfl, by omega, by omega, HS_push x1 x2 x3 x4 j2 j3 hr j4 a3 hpr⟩, a4⟩
  · rw [Nat.zero_add, a2 _ (by omega) (by omega)]
    rw [Nat.zero_add] at y1
    exact y1
  · have := (y2 c).1
    rw [Nat.zero_add] at this ⊢
    rw [a2 _ (by omega) (by omega)]
    exact this
  · have := (y2 c).2 b hb
    rw [Nat.zero_add] at this ⊢
    rw [a2 _ (by omega) (by omega)]
    exact this
  · rw [Nat.zero_add]; exact a1
theorem ok_now (hc : CI p rk tg f ch ba) {q : Nat} (hq : q < 256) : okRT (pnv p) (rk q) (tg q) := hc.2.2.2.1 q hq
theorem prv_rec (hc : CI p rk tg f ch ba) {q : Nat} (hq : q < 256) (x g : Int32) : prv p (upd kn nx (nI 0)) (upd pl nx (nI q)) (upd bf nx (rk q)) (upd jt nx (tg q)) nx (upd rk q x) (upd tg q g) ch ba rk tg ch ba := by
  refine Or.inl ⟨upd_eq _ _ _, ⟨q, hq, upd_eq _ _ _, ?_, ?_, ?_⟩, rfl, rfl⟩
  · rw [upd_eq, upd_eq]; exact ok_now hc hq
  · rw [upd_eq, upd_back]
  · rw [upd_eq, upd_back]
theorem ok_y {nv : Nat} {y g : Int32} (hy : isV 1000 y = true) (hg : ∀ v, nv ≤ v → v < 32 → bt g v = false) : okRT nv y g := by
  obtain ⟨r, hr, e⟩ := (isV_iff (by omega)).mp hy
  exact ⟨hg, Or.inr ⟨r, hr, e⟩⟩
theorem g0 (nv : Nat) : ∀ v, nv ≤ v → v < 32 → bt (nI 0) v = false := fun v _ _ => by rw [nI_0, b_0]
end
section
variable {h : zz_H} {X C : Nat}
theorem o_add (hv : INV h X C) (x y : Int32) : op h X C 84 204 [.int x, .int y] := by
  obtain ⟨E, J, im, A, T, I, mt, mk, mp, mu, hw, hm, hE, hJ, hi, h1, h2⟩ := hv
  obtain ⟨⟨tb, tl⟩, ⟨p, rk, tg, f⟩, ⟨ch, ba⟩, ⟨fk, fp⟩, ⟨an, aw, af⟩, ⟨rs, hd⟩⟩ := E
  obtain ⟨kn, pl, bf, jt, nx, am⟩ := J
  have hE0 := hE
  have hJ0 := hJ
  obtain ⟨t, q1, q2, q3, q4, q5, q6, hr, hc, hx⟩ := hE
  obtain ⟨j1, j2, j3, j4⟩ := hJ
  have hwf := hc.1
  have hn20 := hr.1.2.1
  have hn4 := hr.1.1
  cases cx : (isV 256 x && isV 1000 y) with
  | false => exact op_ref (r := 1) (y := -1) (y' := -1) hm hE0 hJ0 hi h1 h2 (fun _ => rfl) (c_add_bad hw cx) (fun k ms mn mo ml mv me mf mw w0 wA => m_add_bad w0 wA hr hc cx)
  | true =>
    cases ct : thrC rk x with
    | true => exact op_ref (r := 2) (y := -1) (y' := -1) hm hE0 hJ0 hi h1 h2 (fun _ => rfl) (c_add_there hw cx ct) (fun k ms mn mo ml mv me mf mw w0 wA => m_add_there w0 wA hr hc cx ct)
    | false =>
      obtain ⟨c1, c2⟩ := Bool.and_eq_true_iff.mp cx
      obtain ⟨q, hq, rfl⟩ := (isV_iff (by omega)).mp c1
      exact op_acc hm hE0 hJ0 hi h1 h2 (c_add_ok hw hq c2 ct) (fun k ms mn mo ml mv me mf mw w0 wA => m_add_ok w0 wA hr hc j2 j1 hq c2 ct) (CI_put hc hn20 hq (ok_y c2 (g0 _))) (prv_rec hc hq y (nI 0))
theorem o_drop (hv : INV h X C) (x : Int32) : op h X C 91 209 [.int x] := by
  obtain ⟨E, J, im, A, T, I, mt, mk, mp, mu, hw, hm, hE, hJ, hi, h1, h2⟩ := hv
  obtain ⟨⟨tb, tl⟩, ⟨p, rk, tg, f⟩, ⟨ch, ba⟩, ⟨fk, fp⟩, ⟨an, aw, af⟩, ⟨rs, hd⟩⟩ := E
  obtain ⟨kn, pl, bf, jt, nx, am⟩ := J
  have hE0 := hE
  have hJ0 := hJ
  obtain ⟨t, q1, q2, q3, q4, q5, q6, hr, hc, hx⟩ := hE
  obtain ⟨j1, j2, j3, j4⟩ := hJ
  have hwf := hc.1
  have hn20 := hr.1.2.1
  have hn4 := hr.1.1
  cases cx : isV 256 x with
  | false => exact op_ref (r := 1) (y := -1) (y' := -1) hm hE0 hJ0 hi h1 h2 (fun _ => rfl) (c_drop_bad hw cx) (fun k ms mn mo ml mv me mf mw w0 wA => m_drop_bad w0 wA hr hc cx)
  | true =>
    cases ct : thrC rk x with
    | false => exact op_ref (r := 3) (y := -1) (y' := -1) hm hE0 hJ0 hi h1 h2 (fun _ => rfl) (c_drop_not hw cx ct) (fun k ms mn mo ml mv me mf mw w0 wA => m_drop_not w0 wA hr hc cx ct)
    | true =>
      obtain ⟨q, hq, rfl⟩ := (isV_iff (by omega)).mp cx
      exact op_acc hm hE0 hJ0 hi h1 h2 (c_drop_ok hw hq ct) (fun k ms mn mo ml mv me mf mw w0 wA => m_drop_ok w0 wA hr hc j2 j1 hq ct) (CI_put hc hn20 hq ⟨g0 _, Or.inl ⟨rfl, rfl⟩⟩) (prv_rec hc hq (-1) (nI 0))
theorem rk_ok {p : Pl} {rk tg f ch ba : Nat → Int32} (hc : CI p rk tg f ch ba) {q : Nat} (hq : q < 256) (ht : thrC rk (nI q) = true) {g : Int32} (hg : ∀ v, pnv p ≤ v → v < 32 → bt g v = false) : okRT (pnv p) (rk q) g := by
  rcases (hc.2.2.2.1 q hq).2 with ⟨c, _⟩ | c
  · exact absurd c (thr_rk hq ht)
  · exact ⟨hg, Or.inr c⟩
theorem o_tag (hv : INV h X C) (x y : Int32) : op h X C 92 210 [.int x, .int y] := by
  obtain ⟨E, J, im, A, T, I, mt, mk, mp, mu, hw, hm, hE, hJ, hi, h1, h2⟩ := hv
  obtain ⟨⟨tb, tl⟩, ⟨p, rk, tg, f⟩, ⟨ch, ba⟩, ⟨fk, fp⟩, ⟨an, aw, af⟩, ⟨rs, hd⟩⟩ := E
  obtain ⟨kn, pl, bf, jt, nx, am⟩ := J
  have hE0 := hE
  have hJ0 := hJ
  obtain ⟨t, q1, q2, q3, q4, q5, q6, hr, hc, hx⟩ := hE
  obtain ⟨j1, j2, j3, j4⟩ := hJ
  have hwf := hc.1
  have hn20 := hr.1.2.1
  have hn4 := hr.1.1
  cases cx : (isV 256 x && isV (pnv p) y) with
  | false => exact op_ref (r := 1) (y := -1) (y' := -1) hm hE0 hJ0 hi h1 h2 (fun _ => rfl) (c_tag_bad hw cx) (fun k ms mn mo ml mv me mf mw w0 wA => m_tag_bad w0 wA hr hc cx)
  | true =>
    obtain ⟨c1, c2⟩ := Bool.and_eq_true_iff.mp cx
    obtain ⟨q, hq, rfl⟩ := (isV_iff (by omega)).mp c1
    obtain ⟨v, hv1, rfl⟩ := (isV_iff (by omega)).mp c2
    cases ct : thrC rk (nI q) with
    | false => exact op_ref (r := 3) (y := -1) (y' := -1) hm hE0 hJ0 hi h1 h2 (fun _ => rfl) (c_tag_not hw cx ct) (fun k ms mn mo ml mv me mf mw w0 wA => m_tag_r w0 wA hr hc (r := 3) hq hv1 (Or.inl ⟨ct, rfl⟩))
    | true =>
      cases cb : bt (tg q) v with
      | true => exact op_ref (r := 2) (y := -1) (y' := -1) hm hE0 hJ0 hi h1 h2 (fun _ => rfl) (c_tag_has hw hq hv1 ct cb) (fun k ms mn mo ml mv me mf mw w0 wA => m_tag_r w0 wA hr hc (r := 2) hq hv1 (Or.inr (Or.inl ⟨ct, cb, rfl⟩)))
      | false =>
        by_cases ch1 : hldC p (tg q) v = -1
        · exact op_acc hm hE0 hJ0 hi h1 h2 (c_tag_ok hw hwf hq hv1 ct cb ch1) (fun k ms mn mo ml mv me mf mw w0 wA => m_tag_ok w0 wA hr hc j2 j1 hq hv1 ct cb ch1) (CI_put hc hn20 hq (rk_ok hc hq ct (fun w g1 g2 => by rw [b_or, (hc.2.2.2.1 q hq).1 w g1 g2, b_sh1 (by omega) g2, decide_eq_false (by omega)]; rfl))) (prv_rec hc hq (rk q) (tg q ||| sh1 v))
        · exact op_ref (r := 4) (y := hldC p (tg q) v) (y' := hldC p (tg q) v) hm hE0 hJ0 hi h1 h2 (fun _ => rfl) (c_tag_held hw hwf hq hv1 ct cb ch1) (fun k ms mn mo ml mv me mf mw w0 wA => m_tag_r w0 wA hr hc (r := 4) hq hv1 (Or.inr (Or.inr ⟨ct, cb, ch1, rfl⟩)))
theorem o_untag (hv : INV h X C) (x y : Int32) : op h X C 93 212 [.int x, .int y] := by
  obtain ⟨E, J, im, A, T, I, mt, mk, mp, mu, hw, hm, hE, hJ, hi, h1, h2⟩ := hv
  obtain ⟨⟨tb, tl⟩, ⟨p, rk, tg, f⟩, ⟨ch, ba⟩, ⟨fk, fp⟩, ⟨an, aw, af⟩, ⟨rs, hd⟩⟩ := E
  obtain ⟨kn, pl, bf, jt, nx, am⟩ := J
  have hE0 := hE
  have hJ0 := hJ
  obtain ⟨t, q1, q2, q3, q4, q5, q6, hr, hc, hx⟩ := hE
  obtain ⟨j1, j2, j3, j4⟩ := hJ
  have hwf := hc.1
  have hn20 := hr.1.2.1
  have hn4 := hr.1.1
  cases cx : (isV 256 x && isV (pnv p) y) with
  | false => exact op_ref (r := 1) (y := -1) (y' := -1) hm hE0 hJ0 hi h1 h2 (fun _ => rfl) (c_untag_bad hw cx) (fun k ms mn mo ml mv me mf mw w0 wA => m_untag_bad w0 wA hr hc cx)
  | true =>
    obtain ⟨c1, c2⟩ := Bool.and_eq_true_iff.mp cx
    obtain ⟨q, hq, rfl⟩ := (isV_iff (by omega)).mp c1
    obtain ⟨v, hv1, rfl⟩ := (isV_iff (by omega)).mp c2
    cases ct : thrC rk (nI q) with
    | false => exact op_ref (r := 3) (y := -1) (y' := -1) hm hE0 hJ0 hi h1 h2 (fun _ => rfl) (c_untag_not hw cx (Or.inl ct)) (fun k ms mn mo ml mv me mf mw w0 wA => m_untag_not w0 wA hr hc hq hv1 (Or.inl ct))
    | true =>
      cases cb : bt (tg q) v with
      | false => exact op_ref (r := 3) (y := -1) (y' := -1) hm hE0 hJ0 hi h1 h2 (fun _ => rfl) (c_untag_not hw cx (Or.inr ⟨q, v, hq, hv1, rfl, rfl, cb⟩)) (fun k ms mn mo ml mv me mf mw w0 wA => m_untag_not w0 wA hr hc hq hv1 (Or.inr ⟨ct, cb⟩))
      | true => exact op_acc hm hE0 hJ0 hi h1 h2 (c_untag_ok hw hq hv1 ct cb) (fun k ms mn mo ml mv me mf mw w0 wA => m_untag_ok w0 wA hr hc j2 j1 hq hv1 ct cb) (CI_put hc hn20 hq (rk_ok hc hq ct (fun w g1 g2 => by rw [b_and, (hc.2.2.2.1 q hq).1 w g1 g2, Bool.false_and]))) (prv_rec hc hq (rk q) (tg q &&& (sh1 v ^^^ -1)))
theorem o_rank (hv : INV h X C) (x y : Int32) : op h X C 94 213 [.int x, .int y] := by
  obtain ⟨E, J, im, A, T, I, mt, mk, mp, mu, hw, hm, hE, hJ, hi, h1, h2⟩ := hv
  obtain ⟨⟨tb, tl⟩, ⟨p, rk, tg, f⟩, ⟨ch, ba⟩, ⟨fk, fp⟩, ⟨an, aw, af⟩, ⟨rs, hd⟩⟩ := E
  obtain ⟨kn, pl, bf, jt, nx, am⟩ := J
  have hE0 := hE
  have hJ0 := hJ
  obtain ⟨t, q1, q2, q3, q4, q5, q6, hr, hc, hx⟩ := hE
  obtain ⟨j1, j2, j3, j4⟩ := hJ
  have hwf := hc.1
  have hn20 := hr.1.2.1
  have hn4 := hr.1.1
  cases cx : (isV 256 x && isV 1000 y) with
  | false => exact op_ref (r := 1) (y := -1) (y' := -1) hm hE0 hJ0 hi h1 h2 (fun _ => rfl) (c_rank_bad hw cx) (fun k ms mn mo ml mv me mf mw w0 wA => m_rank_r w0 wA hr hc (Or.inl ⟨cx, rfl⟩))
  | true =>
    cases ct : thrC rk x with
    | false => exact op_ref (r := 3) (y := -1) (y' := -1) hm hE0 hJ0 hi h1 h2 (fun _ => rfl) (c_rank_not hw cx ct) (fun k ms mn mo ml mv me mf mw w0 wA => m_rank_r w0 wA hr hc (Or.inr (Or.inl ⟨cx, ct, rfl⟩)))
    | true =>
      obtain ⟨c1, c2⟩ := Bool.and_eq_true_iff.mp cx
      obtain ⟨q, hq, rfl⟩ := (isV_iff (by omega)).mp c1
      by_cases ce : rk q = y
      · exact op_ref (r := 2) (y := -1) (y' := -1) hm hE0 hJ0 hi h1 h2 (fun _ => rfl) (c_rank_same hw hq c2 ct ce) (fun k ms mn mo ml mv me mf mw w0 wA => m_rank_r w0 wA hr hc (Or.inr (Or.inr ⟨q, hq, rfl, c2, ct, ce, rfl⟩)))
      · exact op_acc hm hE0 hJ0 hi h1 h2 (c_rank_ok hw hq c2 ct ce) (fun k ms mn mo ml mv me mf mw w0 wA => m_rank_ok w0 wA hr hc j2 j1 hq c2 ct ce) (CI_put hc hn20 hq (ok_y c2 (hc.2.2.2.1 q hq).1)) (prv_rec hc hq y (tg q))
theorem o_choose (hv : INV h X C) (x y : Int32) : op h X C 95 214 [.int x, .int y] := by
  obtain ⟨E, J, im, A, T, I, mt, mk, mp, mu, hw, hm, hE, hJ, hi, h1, h2⟩ := hv
  obtain ⟨⟨tb, tl⟩, ⟨p, rk, tg, f⟩, ⟨ch, ba⟩, ⟨fk, fp⟩, ⟨an, aw, af⟩, ⟨rs, hd⟩⟩ := E
  obtain ⟨kn, pl, bf, jt, nx, am⟩ := J
  have hE0 := hE
  have hJ0 := hJ
  obtain ⟨t, q1, q2, q3, q4, q5, q6, hr, hc, hx⟩ := hE
  obtain ⟨j1, j2, j3, j4⟩ := hJ
  have hwf := hc.1
  have hn20 := hr.1.2.1
  have hn4 := hr.1.1
  cases cx : (isV (pnv p) x && isV 3 y) with
  | false => exact op_ref (r := 1) (y := -1) (y' := -1) hm hE0 hJ0 hi h1 h2 (fun _ => rfl) (c_choose_bad hw cx) (fun k ms mn mo ml mv me mf mw w0 wA => m_choose_bad w0 wA hr hc cx)
  | true =>
    obtain ⟨c1, c2⟩ := Bool.and_eq_true_iff.mp cx
    obtain ⟨v, hv1, rfl⟩ := (isV_iff (by omega)).mp c1
    have y3 : y = nI 0 ∨ y = nI 1 ∨ y = nI 2 := by
      obtain ⟨j, hj, rfl⟩ := (isV_iff (by omega)).mp c2
      match j, hj with
      | 0, _ => exact Or.inl rfl
      | 1, _ => exact Or.inr (Or.inl rfl)
      | 2, _ => exact Or.inr (Or.inr rfl)
    by_cases ce : ch v = y
    · exact op_ref (r := 2) (y := -1) (y' := -1) hm hE0 hJ0 hi h1 h2 (fun _ => rfl) (c_choose_same hw hv1 c2 ce) (fun k ms mn mo ml mv me mf mw w0 wA => m_choose_same w0 wA hr hc hv1 c2 ce)
    · refine op_acc hm hE0 hJ0 hi h1 h2 (c_choose_ok hw hv1 c2 ce) (fun k ms mn mo ml mv me mf mw w0 wA => m_choose_ok w0 wA hr hc j2 j1 hv1 c2 ce) (CI_ch hc y3) (Or.inr (Or.inl ⟨upd_eq _ _ _, ⟨v, hv1, upd_eq _ _ _, ?_, ?_⟩, rfl, rfl, rfl⟩))
      · rw [upd_eq]; exact hc.2.2.1 v hv1
      · rw [upd_eq, upd_back]
theorem o_go (hv : INV h X C) (x : Int32) (b : Bool) : op h X C 96 215 [.int x, .int (bI b)] := by
  obtain ⟨E, J, im, A, T, I, mt, mk, mp, mu, hw, hm, hE, hJ, hi, h1, h2⟩ := hv
  obtain ⟨⟨tb, tl⟩, ⟨p, rk, tg, f⟩, ⟨ch, ba⟩, ⟨fk, fp⟩, ⟨an, aw, af⟩, ⟨rs, hd⟩⟩ := E
  obtain ⟨kn, pl, bf, jt, nx, am⟩ := J
  have hE0 := hE
  have hJ0 := hJ
  obtain ⟨t, q1, q2, q3, q4, q5, q6, hr, hc, hx⟩ := hE
  obtain ⟨j1, j2, j3, j4⟩ := hJ
  have hwf := hc.1
  have hn20 := hr.1.2.1
  have hn4 := hr.1.1
  cases cx : isV (pnh p) x with
  | false => exact op_ref (r := 1) (y := -1) (y' := -1) hm hE0 hJ0 hi h1 h2 (fun _ => rfl) (c_go_bad hw cx) (fun k ms mn mo ml mv me mf mw w0 wA => m_go_bad w0 wA hr hc cx)
  | true =>
    obtain ⟨v, hv1, rfl⟩ := (isV_iff (by omega)).mp cx
    by_cases ce : ba v = bI b
    · exact op_ref (r := 2) (y := -1) (y' := -1) hm hE0 hJ0 hi h1 h2 (fun _ => rfl) (c_go_same hw hv1 ce) (fun k ms mn mo ml mv me mf mw w0 wA => m_go_same w0 wA hr hc hv1 ce)
    · refine op_acc hm hE0 hJ0 hi h1 h2 (c_go_ok hw hv1 ce) (fun k ms mn mo ml mv me mf mw w0 wA => m_go_ok w0 wA hr hc j2 j1 hv1 ce) ?_ (Or.inr (Or.inr ⟨upd_eq _ _ _, ⟨v, hv1, upd_eq _ _ _, ?_, ?_⟩, rfl, rfl, rfl⟩))
      · obtain ⟨d1, d2, d3, d4, d5, d6⟩ := hc
        refine ⟨d1, fun d hd1 => ⟨(d2 d hd1).1, ?_⟩, d3, d4, d5, d6⟩
        by_cases e : d = v
        · subst e; rw [upd_eq]; exact bI_okr b
        · rw [upd_ne e]; exact (d2 d hd1).2
      · rw [upd_eq]; exact (hc.2.1 v hv1).2
      · rw [upd_eq, upd_back]
end
