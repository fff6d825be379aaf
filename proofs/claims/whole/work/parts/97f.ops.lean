/-! each call: questions -/
theorem su_cong {lf L f ch : Nat → Int32} (h : ∀ b, b < 8 → lf b = L b) (v : Nat) : suB lf f ch v = suB L f ch v := by
  unfold suB
  rw [amt_cong h, amt_cong (W := fun b => lf b &&& f (8 * v + b)) (V := fun b => L b &&& f (8 * v + b)) (fun b hb => by rw [h b hb])]
theorem set_cong {q r : Nat → Bool} (h : ∀ v, q v = r v) (n : Nat) : setOf q n = setOf r n := by
  have : q = r := funext h
  rw [this]
theorem pt_cong {lf L f ch : Nat → Int32} (h : ∀ b, b < 8 → lf b = L b) (n : Nat) : ptV lf f ch n = ptV L f ch n := by
  have e : ptS lf f ch = ptS L f ch := by
    funext v s
    unfold ptS
    rw [amt_cong h, amt_cong (W := fun b => lf b &&& f (8 * v + b)) (V := fun b => L b &&& f (8 * v + b)) (fun b hb => by rw [h b hb])]
  unfold ptV
  rw [amt_cong h, e]
theorem pb_cong {lf L : Nat → Int32} (h : ∀ b, b < 8 → lf b = L b) {q : Nat} (hq : q < 256) : pb lf q = pb L q := by
  unfold pb
  rw [h _ (by omega)]
section
variable {h : zz_H} {X C : Nat}
theorem o_count (hv : INV h X C) (x : Int32) : op h X C 101 153 [.int x] := by
  obtain ⟨E, J, im, A, T, I, mt, mk, mp, mu, hw, hm, hE, hJ, hi, h1, h2⟩ := hv
  obtain ⟨⟨tb, tl⟩, ⟨p, rk, tg, f⟩, ⟨ch, ba⟩, ⟨fk, fp⟩, ⟨an, aw, af⟩, ⟨rs, hd⟩⟩ := E
  obtain ⟨kn, pl, bf, jt, nx, am⟩ := J
  have hE0 := hE
  have hJ0 := hJ
  obtain ⟨t, q1, q2, q3, q4, q5, q6, hr, hc, hx⟩ := hE
  obtain ⟨j1, j2, j3, j4⟩ := hJ
  have hwf := hc.1
  have hn20 := hr.1.2.1
  have hn4 := hr.1.1
  cases cx : isV 15 x with
  | false =>
    refine op_q hw hm hE0 hJ0 hi h1 h2 (r := -1) ⟨h, c_count_no hw cx, hw, frm_refl _ _ _⟩ (fun k hk => ?_)
    have hk0 := hk; obtain ⟨⟨ms, mn, mo, ml, mv, me, mf, mw, w0⟩, wA, wT, wI, s3, s7, s8, s9, s10⟩ := hk
    exact ⟨k, m_count_no w0 wA cx, hk0, frm_refl _ _ _⟩
  | true =>
    obtain ⟨j, hj, rfl⟩ := (isV_iff (by omega)).mp cx
    match j, hj with
    | 0, _ =>
      refine op_q hw hm hE0 hJ0 hi h1 h2 ⟨h, c_count_0 hw, hw, frm_refl _ _ _⟩ (fun k hk => ?_)
      have hk0 := hk; obtain ⟨⟨ms, mn, mo, ml, mv, me, mf, mw, w0⟩, wA, wT, wI, s3, s7, s8, s9, s10⟩ := hk
      obtain ⟨k2, e2, s2, f2⟩ := m_count_0 w0 wA hr hc s3; exact ⟨k2, e2, mW_q hk0 s2 f2⟩
    | 1, _ =>
      refine op_q hw hm hE0 hJ0 hi h1 h2 ⟨h, c_count_1 hw, hw, frm_refl _ _ _⟩ (fun k hk => ?_)
      have hk0 := hk; obtain ⟨⟨ms, mn, mo, ml, mv, me, mf, mw, w0⟩, wA, wT, wI, s3, s7, s8, s9, s10⟩ := hk
      obtain ⟨k2, e2, s2, f2⟩ := m_count_1 w0 wA hr hc s3; exact ⟨k2, e2, mW_q hk0 s2 f2⟩
    | 2, _ =>
      refine op_q hw hm hE0 hJ0 hi h1 h2 ⟨h, c_count_2 hw, hw, frm_refl _ _ _⟩ (fun k hk => ?_)
      have hk0 := hk; obtain ⟨⟨ms, mn, mo, ml, mv, me, mf, mw, w0⟩, wA, wT, wI, s3, s7, s8, s9, s10⟩ := hk
      obtain ⟨k2, e2, s2, f2⟩ := m_count_2 w0 wA hr hc s3; exact ⟨k2, e2, mW_q hk0 s2 f2⟩
    | 3, _ =>
      refine op_q hw hm hE0 hJ0 hi h1 h2 ⟨h, c_count_3 hw hwf, hw, frm_refl _ _ _⟩ (fun k hk => ?_)
      have hk0 := hk; obtain ⟨⟨ms, mn, mo, ml, mv, me, mf, mw, w0⟩, wA, wT, wI, s3, s7, s8, s9, s10⟩ := hk
      obtain ⟨k2, e2, s2, f2⟩ := m_count_3 w0 wA hr hc s3; exact ⟨k2, e2, mW_q hk0 s2 f2⟩
    | 4, _ =>
      refine op_q hw hm hE0 hJ0 hi h1 h2 ⟨h, c_count_4 hw, hw, frm_refl _ _ _⟩ (fun k hk => ?_)
      have hk0 := hk; obtain ⟨⟨ms, mn, mo, ml, mv, me, mf, mw, w0⟩, wA, wT, wI, s3, s7, s8, s9, s10⟩ := hk
      obtain ⟨k2, e2, s2, f2⟩ := m_count_4 w0 wA hr hc s3; exact ⟨k2, e2, mW_q hk0 s2 f2⟩
    | 5, _ =>
      refine op_q hw hm hE0 hJ0 hi h1 h2 ⟨h, c_count_5 hw, hw, frm_refl _ _ _⟩ (fun k hk => ?_)
      have hk0 := hk; obtain ⟨⟨ms, mn, mo, ml, mv, me, mf, mw, w0⟩, wA, wT, wI, s3, s7, s8, s9, s10⟩ := hk
      obtain ⟨k2, e2, s2, f2⟩ := m_count_5 w0 wA hr hc s3; exact ⟨k2, e2, mW_q hk0 s2 f2⟩
    | 6, _ =>
      refine op_q hw hm hE0 hJ0 hi h1 h2 ⟨h, c_count_6 hw, hw, frm_refl _ _ _⟩ (fun k hk => ?_)
      have hk0 := hk; obtain ⟨⟨ms, mn, mo, ml, mv, me, mf, mw, w0⟩, wA, wT, wI, s3, s7, s8, s9, s10⟩ := hk
      obtain ⟨k2, e2, s2, f2⟩ := m_count_6 w0 wA hr hc s3; exact ⟨k2, e2, mW_q hk0 s2 f2⟩
    | 7, _ =>
      refine op_q hw hm hE0 hJ0 hi h1 h2 ⟨h, c_count_7 hw, hw, frm_refl _ _ _⟩ (fun k hk => ?_)
      have hk0 := hk; obtain ⟨⟨ms, mn, mo, ml, mv, me, mf, mw, w0⟩, wA, wT, wI, s3, s7, s8, s9, s10⟩ := hk
      obtain ⟨k2, e2, s2, f2⟩ := m_count_7 w0 wA hr hc s3; exact ⟨k2, e2, mW_q hk0 s2 f2⟩
    | 8, _ =>
      refine op_q hw hm hE0 hJ0 hi h1 h2 ⟨h, c_count_8 hw, hw, frm_refl _ _ _⟩ (fun k hk => ?_)
      have hk0 := hk; obtain ⟨⟨ms, mn, mo, ml, mv, me, mf, mw, w0⟩, wA, wT, wI, s3, s7, s8, s9, s10⟩ := hk
      obtain ⟨k2, e2, s2, f2⟩ := m_count_8 w0 wA hr hc s3; exact ⟨k2, e2, mW_q hk0 s2 f2⟩
    | 9, _ =>
      refine op_q hw hm hE0 hJ0 hi h1 h2 ⟨h, c_count_9 hw, hw, frm_refl _ _ _⟩ (fun k hk => ?_)
      have hk0 := hk; obtain ⟨⟨ms, mn, mo, ml, mv, me, mf, mw, w0⟩, wA, wT, wI, s3, s7, s8, s9, s10⟩ := hk
      obtain ⟨k2, e2, s2, f2⟩ := m_count_9 w0 wA hr hc s3; exact ⟨k2, e2, mW_q hk0 s2 f2⟩
    | 10, _ =>
      refine op_q hw hm hE0 hJ0 hi h1 h2 ⟨h, c_count_10 hw, hw, frm_refl _ _ _⟩ (fun k hk => ?_)
      have hk0 := hk; obtain ⟨⟨ms, mn, mo, ml, mv, me, mf, mw, w0⟩, wA, wT, wI, s3, s7, s8, s9, s10⟩ := hk
      rw [← j1]
      obtain ⟨k2, e2, s2, f2⟩ := m_count_10 w0 wA hr hc s3; exact ⟨k2, e2, mW_q hk0 s2 f2⟩
    | 11, _ =>
      refine op_q hw hm hE0 hJ0 hi h1 h2 ⟨h, c_count_11 hw, hw, frm_refl _ _ _⟩ (fun k hk => ?_)
      have hk0 := hk; obtain ⟨⟨ms, mn, mo, ml, mv, me, mf, mw, w0⟩, wA, wT, wI, s3, s7, s8, s9, s10⟩ := hk
      rw [← q4]
      obtain ⟨k2, e2, s2, f2⟩ := m_count_11 w0 wA hr hc s3; exact ⟨k2, e2, mW_q hk0 s2 f2⟩
    | 12, _ =>
      obtain ⟨k0, lf, z1, z2, z3, z4⟩ := c_count_12 hw hwf
      rw [set_cong (su_cong z4) (pnv p)] at z1
      refine op_q hw hm hE0 hJ0 hi h1 h2 ⟨k0, z1, z2, z3⟩ (fun k hk => ?_)
      have hk0 := hk; obtain ⟨⟨ms, mn, mo, ml, mv, me, mf, mw, w0⟩, wA, wT, wI, s3, s7, s8, s9, s10⟩ := hk
      obtain ⟨k2, e2, s2, f2⟩ := m_count_12 w0 wA hr hc s3; exact ⟨k2, e2, mW_q hk0 s2 f2⟩
    | 13, _ =>
      refine op_q hw hm hE0 hJ0 hi h1 h2 ⟨h, c_count_13 hw hwf, hw, frm_refl _ _ _⟩ (fun k hk => ?_)
      have hk0 := hk; obtain ⟨⟨ms, mn, mo, ml, mv, me, mf, mw, w0⟩, wA, wT, wI, s3, s7, s8, s9, s10⟩ := hk
      obtain ⟨k2, e2, s2, f2⟩ := m_count_13 w0 wA hr hc s3; exact ⟨k2, e2, mW_q hk0 s2 f2⟩
    | 14, _ =>
      obtain ⟨k0, lf, z1, z2, z3, z4⟩ := c_count_14 hw hwf
      rw [pt_cong z4 (pnv p)] at z1
      refine op_q hw hm hE0 hJ0 hi h1 h2 ⟨k0, z1, z2, z3⟩ (fun k hk => ?_)
      have hk0 := hk; obtain ⟨⟨ms, mn, mo, ml, mv, me, mf, mw, w0⟩, wA, wT, wI, s3, s7, s8, s9, s10⟩ := hk
      obtain ⟨k2, e2, s2, f2⟩ := m_count_14 w0 wA hr hc s3; exact ⟨k2, e2, mW_q hk0 s2 f2⟩
theorem o_fault (hv : INV h X C) (x : Int32) : op h X C 83 220 [.int x] := by
  obtain ⟨E, J, im, A, T, I, mt, mk, mp, mu, hw, hm, hE, hJ, hi, h1, h2⟩ := hv
  obtain ⟨⟨tb, tl⟩, ⟨p, rk, tg, f⟩, ⟨ch, ba⟩, ⟨fk, fp⟩, ⟨an, aw, af⟩, ⟨rs, hd⟩⟩ := E
  obtain ⟨kn, pl, bf, jt, nx, am⟩ := J
  have hE0 := hE
  have hJ0 := hJ
  obtain ⟨t, q1, q2, q3, q4, q5, q6, hr, hc, hx⟩ := hE
  obtain ⟨j1, j2, j3, j4⟩ := hJ
  have hwf := hc.1
  have hn20 := hr.1.2.1
  have hn4 := hr.1.1
  have cl : ∃ k, zz_run 83 [.ref X, .int x] h = some (some (.int (if x = nI 0 then mk else if x = nI 1 then mp else -1)), k) ∧ cW k X ((tb, tl), (p, rk, tg, f), (ch, ba), (fk, fp), (an, aw, af), (rs, hd)) (kn, pl, bf, jt, nx, am) im ∧ frm h k X (X + 57) := by
    rw [q5, q6]
    by_cases c0 : x = nI 0
    · subst c0
      rw [if_pos rfl]
      exact ⟨h, c_fault0 hw, hw, frm_refl _ _ _⟩
    · by_cases c1 : x = nI 1
      · subst c1
        rw [if_neg c0, if_pos rfl]
        exact ⟨h, c_fault1 hw, hw, frm_refl _ _ _⟩
      · rw [if_neg c0, if_neg c1]
        exact ⟨h, c_fault2 hw c0 c1, hw, frm_refl _ _ _⟩
  refine op_q hw hm hE0 hJ0 hi h1 h2 cl (fun k hk => ?_)
  have hk0 := hk; obtain ⟨⟨ms, mn, mo, ml, mv, me, mf, mw, w0⟩, wA, wT, wI, s3, s7, s8, s9, s10⟩ := hk
  exact ⟨k, m_fault w0 x, hk0, frm_refl _ _ _⟩
theorem o_asked (hv : INV h X C) (x : Int32) : op h X C 79 253 [.int x] := by
  obtain ⟨E, J, im, A, T, I, mt, mk, mp, mu, hw, hm, hE, hJ, hi, h1, h2⟩ := hv
  obtain ⟨⟨tb, tl⟩, ⟨p, rk, tg, f⟩, ⟨ch, ba⟩, ⟨fk, fp⟩, ⟨an, aw, af⟩, ⟨rs, hd⟩⟩ := E
  obtain ⟨kn, pl, bf, jt, nx, am⟩ := J
  have hE0 := hE
  have hJ0 := hJ
  obtain ⟨t, q1, q2, q3, q4, q5, q6, hr, hc, hx⟩ := hE
  obtain ⟨j1, j2, j3, j4⟩ := hJ
  have hwf := hc.1
  have hn20 := hr.1.2.1
  have hn4 := hr.1.1
  obtain ⟨x1, x2, x3, x4⟩ := hx
  simp only [Nat.zero_add] at x1 x2
  cases ha : an with
  | false =>
    rw [ha, bI_f] at x1
    refine op_q hw hm hE0 hJ0 hi h1 h2 (r := -1) ⟨h, c_asked_no hw ha x, hw, frm_refl _ _ _⟩ (fun k hk => ?_)
    have hk0 := hk; obtain ⟨⟨ms, mn, mo, ml, mv, me, mf, mw, w0⟩, wA, wT, wI, s3, s7, s8, s9, s10⟩ := hk
    exact ⟨k, m_asked_no w0 wA x1 x, hk0, frm_refl _ _ _⟩
  | true =>
    rw [ha, bI_t] at x1
    obtain ⟨y1, y2⟩ := x2 ha
    have y3 : ∀ b, b < 8 → A (720 + b) = af b := y2
    refine op_q hw hm hE0 hJ0 hi h1 h2 (r := if x < nI 10 then (if x = nI 0 then nI (amt af) else if x = nI 1 then A 719 else if x = nI 2 then nI (cs8 af) else -1) else KT (pb af) 256 (x - nI 10)) ⟨h, ?_, hw, frm_refl _ _ _⟩ (fun k hk => ?_)
    · by_cases c : x < nI 10
      · rw [if_pos c]
        by_cases c0 : x = nI 0
        · subst c0; rw [if_pos rfl]; exact c_asked_0 hw ha
        · by_cases c1 : x = nI 1
          · subst c1; rw [if_neg c0, if_pos rfl, y1]; exact c_asked_1 hw ha
          · by_cases c2 : x = nI 2
            · subst c2; rw [if_neg c0, if_neg c1, if_pos rfl]; exact c_asked_2 hw ha
            · rw [if_neg c0, if_neg c1, if_neg c2]
              refine c_asked_lo hw ha ?_ c
              cases z : isV 3 x with
              | false => rfl
              | true =>
                obtain ⟨j, hj, rfl⟩ := (isV_iff (by omega)).mp z
                match j, hj with
                | 0, _ => exact absurd rfl c0
                | 1, _ => exact absurd rfl c1
                | 2, _ => exact absurd rfl c2
      · rw [if_neg c]
        exact c_asked_hi hw ha c
    · have hk0 := hk; obtain ⟨⟨ms, mn, mo, ml, mv, me, mf, mw, w0⟩, wA, wT, wI, s3, s7, s8, s9, s10⟩ := hk
      obtain ⟨k2, e2, s2, f2⟩ := m_asked_ok w0 wA x1 s3 y3 x; exact ⟨k2, e2, mW_q hk0 s2 f2⟩
theorem o_why (hv : INV h X C) (x y : Int32) : op h X C 98 216 [.int x, .int y] := by
  obtain ⟨E, J, im, A, T, I, mt, mk, mp, mu, hw, hm, hE, hJ, hi, h1, h2⟩ := hv
  obtain ⟨⟨tb, tl⟩, ⟨p, rk, tg, f⟩, ⟨ch, ba⟩, ⟨fk, fp⟩, ⟨an, aw, af⟩, ⟨rs, hd⟩⟩ := E
  obtain ⟨kn, pl, bf, jt, nx, am⟩ := J
  have hE0 := hE
  have hJ0 := hJ
  obtain ⟨t, q1, q2, q3, q4, q5, q6, hr, hc, hx⟩ := hE
  obtain ⟨j1, j2, j3, j4⟩ := hJ
  have hwf := hc.1
  have hn20 := hr.1.2.1
  have hn4 := hr.1.1
  obtain ⟨x1, x2, x3, x4⟩ := hx
  rw [Nat.zero_add] at x3 x4
  cases cx : (isV 2 x && isV 2 y) with
  | false =>
    refine op_q hw hm hE0 hJ0 hi h1 h2 (r := -1) ⟨h, c_why_bad hw cx, hw, frm_refl _ _ _⟩ (fun k hk => ?_)
    have hk0 := hk; obtain ⟨⟨ms, mn, mo, ml, mv, me, mf, mw, w0⟩, wA, wT, wI, s3, s7, s8, s9, s10⟩ := hk
    exact ⟨k, m_why_bad w0 wA cx, hk0, frm_refl _ _ _⟩
  | true =>
    obtain ⟨c1, c2⟩ := Bool.and_eq_true_iff.mp cx
    obtain ⟨i, hi2, rfl⟩ := (isV_iff (by omega)).mp c1
    obtain ⟨j, hj, rfl⟩ := (isV_iff (by omega)).mp c2
    match i, hi2 with
    | 0, _ =>
      refine op_q hw hm hE0 hJ0 hi h1 h2 ⟨h, c_why_0 hw hj, hw, frm_refl _ _ _⟩ (fun k hk => ?_)
      have hk0 := hk; obtain ⟨⟨ms, mn, mo, ml, mv, me, mf, mw, w0⟩, wA, wT, wI, s3, s7, s8, s9, s10⟩ := hk
      rw [← x3]
      exact ⟨k, m_why_0 w0 wA hj, hk0, frm_refl _ _ _⟩
    | 1, _ =>
      refine op_q hw hm hE0 hJ0 hi h1 h2 ⟨h, c_why_1 hw hj, hw, frm_refl _ _ _⟩ (fun k hk => ?_)
      have hk0 := hk; obtain ⟨⟨ms, mn, mo, ml, mv, me, mf, mw, w0⟩, wA, wT, wI, s3, s7, s8, s9, s10⟩ := hk
      have e := m_why_1 w0 wA hj
      rw [x3] at e
      by_cases c : rs = nI 4
      · rw [if_pos c, x4 c] at e
        rw [if_pos c]
        exact ⟨k, e, hk0, frm_refl _ _ _⟩
      · rw [if_neg c] at e
        rw [if_neg c]
        exact ⟨k, e, hk0, frm_refl _ _ _⟩
theorem o_has (hv : INV h X C) (x y : Int32) : op h X C 125 191 [.int x, .int y] := by
  obtain ⟨E, J, im, A, T, I, mt, mk, mp, mu, hw, hm, hE, hJ, hi, h1, h2⟩ := hv
  obtain ⟨⟨tb, tl⟩, ⟨p, rk, tg, f⟩, ⟨ch, ba⟩, ⟨fk, fp⟩, ⟨an, aw, af⟩, ⟨rs, hd⟩⟩ := E
  obtain ⟨kn, pl, bf, jt, nx, am⟩ := J
  have hE0 := hE
  have hJ0 := hJ
  obtain ⟨t, q1, q2, q3, q4, q5, q6, hr, hc, hx⟩ := hE
  obtain ⟨j1, j2, j3, j4⟩ := hJ
  have hwf := hc.1
  have hn20 := hr.1.2.1
  have hn4 := hr.1.1
  cases cx : (isV 256 x && isV (pnv p) y) with
  | false =>
    refine op_q hw hm hE0 hJ0 hi h1 h2 (r := nI 0) ⟨h, c_has_no hw cx, hw, frm_refl _ _ _⟩ (fun k hk => ?_)
    have hk0 := hk; obtain ⟨⟨ms, mn, mo, ml, mv, me, mf, mw, w0⟩, wA, wT, wI, s3, s7, s8, s9, s10⟩ := hk
    exact ⟨k, m_has_no w0 wA hr hc cx, hk0, frm_refl _ _ _⟩
  | true =>
    obtain ⟨c1, c2⟩ := Bool.and_eq_true_iff.mp cx
    obtain ⟨q, hq, rfl⟩ := (isV_iff (by omega)).mp c1
    obtain ⟨v, hv, rfl⟩ := (isV_iff (by omega)).mp c2
    refine op_q hw hm hE0 hJ0 hi h1 h2 ⟨h, c_has_ok hw hq hv, hw, frm_refl _ _ _⟩ (fun k hk => ?_)
    have hk0 := hk; obtain ⟨⟨ms, mn, mo, ml, mv, me, mf, mw, w0⟩, wA, wT, wI, s3, s7, s8, s9, s10⟩ := hk
    obtain ⟨k2, e2, s2, f2⟩ := m_has_ok w0 wA hr hc s3 hq hv; exact ⟨k2, e2, mW_q hk0 s2 f2⟩
theorem o_both (hv : INV h X C) (x y z : Int32) : op h X C 132 195 [.int x, .int y, .int z] := by
  obtain ⟨E, J, im, A, T, I, mt, mk, mp, mu, hw, hm, hE, hJ, hi, h1, h2⟩ := hv
  obtain ⟨⟨tb, tl⟩, ⟨p, rk, tg, f⟩, ⟨ch, ba⟩, ⟨fk, fp⟩, ⟨an, aw, af⟩, ⟨rs, hd⟩⟩ := E
  obtain ⟨kn, pl, bf, jt, nx, am⟩ := J
  have hE0 := hE
  have hJ0 := hJ
  obtain ⟨t, q1, q2, q3, q4, q5, q6, hr, hc, hx⟩ := hE
  obtain ⟨j1, j2, j3, j4⟩ := hJ
  have hwf := hc.1
  have hn20 := hr.1.2.1
  have hn4 := hr.1.1
  cases cx : (isV (pnv p) x && isV (pnv p) y && isV 6 z) with
  | false =>
    refine op_q hw hm hE0 hJ0 hi h1 h2 (r := -1) ⟨h, c_both_bad hw cx, hw, frm_refl _ _ _⟩ (fun k hk => ?_)
    have hk0 := hk; obtain ⟨⟨ms, mn, mo, ml, mv, me, mf, mw, w0⟩, wA, wT, wI, s3, s7, s8, s9, s10⟩ := hk
    exact ⟨k, m_both_bad w0 wA hr hc cx, hk0, frm_refl _ _ _⟩
  | true =>
    obtain ⟨c0, c3⟩ := Bool.and_eq_true_iff.mp cx
    obtain ⟨c1, c2⟩ := Bool.and_eq_true_iff.mp c0
    obtain ⟨v, hv, rfl⟩ := (isV_iff (by omega)).mp c1
    obtain ⟨u, hu, rfl⟩ := (isV_iff (by omega)).mp c2
    obtain ⟨j, hj, rfl⟩ := (isV_iff (by omega)).mp c3
    refine op_q hw hm hE0 hJ0 hi h1 h2 (r := nI (if j < 3 then aj8 j (rw8 f v) (rw8 f u) else wj8 (j - 3) (rw8 f v) (rw8 f u))) ⟨h, ?_, hw, frm_refl _ _ _⟩ (fun k hk => ?_)
    · by_cases c : j < 3
      · rw [if_pos c]; exact c_both_lo hw hv hu c
      · rw [if_neg c]; exact c_both_hi hw hv hu c hj
    · have hk0 := hk; obtain ⟨⟨ms, mn, mo, ml, mv, me, mf, mw, w0⟩, wA, wT, wI, s3, s7, s8, s9, s10⟩ := hk
      obtain ⟨k2, e2, s2, f2⟩ := m_both_ok w0 wA hr hc s3 hv hu hj; exact ⟨k2, e2, mW_q hk0 s2 f2⟩
theorem o_alike (hv : INV h X C) (x : Int32) : op h X C 135 198 [.int x] := by
  obtain ⟨E, J, im, A, T, I, mt, mk, mp, mu, hw, hm, hE, hJ, hi, h1, h2⟩ := hv
  obtain ⟨⟨tb, tl⟩, ⟨p, rk, tg, f⟩, ⟨ch, ba⟩, ⟨fk, fp⟩, ⟨an, aw, af⟩, ⟨rs, hd⟩⟩ := E
  obtain ⟨kn, pl, bf, jt, nx, am⟩ := J
  have hE0 := hE
  have hJ0 := hJ
  obtain ⟨t, q1, q2, q3, q4, q5, q6, hr, hc, hx⟩ := hE
  obtain ⟨j1, j2, j3, j4⟩ := hJ
  have hwf := hc.1
  have hn20 := hr.1.2.1
  have hn4 := hr.1.1
  cases cx : isV (pnv p) x with
  | false =>
    refine op_q hw hm hE0 hJ0 hi h1 h2 (r := -1) ⟨h, c_alike_no hw cx, hw, frm_refl _ _ _⟩ (fun k hk => ?_)
    have hk0 := hk; obtain ⟨⟨ms, mn, mo, ml, mv, me, mf, mw, w0⟩, wA, wT, wI, s3, s7, s8, s9, s10⟩ := hk
    exact ⟨k, m_alike_no w0 wA hr hc cx, hk0, frm_refl _ _ _⟩
  | true =>
    obtain ⟨v, hv, rfl⟩ := (isV_iff (by omega)).mp cx
    refine op_q hw hm hE0 hJ0 hi h1 h2 ⟨h, c_alike_ok hw hv, hw, frm_refl _ _ _⟩ (fun k hk => ?_)
    have hk0 := hk; obtain ⟨⟨ms, mn, mo, ml, mv, me, mf, mw, w0⟩, wA, wT, wI, s3, s7, s8, s9, s10⟩ := hk
    obtain ⟨k2, e2, s2, f2⟩ := m_alike_ok w0 wA hr hc s3 hv; exact ⟨k2, e2, mW_q hk0 s2 f2⟩
theorem thr_q {rk : Nat → Int32} {x : Int32} (ht : thrC rk x = true) : ∃ q, q < 256 ∧ x = nI q := by
  unfold thrC at ht
  exact (isV_iff (by omega)).mp (Bool.and_eq_true_iff.mp ht).1
theorem o_named (hv : INV h X C) (x y : Int32) : op h X C 137 199 [.int x, .int y] := by
  obtain ⟨E, J, im, A, T, I, mt, mk, mp, mu, hw, hm, hE, hJ, hi, h1, h2⟩ := hv
  obtain ⟨⟨tb, tl⟩, ⟨p, rk, tg, f⟩, ⟨ch, ba⟩, ⟨fk, fp⟩, ⟨an, aw, af⟩, ⟨rs, hd⟩⟩ := E
  obtain ⟨kn, pl, bf, jt, nx, am⟩ := J
  have hE0 := hE
  have hJ0 := hJ
  obtain ⟨t, q1, q2, q3, q4, q5, q6, hr, hc, hx⟩ := hE
  obtain ⟨j1, j2, j3, j4⟩ := hJ
  have hwf := hc.1
  have hn20 := hr.1.2.1
  have hn4 := hr.1.1
  cases cx : thrC rk x with
  | false =>
    refine op_q hw hm hE0 hJ0 hi h1 h2 (r := -2) ⟨h, c_named_no hw cx, hw, frm_refl _ _ _⟩ (fun k hk => ?_)
    have hk0 := hk; obtain ⟨⟨ms, mn, mo, ml, mv, me, mf, mw, w0⟩, wA, wT, wI, s3, s7, s8, s9, s10⟩ := hk
    exact ⟨k, m_named_no w0 wA hr hc cx, hk0, frm_refl _ _ _⟩
  | true =>
    obtain ⟨q, hq, rfl⟩ := thr_q cx
    refine op_q hw hm hE0 hJ0 hi h1 h2 ⟨h, c_named_ok hw hq cx, hw, frm_refl _ _ _⟩ (fun k hk => ?_)
    have hk0 := hk; obtain ⟨⟨ms, mn, mo, ml, mv, me, mf, mw, w0⟩, wA, wT, wI, s3, s7, s8, s9, s10⟩ := hk
    obtain ⟨k2, e2, s2, s28, f2⟩ := m_named_ok w0 wA hr hc s3 s8 hq (y := y) cx
    have q := fun b hb => f2.1.2.2.2 b hb
    obtain ⟨V7, a7⟩ := s7
    obtain ⟨g9, a9⟩ := s9
    obtain ⟨o, pa, go, ho, hqq, b0, b1, b2, b3, b4⟩ := s10
    exact ⟨k2, e2, ⟨⟨ms, mn, mo, ml, mv, me, mf, mw, (q _ (by omega)).trans w0⟩, (q _ (by omega)).trans wA, (q _ (by omega)).trans wT, (q _ (by omega)).trans wI, s2, ⟨V7, ar8_sam a7 f2.2⟩, s28, ⟨g9, (q _ (by omega)).trans a9⟩, o, pa, go, ho, hqq, (q _ (by omega)).trans b0, (q _ (by omega)).trans b1, (q _ (by omega)).trans b2, (q _ (by omega)).trans b3, (q _ (by omega)).trans b4⟩, frm_mono f2.1 (by omega) (by omega)⟩
theorem o_likes (hv : INV h X C) (x : Int32) : op h X C 143 202 [.int x] := by
  obtain ⟨E, J, im, A, T, I, mt, mk, mp, mu, hw, hm, hE, hJ, hi, h1, h2⟩ := hv
  obtain ⟨⟨tb, tl⟩, ⟨p, rk, tg, f⟩, ⟨ch, ba⟩, ⟨fk, fp⟩, ⟨an, aw, af⟩, ⟨rs, hd⟩⟩ := E
  obtain ⟨kn, pl, bf, jt, nx, am⟩ := J
  have hE0 := hE
  have hJ0 := hJ
  obtain ⟨t, q1, q2, q3, q4, q5, q6, hr, hc, hx⟩ := hE
  obtain ⟨j1, j2, j3, j4⟩ := hJ
  have hwf := hc.1
  have hn20 := hr.1.2.1
  have hn4 := hr.1.1
  cases cx : thrC rk x with
  | false =>
    refine op_q hw hm hE0 hJ0 hi h1 h2 (r := -1) ⟨h, c_likes_no hw cx, hw, frm_refl _ _ _⟩ (fun k hk => ?_)
    have hk0 := hk; obtain ⟨⟨ms, mn, mo, ml, mv, me, mf, mw, w0⟩, wA, wT, wI, s3, s7, s8, s9, s10⟩ := hk
    exact ⟨k, m_likes_no w0 wA hr hc cx, hk0, frm_refl _ _ _⟩
  | true =>
    obtain ⟨q, hq, rfl⟩ := thr_q cx
    refine op_q hw hm hE0 hJ0 hi h1 h2 ⟨h, c_likes_ok hw hq cx, hw, frm_refl _ _ _⟩ (fun k hk => ?_)
    have hk0 := hk; obtain ⟨⟨ms, mn, mo, ml, mv, me, mf, mw, w0⟩, wA, wT, wI, s3, s7, s8, s9, s10⟩ := hk
    obtain ⟨k2, e2, s2, f2⟩ := m_likes_ok w0 wA hr hc s3 hq cx; exact ⟨k2, e2, mW_q hk0 s2 f2⟩
end
