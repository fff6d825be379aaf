/-! each call: more questions -/
theorem isV_no {n : Nat} {x : Int32} (hn : n < 2147483648) (h : ∀ j, j < n → ¬ x = nI j) : isV n x = false := by
  cases z : isV n x with
  | false => rfl
  | true =>
    obtain ⟨j, hj, e⟩ := (isV_iff hn).mp z
    exact absurd e (h j hj)
theorem ct_true : ∀ n, fb_ct (fun _ => true) n = n := fun n => fb_ct_all.mpr (fun _ _ => rfl)
section
variable {h : zz_H} {X C : Nat}
theorem o_head (hv : INV h X C) (x y : Int32) : op h X C 116 179 [.int x, .int y] := by
  obtain ⟨E, J, im, A, T, I, mt, mk, mp, mu, hw, hm, hE, hJ, hi, h1, h2⟩ := hv
  obtain ⟨⟨tb, tl⟩, ⟨p, rk, tg, f⟩, ⟨ch, ba⟩, ⟨fk, fp⟩, ⟨an, aw, af⟩, ⟨rs, hd⟩⟩ := E
  obtain ⟨kn, pl, bf, jt, nx, am⟩ := J
  have hE0 := hE
  have hJ0 := hJ
  obtain ⟨t, q1, q2, q3, q4, q5, q6, hr, hc, hx⟩ := hE
  obtain ⟨j1, j2, j3, j4⟩ := hJ
  have hwf := hc.1
  have hn20 := hr.1.2.1
  have hn4 := hr.1.1
  cases cx : isV (pnh p) x with
  | false =>
    refine op_q hw hm hE0 hJ0 hi h1 h2 (r := -1) ⟨h, c_head_no hw cx, hw, frm_refl _ _ _⟩ (fun k hk => ?_)
    have hk0 := hk; obtain ⟨⟨ms, mn, mo, ml, mv, me, mf, mw, w0⟩, wA, wT, wI, s3, s7, s8, s9, s10⟩ := hk
    exact ⟨k, m_head_no w0 wA hr hc cx, hk0, frm_refl _ _ _⟩
  | true =>
    obtain ⟨d, hd1, rfl⟩ := (isV_iff (by omega)).mp cx
    obtain ⟨fi, si, f1, f2, f3, f4⟩ := hwf.1 d hd1
    have lo : ∀ z : Int32, z < nI 10 → ∀ r, (if z = nI 0 then pmn p d else if z = nI 2 then ba d else if z = nI 1 ∨ z = nI 3 then nI (fb_ct (fun v => decide (pho p v = nI d) && (decide (z = nI 1) || decide (ch v = nI 1))) (pnv p)) else -1) = r → ∀ k, mW k (X + 57) A T I mt mk mp mu → ∃ k', zz_run 179 [.ref (X + 57), .int (nI d), .int z] k = some (some (.int r), k') ∧ mW k' (X + 57) A T I mt mk mp mu ∧ frm k k' (X + 57) (X + 57 + 15) := by
      intro z hz r er k hk
      have hk0 := hk; obtain ⟨⟨ms, mn, mo, ml, mv, me, mf, mw, w0⟩, wA, wT, wI, s3, s7, s8, s9, s10⟩ := hk
      rw [← er]
      exact ⟨k, m_head_lo w0 wA hr hc hd1 hz, hk0, frm_refl _ _ _⟩
    have n20 : ¬ nI 2 = nI 0 := by decide +kernel
    have n10 : ¬ nI 1 = nI 0 := by decide +kernel
    have n12' : ¬ nI 1 = nI 2 := by decide +kernel
    have n30 : ¬ nI 3 = nI 0 := by decide +kernel
    have n32' : ¬ nI 3 = nI 2 := by decide +kernel
    have n31 : ¬ nI 3 = nI 1 := by decide +kernel
    by_cases c0 : y = nI 0
    · subst c0
      exact op_q hw hm hE0 hJ0 hi h1 h2 ⟨h, c_head_0 hw hd1, hw, frm_refl _ _ _⟩ (lo (nI 0) (by decide +kernel) _ (if_pos rfl))
    · by_cases c1 : y = nI 1
      · subst c1
        refine op_q hw hm hE0 hJ0 hi h1 h2 ⟨h, c_head_1 hw hd1, hw, frm_refl _ _ _⟩ (lo (nI 1) (by decide +kernel) _ ?_)
        rw [if_neg n10, if_neg n12', if_pos (Or.inl rfl), f2, fb_ct_cong (q := fun v => decide (pho p v = nI d) && true) (fun v hv => by rw [decide_eq_true (p := nI 1 = nI 1) rfl, Bool.true_or]), ct_range (R := fun _ => true) f3 f4, ct_true]
      · by_cases c2 : y = nI 2
        · subst c2
          refine op_q hw hm hE0 hJ0 hi h1 h2 ⟨h, c_head_2 hw hd1, hw, frm_refl _ _ _⟩ (lo (nI 2) (by decide +kernel) _ ?_)
          rw [if_neg n20, if_pos rfl]
        · by_cases c3 : y = nI 3
          · subst c3
            refine op_q hw hm hE0 hJ0 hi h1 h2 ⟨h, c_head_3 hw hd1 f1 f2 f3, hw, frm_refl _ _ _⟩ (lo (nI 3) (by decide +kernel) _ ?_)
            rw [if_neg n30, if_neg n32', if_pos (Or.inr rfl), fb_ct_cong (q := fun v => decide (pho p v = nI d) && decide (ch v = nI 1)) (fun v hv => by rw [decide_eq_false n31, Bool.false_or]), ct_range (R := fun v => decide (ch v = nI 1)) f3 f4]
          · have cy : isV 4 y = false := isV_no (by omega) (fun j hj => by
              match j, hj with
              | 0, _ => exact c0
              | 1, _ => exact c1
              | 2, _ => exact c2
              | 3, _ => exact c3)
            have cl := c_head_x hw hd1 cy
            by_cases cl10 : y < nI 10
            · rw [if_pos cl10] at cl
              refine op_q hw hm hE0 hJ0 hi h1 h2 ⟨h, cl, hw, frm_refl _ _ _⟩ (lo y cl10 _ ?_)
              rw [if_neg c0, if_neg c2, if_neg (fun z => z.elim c1 c3)]
            · rw [if_neg cl10] at cl
              refine op_q hw hm hE0 hJ0 hi h1 h2 ⟨h, cl, hw, frm_refl _ _ _⟩ (fun k hk => ?_)
              have hk0 := hk; obtain ⟨⟨ms, mn, mo, ml, mv, me, mf, mw, w0⟩, wA, wT, wI, s3, s7, s8, s9, s10⟩ := hk
              exact ⟨k, m_head_hi w0 wA hr hc hd1 cl10, hk0, frm_refl _ _ _⟩
theorem o_value (hv : INV h X C) (x y : Int32) : op h X C 120 182 [.int x, .int y] := by
  obtain ⟨E, J, im, A, T, I, mt, mk, mp, mu, hw, hm, hE, hJ, hi, h1, h2⟩ := hv
  obtain ⟨⟨tb, tl⟩, ⟨p, rk, tg, f⟩, ⟨ch, ba⟩, ⟨fk, fp⟩, ⟨an, aw, af⟩, ⟨rs, hd⟩⟩ := E
  obtain ⟨kn, pl, bf, jt, nx, am⟩ := J
  have hE0 := hE
  have hJ0 := hJ
  obtain ⟨t, q1, q2, q3, q4, q5, q6, hr, hc, hx⟩ := hE
  obtain ⟨j1, j2, j3, j4⟩ := hJ
  have hwf := hc.1
  have hn20 := hr.1.2.1
  have hn4 := hr.1.1
  cases cx : isV (pnv p) x with
  | false =>
    refine op_q hw hm hE0 hJ0 hi h1 h2 (r := -1) ⟨h, c_value_no hw cx, hw, frm_refl _ _ _⟩ (fun k hk => ?_)
    have hk0 := hk; obtain ⟨⟨ms, mn, mo, ml, mv, me, mf, mw, w0⟩, wA, wT, wI, s3, s7, s8, s9, s10⟩ := hk
    exact ⟨k, m_value_no w0 wA hr hc cx, hk0, frm_refl _ _ _⟩
  | true =>
    obtain ⟨v, hv1, rfl⟩ := (isV_iff (by omega)).mp cx
    obtain ⟨⟨d, hd1, hod⟩, _⟩ := hwf.2 v hv1
    cases cy : isV 10 y with
    | true =>
      obtain ⟨j, hj, rfl⟩ := (isV_iff (by omega)).mp cy
      match j, hj with
      | 0, _ => exact op_q hw hm hE0 hJ0 hi h1 h2 ⟨h, c_value_0 hw hv1, hw, frm_refl _ _ _⟩ (fun k hk => by have hk0 := hk; obtain ⟨⟨ms, mn, mo, ml, mv, me, mf, mw, w0⟩, wA, wT, wI, s3, s7, s8, s9, s10⟩ := hk; obtain ⟨k2, e2, s2, f2⟩ := m_value_0 w0 wA hr hc s3 hv1; exact ⟨k2, e2, mW_q hk0 s2 f2⟩)
      | 1, _ => exact op_q hw hm hE0 hJ0 hi h1 h2 ⟨h, c_value_1 hw hv1, hw, frm_refl _ _ _⟩ (fun k hk => by have hk0 := hk; obtain ⟨⟨ms, mn, mo, ml, mv, me, mf, mw, w0⟩, wA, wT, wI, s3, s7, s8, s9, s10⟩ := hk; obtain ⟨k2, e2, s2, f2⟩ := m_value_1 w0 wA hr hc s3 hv1; exact ⟨k2, e2, mW_q hk0 s2 f2⟩)
      | 2, _ => exact op_q hw hm hE0 hJ0 hi h1 h2 ⟨h, c_value_2 hw hv1, hw, frm_refl _ _ _⟩ (fun k hk => by have hk0 := hk; obtain ⟨⟨ms, mn, mo, ml, mv, me, mf, mw, w0⟩, wA, wT, wI, s3, s7, s8, s9, s10⟩ := hk; obtain ⟨k2, e2, s2, f2⟩ := m_value_2 w0 wA hr hc s3 hv1; exact ⟨k2, e2, mW_q hk0 s2 f2⟩)
      | 3, _ => exact op_q hw hm hE0 hJ0 hi h1 h2 ⟨h, c_value_3 hw hv1, hw, frm_refl _ _ _⟩ (fun k hk => by have hk0 := hk; obtain ⟨⟨ms, mn, mo, ml, mv, me, mf, mw, w0⟩, wA, wT, wI, s3, s7, s8, s9, s10⟩ := hk; obtain ⟨k2, e2, s2, f2⟩ := m_value_3 w0 wA hr hc s3 hv1; exact ⟨k2, e2, mW_q hk0 s2 f2⟩)
      | 4, _ => exact op_q hw hm hE0 hJ0 hi h1 h2 ⟨h, c_value_4 hw hv1, hw, frm_refl _ _ _⟩ (fun k hk => by have hk0 := hk; obtain ⟨⟨ms, mn, mo, ml, mv, me, mf, mw, w0⟩, wA, wT, wI, s3, s7, s8, s9, s10⟩ := hk; obtain ⟨k2, e2, s2, f2⟩ := m_value_4 w0 wA hr hc s3 hv1; exact ⟨k2, e2, mW_q hk0 s2 f2⟩)
      | 5, _ => exact op_q hw hm hE0 hJ0 hi h1 h2 ⟨h, c_value_5 hw hv1, hw, frm_refl _ _ _⟩ (fun k hk => by have hk0 := hk; obtain ⟨⟨ms, mn, mo, ml, mv, me, mf, mw, w0⟩, wA, wT, wI, s3, s7, s8, s9, s10⟩ := hk; obtain ⟨k2, e2, s2, f2⟩ := m_value_5 w0 wA hr hc s3 hv1; exact ⟨k2, e2, mW_q hk0 s2 f2⟩)
      | 6, _ => exact op_q hw hm hE0 hJ0 hi h1 h2 ⟨h, c_value_6 hw hv1, hw, frm_refl _ _ _⟩ (fun k hk => by have hk0 := hk; obtain ⟨⟨ms, mn, mo, ml, mv, me, mf, mw, w0⟩, wA, wT, wI, s3, s7, s8, s9, s10⟩ := hk; obtain ⟨k2, e2, s2, f2⟩ := m_value_6 w0 wA hr hc s3 hv1; exact ⟨k2, e2, mW_q hk0 s2 f2⟩)
      | 7, _ => exact op_q hw hm hE0 hJ0 hi h1 h2 ⟨h, c_value_7 hw hwf hv1 hd1 hod, hw, frm_refl _ _ _⟩ (fun k hk => by have hk0 := hk; obtain ⟨⟨ms, mn, mo, ml, mv, me, mf, mw, w0⟩, wA, wT, wI, s3, s7, s8, s9, s10⟩ := hk; obtain ⟨k2, e2, s2, f2⟩ := m_value_7 w0 wA hr hc s3 hv1 hd1 hod; exact ⟨k2, e2, mW_q hk0 s2 f2⟩)
      | 8, _ => exact op_q hw hm hE0 hJ0 hi h1 h2 ⟨h, c_value_8 hw hwf hv1, hw, frm_refl _ _ _⟩ (fun k hk => by have hk0 := hk; obtain ⟨⟨ms, mn, mo, ml, mv, me, mf, mw, w0⟩, wA, wT, wI, s3, s7, s8, s9, s10⟩ := hk; obtain ⟨k2, e2, s2, f2⟩ := m_value_8 w0 wA hr hc s3 hv1; exact ⟨k2, e2, mW_q hk0 s2 f2⟩)
      | 9, _ => exact op_q hw hm hE0 hJ0 hi h1 h2 ⟨h, c_value_9 hw hv1, hw, frm_refl _ _ _⟩ (fun k hk => by have hk0 := hk; obtain ⟨⟨ms, mn, mo, ml, mv, me, mf, mw, w0⟩, wA, wT, wI, s3, s7, s8, s9, s10⟩ := hk; obtain ⟨k2, e2, s2, f2⟩ := m_value_9 w0 wA hr hc s3 hv1; exact ⟨k2, e2, mW_q hk0 s2 f2⟩)
    | false =>
      have cl := c_value_x hw hv1 cy
      by_cases cl10 : y < nI 10
      · rw [if_pos cl10] at cl
        exact op_q hw hm hE0 hJ0 hi h1 h2 ⟨h, cl, hw, frm_refl _ _ _⟩ (fun k hk => by have hk0 := hk; obtain ⟨⟨ms, mn, mo, ml, mv, me, mf, mw, w0⟩, wA, wT, wI, s3, s7, s8, s9, s10⟩ := hk; obtain ⟨k2, e2, s2, f2⟩ := m_value_x w0 wA hr hc s3 hv1 cy cl10; exact ⟨k2, e2, mW_q hk0 s2 f2⟩)
      · rw [if_neg cl10] at cl
        refine op_q hw hm hE0 hJ0 hi h1 h2 ⟨h, cl, hw, frm_refl _ _ _⟩ (fun k hk => ?_)
        have hk0 := hk; obtain ⟨⟨ms, mn, mo, ml, mv, me, mf, mw, w0⟩, wA, wT, wI, s3, s7, s8, s9, s10⟩ := hk
        exact ⟨k, m_value_hi w0 wA hr hc hv1 cl10, hk0, frm_refl _ _ _⟩
theorem o_box (hv : INV h X C) (x y z : Int32) : op h X C 123 185 [.int x, .int y, .int z] := by
  obtain ⟨E, J, im, A, T, I, mt, mk, mp, mu, hw, hm, hE, hJ, hi, h1, h2⟩ := hv
  obtain ⟨⟨tb, tl⟩, ⟨p, rk, tg, f⟩, ⟨ch, ba⟩, ⟨fk, fp⟩, ⟨an, aw, af⟩, ⟨rs, hd⟩⟩ := E
  obtain ⟨kn, pl, bf, jt, nx, am⟩ := J
  have hE0 := hE
  have hJ0 := hJ
  obtain ⟨t, q1, q2, q3, q4, q5, q6, hr, hc, hx⟩ := hE
  obtain ⟨j1, j2, j3, j4⟩ := hJ
  have hwf := hc.1
  have hn20 := hr.1.2.1
  have hn4 := hr.1.1
  cases cx : (isV (pnv p) x && isV 8 y) with
  | false =>
    refine op_q hw hm hE0 hJ0 hi h1 h2 (r := -1) ⟨h, c_box_no hw cx, hw, frm_refl _ _ _⟩ (fun k hk => ?_)
    have hk0 := hk; obtain ⟨⟨ms, mn, mo, ml, mv, me, mf, mw, w0⟩, wA, wT, wI, s3, s7, s8, s9, s10⟩ := hk
    exact ⟨k, m_box_no w0 wA hr hc (by rw [cx, Bool.false_and]), hk0, frm_refl _ _ _⟩
  | true =>
    obtain ⟨c1, c2⟩ := Bool.and_eq_true_iff.mp cx
    obtain ⟨v, hv1, rfl⟩ := (isV_iff (by omega)).mp c1
    obtain ⟨b, hb, rfl⟩ := (isV_iff (by omega)).mp c2
    cases cz : isV 4 z with
    | false =>
      refine op_q hw hm hE0 hJ0 hi h1 h2 (r := -1) ⟨h, ?_, hw, frm_refl _ _ _⟩ (fun k hk => ?_)
      · by_cases c0 : f (8 * v + b) = nI 0
        · exact c_box_0 hw hv1 hb c0
        · exact c_box_x hw hv1 hb c0 cz
      · have hk0 := hk; obtain ⟨⟨ms, mn, mo, ml, mv, me, mf, mw, w0⟩, wA, wT, wI, s3, s7, s8, s9, s10⟩ := hk
        exact ⟨k, m_box_no w0 wA hr hc (by rw [cz, Bool.and_false]), hk0, frm_refl _ _ _⟩
    | true =>
      obtain ⟨j, hj, rfl⟩ := (isV_iff (by omega)).mp cz
      refine op_q hw hm hE0 hJ0 hi h1 h2 (r := if f (8 * v + b) = nI 0 then -1 else if j = 0 then nI (knd (f (8 * v + b))) else if j = 1 then nI (pc (f (8 * v + b))) else if j = 2 then nI (cst (f (8 * v + b))) else nI (rns (f (8 * v + b)))) ⟨h, ?_, hw, frm_refl _ _ _⟩ (fun k hk => ?_)
      · by_cases c0 : f (8 * v + b) = nI 0
        · rw [if_pos c0]; exact c_box_0 hw hv1 hb c0
        · rw [if_neg c0]
          match j, hj with
          | 0, _ => exact c_box_k0 hw hv1 hb c0
          | 1, _ => exact c_box_k1 hw hv1 hb c0
          | 2, _ => exact c_box_k2 hw hv1 hb c0
          | 3, _ => exact c_box_k3 hw hv1 hb c0
      · have hk0 := hk; obtain ⟨⟨ms, mn, mo, ml, mv, me, mf, mw, w0⟩, wA, wT, wI, s3, s7, s8, s9, s10⟩ := hk
        obtain ⟨k2, e2, s2, f2⟩ := m_box_ok w0 wA hr hc s3 hv1 hb hj; exact ⟨k2, e2, mW_q hk0 s2 f2⟩
theorem o_record (hv : INV h X C) (x y : Int32) : op h X C 124 186 [.int x, .int y] := by
  obtain ⟨E, J, im, A, T, I, mt, mk, mp, mu, hw, hm, hE, hJ, hi, h1, h2⟩ := hv
  obtain ⟨⟨tb, tl⟩, ⟨p, rk, tg, f⟩, ⟨ch, ba⟩, ⟨fk, fp⟩, ⟨an, aw, af⟩, ⟨rs, hd⟩⟩ := E
  obtain ⟨kn, pl, bf, jt, nx, am⟩ := J
  have hE0 := hE
  have hJ0 := hJ
  obtain ⟨t, q1, q2, q3, q4, q5, q6, hr, hc, hx⟩ := hE
  obtain ⟨j1, j2, j3, j4⟩ := hJ
  have hwf := hc.1
  have hn20 := hr.1.2.1
  have hn4 := hr.1.1
  cases cx : thrC rk x with
  | false =>
    refine op_q hw hm hE0 hJ0 hi h1 h2 (r := -1) ⟨h, c_rec_no hw cx, hw, frm_refl _ _ _⟩ (fun k hk => ?_)
    have hk0 := hk; obtain ⟨⟨ms, mn, mo, ml, mv, me, mf, mw, w0⟩, wA, wT, wI, s3, s7, s8, s9, s10⟩ := hk
    exact ⟨k, m_rec_no w0 wA hr hc cx, hk0, frm_refl _ _ _⟩
  | true =>
    obtain ⟨q, hq, rfl⟩ := thr_q cx
    by_cases c0 : y = nI 0
    · subst c0
      refine op_q hw hm hE0 hJ0 hi h1 h2 ⟨h, c_rec_0 hw hq cx, hw, frm_refl _ _ _⟩ (fun k hk => ?_)
      have hk0 := hk; obtain ⟨⟨ms, mn, mo, ml, mv, me, mf, mw, w0⟩, wA, wT, wI, s3, s7, s8, s9, s10⟩ := hk
      exact ⟨k, m_rec_0 w0 wA hr hc hq cx, hk0, frm_refl _ _ _⟩
    · refine op_q hw hm hE0 hJ0 hi h1 h2 (r := if y = nI 1 then nI (pc (tg q)) else if y = nI 2 then bI (pb (fun blk => lfW p f ch ba blk (-1) (-1)) q) else if y < nI 10 then -1 else KT (bt (tg q)) 32 (y - nI 10)) ⟨h, ?_, hw, frm_refl _ _ _⟩ (fun k hk => ?_)
      · by_cases c1 : y = nI 1
        · subst c1; rw [if_pos rfl]; exact c_rec_1 hw hq cx
        · rw [if_neg c1]
          by_cases c2 : y = nI 2
          · subst c2; rw [if_pos rfl]; exact c_rec_2 hw hwf hq cx
          · rw [if_neg c2]
            by_cases cl : y < nI 10
            · rw [if_pos cl]
              refine c_rec_lo hw hq cx (isV_no (by omega) (fun j hj => ?_)) cl
              match j, hj with
              | 0, _ => exact c0
              | 1, _ => exact c1
              | 2, _ => exact c2
            · rw [if_neg cl]; exact c_rec_hi hw hq cx cl
      · have hk0 := hk; obtain ⟨⟨ms, mn, mo, ml, mv, me, mf, mw, w0⟩, wA, wT, wI, s3, s7, s8, s9, s10⟩ := hk
        obtain ⟨k2, e2, s2, f2⟩ := m_rec_x w0 wA hr hc s3 hq cx c0; exact ⟨k2, e2, mW_q hk0 s2 f2⟩
theorem o_told (hv : INV h X C) (x : Int32) (id : Bool) : op h X C 131 194 [.int x, .int (bI id)] := by
  obtain ⟨E, J, im, A, T, I, mt, mk, mp, mu, hw, hm, hE, hJ, hi, h1, h2⟩ := hv
  obtain ⟨⟨tb, tl⟩, ⟨p, rk, tg, f⟩, ⟨ch, ba⟩, ⟨fk, fp⟩, ⟨an, aw, af⟩, ⟨rs, hd⟩⟩ := E
  obtain ⟨kn, pl, bf, jt, nx, am⟩ := J
  have hE0 := hE
  have hJ0 := hJ
  obtain ⟨t, q1, q2, q3, q4, q5, q6, hr, hc, hx⟩ := hE
  obtain ⟨j1, j2, j3, j4⟩ := hJ
  have hwf := hc.1
  have hn20 := hr.1.2.1
  have hn4 := hr.1.1
  cases id with
  | true =>
    have cl := c_told_idle hw hwf x
    rw [KT_setOf _ (by omega)] at cl
    refine op_q hw hm hE0 hJ0 hi h1 h2 (r := KT (tdB p f ch ba true) (pnv p) x) ⟨h, cl, hw, frm_refl _ _ _⟩ (fun k hk => ?_)
    have hk0 := hk; obtain ⟨⟨ms, mn, mo, ml, mv, me, mf, mw, w0⟩, wA, wT, wI, s3, s7, s8, s9, s10⟩ := hk
    obtain ⟨k2, e2, s2, f2⟩ := m_told w0 wA hr hc s3 true x; exact ⟨k2, e2, mW_q hk0 s2 f2⟩
  | false =>
    obtain ⟨k0, lf, z1, z2, z3, z4⟩ := c_told_sure hw hwf x
    rw [KT_setOf _ (by omega), show suB lf f ch = suB (fun b => lfW p f ch ba b (-1) (-1)) f ch from funext (su_cong z4)] at z1
    refine op_q hw hm hE0 hJ0 hi h1 h2 (r := KT (tdB p f ch ba false) (pnv p) x) ⟨k0, z1, z2, z3⟩ (fun k hk => ?_)
    have hk0 := hk; obtain ⟨⟨ms, mn, mo, ml, mv, me, mf, mw, w0⟩, wA, wT, wI, s3, s7, s8, s9, s10⟩ := hk
    obtain ⟨k2, e2, s2, f2⟩ := m_told w0 wA hr hc s3 false x; exact ⟨k2, e2, mW_q hk0 s2 f2⟩
theorem o_spread (hv : INV h X C) (x : Int32) : op h X C 145 203 [.int x] := by
  obtain ⟨E, J, im, A, T, I, mt, mk, mp, mu, hw, hm, hE, hJ, hi, h1, h2⟩ := hv
  obtain ⟨⟨tb, tl⟩, ⟨p, rk, tg, f⟩, ⟨ch, ba⟩, ⟨fk, fp⟩, ⟨an, aw, af⟩, ⟨rs, hd⟩⟩ := E
  obtain ⟨kn, pl, bf, jt, nx, am⟩ := J
  have hE0 := hE
  have hJ0 := hJ
  obtain ⟨t, q1, q2, q3, q4, q5, q6, hr, hc, hx⟩ := hE
  obtain ⟨j1, j2, j3, j4⟩ := hJ
  have hwf := hc.1
  have hn20 := hr.1.2.1
  have hn4 := hr.1.1
  cases cx : isV 21 x with
  | false =>
    refine op_q hw hm hE0 hJ0 hi h1 h2 (r := -1) ⟨h, c_spread_bad hw cx, hw, frm_refl _ _ _⟩ (fun k hk => ?_)
    have hk0 := hk; obtain ⟨⟨ms, mn, mo, ml, mv, me, mf, mw, w0⟩, wA, wT, wI, s3, s7, s8, s9, s10⟩ := hk
    exact ⟨k, m_spread_bad w0 wA cx, hk0, frm_refl _ _ _⟩
  | true =>
    obtain ⟨m, hm1, rfl⟩ := (isV_iff (by omega)).mp cx
    obtain ⟨k0, lf, z1, z2, z3, z4⟩ := c_spread_ok hw hwf hm1
    rw [fb_ct_cong (q := fun q => pb (fun b => lfW p f ch ba b (-1) (-1)) q && decide (pc (linOf p (tg q) (pnv p)) = m)) (fun q hq => by rw [pb_cong z4 hq])] at z1
    refine op_q hw hm hE0 hJ0 hi h1 h2 ⟨k0, z1, z2, z3⟩ (fun k hk => ?_)
    have hk0 := hk; obtain ⟨⟨ms, mn, mo, ml, mv, me, mf, mw, w0⟩, wA, wT, wI, s3, s7, s8, s9, s10⟩ := hk
    obtain ⟨g9, a9⟩ := s9
    obtain ⟨k2, e2, s2, s29, f2, f2s⟩ := m_spread_ok w0 wA hr hc s3 a9 hm1
    have q := fun b hb => f2.2.2.2 b hb
    obtain ⟨V7, a7⟩ := s7
    obtain ⟨g8, a8⟩ := s8
    obtain ⟨o, pa, go, ho, hqq, b0, b1, b2, b3, b4⟩ := s10
    exact ⟨k2, e2, ⟨⟨ms, mn, mo, ml, mv, me, mf, mw, (q _ (by omega)).trans w0⟩, (q _ (by omega)).trans wA, (q _ (by omega)).trans wT, (q _ (by omega)).trans wI, s2, ⟨V7, ar8_sam a7 (f2s _ (by omega) (by omega))⟩, ⟨g8, (f2s _ (by omega) (by omega)).trans a8⟩, s29, o, pa, go, ho, hqq, (q _ (by omega)).trans b0, (q _ (by omega)).trans b1, (q _ (by omega)).trans b2, (q _ (by omega)).trans b3, (q _ (by omega)).trans b4⟩, frm_mono f2 (by omega) (by omega)⟩
theorem ahd_cong {S S' : Nat → Bool} {R : Nat → Nat} (hS : ∀ q, q < 256 → S q = S' q) (r : Nat) : ahd S R r = ahd S' R r := fb_ct_cong (fun o ho => by
  unfold ahB
  rw [hS o ho])
theorem o_left (hv : INV h X C) (x : Int32) (sh : Bool) : op h X C 127 192 [.int x, .int (bI sh)] := by
  obtain ⟨E, J, im, A, T, I, mt, mk, mp, mu, hw, hm, hE, hJ, hi, h1, h2⟩ := hv
  obtain ⟨⟨tb, tl⟩, ⟨p, rk, tg, f⟩, ⟨ch, ba⟩, ⟨fk, fp⟩, ⟨an, aw, af⟩, ⟨rs, hd⟩⟩ := E
  obtain ⟨kn, pl, bf, jt, nx, am⟩ := J
  have hE0 := hE
  have hJ0 := hJ
  obtain ⟨t, q1, q2, q3, q4, q5, q6, hr, hc, hx⟩ := hE
  obtain ⟨j1, j2, j3, j4⟩ := hJ
  have hwf := hc.1
  have hn20 := hr.1.2.1
  have hn4 := hr.1.1
  cases sh with
  | false =>
    rcases neg_or x with hneg | ⟨j, hj, rfl⟩
    · refine op_q hw hm hE0 hJ0 hi h1 h2 (r := KT (pb (fun b => lfW p f ch ba b (-1) (-1))) 256 x) ⟨h, by rw [KT_neg hneg]; exact c_left_neg hw hneg false, hw, frm_refl _ _ _⟩ (fun k hk => ?_)
      have hk0 := hk; obtain ⟨⟨ms, mn, mo, ml, mv, me, mf, mw, w0⟩, wA, wT, wI, s3, s7, s8, s9, s10⟩ := hk
      obtain ⟨k2, e2, s2, f2⟩ := m_left_plain w0 wA hr hc s3 x; exact ⟨k2, e2, mW_q hk0 s2 f2⟩
    · obtain ⟨k0, lf, z1, z2, z3, z4⟩ := c_left_plain hw hwf (nI_nlt0 hj)
      rw [KT_cong (q := pb (fun b => lfW p f ch ba b (-1) (-1))) (fun q hq => pb_cong z4 hq)] at z1
      refine op_q hw hm hE0 hJ0 hi h1 h2 ⟨k0, z1, z2, z3⟩ (fun k hk => ?_)
      have hk0 := hk; obtain ⟨⟨ms, mn, mo, ml, mv, me, mf, mw, w0⟩, wA, wT, wI, s3, s7, s8, s9, s10⟩ := hk
      obtain ⟨k2, e2, s2, f2⟩ := m_left_plain w0 wA hr hc s3 (nI j); exact ⟨k2, e2, mW_q hk0 s2 f2⟩
  | true =>
    rcases neg_or x with hneg | ⟨j, hj, rfl⟩
    · have e : FI (fun r => pb (fun b => lfW p f ch ba b (-1) (-1)) r && decide (nI (ahd (pb (fun b => lfW p f ch ba b (-1) (-1))) (fun q => (rk q).toNatClampNeg) r) = x)) 256 = -1 := FI_none (fun i hi1 => by
        have hle : ahd (pb (fun b => lfW p f ch ba b (-1) (-1))) (fun q => (rk q).toNatClampNeg) i ≤ 256 := fb_ct_le _ _
        rw [decide_eq_false (fun z => by rw [← z] at hneg; exact nI_nlt0 (by omega) hneg), Bool.and_false])
      refine op_q hw hm hE0 hJ0 hi h1 h2 (r := FI (fun r => pb (fun b => lfW p f ch ba b (-1) (-1)) r && decide (nI (ahd (pb (fun b => lfW p f ch ba b (-1) (-1))) (fun q => (rk q).toNatClampNeg) r) = x)) 256) ⟨h, by rw [e]; exact c_left_neg hw hneg true, hw, frm_refl _ _ _⟩ (fun k hk => ?_)
      have hk0 := hk; obtain ⟨⟨ms, mn, mo, ml, mv, me, mf, mw, w0⟩, wA, wT, wI, s3, s7, s8, s9, s10⟩ := hk
      obtain ⟨k2, e2, s2, f2⟩ := m_left_shown w0 wA hr hc s3 x; exact ⟨k2, e2, mW_q hk0 s2 f2⟩
    · obtain ⟨k0, lf, z1, z2, z3, z4⟩ := c_left_shown hw hwf hj
      have hR : ∀ q, q < 256 → pb lf q = true → rk q = nI ((fun q => (rk q).toNatClampNeg) q) ∧ (fun q => (rk q).toNatClampNeg) q < 1000 := by
        intro q hq hp
        rw [pb_cong z4 hq] at hp
        unfold pb at hp
        have g1 := ((lf_bt hc.1 f ch ba (-1) (-1) (show q % 32 < 32 by omega) hn20).mp hp).1
        rw [hc.2.2.2.2.1 q hq, Bool.not_eq_true', decide_eq_false_iff_not] at g1
        rcases (hc.2.2.2.1 q hq).2 with ⟨c, _⟩ | ⟨a, g3, g4⟩
        · exact absurd c g1
        · dsimp only
          rw [g4, nI_clamp (by omega)]
          exact ⟨rfl, g3⟩
      rw [shown_eq hR hj, FI_cong (q := fun r => pb (fun b => lfW p f ch ba b (-1) (-1)) r && decide (nI (ahd (pb (fun b => lfW p f ch ba b (-1) (-1))) (fun q => (rk q).toNatClampNeg) r) = nI j)) (fun r hr1 => by
        have hle : ahd (pb (fun b => lfW p f ch ba b (-1) (-1))) (fun q => (rk q).toNatClampNeg) r ≤ 256 := fb_ct_le _ _
        rw [pb_cong z4 hr1, ahd_cong (fun q hq => pb_cong z4 hq) r]
        have q := nI_eq (show ahd (pb (fun b => lfW p f ch ba b (-1) (-1))) (fun q => (rk q).toNatClampNeg) r < 2147483648 by omega) hj
        rw [decide_eq_decide.mpr q])] at z1
      refine op_q hw hm hE0 hJ0 hi h1 h2 ⟨k0, z1, z2, z3⟩ (fun k hk => ?_)
      have hk0 := hk; obtain ⟨⟨ms, mn, mo, ml, mv, me, mf, mw, w0⟩, wA, wT, wI, s3, s7, s8, s9, s10⟩ := hk
      obtain ⟨k2, e2, s2, f2⟩ := m_left_shown w0 wA hr hc s3 (nI j); exact ⟨k2, e2, mW_q hk0 s2 f2⟩
end
