/-! the acts -/
def refE (E : Ev) (r y : Int32) : Ev := (E.1, E.2.1, E.2.2.1, E.2.2.2.1, E.2.2.2.2.1, (r, y))
def wfP (p : Pl) : Prop := (∀ hd, hd < pnh p → ∃ fi si, pfi p hd = nI fi ∧ psi p hd = nI si ∧ fi + si ≤ pnv p ∧ ∀ v, v < pnv p → (pho p v = nI hd ↔ fi ≤ v ∧ v < fi + si)) ∧
  (∀ v, v < pnv p → (∃ hd, hd < pnh p ∧ pho p v = nI hd) ∧ ((ppa p v = -1 ∧ pli p v = sh1 v ||| nI 0) ∨ ∃ u, u < v ∧ ppa p v = nI u ∧ pho p u = pho p v ∧ pli p v = sh1 v ||| pli p u))
theorem wfP_F {p : Pl} (hw : wfP p) : wfF p := by
  intro hd hh
  obtain ⟨fi, si, e1, e2, e3, _⟩ := hw.1 hd hh
  exact ⟨fi, si, e1, e2, e3⟩
section
variable {h : zz_H} {X : Nat} {J : Jn} {im : Nat → Option Nat} {tb : Nat → Int32} {tl : Nat} {p : Pl} {rk tg f ch ba : Nat → Int32} {fk fp : Int32} {an : Bool} {aw : Int32} {af : Nat → Int32} {rs hd : Int32} {kn pl bf jt : Nat → Int32} {nx am : Nat}
theorem c_add_bad (hw : cW h X ((tb, tl), (p, rk, tg, f), (ch, ba), (fk, fp), (an, aw, af), (rs, hd)) J im) {x y : Int32} (hb : (isV 256 x && isV 1000 y) = false) : ∃ k, zz_run 84 [.ref X, .int x, .int y] h = some (some (.int (nI 1)), k) ∧ cW k X (refE ((tb, tl), (p, rk, tg, f), (ch, ba), (fk, fp), (an, aw, af), (rs, hd)) (nI 1) (-1)) J im ∧ frm h k X (X + 57) := by
  obtain ⟨k, r, A, g⟩ := c_refuse hw (nI 1)
  have w0 := hw.1
  rw [en84 w0]
  cases h1 : isV 256 x
  · simp (disch := first | assumption | exact zz_nl_i _ | exact zz_nl_r _ | exact zz_nl_n | exact okv_i _ | exact okv_j _ | exact okv_0 | exact okv_1 | exact okv_o _ _ | exact okv_a _ _ | omega | exact llt_0 | ((repeat apply llt_s) <;> exact llt_0) | fail) only [x84, c_isRecord, h1, bI_f, if_true, r, mo_k_v, mo_k_n, mo_v_e, mo_gf_e, mo_pf_e, mo_ia_e, mo_ba_e, mo_za_e, mo_la_e, mo_aa_e, mo_le_e, mo_is_e, mo_bs_e, mo_zs_0, mo_zs_1, mo_ls_e, mo_as_e, mo_na_e, mo_aci_e, mo_acb_e, mo_acj_e, hp_gs, hp_gn, hp_ss, List.getElem?_cons_zero, List.getElem?_cons_succ, List.set_cons_zero, List.set_cons_succ]
    exact ⟨_, rfl, A, g⟩
  · rw [h1, Bool.true_and] at hb
    simp (disch := first | assumption | exact zz_nl_i _ | exact zz_nl_r _ | exact zz_nl_n | exact okv_i _ | exact okv_j _ | exact okv_0 | exact okv_1 | exact okv_o _ _ | exact okv_a _ _ | omega | exact llt_0 | ((repeat apply llt_s) <;> exact llt_0) | fail) only [x84, c_isRecord, c_isRank, h1, hb, bI_f, bI_t, nI_01, if_false, if_true, r, mo_k_v, mo_k_n, mo_v_e, mo_gf_e, mo_pf_e, mo_ia_e, mo_ba_e, mo_za_e, mo_la_e, mo_aa_e, mo_le_e, mo_is_e, mo_bs_e, mo_zs_0, mo_zs_1, mo_ls_e, mo_as_e, mo_na_e, mo_aci_e, mo_acb_e, mo_acj_e, hp_gs, hp_gn, hp_ss, List.getElem?_cons_zero, List.getElem?_cons_succ, List.set_cons_zero, List.set_cons_succ]
    exact ⟨_, rfl, A, g⟩
theorem c_add_there (hw : cW h X ((tb, tl), (p, rk, tg, f), (ch, ba), (fk, fp), (an, aw, af), (rs, hd)) J im) {x y : Int32} (hb : (isV 256 x && isV 1000 y) = true) (ht : thrC rk x = true) : ∃ k, zz_run 84 [.ref X, .int x, .int y] h = some (some (.int (nI 2)), k) ∧ cW k X (refE ((tb, tl), (p, rk, tg, f), (ch, ba), (fk, fp), (an, aw, af), (rs, hd)) (nI 2) (-1)) J im ∧ frm h k X (X + 57) := by
  obtain ⟨k, r, A, g⟩ := c_refuse hw (nI 2)
  obtain ⟨w0, ⟨e0, e1, e2, e3, e4⟩, w2, w3, w4⟩ := hw
  obtain ⟨h1, h2⟩ := Bool.and_eq_true_iff.mp hb
  have t := c_isThere e2 x
  unfold fsO at w0
  unfold evO at e0
  rw [en84 w0]
  simp (disch := first | assumption | exact zz_nl_i _ | exact zz_nl_r _ | exact zz_nl_n | exact okv_i _ | exact okv_j _ | exact okv_0 | exact okv_1 | exact okv_o _ _ | exact okv_a _ _ | omega | exact llt_0 | ((repeat apply llt_s) <;> exact llt_0) | fail) only [x84, w0, e0, c_isRecord, c_isRank, h1, h2, bI_t, nI_01, if_false, t, ht, r, mo_k_v, mo_k_n, mo_v_e, mo_gf_e, mo_pf_e, mo_ia_e, mo_ba_e, mo_za_e, mo_la_e, mo_aa_e, mo_le_e, mo_is_e, mo_bs_e, mo_zs_0, mo_zs_1, mo_ls_e, mo_as_e, mo_na_e, mo_aci_e, mo_acb_e, mo_acj_e, hp_gs, hp_gn, hp_ss, List.getElem?_cons_zero, List.getElem?_cons_succ, List.set_cons_zero, List.set_cons_succ]
  exact ⟨_, rfl, A, g⟩
theorem c_add_ok (hw : cW h X ((tb, tl), (p, rk, tg, f), (ch, ba), (fk, fp), (an, aw, af), (rs, hd)) (kn, pl, bf, jt, nx, am) im) {q : Nat} {y : Int32} (hq : q < 256) (hy : isV 1000 y = true) (ht : thrC rk (nI q) = false) : ∃ k, zz_run 84 [.ref X, .int (nI q), .int y] h = some (some (.int (nI 0)), k) ∧ cW k X (chgE ((tb, tl), (p, rk, tg, f), (ch, ba), (fk, fp), (an, aw, af), (rs, hd)) q y (nI 0)) (jnN (kn, pl, bf, jt, nx, am) (nI 0) (nI q) (rk q) (tg q)) im ∧ frm h k X (X + 57) := by
  obtain ⟨k, r, A, g⟩ := c_changeRecord hw hq y (nI 0)
  obtain ⟨w0, ⟨e0, e1, e2, e3, e4⟩, w2, w3, w4⟩ := hw
  have h1 := isV_nI (n := 256) (by omega) hq
  have t := c_isThere e2 (nI q)
  unfold fsO at w0
  unfold evO at e0
  rw [en84 w0]
  simp (disch := first | assumption | exact zz_nl_i _ | exact zz_nl_r _ | exact zz_nl_n | exact okv_i _ | exact okv_j _ | exact okv_0 | exact okv_1 | exact okv_o _ _ | exact okv_a _ _ | omega | exact llt_0 | ((repeat apply llt_s) <;> exact llt_0) | fail) only [x84, w0, e0, c_isRecord, c_isRank, h1, hy, bI_t, bI_f, nI_01, if_false, if_true, t, ht, r, mo_k_v, mo_k_n, mo_v_e, mo_gf_e, mo_pf_e, mo_ia_e, mo_ba_e, mo_za_e, mo_la_e, mo_aa_e, mo_le_e, mo_is_e, mo_bs_e, mo_zs_0, mo_zs_1, mo_ls_e, mo_as_e, mo_na_e, mo_aci_e, mo_acb_e, mo_acj_e, hp_gs, hp_gn, hp_ss, List.getElem?_cons_zero, List.getElem?_cons_succ, List.set_cons_zero, List.set_cons_succ]
  exact ⟨_, rfl, A, g⟩
theorem c_drop_bad (hw : cW h X ((tb, tl), (p, rk, tg, f), (ch, ba), (fk, fp), (an, aw, af), (rs, hd)) J im) {x : Int32} (hb : isV 256 x = false) : ∃ k, zz_run 91 [.ref X, .int x] h = some (some (.int (nI 1)), k) ∧ cW k X (refE ((tb, tl), (p, rk, tg, f), (ch, ba), (fk, fp), (an, aw, af), (rs, hd)) (nI 1) (-1)) J im ∧ frm h k X (X + 57) := by
  obtain ⟨k, r, A, g⟩ := c_refuse hw (nI 1)
  have w0 := hw.1
  rw [en91 w0]
  simp (disch := first | assumption | exact zz_nl_i _ | exact zz_nl_r _ | exact zz_nl_n | exact okv_i _ | exact okv_j _ | exact okv_0 | exact okv_1 | exact okv_o _ _ | exact okv_a _ _ | omega | exact llt_0 | ((repeat apply llt_s) <;> exact llt_0) | fail) only [x91, c_isRecord, hb, bI_f, if_true, r, mo_k_v, mo_k_n, mo_v_e, mo_gf_e, mo_pf_e, mo_ia_e, mo_ba_e, mo_za_e, mo_la_e, mo_aa_e, mo_le_e, mo_is_e, mo_bs_e, mo_zs_0, mo_zs_1, mo_ls_e, mo_as_e, mo_na_e, mo_aci_e, mo_acb_e, mo_acj_e, hp_gs, hp_gn, hp_ss, List.getElem?_cons_zero, List.getElem?_cons_succ, List.set_cons_zero, List.set_cons_succ]
  exact ⟨_, rfl, A, g⟩
theorem c_drop_not (hw : cW h X ((tb, tl), (p, rk, tg, f), (ch, ba), (fk, fp), (an, aw, af), (rs, hd)) J im) {x : Int32} (hb : isV 256 x = true) (ht : thrC rk x = false) : ∃ k, zz_run 91 [.ref X, .int x] h = some (some (.int (nI 3)), k) ∧ cW k X (refE ((tb, tl), (p, rk, tg, f), (ch, ba), (fk, fp), (an, aw, af), (rs, hd)) (nI 3) (-1)) J im ∧ frm h k X (X + 57) := by
  obtain ⟨k, r, A, g⟩ := c_refuse hw (nI 3)
  obtain ⟨w0, ⟨e0, e1, e2, e3, e4⟩, w2, w3, w4⟩ := hw
  have t := c_isThere e2 x
  unfold fsO at w0
  unfold evO at e0
  rw [en91 w0]
  simp (disch := first | assumption | exact zz_nl_i _ | exact zz_nl_r _ | exact zz_nl_n | exact okv_i _ | exact okv_j _ | exact okv_0 | exact okv_1 | exact okv_o _ _ | exact okv_a _ _ | omega | exact llt_0 | ((repeat apply llt_s) <;> exact llt_0) | fail) only [x91, w0, e0, c_isRecord, hb, bI_t, bI_f, nI_01, if_false, if_true, t, ht, r, mo_k_v, mo_k_n, mo_v_e, mo_gf_e, mo_pf_e, mo_ia_e, mo_ba_e, mo_za_e, mo_la_e, mo_aa_e, mo_le_e, mo_is_e, mo_bs_e, mo_zs_0, mo_zs_1, mo_ls_e, mo_as_e, mo_na_e, mo_aci_e, mo_acb_e, mo_acj_e, hp_gs, hp_gn, hp_ss, List.getElem?_cons_zero, List.getElem?_cons_succ, List.set_cons_zero, List.set_cons_succ]
  exact ⟨_, rfl, A, g⟩
theorem c_drop_ok (hw : cW h X ((tb, tl), (p, rk, tg, f), (ch, ba), (fk, fp), (an, aw, af), (rs, hd)) (kn, pl, bf, jt, nx, am) im) {q : Nat} (hq : q < 256) (ht : thrC rk (nI q) = true) : ∃ k, zz_run 91 [.ref X, .int (nI q)] h = some (some (.int (nI 0)), k) ∧ cW k X (chgE ((tb, tl), (p, rk, tg, f), (ch, ba), (fk, fp), (an, aw, af), (rs, hd)) q (-1) (nI 0)) (jnN (kn, pl, bf, jt, nx, am) (nI 0) (nI q) (rk q) (tg q)) im ∧ frm h k X (X + 57) := by
  obtain ⟨k, r, A, g⟩ := c_changeRecord hw hq (-1) (nI 0)
  obtain ⟨w0, ⟨e0, e1, e2, e3, e4⟩, w2, w3, w4⟩ := hw
  have h1 := isV_nI (n := 256) (by omega) hq
  have t := c_isThere e2 (nI q)
  unfold fsO at w0
  unfold evO at e0
  rw [en91 w0]
  simp (disch := first | assumption | exact zz_nl_i _ | exact zz_nl_r _ | exact zz_nl_n | exact okv_i _ | exact okv_j _ | exact okv_0 | exact okv_1 | exact okv_o _ _ | exact okv_a _ _ | omega | exact llt_0 | ((repeat apply llt_s) <;> exact llt_0) | fail) only [x91, w0, e0, c_isRecord, h1, bI_t, bI_f, nI_01, if_false, if_true, t, ht, r, mo_k_v, mo_k_n, mo_v_e, mo_gf_e, mo_pf_e, mo_ia_e, mo_ba_e, mo_za_e, mo_la_e, mo_aa_e, mo_le_e, mo_is_e, mo_bs_e, mo_zs_0, mo_zs_1, mo_ls_e, mo_as_e, mo_na_e, mo_aci_e, mo_acb_e, mo_acj_e, hp_gs, hp_gn, hp_ss, List.getElem?_cons_zero, List.getElem?_cons_succ, List.set_cons_zero, List.set_cons_succ]
  exact ⟨_, rfl, A, g⟩
theorem c_tag_bad (hw : cW h X ((tb, tl), (p, rk, tg, f), (ch, ba), (fk, fp), (an, aw, af), (rs, hd)) J im) {x y : Int32} (hb : (isV 256 x && isV (pnv p) y) = false) : ∃ k, zz_run 92 [.ref X, .int x, .int y] h = some (some (.int (nI 1)), k) ∧ cW k X (refE ((tb, tl), (p, rk, tg, f), (ch, ba), (fk, fp), (an, aw, af), (rs, hd)) (nI 1) (-1)) J im ∧ frm h k X (X + 57) := by
  obtain ⟨k, r, A, g⟩ := c_refuse hw (nI 1)
  obtain ⟨w0, ⟨e0, e1, e2, e3, e4⟩, w2, w3, w4⟩ := hw
  have v := c_isValue e2.2.1 y
  have t0 := e2.1
  unfold fsO at w0
  unfold evO at e0
  rw [en92 w0]
  cases h1 : isV 256 x
  · simp (disch := first | assumption | exact zz_nl_i _ | exact zz_nl_r _ | exact zz_nl_n | exact okv_i _ | exact okv_j _ | exact okv_0 | exact okv_1 | exact okv_o _ _ | exact okv_a _ _ | omega | exact llt_0 | ((repeat apply llt_s) <;> exact llt_0) | fail) only [x92_p0, x92_p1, w0, e0, c_isRecord, h1, bI_f, if_true, r, mo_k_v, mo_k_n, mo_v_e, mo_gf_e, mo_pf_e, mo_ia_e, mo_ba_e, mo_za_e, mo_la_e, mo_aa_e, mo_le_e, mo_is_e, mo_bs_e, mo_zs_0, mo_zs_1, mo_ls_e, mo_as_e, mo_na_e, mo_aci_e, mo_acb_e, mo_acj_e, hp_gs, hp_gn, hp_ss, List.getElem?_cons_zero, List.getElem?_cons_succ, List.set_cons_zero, List.set_cons_succ]
    exact ⟨_, rfl, A, g⟩
  · rw [h1, Bool.true_and] at hb
    simp (disch := first | assumption | exact zz_nl_i _ | exact zz_nl_r _ | exact zz_nl_n | exact okv_i _ | exact okv_j _ | exact okv_0 | exact okv_1 | exact okv_o _ _ | exact okv_a _ _ | omega | exact llt_0 | ((repeat apply llt_s) <;> exact llt_0) | fail) only [x92_p0, x92_p1, w0, e0, t0, c_isRecord, v, h1, hb, bI_f, bI_t, nI_01, if_false, if_true, r, mo_k_v, mo_k_n, mo_v_e, mo_gf_e, mo_pf_e, mo_ia_e, mo_ba_e, mo_za_e, mo_la_e, mo_aa_e, mo_le_e, mo_is_e, mo_bs_e, mo_zs_0, mo_zs_1, mo_ls_e, mo_as_e, mo_na_e, mo_aci_e, mo_acb_e, mo_acj_e, hp_gs, hp_gn, hp_ss, List.getElem?_cons_zero, List.getElem?_cons_succ, List.set_cons_zero, List.set_cons_succ]
    exact ⟨_, rfl, A, g⟩
theorem c_tag_not (hw : cW h X ((tb, tl), (p, rk, tg, f), (ch, ba), (fk, fp), (an, aw, af), (rs, hd)) J im) {x y : Int32} (hb : (isV 256 x && isV (pnv p) y) = true) (ht : thrC rk x = false) : ∃ k, zz_run 92 [.ref X, .int x, .int y] h = some (some (.int (nI 3)), k) ∧ cW k X (refE ((tb, tl), (p, rk, tg, f), (ch, ba), (fk, fp), (an, aw, af), (rs, hd)) (nI 3) (-1)) J im ∧ frm h k X (X + 57) := by
  obtain ⟨k, r, A, g⟩ := c_refuse hw (nI 3)
  obtain ⟨w0, ⟨e0, e1, e2, e3, e4⟩, w2, w3, w4⟩ := hw
  obtain ⟨h1, h2⟩ := Bool.and_eq_true_iff.mp hb
  have v := c_isValue e2.2.1 y
  have t := c_isThere e2 x
  have t0 := e2.1
  unfold fsO at w0
  unfold evO at e0
  rw [en92 w0]
  simp (disch := first | assumption | exact zz_nl_i _ | exact zz_nl_r _ | exact zz_nl_n | exact okv_i _ | exact okv_j _ | exact okv_0 | exact okv_1 | exact okv_o _ _ | exact okv_a _ _ | omega | exact llt_0 | ((repeat apply llt_s) <;> exact llt_0) | fail) only [x92_p0, x92_p1, w0, e0, t0, c_isRecord, v, h1, h2, bI_f, bI_t, nI_01, if_false, if_true, t, ht, r, mo_k_v, mo_k_n, mo_v_e, mo_gf_e, mo_pf_e, mo_ia_e, mo_ba_e, mo_za_e, mo_la_e, mo_aa_e, mo_le_e, mo_is_e, mo_bs_e, mo_zs_0, mo_zs_1, mo_ls_e, mo_as_e, mo_na_e, mo_aci_e, mo_acb_e, mo_acj_e, hp_gs, hp_gn, hp_ss, List.getElem?_cons_zero, List.getElem?_cons_succ, List.set_cons_zero, List.set_cons_succ]
  exact ⟨_, rfl, A, g⟩
theorem c_tag_has (hw : cW h X ((tb, tl), (p, rk, tg, f), (ch, ba), (fk, fp), (an, aw, af), (rs, hd)) J im) {q v : Nat} (hq : q < 256) (hv : v < pnv p) (ht : thrC rk (nI q) = true) (hb : bt (tg q) v = true) : ∃ k, zz_run 92 [.ref X, .int (nI q), .int (nI v)] h = some (some (.int (nI 2)), k) ∧ cW k X (refE ((tb, tl), (p, rk, tg, f), (ch, ba), (fk, fp), (an, aw, af), (rs, hd)) (nI 2) (-1)) J im ∧ frm h k X (X + 57) := by
  obtain ⟨k, r, A, g⟩ := c_refuse hw (nI 2)
  obtain ⟨w0, ⟨e0, e1, e2, e3, e4⟩, w2, w3, w4⟩ := hw
  have q2 := e2.2.1.2.2.2.2.2.2.2.2.2.2
  have h1 := isV_nI (n := 256) (by omega) hq
  have h2 := isV_nI (n := pnv p) (by omega) hv
  have v1 := c_isValue e2.2.1 (nI v)
  have t := c_isThere e2 (nI q)
  have hv32 : v < 32 := by omega
  obtain ⟨t0, t1, t2, t3, t4⟩ := e2
  unfold fsO at w0
  unfold evO at e0
  rw [en92 w0]
  simp (disch := first | assumption | exact zz_nl_i _ | exact zz_nl_r _ | exact zz_nl_n | exact okv_i _ | exact okv_j _ | exact okv_0 | exact okv_1 | exact okv_o _ _ | exact okv_a _ _ | omega | exact llt_0 | ((repeat apply llt_s) <;> exact llt_0) | fail) only [x92_p0, x92_p1, w0, e0, t0, t3, c_isRecord, v1, h1, h2, bI_f, bI_t, nI_01, if_false, if_true, t, ht, c_hasBit hv32, hb, r, mo_k_v, mo_k_n, mo_v_e, mo_gf_e, mo_pf_e, mo_ia_e, mo_ba_e, mo_za_e, mo_la_e, mo_aa_e, mo_le_e, mo_is_e, mo_bs_e, mo_zs_0, mo_zs_1, mo_ls_e, mo_as_e, mo_na_e, mo_aci_e, mo_acb_e, mo_acj_e, hp_gs, hp_gn, hp_ss, List.getElem?_cons_zero, List.getElem?_cons_succ, List.set_cons_zero, List.set_cons_succ]
  exact ⟨_, rfl, A, g⟩
theorem c_tag_held (hw : cW h X ((tb, tl), (p, rk, tg, f), (ch, ba), (fk, fp), (an, aw, af), (rs, hd)) J im) (hwf : wfP p) {q v : Nat} (hq : q < 256) (hv : v < pnv p) (ht : thrC rk (nI q) = true) (hb : bt (tg q) v = false) (hh : ¬ hldC p (tg q) v = -1) : ∃ k, zz_run 92 [.ref X, .int (nI q), .int (nI v)] h = some (some (.int (nI 4)), k) ∧ cW k X (refE ((tb, tl), (p, rk, tg, f), (ch, ba), (fk, fp), (an, aw, af), (rs, hd)) (nI 4) (hldC p (tg q) v)) J im ∧ frm h k X (X + 57) := by
  obtain ⟨r, A, g⟩ := cW_note hw (nI 4) (hldC p (tg q) v)
  obtain ⟨w0, ⟨e0, e1, e2, e3, e4⟩, w2, w3, w4⟩ := hw
  have q2 := e2.2.1.2.2.2.2.2.2.2.2.2.2
  have q1 := e2.2.1.2.2.2.2.2.2.2.2.2.1
  have h1 := isV_nI (n := 256) (by omega) hq
  have h2 := isV_nI (n := pnv p) (by omega) hv
  have v1 := c_isValue e2.2.1 (nI v)
  have t := c_isThere e2 (nI q)
  have hv32 : v < 32 := by omega
  obtain ⟨d, hd1, hd2⟩ := (hwf.2 v hv).1
  obtain ⟨fi, si, f1, f2, f3, _⟩ := hwf.1 d hd1
  have hc := c_holder e2.2.1 (show v < 20 by omega) hd2 (show d < 4 by omega) f1 f2 (by omega) (tg q)
  obtain ⟨t0, t1, t2, t3, t4⟩ := e2
  unfold fsO at w0
  unfold evO at e0 r
  rw [en92 w0]
  simp (disch := first | assumption | exact zz_nl_i _ | exact zz_nl_r _ | exact zz_nl_n | exact okv_i _ | exact okv_j _ | exact okv_0 | exact okv_1 | exact okv_o _ _ | exact okv_a _ _ | omega | exact llt_0 | ((repeat apply llt_s) <;> exact llt_0) | fail) only [x92_p0, x92_p1, w0, e0, t0, t3, c_isRecord, v1, h1, h2, bI_f, bI_t, nI_01, if_false, if_true, t, ht, c_hasBit hv32, hb, Bool.false_eq_true, hc, hh, r, mo_k_v, mo_k_n, mo_v_e, mo_gf_e, mo_pf_e, mo_ia_e, mo_ba_e, mo_za_e, mo_la_e, mo_aa_e, mo_le_e, mo_is_e, mo_bs_e, mo_zs_0, mo_zs_1, mo_ls_e, mo_as_e, mo_na_e, mo_aci_e, mo_acb_e, mo_acj_e, hp_gs, hp_gn, hp_ss, List.getElem?_cons_zero, List.getElem?_cons_succ, List.set_cons_zero, List.set_cons_succ]
  exact ⟨_, rfl, A, g⟩
theorem c_tag_ok (hw : cW h X ((tb, tl), (p, rk, tg, f), (ch, ba), (fk, fp), (an, aw, af), (rs, hd)) (kn, pl, bf, jt, nx, am) im) (hwf : wfP p) {q v : Nat} (hq : q < 256) (hv : v < pnv p) (ht : thrC rk (nI q) = true) (hb : bt (tg q) v = false) (hh : hldC p (tg q) v = -1) : ∃ k, zz_run 92 [.ref X, .int (nI q), .int (nI v)] h = some (some (.int (nI 0)), k) ∧ cW k X (chgE ((tb, tl), (p, rk, tg, f), (ch, ba), (fk, fp), (an, aw, af), (rs, hd)) q (rk q) (tg q ||| sh1 v)) (jnN (kn, pl, bf, jt, nx, am) (nI 0) (nI q) (rk q) (tg q)) im ∧ frm h k X (X + 57) := by
  obtain ⟨k, r, A, g⟩ := c_changeRecord hw hq (rk q) (tg q ||| sh1 v)
  obtain ⟨w0, ⟨e0, e1, e2, e3, e4⟩, w2, w3, w4⟩ := hw
  have q2 := e2.2.1.2.2.2.2.2.2.2.2.2.2
  have q1 := e2.2.1.2.2.2.2.2.2.2.2.2.1
  have h1 := isV_nI (n := 256) (by omega) hq
  have h2 := isV_nI (n := pnv p) (by omega) hv
  have v1 := c_isValue e2.2.1 (nI v)
  have t := c_isThere e2 (nI q)
  have hv32 : v < 32 := by omega
  obtain ⟨d, hd1, hd2⟩ := (hwf.2 v hv).1
  obtain ⟨fi, si, f1, f2, f3, _⟩ := hwf.1 d hd1
  have hc := c_holder e2.2.1 (show v < 20 by omega) hd2 (show d < 4 by omega) f1 f2 (by omega) (tg q)
  obtain ⟨t0, t1, t2, t3, t4⟩ := e2
  unfold fsO at w0
  unfold evO at e0
  unfold sh1 at r
  rw [en92 w0]
  simp (disch := first | assumption | exact zz_nl_i _ | exact zz_nl_r _ | exact zz_nl_n | exact okv_i _ | exact okv_j _ | exact okv_0 | exact okv_1 | exact okv_o _ _ | exact okv_a _ _ | omega | exact llt_0 | ((repeat apply llt_s) <;> exact llt_0) | fail) only [x92_p0, x92_p1, w0, e0, t0, t2, t3, c_isRecord, v1, h1, h2, bI_f, bI_t, nI_01, if_false, if_true, t, ht, c_hasBit hv32, hb, Bool.false_eq_true, hc, hh, r, mo_k_v, mo_k_n, mo_v_e, mo_gf_e, mo_pf_e, mo_ia_e, mo_ba_e, mo_za_e, mo_la_e, mo_aa_e, mo_le_e, mo_is_e, mo_bs_e, mo_zs_0, mo_zs_1, mo_ls_e, mo_as_e, mo_na_e, mo_aci_e, mo_acb_e, mo_acj_e, hp_gs, hp_gn, hp_ss, List.getElem?_cons_zero, List.getElem?_cons_succ, List.set_cons_zero, List.set_cons_succ]
  exact ⟨_, rfl, A, g⟩
theorem c_untag_bad (hw : cW h X ((tb, tl), (p, rk, tg, f), (ch, ba), (fk, fp), (an, aw, af), (rs, hd)) J im) {x y : Int32} (hb : (isV 256 x && isV (pnv p) y) = false) : ∃ k, zz_run 93 [.ref X, .int x, .int y] h = some (some (.int (nI 1)), k) ∧ cW k X (refE ((tb, tl), (p, rk, tg, f), (ch, ba), (fk, fp), (an, aw, af), (rs, hd)) (nI 1) (-1)) J im ∧ frm h k X (X + 57) := by
  obtain ⟨k, r, A, g⟩ := c_refuse hw (nI 1)
  obtain ⟨w0, ⟨e0, e1, e2, e3, e4⟩, w2, w3, w4⟩ := hw
  have v := c_isValue e2.2.1 y
  have t0 := e2.1
  unfold fsO at w0
  unfold evO at e0
  rw [en93 w0]
  cases h1 : isV 256 x
  · simp (disch := first | assumption | exact zz_nl_i _ | exact zz_nl_r _ | exact zz_nl_n | exact okv_i _ | exact okv_j _ | exact okv_0 | exact okv_1 | exact okv_o _ _ | exact okv_a _ _ | omega | exact llt_0 | ((repeat apply llt_s) <;> exact llt_0) | fail) only [x93, w0, e0, c_isRecord, h1, bI_f, if_true, r, mo_k_v, mo_k_n, mo_v_e, mo_gf_e, mo_pf_e, mo_ia_e, mo_ba_e, mo_za_e, mo_la_e, mo_aa_e, mo_le_e, mo_is_e, mo_bs_e, mo_zs_0, mo_zs_1, mo_ls_e, mo_as_e, mo_na_e, mo_aci_e, mo_acb_e, mo_acj_e, hp_gs, hp_gn, hp_ss, List.getElem?_cons_zero, List.getElem?_cons_succ, List.set_cons_zero, List.set_cons_succ]
    exact ⟨_, rfl, A, g⟩
  · rw [h1, Bool.true_and] at hb
    simp (disch := first | assumption | exact zz_nl_i _ | exact zz_nl_r _ | exact zz_nl_n | exact okv_i _ | exact okv_j _ | exact okv_0 | exact okv_1 | exact okv_o _ _ | exact okv_a _ _ | omega | exact llt_0 | ((repeat apply llt_s) <;> exact llt_0) | fail) only [x93, w0, e0, t0, c_isRecord, v, h1, hb, bI_f, bI_t, nI_01, if_false, if_true, r, mo_k_v, mo_k_n, mo_v_e, mo_gf_e, mo_pf_e, mo_ia_e, mo_ba_e, mo_za_e, mo_la_e, mo_aa_e, mo_le_e, mo_is_e, mo_bs_e, mo_zs_0, mo_zs_1, mo_ls_e, mo_as_e, mo_na_e, mo_aci_e, mo_acb_e, mo_acj_e, hp_gs, hp_gn, hp_ss, List.getElem?_cons_zero, List.getElem?_cons_succ, List.set_cons_zero, List.set_cons_succ]
    exact ⟨_, rfl, A, g⟩
theorem c_untag_not (hw : cW h X ((tb, tl), (p, rk, tg, f), (ch, ba), (fk, fp), (an, aw, af), (rs, hd)) J im) {x y : Int32} (hb : (isV 256 x && isV (pnv p) y) = true) (ht : thrC rk x = false ∨ ∃ q v, q < 256 ∧ v < pnv p ∧ x = nI q ∧ y = nI v ∧ bt (tg q) v = false) : ∃ k, zz_run 93 [.ref X, .int x, .int y] h = some (some (.int (nI 3)), k) ∧ cW k X (refE ((tb, tl), (p, rk, tg, f), (ch, ba), (fk, fp), (an, aw, af), (rs, hd)) (nI 3) (-1)) J im ∧ frm h k X (X + 57) := by
  obtain ⟨k, r, A, g⟩ := c_refuse hw (nI 3)
  obtain ⟨w0, ⟨e0, e1, e2, e3, e4⟩, w2, w3, w4⟩ := hw
  have q2 := e2.2.1.2.2.2.2.2.2.2.2.2.2
  obtain ⟨h1, h2⟩ := Bool.and_eq_true_iff.mp hb
  have v := c_isValue e2.2.1 y
  have t := c_isThere e2 x
  obtain ⟨t0, t1, t2, t3, t4⟩ := e2
  unfold fsO at w0
  unfold evO at e0
  rw [en93 w0]
  cases ht1 : thrC rk x
  · simp (disch := first | assumption | exact zz_nl_i _ | exact zz_nl_r _ | exact zz_nl_n | exact okv_i _ | exact okv_j _ | exact okv_0 | exact okv_1 | exact okv_o _ _ | exact okv_a _ _ | omega | exact llt_0 | ((repeat apply llt_s) <;> exact llt_0) | fail) only [x93, w0, e0, t0, c_isRecord, v, h1, h2, bI_f, bI_t, nI_01, if_false, if_true, t, ht1, r, mo_k_v, mo_k_n, mo_v_e, mo_gf_e, mo_pf_e, mo_ia_e, mo_ba_e, mo_za_e, mo_la_e, mo_aa_e, mo_le_e, mo_is_e, mo_bs_e, mo_zs_0, mo_zs_1, mo_ls_e, mo_as_e, mo_na_e, mo_aci_e, mo_acb_e, mo_acj_e, hp_gs, hp_gn, hp_ss, List.getElem?_cons_zero, List.getElem?_cons_succ, List.set_cons_zero, List.set_cons_succ]
    exact ⟨_, rfl, A, g⟩
  · rcases ht with h3 | ⟨q, u, hq, hu, rfl, rfl, h3⟩
    · rw [ht1] at h3
      cases h3
    · have hu32 : u < 32 := by omega
      simp (disch := first | assumption | exact zz_nl_i _ | exact zz_nl_r _ | exact zz_nl_n | exact okv_i _ | exact okv_j _ | exact okv_0 | exact okv_1 | exact okv_o _ _ | exact okv_a _ _ | omega | exact llt_0 | ((repeat apply llt_s) <;> exact llt_0) | fail) only [x93, w0, e0, t0, t3, c_isRecord, v, h1, h2, bI_f, bI_t, nI_01, if_false, if_true, t, ht1, c_hasBit hu32, h3, Bool.false_eq_true, r, mo_k_v, mo_k_n, mo_v_e, mo_gf_e, mo_pf_e, mo_ia_e, mo_ba_e, mo_za_e, mo_la_e, mo_aa_e, mo_le_e, mo_is_e, mo_bs_e, mo_zs_0, mo_zs_1, mo_ls_e, mo_as_e, mo_na_e, mo_aci_e, mo_acb_e, mo_acj_e, hp_gs, hp_gn, hp_ss, List.getElem?_cons_zero, List.getElem?_cons_succ, List.set_cons_zero, List.set_cons_succ]
      exact ⟨_, rfl, A, g⟩
theorem c_untag_ok (hw : cW h X ((tb, tl), (p, rk, tg, f), (ch, ba), (fk, fp), (an, aw, af), (rs, hd)) (kn, pl, bf, jt, nx, am) im) {q v : Nat} (hq : q < 256) (hv : v < pnv p) (ht : thrC rk (nI q) = true) (hb : bt (tg q) v = true) : ∃ k, zz_run 93 [.ref X, .int (nI q), .int (nI v)] h = some (some (.int (nI 0)), k) ∧ cW k X (chgE ((tb, tl), (p, rk, tg, f), (ch, ba), (fk, fp), (an, aw, af), (rs, hd)) q (rk q) (tg q &&& (sh1 v ^^^ -1))) (jnN (kn, pl, bf, jt, nx, am) (nI 0) (nI q) (rk q) (tg q)) im ∧ frm h k X (X + 57) := by
  obtain ⟨k, r, A, g⟩ := c_changeRecord hw hq (rk q) (tg q &&& (sh1 v ^^^ -1))
  obtain ⟨w0, ⟨e0, e1, e2, e3, e4⟩, w2, w3, w4⟩ := hw
  have q2 := e2.2.1.2.2.2.2.2.2.2.2.2.2
  have h1 := isV_nI (n := 256) (by omega) hq
  have h2 := isV_nI (n := pnv p) (by omega) hv
  have v1 := c_isValue e2.2.1 (nI v)
  have t := c_isThere e2 (nI q)
  have hv32 : v < 32 := by omega
  obtain ⟨t0, t1, t2, t3, t4⟩ := e2
  unfold fsO at w0
  unfold evO at e0
  unfold sh1 at r
  rw [en93 w0]
  simp (disch := first | assumption | exact zz_nl_i _ | exact zz_nl_r _ | exact zz_nl_n | exact okv_i _ | exact okv_j _ | exact okv_0 | exact okv_1 | exact okv_o _ _ | exact okv_a _ _ | omega | exact llt_0 | ((repeat apply llt_s) <;> exact llt_0) | fail) only [x93, w0, e0, t0, t2, t3, c_isRecord, v1, h1, h2, bI_f, bI_t, nI_01, if_false, if_true, t, ht, c_hasBit hv32, hb, r, mo_k_v, mo_k_n, mo_v_e, mo_gf_e, mo_pf_e, mo_ia_e, mo_ba_e, mo_za_e, mo_la_e, mo_aa_e, mo_le_e, mo_is_e, mo_bs_e, mo_zs_0, mo_zs_1, mo_ls_e, mo_as_e, mo_na_e, mo_aci_e, mo_acb_e, mo_acj_e, hp_gs, hp_gn, hp_ss, List.getElem?_cons_zero, List.getElem?_cons_succ, List.set_cons_zero, List.set_cons_succ]
  exact ⟨_, rfl, A, g⟩
theorem c_rank_bad (hw : cW h X ((tb, tl), (p, rk, tg, f), (ch, ba), (fk, fp), (an, aw, af), (rs, hd)) J im) {x y : Int32} (hb : (isV 256 x && isV 1000 y) = false) : ∃ k, zz_run 94 [.ref X, .int x, .int y] h = some (some (.int (nI 1)), k) ∧ cW k X (refE ((tb, tl), (p, rk, tg, f), (ch, ba), (fk, fp), (an, aw, af), (rs, hd)) (nI 1) (-1)) J im ∧ frm h k X (X + 57) := by
  obtain ⟨k, r, A, g⟩ := c_refuse hw (nI 1)
  obtain ⟨w0, ⟨e0, e1, e2, e3, e4⟩, w2, w3, w4⟩ := hw
  unfold fsO at w0
  unfold evO at e0
  rw [en94 w0]
  cases h1 : isV 256 x
  · simp (disch := first | assumption | exact zz_nl_i _ | exact zz_nl_r _ | exact zz_nl_n | exact okv_i _ | exact okv_j _ | exact okv_0 | exact okv_1 | exact okv_o _ _ | exact okv_a _ _ | omega | exact llt_0 | ((repeat apply llt_s) <;> exact llt_0) | fail) only [x94, w0, e0, c_isRecord, h1, bI_f, if_true, r, mo_k_v, mo_k_n, mo_v_e, mo_gf_e, mo_pf_e, mo_ia_e, mo_ba_e, mo_za_e, mo_la_e, mo_aa_e, mo_le_e, mo_is_e, mo_bs_e, mo_zs_0, mo_zs_1, mo_ls_e, mo_as_e, mo_na_e, mo_aci_e, mo_acb_e, mo_acj_e, hp_gs, hp_gn, hp_ss, List.getElem?_cons_zero, List.getElem?_cons_succ, List.set_cons_zero, List.set_cons_succ]
    exact ⟨_, rfl, A, g⟩
  · rw [h1, Bool.true_and] at hb
    simp (disch := first | assumption | exact zz_nl_i _ | exact zz_nl_r _ | exact zz_nl_n | exact okv_i _ | exact okv_j _ | exact okv_0 | exact okv_1 | exact okv_o _ _ | exact okv_a _ _ | omega | exact llt_0 | ((repeat apply llt_s) <;> exact llt_0) | fail) only [x94, w0, e0, c_isRecord, c_isRank, h1, hb, bI_f, bI_t, nI_01, if_false, if_true, r, mo_k_v, mo_k_n, mo_v_e, mo_gf_e, mo_pf_e, mo_ia_e, mo_ba_e, mo_za_e, mo_la_e, mo_aa_e, mo_le_e, mo_is_e, mo_bs_e, mo_zs_0, mo_zs_1, mo_ls_e, mo_as_e, mo_na_e, mo_aci_e, mo_acb_e, mo_acj_e, hp_gs, hp_gn, hp_ss, List.getElem?_cons_zero, List.getElem?_cons_succ, List.set_cons_zero, List.set_cons_succ]
    exact ⟨_, rfl, A, g⟩
theorem c_rank_not (hw : cW h X ((tb, tl), (p, rk, tg, f), (ch, ba), (fk, fp), (an, aw, af), (rs, hd)) J im) {x y : Int32} (hb : (isV 256 x && isV 1000 y) = true) (ht : thrC rk x = false) : ∃ k, zz_run 94 [.ref X, .int x, .int y] h = some (some (.int (nI 3)), k) ∧ cW k X (refE ((tb, tl), (p, rk, tg, f), (ch, ba), (fk, fp), (an, aw, af), (rs, hd)) (nI 3) (-1)) J im ∧ frm h k X (X + 57) := by
  obtain ⟨k, r, A, g⟩ := c_refuse hw (nI 3)
  obtain ⟨w0, ⟨e0, e1, e2, e3, e4⟩, w2, w3, w4⟩ := hw
  obtain ⟨h1, h2⟩ := Bool.and_eq_true_iff.mp hb
  have t := c_isThere e2 x
  unfold fsO at w0
  unfold evO at e0
  rw [en94 w0]
  simp (disch := first | assumption | exact zz_nl_i _ | exact zz_nl_r _ | exact zz_nl_n | exact okv_i _ | exact okv_j _ | exact okv_0 | exact okv_1 | exact okv_o _ _ | exact okv_a _ _ | omega | exact llt_0 | ((repeat apply llt_s) <;> exact llt_0) | fail) only [x94, w0, e0, c_isRecord, c_isRank, h1, h2, bI_f, bI_t, nI_01, if_false, if_true, t, ht, r, mo_k_v, mo_k_n, mo_v_e, mo_gf_e, mo_pf_e, mo_ia_e, mo_ba_e, mo_za_e, mo_la_e, mo_aa_e, mo_le_e, mo_is_e, mo_bs_e, mo_zs_0, mo_zs_1, mo_ls_e, mo_as_e, mo_na_e, mo_aci_e, mo_acb_e, mo_acj_e, hp_gs, hp_gn, hp_ss, List.getElem?_cons_zero, List.getElem?_cons_succ, List.set_cons_zero, List.set_cons_succ]
  exact ⟨_, rfl, A, g⟩
theorem c_rank_same (hw : cW h X ((tb, tl), (p, rk, tg, f), (ch, ba), (fk, fp), (an, aw, af), (rs, hd)) J im) {q : Nat} {y : Int32} (hq : q < 256) (hy : isV 1000 y = true) (ht : thrC rk (nI q) = true) (he : rk q = y) : ∃ k, zz_run 94 [.ref X, .int (nI q), .int y] h = some (some (.int (nI 2)), k) ∧ cW k X (refE ((tb, tl), (p, rk, tg, f), (ch, ba), (fk, fp), (an, aw, af), (rs, hd)) (nI 2) (-1)) J im ∧ frm h k X (X + 57) := by
  obtain ⟨k, r, A, g⟩ := c_refuse hw (nI 2)
  obtain ⟨w0, ⟨e0, e1, e2, e3, e4⟩, w2, w3, w4⟩ := hw
  have h1 := isV_nI (n := 256) (by omega) hq
  have t := c_isThere e2 (nI q)
  obtain ⟨t0, t1, t2, t3, t4⟩ := e2
  unfold fsO at w0
  unfold evO at e0
  rw [en94 w0]
  simp (disch := first | assumption | exact zz_nl_i _ | exact zz_nl_r _ | exact zz_nl_n | exact okv_i _ | exact okv_j _ | exact okv_0 | exact okv_1 | exact okv_o _ _ | exact okv_a _ _ | omega | exact llt_0 | ((repeat apply llt_s) <;> exact llt_0) | fail) only [x94, w0, e0, t0, t2, c_isRecord, c_isRank, h1, hy, bI_f, bI_t, nI_01, if_false, if_true, t, ht, he, r, mo_k_v, mo_k_n, mo_v_e, mo_gf_e, mo_pf_e, mo_ia_e, mo_ba_e, mo_za_e, mo_la_e, mo_aa_e, mo_le_e, mo_is_e, mo_bs_e, mo_zs_0, mo_zs_1, mo_ls_e, mo_as_e, mo_na_e, mo_aci_e, mo_acb_e, mo_acj_e, hp_gs, hp_gn, hp_ss, List.getElem?_cons_zero, List.getElem?_cons_succ, List.set_cons_zero, List.set_cons_succ]
  exact ⟨_, rfl, A, g⟩
theorem c_rank_ok (hw : cW h X ((tb, tl), (p, rk, tg, f), (ch, ba), (fk, fp), (an, aw, af), (rs, hd)) (kn, pl, bf, jt, nx, am) im) {q : Nat} {y : Int32} (hq : q < 256) (hy : isV 1000 y = true) (ht : thrC rk (nI q) = true) (he : ¬ rk q = y) : ∃ k, zz_run 94 [.ref X, .int (nI q), .int y] h = some (some (.int (nI 0)), k) ∧ cW k X (chgE ((tb, tl), (p, rk, tg, f), (ch, ba), (fk, fp), (an, aw, af), (rs, hd)) q y (tg q)) (jnN (kn, pl, bf, jt, nx, am) (nI 0) (nI q) (rk q) (tg q)) im ∧ frm h k X (X + 57) := by
  obtain ⟨k, r, A, g⟩ := c_changeRecord hw hq y (tg q)
  obtain ⟨w0, ⟨e0, e1, e2, e3, e4⟩, w2, w3, w4⟩ := hw
  have h1 := isV_nI (n := 256) (by omega) hq
  have t := c_isThere e2 (nI q)
  obtain ⟨t0, t1, t2, t3, t4⟩ := e2
  unfold fsO at w0
  unfold evO at e0
  rw [en94 w0]
  simp (disch := first | assumption | exact zz_nl_i _ | exact zz_nl_r _ | exact zz_nl_n | exact okv_i _ | exact okv_j _ | exact okv_0 | exact okv_1 | exact okv_o _ _ | exact okv_a _ _ | omega | exact llt_0 | ((repeat apply llt_s) <;> exact llt_0) | fail) only [x94, w0, e0, t0, t2, t3, c_isRecord, c_isRank, h1, hy, bI_f, bI_t, nI_01, if_false, if_true, t, ht, he, r, mo_k_v, mo_k_n, mo_v_e, mo_gf_e, mo_pf_e, mo_ia_e, mo_ba_e, mo_za_e, mo_la_e, mo_aa_e, mo_le_e, mo_is_e, mo_bs_e, mo_zs_0, mo_zs_1, mo_ls_e, mo_as_e, mo_na_e, mo_aci_e, mo_acb_e, mo_acj_e, hp_gs, hp_gn, hp_ss, List.getElem?_cons_zero, List.getElem?_cons_succ, List.set_cons_zero, List.set_cons_succ]
  exact ⟨_, rfl, A, g⟩
end
