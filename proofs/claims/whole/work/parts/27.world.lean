/-! the class's object as it lies in the heap -/
abbrev Sk : Type := Pl × (Nat → Int32) × (Nat → Int32) × (Nat → Int32)
abbrev Ev : Type := ((Nat → Int32) × Nat) × Sk × ((Nat → Int32) × (Nat → Int32)) × (Int32 × Int32) × (Bool × Int32 × (Nat → Int32)) × (Int32 × Int32)
abbrev Jn : Type := (Nat → Int32) × (Nat → Int32) × (Nat → Int32) × (Nat → Int32) × Nat × Nat
def isEv (h : zz_H) (a : Nat) (E : Ev) : Prop := match E with
  | ((tb, tl), (p, rk, tg, f), (ch, ba), (fk, fp), (an, aw, af), (rs, hd)) => hp_g h a = some (evO a fk fp an aw rs hd) ∧ isTape h (a + 1) tb tl ∧ isStock h (a + 3) p rk tg f ∧ isChoice h (a + 17) ch ba ∧ isSets h (a + 20) 1 af
def isJn (h : zz_H) (a : Nat) (J : Jn) : Prop := match J with
  | (kn, pl, bf, jt, nx, am) => isJr h a kn pl bf jt nx am
def fsO (X : Nat) : zz_E := .inr (10, [.ref (X + 1), .ref (X + 23), .ref (X + 24), .ref (X + 29), .ref (X + 47), .ref (X + 55)])
def qrO (X : Nat) (hh dd : Int32) (fd : Bool) (fc wk : Int32) : zz_E := .inr (4, [.ref (X + 48), .ref (X + 51), .ref (X + 53), .ref (X + 54), .int hh, .int dd, .int (bI fd), .int fc, .int wk])
/-- tokens with the tape of their own -/
def tkX (h : zz_H) (a : Nat) : Prop := (∃ nx kd pl nu wd fk fp, hp_g h a = some (tokO (a + 1) nx kd pl nu wd fk fp)) ∧ ∃ tb tl, isTape h (a + 1) tb tl
theorem tkX_sam {h k : zz_H} {a : Nat} (ht : tkX h a) (hs : sam h k a (a + 3)) : tkX k a := by
  obtain ⟨⟨a1, a2, a3, a4, a5, a6, a7, r1⟩, tb, tl, r2⟩ := ht
  exact ⟨⟨a1, a2, a3, a4, a5, a6, a7, (hs _ (by omega) (by omega)).trans r1⟩, tb, tl, isTape_sam r2 (sam_sub hs (by omega) (by omega))⟩
def rst (h : zz_H) (X : Nat) : Prop :=
  (tkX h (X + 30) ∧ tkX h (X + 48)) ∧ hp_g h (X + 29) = some (.inr (5, [.ref (X + 30), .ref (X + 33)])) ∧ (∃ p rk tg f, isStock h (X + 33) p rk tg f) ∧
  (∃ hh dd fd fc wk, hp_g h (X + 47) = some (qrO X hh dd fd fc wk)) ∧ (∃ sf, isSets h (X + 51) 15 sf) ∧ (∃ jn, hp_g h (X + 53) = some (.inl (.int, 7, .inl jn))) ∧ (∃ wt, hp_g h (X + 54) = some (.inl (.int, 7, .inl wt))) ∧ (∃ lf, isSets h (X + 55) 1 lf)
theorem rst_sam {h k : zz_H} {X : Nat} (hr : rst h X) (hs : sam h k (X + 29) (X + 57)) : rst k X := by
  obtain ⟨⟨r1, r1'⟩, r2, ⟨b1, b2, b3, b4, r3⟩, ⟨c1, c2, c3, c4, c5, r4⟩, ⟨d1, r5⟩, ⟨e1, r6⟩, ⟨f1, r7⟩, ⟨g1, r8⟩⟩ := hr
  exact ⟨⟨tkX_sam r1 (sam_sub hs (by omega) (by omega)), tkX_sam r1' (sam_sub hs (by omega) (by omega))⟩, (hs _ (by omega) (by omega)).trans r2, ⟨b1, b2, b3, b4, isStock_sam r3 (sam_sub hs (by omega) (by omega))⟩, ⟨c1, c2, c3, c4, c5, (hs _ (by omega) (by omega)).trans r4⟩, ⟨d1, isSets_sam r5 (sam_sub hs (by omega) (by omega))⟩, ⟨e1, (hs _ (by omega) (by omega)).trans r6⟩, ⟨f1, (hs _ (by omega) (by omega)).trans r7⟩, ⟨g1, isSets_sam r8 (sam_sub hs (by omega) (by omega))⟩⟩
theorem isEv_sam {h k : zz_H} {a : Nat} {E : Ev} (he : isEv h a E) (hs : sam h k a (a + 22)) : isEv k a E := by
  obtain ⟨⟨tb, tl⟩, ⟨p, rk, tg, f⟩, ⟨ch, ba⟩, ⟨fk, fp⟩, ⟨an, aw, af⟩, ⟨rs, hd⟩⟩ := E
  obtain ⟨e0, e1, e2, e3, e4⟩ := he
  exact ⟨(hs _ (by omega) (by omega)).trans e0, isTape_sam e1 (sam_sub hs (by omega) (by omega)), isStock_sam e2 (sam_sub hs (by omega) (by omega)), isChoice_sam e3 (sam_sub hs (by omega) (by omega)), isSets_sam e4 (sam_sub hs (by omega) (by omega))⟩
theorem isJn_sam {h k : zz_H} {a : Nat} {J : Jn} (he : isJn h a J) (hs : sam h k a (a + 5)) : isJn k a J := by
  obtain ⟨kn, pl, bf, jt, nx, am⟩ := J
  exact isJr_sam he hs
def imO (im : Nat → Option Nat) : zz_E := .inl (zz_ev, 3, .inr (.inr (.inr (.inr im))))
def cW (h : zz_H) (X : Nat) (E : Ev) (J : Jn) (im : Nat → Option Nat) : Prop := hp_g h X = some (fsO X) ∧ isEv h (X + 1) E ∧ hp_g h (X + 23) = some (imO im) ∧ isJn h (X + 24) J ∧ rst h X
theorem cW_sam {h k : zz_H} {X : Nat} {E : Ev} {J : Jn} {im : Nat → Option Nat} (hw : cW h X E J im) (hs : sam h k X (X + 57)) : cW k X E J im := by
  obtain ⟨w0, w1, w2, w3, w4⟩ := hw
  exact ⟨(hs _ (by omega) (by omega)).trans w0, isEv_sam w1 (sam_sub hs (by omega) (by omega)), (hs _ (by omega) (by omega)).trans w2, isJn_sam w3 (sam_sub hs (by omega) (by omega)), rst_sam w4 (sam_sub hs (by omega) (by omega))⟩
theorem c_put' {h : zz_H} {a : Nat} {p : Pl} {rk tg f : Nat → Int32} (hs : isStock h a p rk tg f) {q : Nat} (hq : q < 256) (x t : Int32) : ∃ k, zz_run 52 [.ref a, .int (nI q), .int x, .int t] h = some (none, k) ∧ isStock k a p (upd rk q x) (upd tg q t) (putF f (pnv p) q (!decide (x = -1)) (linOf p t (pnv p))) ∧ frm h k a (a + 14) := by
  refine ⟨_, c_put hs hq x t, ?_, ?_⟩
  · obtain ⟨t0, t1, t2, t3, t4⟩ := hs
    refine ⟨?_, isPlan_s (isPlan_s (isPlan_s t1 (by omega)) (by omega)) (by omega), ?_, ?_, isSets_set (isSets_s (isSets_s t4 (by omega)) (by omega))⟩
    · simp (disch := first | assumption | exact zz_nl_i _ | exact zz_nl_r _ | exact zz_nl_n | exact okv_i _ | exact okv_j _ | exact okv_0 | exact okv_1 | exact okv_o _ _ | exact okv_a _ _ | omega | exact llt_0 | ((repeat apply llt_s) <;> exact llt_0) | fail) only [t0, mo_k_v, mo_k_n, mo_v_e, mo_gf_e, mo_pf_e, mo_ia_e, mo_ba_e, mo_za_e, mo_la_e, mo_aa_e, mo_le_e, mo_is_e, mo_bs_e, mo_zs_0, mo_zs_1, mo_ls_e, mo_as_e, mo_na_e, mo_aci_e, mo_acb_e, mo_acj_e, hp_gs, hp_gn, hp_ss, List.getElem?_cons_zero, List.getElem?_cons_succ, List.set_cons_zero, List.set_cons_succ]
    · simp (disch := first | assumption | exact zz_nl_i _ | exact zz_nl_r _ | exact zz_nl_n | exact okv_i _ | exact okv_j _ | exact okv_0 | exact okv_1 | exact okv_o _ _ | exact okv_a _ _ | omega | exact llt_0 | ((repeat apply llt_s) <;> exact llt_0) | fail) only [mo_k_v, mo_k_n, mo_v_e, mo_gf_e, mo_pf_e, mo_ia_e, mo_ba_e, mo_za_e, mo_la_e, mo_aa_e, mo_le_e, mo_is_e, mo_bs_e, mo_zs_0, mo_zs_1, mo_ls_e, mo_as_e, mo_na_e, mo_aci_e, mo_acb_e, mo_acj_e, hp_gs, hp_gn, hp_ss, List.getElem?_cons_zero, List.getElem?_cons_succ, List.set_cons_zero, List.set_cons_succ]
    · simp (disch := first | assumption | exact zz_nl_i _ | exact zz_nl_r _ | exact zz_nl_n | exact okv_i _ | exact okv_j _ | exact okv_0 | exact okv_1 | exact okv_o _ _ | exact okv_a _ _ | omega | exact llt_0 | ((repeat apply llt_s) <;> exact llt_0) | fail) only [mo_k_v, mo_k_n, mo_v_e, mo_gf_e, mo_pf_e, mo_ia_e, mo_ba_e, mo_za_e, mo_la_e, mo_aa_e, mo_le_e, mo_is_e, mo_bs_e, mo_zs_0, mo_zs_1, mo_ls_e, mo_as_e, mo_na_e, mo_aci_e, mo_acb_e, mo_acj_e, hp_gs, hp_gn, hp_ss, List.getElem?_cons_zero, List.getElem?_cons_succ, List.set_cons_zero, List.set_cons_succ]
  · repeat (first | exact frm_refl _ _ _ | refine frm_s (by omega) ?_)
section
variable {h : zz_H} {X : Nat} {E : Ev} {J : Jn} {im : Nat → Option Nat} {tb : Nat → Int32} {tl : Nat} {p : Pl} {rk tg f ch ba : Nat → Int32} {fk fp : Int32} {an : Bool} {aw : Int32} {af : Nat → Int32} {rs hd : Int32} {kn pl bf jt : Nat → Int32} {nx am : Nat}
theorem frm_all (h : zz_H) (X : Nat) : frm h h X (X + 57) := frm_refl _ _ _
/-- a reason noted -/
theorem cW_note (hw : cW h X ((tb, tl), (p, rk, tg, f), (ch, ba), (fk, fp), (an, aw, af), (rs, hd)) J im) (x y : Int32) : zz_run 87 [.ref (X + 1), .int x, .int y] h = some (some (.int x), hp_s h (X + 1) (evO (X + 1) fk fp an aw x y)) ∧ cW (hp_s h (X + 1) (evO (X + 1) fk fp an aw x y)) X ((tb, tl), (p, rk, tg, f), (ch, ba), (fk, fp), (an, aw, af), (x, y)) J im ∧ frm h (hp_s h (X + 1) (evO (X + 1) fk fp an aw x y)) X (X + 57) := by
  obtain ⟨w0, ⟨e0, e1, e2, e3, e4⟩, w2, w3, w4⟩ := hw
  refine ⟨c_note e0 x y, ⟨?_, ⟨hp_gs _ _ _, isTape_s e1 (by omega), isStock_s e2 (by omega), isChoice_s e3 (by omega), isSets_s e4 (by omega)⟩, ?_, isJn_sam w3 (fun b h1 h2 => hp_gn (by omega)), rst_sam w4 (fun b h1 h2 => hp_gn (by omega))⟩, ?_⟩
  · simp (disch := first | assumption | exact zz_nl_i _ | exact zz_nl_r _ | exact zz_nl_n | exact okv_i _ | exact okv_j _ | exact okv_0 | exact okv_1 | exact okv_o _ _ | exact okv_a _ _ | omega | exact llt_0 | ((repeat apply llt_s) <;> exact llt_0) | fail) only [w0, mo_k_v, mo_k_n, mo_v_e, mo_gf_e, mo_pf_e, mo_ia_e, mo_ba_e, mo_za_e, mo_la_e, mo_aa_e, mo_le_e, mo_is_e, mo_bs_e, mo_zs_0, mo_zs_1, mo_ls_e, mo_as_e, mo_na_e, mo_aci_e, mo_acb_e, mo_acj_e, hp_gs, hp_gn, hp_ss, List.getElem?_cons_zero, List.getElem?_cons_succ, List.set_cons_zero, List.set_cons_succ]
  · simp (disch := first | assumption | exact zz_nl_i _ | exact zz_nl_r _ | exact zz_nl_n | exact okv_i _ | exact okv_j _ | exact okv_0 | exact okv_1 | exact okv_o _ _ | exact okv_a _ _ | omega | exact llt_0 | ((repeat apply llt_s) <;> exact llt_0) | fail) only [w2, mo_k_v, mo_k_n, mo_v_e, mo_gf_e, mo_pf_e, mo_ia_e, mo_ba_e, mo_za_e, mo_la_e, mo_aa_e, mo_le_e, mo_is_e, mo_bs_e, mo_zs_0, mo_zs_1, mo_ls_e, mo_as_e, mo_na_e, mo_aci_e, mo_acb_e, mo_acj_e, hp_gs, hp_gn, hp_ss, List.getElem?_cons_zero, List.getElem?_cons_succ, List.set_cons_zero, List.set_cons_succ]
  · repeat (first | exact frm_refl _ _ _ | refine frm_s (by omega) ?_)
theorem c_refuse (hw : cW h X ((tb, tl), (p, rk, tg, f), (ch, ba), (fk, fp), (an, aw, af), (rs, hd)) J im) (x : Int32) : ∃ k, zz_run 86 [.ref X, .int x] h = some (some (.int x), k) ∧ cW k X ((tb, tl), (p, rk, tg, f), (ch, ba), (fk, fp), (an, aw, af), (x, -1)) J im ∧ frm h k X (X + 57) := by
  obtain ⟨n1, n2, n3⟩ := cW_note hw x (-1)
  have w0 := hw.1
  unfold fsO at w0
  rw [en86 w0]
  simp (disch := first | assumption | exact zz_nl_i _ | exact zz_nl_r _ | exact zz_nl_n | exact okv_i _ | exact okv_j _ | exact okv_0 | exact okv_1 | exact okv_o _ _ | exact okv_a _ _ | omega | exact llt_0 | ((repeat apply llt_s) <;> exact llt_0) | fail) only [x86, w0, n1, mo_k_v, mo_k_n, mo_v_e, mo_gf_e, mo_pf_e, mo_ia_e, mo_ba_e, mo_za_e, mo_la_e, mo_aa_e, mo_le_e, mo_is_e, mo_bs_e, mo_zs_0, mo_zs_1, mo_ls_e, mo_as_e, mo_na_e, mo_aci_e, mo_acb_e, mo_acj_e, hp_gs, hp_gn, hp_ss, List.getElem?_cons_zero, List.getElem?_cons_succ, List.set_cons_zero, List.set_cons_succ]
  exact ⟨_, rfl, n2, n3⟩
theorem c_accept (hw : cW h X ((tb, tl), (p, rk, tg, f), (ch, ba), (fk, fp), (an, aw, af), (rs, hd)) J im) : ∃ k, zz_run 90 [.ref X] h = some (some (.int (nI 0)), k) ∧ cW k X ((tb, tl), (p, rk, tg, f), (ch, ba), (fk, fp), (an, aw, af), (nI 0, -1)) J im ∧ frm h k X (X + 57) := by
  obtain ⟨n1, n2, n3⟩ := cW_note hw (nI 0) (-1)
  have w0 := hw.1
  unfold fsO at w0
  rw [en90 w0]
  simp (disch := first | assumption | exact zz_nl_i _ | exact zz_nl_r _ | exact zz_nl_n | exact okv_i _ | exact okv_j _ | exact okv_0 | exact okv_1 | exact okv_o _ _ | exact okv_a _ _ | omega | exact llt_0 | ((repeat apply llt_s) <;> exact llt_0) | fail) only [x90, w0, n1, mo_k_v, mo_k_n, mo_v_e, mo_gf_e, mo_pf_e, mo_ia_e, mo_ba_e, mo_za_e, mo_la_e, mo_aa_e, mo_le_e, mo_is_e, mo_bs_e, mo_zs_0, mo_zs_1, mo_ls_e, mo_as_e, mo_na_e, mo_aci_e, mo_acb_e, mo_acj_e, hp_gs, hp_gn, hp_ss, List.getElem?_cons_zero, List.getElem?_cons_succ, List.set_cons_zero, List.set_cons_succ]
  exact ⟨_, rfl, n2, n3⟩
def chgE (E : Ev) (q : Nat) (x t : Int32) : Ev := (E.1, (E.2.1.1, upd E.2.1.2.1 q x, upd E.2.1.2.2.1 q t, putF E.2.1.2.2.2 (pnv E.2.1.1) q (!decide (x = -1)) (linOf E.2.1.1 t (pnv E.2.1.1))), E.2.2.1, E.2.2.2.1, E.2.2.2.2.1, (nI 0, -1))
def jnN (J : Jn) (x1 x2 x3 x4 : Int32) : Jn := (upd J.1 J.2.2.2.2.1 x1, upd J.2.1 J.2.2.2.2.1 x2, upd J.2.2.1 J.2.2.2.2.1 x3, upd J.2.2.2.1 J.2.2.2.2.1 x4, (J.2.2.2.2.1 + 1) % 10, min (J.2.2.2.2.2 + 1) 10)
theorem c_changeRecord (hw : cW h X ((tb, tl), (p, rk, tg, f), (ch, ba), (fk, fp), (an, aw, af), (rs, hd)) (kn, pl, bf, jt, nx, am) im) {q : Nat} (hq : q < 256) (x t : Int32) : ∃ k, zz_run 88 [.ref X, .int (nI q), .int x, .int t] h = some (some (.int (nI 0)), k) ∧ cW k X (chgE ((tb, tl), (p, rk, tg, f), (ch, ba), (fk, fp), (an, aw, af), (rs, hd)) q x t) (jnN (kn, pl, bf, jt, nx, am) (nI 0) (nI q) (rk q) (tg q)) im ∧ frm h k X (X + 57) := by
  obtain ⟨w0, ⟨e0, e1, e2, e3, e4⟩, w2, w3, w4⟩ := hw
  obtain ⟨k1, r1, j1, g1⟩ := c_noteJr w3 (nI 0) (nI q) (rk q) (tg q)
  obtain ⟨k2, r2, s2, g2⟩ := c_put' (isStock_sam e2 (frm_sam g1 (by omega))) hq x t
  have G := frm_trans (frm_mono g1 (show X ≤ X + 24 by omega) (show X + 24 + 5 ≤ X + 57 by omega)) (frm_mono g2 (show X ≤ X + 1 + 3 by omega) (show X + 1 + 3 + 14 ≤ X + 57 by omega))
  have A : cW k2 X ((tb, tl), (p, upd rk q x, upd tg q t, putF f (pnv p) q (!decide (x = -1)) (linOf p t (pnv p))), (ch, ba), (fk, fp), (an, aw, af), (rs, hd)) (jnN (kn, pl, bf, jt, nx, am) (nI 0) (nI q) (rk q) (tg q)) im := by
    refine ⟨(g2.2.2.2 _ (by omega)).trans ((g1.2.2.2 _ (by omega)).trans w0), ⟨(g2.2.2.2 _ (by omega)).trans ((g1.2.2.2 _ (by omega)).trans e0), isTape_sam (isTape_sam e1 (frm_sam g1 (by omega))) (frm_sam g2 (by omega)), s2, isChoice_sam (isChoice_sam e3 (frm_sam g1 (by omega))) (frm_sam g2 (by omega)), isSets_sam (isSets_sam e4 (frm_sam g1 (by omega))) (frm_sam g2 (by omega))⟩, (g2.2.2.2 _ (by omega)).trans ((g1.2.2.2 _ (by omega)).trans w2), ?_, rst_sam (rst_sam w4 (frm_sam g1 (by omega))) (frm_sam g2 (by omega))⟩
    exact isJr_sam j1 (frm_sam g2 (by omega))
  obtain ⟨k3, r3, A3, g3⟩ := c_accept A
  unfold fsO at w0
  unfold evO at e0
  obtain ⟨t0, t1, t2, t3, t4⟩ := e2
  rw [en88 w0]
  simp (disch := first | assumption | exact zz_nl_i _ | exact zz_nl_r _ | exact zz_nl_n | exact okv_i _ | exact okv_j _ | exact okv_0 | exact okv_1 | exact okv_o _ _ | exact okv_a _ _ | omega | exact llt_0 | ((repeat apply llt_s) <;> exact llt_0) | fail) only [x88, w0, e0, t0, t2, t3, r1, r2, r3, mo_k_v, mo_k_n, mo_v_e, mo_gf_e, mo_pf_e, mo_ia_e, mo_ba_e, mo_za_e, mo_la_e, mo_aa_e, mo_le_e, mo_is_e, mo_bs_e, mo_zs_0, mo_zs_1, mo_ls_e, mo_as_e, mo_na_e, mo_aci_e, mo_acb_e, mo_acj_e, hp_gs, hp_gn, hp_ss, List.getElem?_cons_zero, List.getElem?_cons_succ, List.set_cons_zero, List.set_cons_succ]
  exact ⟨_, rfl, A3, frm_trans G g3⟩
end
