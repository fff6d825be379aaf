/-! the reference: a line of a record -/
theorem RS_to0 {A : Nat → Int32} {o : Nat} {p : Pl} {rk tg ch ba : Nat → Int32} (hr : RS A o p rk tg ch ba) : RS (fun i => A (o + i)) 0 p rk tg ch ba := RS_shift hr (fun i _ => by rw [Nat.zero_add])
theorem RS_of0 {A : Nat → Int32} {o : Nat} {p : Pl} {rk tg ch ba : Nat → Int32} (hr : RS (fun i => A (o + i)) 0 p rk tg ch ba) : RS A o p rk tg ch ba := RS_shift hr (fun i _ => by rw [Nat.zero_add])
theorem RS_put' {A B : Nat → Int32} {o : Nat} {p : Pl} {rk tg ch ba : Nat → Int32} (hr : RS A o p rk tg ch ba) {q : Nat} (x t : Int32) (h0 : ∀ i, i < 294 → B (o + i) = A (o + i)) (h1 : ∀ r, r < 256 → bt (B (o + 294 + r / 32)) (r % 32) = if r = q then !decide (x = -1) else bt (A (o + 294 + r / 32)) (r % 32)) (h2 : ∀ v, v < pnv p → ∀ r, r < 256 → bt (B (o + 302 + 8 * v + r / 32)) (r % 32) = if r = q then bt t v else bt (A (o + 302 + 8 * v + r / 32)) (r % 32)) (h3 : ∀ r, r < 256 → r ≠ q → B (o + 462 + r) = A (o + 462 + r)) (h4 : x = -1 ∨ B (o + 462 + q) = x) : RS B o p (upd rk q x) (upd tg q t) ch ba := by
  refine RS_of0 (RS_put (RS_to0 hr) x t h0 (fun r hr1 => ?_) (fun v hv r hr1 => ?_) (fun r hr1 hrq => ?_) (h4.imp id (fun a => ?_)))
  · have := h1 r hr1
    rw [Nat.add_assoc] at this
    exact this
  · have := h2 v hv r hr1
    rw [Nat.add_assoc, Nat.add_assoc, ← Nat.add_assoc 302] at this
    exact this
  · have := h3 r hr1 hrq
    rw [Nat.add_assoc] at this
    exact this
  · rw [Nat.add_assoc] at a
    exact a
theorem upd_upd (f : Nat → Int32) (n : Nat) (x y : Int32) : upd (upd f n x) n y = upd f n y := by
  funext j
  by_cases e : j = n
  · subst e; rw [upd_eq, upd_eq]
  · rw [upd_ne e, upd_ne e, upd_ne e]
theorem tag_turn' {A : Nat → Int32} {o : Nat} {p : Pl} {rk tg ch ba : Nat → Int32} (hk : RS A o p rk tg ch ba) {q v : Nat} (hq : q < 256) (hv : v < pnv p) {t : Int32} (ht : ∀ w, w < pnv p → bt t w = if w = v then !bt (tg q) v else bt (tg q) w) : RS (togA A (o + 302 + 8 * v) q) o p rk (upd tg q t) ch ba := by
  have h := tag_turn (RS_to0 hk) hq hv ht
  have e : upd rk q (rk q) = rk := by
    funext j
    by_cases e : j = q
    · subst e; rw [upd_eq]
    · rw [upd_ne e]
  rw [e] at h
  refine RS_shift h (fun i hi => ?_)
  rw [Nat.zero_add]
  unfold togA
  by_cases c : i = 302 + 8 * v + q / 32
  · subst c
    rw [show o + (302 + 8 * v + q / 32) = o + 302 + 8 * v + q / 32 by omega, upd_eq, upd_eq]
    dsimp only
    rw [show o + (302 + 8 * v + q / 32) = o + 302 + 8 * v + q / 32 by omega]
  · rw [upd_ne (by omega), upd_ne c]
def mdY (h : zz_H) (M : Nat) (y : Option (Option Value × zz_H)) (mt mu : Int32) (t : Nat → Nat) (tl : Nat) (me mf mw : Int32) (A : Nat → Int32) (o : Out) : Prop := match o with
  | .inl (a, b) => ∃ k B s', y = some (none, k) ∧ hp_g k M = some (mdT M mt (nI a) (nI b) mu t tl s' me mf mw) ∧ hp_g k (M + 1) = some (iA 12639 B) ∧ offR A B ∧ frm h k M (M + 2) ∧ 0 < a ∧ a < 10
  | .inr (s', p, rk, tg, _) => ∃ k B, y = some (none, k) ∧ hp_g k M = some (mdT M mt (nI 0) (-1) mu t tl s' me mf mw) ∧ hp_g k (M + 1) = some (iA 12639 B) ∧ RS B 730 p rk tg z0 z0 ∧ ZR B p ∧ offR A B ∧ frm h k M (M + 2)
theorem mdY_frm {h h0 : zz_H} {M : Nat} {y : Option (Option Value × zz_H)} {mt mu : Int32} {t : Nat → Nat} {tl : Nat} {me mf mw : Int32} {A A0 : Nat → Int32} {o : Out} (hq : mdY h M y mt mu t tl me mf mw A o) (hf : frm h0 h M (M + 2)) (ha : offR A0 A) : mdY h0 M y mt mu t tl me mf mw A0 o := by
  match o with
  | .inl (a, b) =>
    obtain ⟨k, B, s', e, h1, h2, h3, h4, h5⟩ := hq
    exact ⟨k, B, s', e, h1, h2, fun i hi => (h3 i hi).trans (ha i hi), frm_trans hf h4, h5⟩
  | .inr (s', p, rk, tg, f) =>
    obtain ⟨k, B, e, h1, h2, h3, h4, h5, h6⟩ := hq
    exact ⟨k, B, e, h1, h2, h3, h4, fun i hi => (h5 i hi).trans (ha i hi), frm_trans hf h6⟩
theorem mdQ_Y {h : zz_H} {M m : Nat} {as : List Value} {mt mu : Int32} {t : Nat → Nat} {tl : Nat} {me mf mw : Int32} {A : Nat → Int32} {o : Out} : mdQ h M m as mt mu t tl me mf mw A o ↔ mdY h M (zz_run m as h) mt mu t tl me mf mw A o := by
  match o with
  | .inl (a, b) => exact Iff.rfl
  | .inr (s', p, rk, tg, f) => exact Iff.rfl
section
variable {M : Nat} {mt mp mu : Int32} {me mf mw : Int32} {p : Pl} {rk tg f : Nat → Int32} {T : Nat → Int32} {t : Nat → Nat} {tl : Nat}
theorem m_tagsLoop (hT : tpR T t) (htl : tl ≤ 600) (hwf : wfP p) {q : Nat} (hq : q < 256) (x : Int32) (z : Option Value) : ∀ n (h : zz_H) (s : Nat) (g : Int32) (A : Nat → Int32), hp_g h M = some (mdT M mt (nI 0) (-1) mu t tl s me mf mw) → hp_g h (M + 1) = some (iA 12639 A) → hp_g h (M + 2) = some (iA 600 T) → s ≤ tl → RS A 730 p (upd rk q x) (upd tg q g) z0 z0 → ZR A p → tl - s < n → mdY h M (zz_Y 240 (91, [some (.ref (M)), some (.int (nI (q))), z], [], h)) mt mu t tl me mf mw A (tagsO (p, rk, tg, f) q x (tagsP t tl p n s g)) := by
  intro n
  induction n with
  | zero => intro h s g A w0 wA wT hs hr hz hn; omega
  | succ n ih =>
    intro h s g A w0 wA wT hs hr hz hn
    have inm := t_isName w0
    have hn20 := hr.1.2.1
    have hn4 := hr.1.1
    have ig := m_isGood w0
    rw [decide_eq_true rfl] at ig
    unfold tagsP
    rw [x240_c91]
    by_cases c : kdP t tl s = 2
    · rw [if_neg (fun z => z c)]
      rw [decide_eq_true c] at inm
      have hst : s < tl := by
        by_cases z : s = tl
        · rw [(kd_stop hs).mpr z] at c; omega
        · omega
      have vb := t_valueBy w0 wA hr (by omega) ((kd_wtk t tl s).1.mp (Or.inl c))
      by_cases c1 : vnP p (wP t tl s) < pnv p
      · rw [if_neg (fun z => z c1)]
        rw [if_pos c1] at vb
        have cn : ¬ nI (vnP p (wP t tl s)) < nI 0 := nI_nlt0 (by omega)
        generalize hv : vnP p (wP t tl s) = v at *
        have hd := m_held w0 wA hr hwf (by omega) hq c1
        rw [upd_eq] at hd
        have tb := hr.2.2.2.2 v c1 q hq
        rw [upd_eq] at tb
        have ib := m_isBit w0 wA (at_ := 730 + 302 + 8 * v) hq (by omega)
        rw [tb] at ib
        by_cases c2 : bt g v = true ∨ ¬ hldC p g v = -1
        · rw [if_pos c2]
          have fl := m_fails0 w0 (nI 6) (nI s)
          have ig2 := m_isGood (h := hp_s h M (mdT M mt (nI 6) (nI s) mu t tl s me mf mw)) (hp_gs _ _ _)
          rw [decide_eq_false (nz (show 0 < 6 by omega) (by omega)).1] at ig2
          have inm2 := m_isName_bad (h := hp_s h M (mdT M mt (nI 6) (nI s) mu t tl s me mf mw)) (hp_gs _ _ _) (nz (show 0 < 6 by omega) (by omega)).1
          have rt : zz_run 242 [.ref M, .int (nI q)] h = some (none, hp_s h M (mdT M mt (nI 6) (nI s) mu t tl s me mf mw)) := by
            rw [en242 w0]
            cases cb : bt g v with
            | true =>
              rw [cb] at ib
              simp (disch := first | assumption | exact zz_nl_i _ | exact zz_nl_r _ | exact zz_nl_n | exact okv_i _ | exact okv_j _ | exact okv_0 | exact okv_1 | exact okv_o _ _ | exact okv_a _ _ | exact bI_okr _ | omega | exact llt_0 | ((repeat apply llt_s) <;> exact llt_0) | fail) only [x242, w0, vb, cn, if_false, ig, bI_t, nI_01, pk_mul, nI_add, Nat.reduceAdd, ib, fl, ig2, bI_f, if_true, mo_k_v, mo_k_n, mo_v_e, mo_gf_e, mo_pf_e, mo_ia_e, mo_ba_e, mo_za_e, mo_la_e, mo_aa_e, mo_le_e, mo_is_e, mo_bs_e, mo_zs_0, mo_zs_1, mo_ls_e, mo_as_e, mo_na_e, mo_aci_e, mo_acb_e, mo_acj_e, hp_gs, hp_gn, hp_ss, List.getElem?_cons_zero, List.getElem?_cons_succ, List.set_cons_zero, List.set_cons_succ]
            | false =>
              rw [cb] at ib
              have c3 : ¬ hldC p g v = -1 := c2.resolve_left (by rw [cb]; decide)
              obtain ⟨u, hu20, hue⟩ := (hld_V hwf hn20 hn4 c1 g).resolve_left c3
              rw [hue] at hd
              have l2 : ¬ nI u < nI 0 := nI_nlt0 (by omega)
              simp (disch := first | assumption | exact zz_nl_i _ | exact zz_nl_r _ | exact zz_nl_n | exact okv_i _ | exact okv_j _ | exact okv_0 | exact okv_1 | exact okv_o _ _ | exact okv_a _ _ | exact bI_okr _ | omega | exact llt_0 | ((repeat apply llt_s) <;> exact llt_0) | fail) only [x242, w0, vb, cn, if_false, ig, bI_t, nI_01, pk_mul, nI_add, Nat.reduceAdd, ib, bI_f, if_true, hd, l2, fl, ig2, mo_k_v, mo_k_n, mo_v_e, mo_gf_e, mo_pf_e, mo_ia_e, mo_ba_e, mo_za_e, mo_la_e, mo_aa_e, mo_le_e, mo_is_e, mo_bs_e, mo_zs_0, mo_zs_1, mo_ls_e, mo_as_e, mo_na_e, mo_aci_e, mo_acb_e, mo_acj_e, hp_gs, hp_gn, hp_ss, List.getElem?_cons_zero, List.getElem?_cons_succ, List.set_cons_zero, List.set_cons_succ]
          refine ⟨_, A, s, ?_, hp_gs _ _ _, (hp_gn (by omega)).trans wA, fun i hi => rfl, frm_s ⟨by omega, by omega⟩ (frm_refl _ _ _), by omega, by omega⟩
          simp (disch := first | assumption | exact zz_nl_i _ | exact zz_nl_r _ | exact zz_nl_n | exact okv_i _ | exact okv_j _ | exact okv_0 | exact okv_1 | exact okv_o _ _ | exact okv_a _ _ | exact bI_okr _ | omega | exact llt_0 | ((repeat apply llt_s) <;> exact llt_0) | fail) only [x240, inm, bI_t, nI_01, if_false, rt, mo_k_v, mo_k_n, mo_v_e, mo_gf_e, mo_pf_e, mo_ia_e, mo_ba_e, mo_za_e, mo_la_e, mo_aa_e, mo_le_e, mo_is_e, mo_bs_e, mo_zs_0, mo_zs_1, mo_ls_e, mo_as_e, mo_na_e, mo_aci_e, mo_acb_e, mo_acj_e, hp_gs, hp_gn, hp_ss, List.getElem?_cons_zero, List.getElem?_cons_succ, List.set_cons_zero, List.set_cons_succ]
          rw [x240_c91]
          simp (disch := first | assumption | exact zz_nl_i _ | exact zz_nl_r _ | exact zz_nl_n | exact okv_i _ | exact okv_j _ | exact okv_0 | exact okv_1 | exact okv_o _ _ | exact okv_a _ _ | exact bI_okr _ | omega | exact llt_0 | ((repeat apply llt_s) <;> exact llt_0) | fail) only [x240, inm2, if_true, mo_k_v, mo_k_n, mo_v_e, mo_gf_e, mo_pf_e, mo_ia_e, mo_ba_e, mo_za_e, mo_la_e, mo_aa_e, mo_le_e, mo_is_e, mo_bs_e, mo_zs_0, mo_zs_1, mo_ls_e, mo_as_e, mo_na_e, mo_aci_e, mo_acb_e, mo_acj_e, hp_gs, hp_gn, hp_ss, List.getElem?_cons_zero, List.getElem?_cons_succ, List.set_cons_zero, List.set_cons_succ]
        · rw [if_neg c2]
          have cb : bt g v = false := Bool.eq_false_iff.mpr (fun z => c2 (Or.inl z))
          have c3 : hldC p g v = -1 := Classical.not_not.mp (fun z => c2 (Or.inr z))
          rw [cb] at ib
          rw [c3] at hd
          have tn := m_turns w0 wA (a := 730 + 302 + 8 * v) hq (by omega)
          have tn' : zz_run 208 [.ref M, .int (nI (730 + 302 + 8 * v)), .int (nI q)] h = some (none, hp_s h (M + 1) (iA 12639 (togA A (730 + 302 + 8 * v) q))) := tn
          have v0 : hp_g (hp_s h (M + 1) (iA 12639 (togA A (730 + 302 + 8 * v) q))) M = some (mdT M mt (nI 0) (-1) mu t tl s me mf mw) := (hp_gn (by omega)).trans w0
          have tk := t_takes v0 ((hp_gn (by omega)).trans wT) hT htl hs
          have rt : zz_run 242 [.ref M, .int (nI q)] h = some (none, hp_s (hp_s h (M + 1) (iA 12639 (togA A (730 + 302 + 8 * v) q))) M (mdT M mt (nI 0) (-1) mu t tl (advP t tl s) me mf mw)) := by
            rw [en242 w0]
            rw [show 730 + 302 = 1032 from rfl] at ib tn' tk ⊢
            simp (disch := first | assumption | exact zz_nl_i _ | exact zz_nl_r _ | exact zz_nl_n | exact okv_i _ | exact okv_j _ | exact okv_0 | exact okv_1 | exact okv_o _ _ | exact okv_a _ _ | exact bI_okr _ | omega | exact llt_0 | ((repeat apply llt_s) <;> exact llt_0) | fail) only [x242, w0, vb, cn, if_false, ig, bI_t, nI_01, pk_mul, nI_add, ib, bI_f, if_true, hd, eq_true m1_lt0, tn', tk, mo_k_v, mo_k_n, mo_v_e, mo_gf_e, mo_pf_e, mo_ia_e, mo_ba_e, mo_za_e, mo_la_e, mo_aa_e, mo_le_e, mo_is_e, mo_bs_e, mo_zs_0, mo_zs_1, mo_ls_e, mo_as_e, mo_na_e, mo_aci_e, mo_acb_e, mo_acj_e, hp_gs, hp_gn, hp_ss, List.getElem?_cons_zero, List.getElem?_cons_succ, List.set_cons_zero, List.set_cons_succ]
          have a1 := adv_le (t := t) hs
          have hlt := a1.2.2 hst
          have hr2 : RS (togA A (730 + 302 + 8 * v) q) 730 p (upd rk q x) (upd tg q (g ||| sh1 v)) z0 z0 := by
            have := tag_turn' (t := g ||| sh1 v) hr hq c1 (fun w hw => by
              rw [b_or, b_sh1 (by omega) (by omega), upd_eq]
              by_cases c : w = v
              · subst c; rw [decide_eq_true rfl, if_pos rfl, cb]; rfl
              · rw [decide_eq_false c, if_neg c, Bool.or_false])
            rw [upd_upd] at this
            exact this
          have hz2 : ZR (togA A (730 + 302 + 8 * v) q) p := ⟨fun d h1 h2 => by rw [tog_out hq (by omega)]; exact hz.1 d h1 h2, fun w h1 h2 => ⟨by rw [tog_out hq (by omega)]; exact (hz.2 w h1 h2).1, fun b hb => by rw [tog_out hq (by omega)]; exact (hz.2 w h1 h2).2 b hb⟩⟩
          have r := ih _ (advP t tl s) (g ||| sh1 v) _ (hp_gs _ _ _) ((hp_gn (by omega)).trans (hp_gs _ _ _)) ((hp_gn (by omega)).trans ((hp_gn (by omega)).trans wT)) a1.2.1 hr2 hz2 (by omega)
          have r := mdY_frm r (h0 := h) (A0 := A) (frm_s (b := M) ⟨by omega, by omega⟩ (frm_s (b := M + 1) ⟨by omega, by omega⟩ (frm_refl _ _ _))) (fun i hi => tog_out hq (by omega))
          simp (disch := first | assumption | exact zz_nl_i _ | exact zz_nl_r _ | exact zz_nl_n | exact okv_i _ | exact okv_j _ | exact okv_0 | exact okv_1 | exact okv_o _ _ | exact okv_a _ _ | exact bI_okr _ | omega | exact llt_0 | ((repeat apply llt_s) <;> exact llt_0) | fail) only [x240, inm, bI_t, nI_01, if_false, rt, mo_k_v, mo_k_n, mo_v_e, mo_gf_e, mo_pf_e, mo_ia_e, mo_ba_e, mo_za_e, mo_la_e, mo_aa_e, mo_le_e, mo_is_e, mo_bs_e, mo_zs_0, mo_zs_1, mo_ls_e, mo_as_e, mo_na_e, mo_aci_e, mo_acb_e, mo_acj_e, hp_gs, hp_gn, hp_ss, List.getElem?_cons_zero, List.getElem?_cons_succ, List.set_cons_zero, List.set_cons_succ]
          exact r
      · rw [if_pos c1]
        rw [if_neg c1] at vb
        have fl := m_fails0 w0 (nI 3) (nI s)
        have ig2 := m_isGood (h := hp_s h M (mdT M mt (nI 3) (nI s) mu t tl s me mf mw)) (hp_gs _ _ _)
        rw [decide_eq_false n30'] at ig2
        have inm2 := m_isName_bad (h := hp_s h M (mdT M mt (nI 3) (nI s) mu t tl s me mf mw)) (hp_gs _ _ _) n30'
        have rt : zz_run 242 [.ref M, .int (nI q)] h = some (none, hp_s h M (mdT M mt (nI 3) (nI s) mu t tl s me mf mw)) := by
          rw [en242 w0]
          simp (disch := first | assumption | exact zz_nl_i _ | exact zz_nl_r _ | exact zz_nl_n | exact okv_i _ | exact okv_j _ | exact okv_0 | exact okv_1 | exact okv_o _ _ | exact okv_a _ _ | exact bI_okr _ | omega | exact llt_0 | ((repeat apply llt_s) <;> exact llt_0) | fail) only [x242, w0, vb, eq_true m1_lt0, if_true, fl, ig2, bI_f, mo_k_v, mo_k_n, mo_v_e, mo_gf_e, mo_pf_e, mo_ia_e, mo_ba_e, mo_za_e, mo_la_e, mo_aa_e, mo_le_e, mo_is_e, mo_bs_e, mo_zs_0, mo_zs_1, mo_ls_e, mo_as_e, mo_na_e, mo_aci_e, mo_acb_e, mo_acj_e, hp_gs, hp_gn, hp_ss, List.getElem?_cons_zero, List.getElem?_cons_succ, List.set_cons_zero, List.set_cons_succ]
        refine ⟨_, A, s, ?_, hp_gs _ _ _, (hp_gn (by omega)).trans wA, fun i hi => rfl, frm_s ⟨by omega, by omega⟩ (frm_refl _ _ _), by omega, by omega⟩
        simp (disch := first | assumption | exact zz_nl_i _ | exact zz_nl_r _ | exact zz_nl_n | exact okv_i _ | exact okv_j _ | exact okv_0 | exact okv_1 | exact okv_o _ _ | exact okv_a _ _ | exact bI_okr _ | omega | exact llt_0 | ((repeat apply llt_s) <;> exact llt_0) | fail) only [x240, inm, bI_t, nI_01, if_false, rt, mo_k_v, mo_k_n, mo_v_e, mo_gf_e, mo_pf_e, mo_ia_e, mo_ba_e, mo_za_e, mo_la_e, mo_aa_e, mo_le_e, mo_is_e, mo_bs_e, mo_zs_0, mo_zs_1, mo_ls_e, mo_as_e, mo_na_e, mo_aci_e, mo_acb_e, mo_acj_e, hp_gs, hp_gn, hp_ss, List.getElem?_cons_zero, List.getElem?_cons_succ, List.set_cons_zero, List.set_cons_succ]
        rw [x240_c91]
        simp (disch := first | assumption | exact zz_nl_i _ | exact zz_nl_r _ | exact zz_nl_n | exact okv_i _ | exact okv_j _ | exact okv_0 | exact okv_1 | exact okv_o _ _ | exact okv_a _ _ | exact bI_okr _ | omega | exact llt_0 | ((repeat apply llt_s) <;> exact llt_0) | fail) only [x240, inm2, if_true, mo_k_v, mo_k_n, mo_v_e, mo_gf_e, mo_pf_e, mo_ia_e, mo_ba_e, mo_za_e, mo_la_e, mo_aa_e, mo_le_e, mo_is_e, mo_bs_e, mo_zs_0, mo_zs_1, mo_ls_e, mo_as_e, mo_na_e, mo_aci_e, mo_acb_e, mo_acj_e, hp_gs, hp_gn, hp_ss, List.getElem?_cons_zero, List.getElem?_cons_succ, List.set_cons_zero, List.set_cons_succ]
    · rw [if_pos c]
      rw [decide_eq_false c] at inm
      refine ⟨h, A, ?_, w0, wA, hr, hz, fun i hi => rfl, frm_refl _ _ _⟩
      simp (disch := first | assumption | exact zz_nl_i _ | exact zz_nl_r _ | exact zz_nl_n | exact okv_i _ | exact okv_j _ | exact okv_0 | exact okv_1 | exact okv_o _ _ | exact okv_a _ _ | exact bI_okr _ | omega | exact llt_0 | ((repeat apply llt_s) <;> exact llt_0) | fail) only [x240, inm, bI_f, if_true, mo_k_v, mo_k_n, mo_v_e, mo_gf_e, mo_pf_e, mo_ia_e, mo_ba_e, mo_za_e, mo_la_e, mo_aa_e, mo_le_e, mo_is_e, mo_bs_e, mo_zs_0, mo_zs_1, mo_ls_e, mo_as_e, mo_na_e, mo_aci_e, mo_acb_e, mo_acj_e, hp_gs, hp_gn, hp_ss, List.getElem?_cons_zero, List.getElem?_cons_succ, List.set_cons_zero, List.set_cons_succ]
end
