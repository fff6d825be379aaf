/-! the reference: scheme, all of it -/
theorem part_le {p : Pl} {rk tg f : Nat → Int32} (hn : pnv p ≤ 20) {t : Nat → Nat} {tl s : Nat} (hs : s ≤ tl) (o : Out) (ho : o = headP t tl s (p, rk, tg, f) ∨ o = valueP t tl s (p, rk, tg, f) ∨ o = recordP t tl s (p, rk, tg, f)) (s' : Nat) (D' : Sk) (e : o = .inr (s', D')) : s' ≤ tl := by
  have a1 := adv_le (t := t) hs
  have a2 := adv_le (t := t) a1.2.1
  have a3 := adv_le (t := t) a2.2.1
  have a4 := adv_le (t := t) a3.2.1
  subst e
  rcases ho with eo | eo | eo
  · unfold headP at eo
    dsimp only at eo
    repeat' split at eo
    all_goals first | (cases eo; done) | (cases eo; exact a3.2.1)
  · unfold valueP at eo
    dsimp only at eo
    repeat' split at eo
    all_goals first | (cases eo; done) | (cases eo; exact a4.2.1) | (cases eo; exact a2.2.1)
  · unfold recordP at eo
    dsimp only at eo
    split at eo
    · cases eo
    · split at eo
      · cases eo
      · split at eo
        · cases eo
        · cases ht : tagsP t tl p 601 (advP t tl (advP t tl (advP t tl s))) (nI 0) with
          | inl x => rw [ht] at eo; cases eo
          | inr x =>
            obtain ⟨s2, g2⟩ := x
            rw [ht] at eo
            cases eo
            exact (DI_tags hn 601 _ _ a3.2.1 (fun v _ _ => by rw [nI_0]; exact b_0 v) _ g2 ht).2.1
section
variable {M : Nat} {mt mk mp mu ms mn mo ml : Int32} {mv : Int64} {me mf mw : Int32} {T : Nat → Int32} {t : Nat → Nat} {tl : Nat}
/-- how the reading ends -/
def mdZ (h : zz_H) (M : Nat) (y : Option (Option Value × zz_H)) (z : zz_H → Option (Option Value × zz_H)) (mt mu : Int32) (t : Nat → Nat) (tl : Nat) (me mf mw : Int32) (A : Nat → Int32) (o : Out) : Prop := match o with
  | .inl (a, b) => ∃ k B s', y = z k ∧ hp_g k M = some (mdT M mt (nI a) (nI b) mu t tl s' me mf mw) ∧ hp_g k (M + 1) = some (iA 12639 B) ∧ offR A B ∧ frm h k M (M + 2) ∧ 0 < a ∧ a < 10
  | .inr (_, p, rk, tg, f) => ∃ k B s', y = z k ∧ hp_g k M = some (mdT M mt (nI 0) (-1) mu t tl s' me mf mw) ∧ hp_g k (M + 1) = some (iA 12639 B) ∧ RS B 730 p rk tg z0 z0 ∧ DI (p, rk, tg, f) ∧ offR A B ∧ frm h k M (M + 2)
theorem m_schLoop (hT : tpR T t) (htl : tl ≤ 600) (i : Option Value) (h0 : zz_H) (A0 : Nat → Int32) : ∀ n (h : zz_H) (s : Nat) (D : Sk) (A : Nat → Int32), hp_g h M = some (mdT M mt (nI 0) (-1) mu t tl s me mf mw) → hp_g h (M + 1) = some (iA 12639 A) → hp_g h (M + 2) = some (iA 600 T) → s ≤ tl → RS A 730 D.1 D.2.1 D.2.2.1 z0 z0 → ZR A D.1 → DI D → offR A0 A → frm h0 h M (M + 2) → tl - s < n → mdZ h0 M (zz_Y 221 (30, [some (.ref (M)), i], [], h)) (fun k => zz_Y 221 (51, [some (.ref (M)), i], [], k)) mt mu t tl me mf mw A0 (schP t tl n s D) := by
  intro n
  induction n with
  | zero => intro h s D A w0 wA wT hs hr hz hd ho hf hn; omega
  | succ n ih =>
    intro h s D A w0 wA wT hs hr hz hd ho hf hn
    obtain ⟨p, rk, tg, f⟩ := D
    dsimp only at hr hz
    have hmt := mt_le t tl s
    have ig := m_isGood w0
    rw [decide_eq_true rfl] at ig
    unfold schP
    by_cases c : kdP t tl s = 0
    · rw [if_pos c]
      have cm := (kw_0 t tl s).mp c
      refine ⟨h, A, s, ?_, w0, wA, hr, hd, ho, hf⟩
      rw [x221_c30]
      simp (disch := first | assumption | exact zz_nl_i _ | exact zz_nl_r _ | exact zz_nl_n | exact okv_i _ | exact okv_j _ | exact okv_0 | exact okv_1 | exact okv_o _ _ | exact okv_a _ _ | exact bI_okr _ | omega | exact llt_0 | ((repeat apply llt_s) <;> exact llt_0) | fail) only [x221, ig, bI_t, nI_01, if_false, w0, nI_eq, eq_true cm, if_true, show ((1 : Nat) = 0) = False from eq_false (by omega), mo_k_v, mo_k_n, mo_v_e, mo_gf_e, mo_pf_e, mo_ia_e, mo_ba_e, mo_za_e, mo_la_e, mo_aa_e, mo_le_e, mo_is_e, mo_bs_e, mo_zs_0, mo_zs_1, mo_ls_e, mo_as_e, mo_na_e, mo_aci_e, mo_acb_e, mo_acj_e, hp_gs, hp_gn, hp_ss, List.getElem?_cons_zero, List.getElem?_cons_succ, List.set_cons_zero, List.set_cons_succ]
    · rw [if_neg c]
      have cm : ¬ mtP t tl s = 0 := fun z => c ((kw_0 t tl s).mpr z)
      have q := m_readsLine w0 wA wT hT htl hs hr hz hd (fun o ho s' D' e => part_le hd.2.1 hs o ho s' D' e)
      cases e : lineP t tl s (p, rk, tg, f) with
      | inl x =>
        obtain ⟨a, b⟩ := x
        rw [e] at q
        obtain ⟨k, B, s', e1, u0, uA, uo, uf, ua, ub⟩ := q
        have ig2 := m_isGood u0
        rw [decide_eq_false (nz ua ub).1] at ig2
        refine ⟨k, B, s', ?_, u0, uA, fun j hj => (uo j hj).trans (ho j hj), frm_trans hf uf, ua, ub⟩
        rw [x221_c30]
        simp (disch := first | assumption | exact zz_nl_i _ | exact zz_nl_r _ | exact zz_nl_n | exact okv_i _ | exact okv_j _ | exact okv_0 | exact okv_1 | exact okv_o _ _ | exact okv_a _ _ | exact bI_okr _ | omega | exact llt_0 | ((repeat apply llt_s) <;> exact llt_0) | fail) only [x221, ig, bI_t, nI_01, if_false, w0, nI_eq, cm, e1, show ((1 : Nat) = 0) = False from eq_false (by omega), mo_k_v, mo_k_n, mo_v_e, mo_gf_e, mo_pf_e, mo_ia_e, mo_ba_e, mo_za_e, mo_la_e, mo_aa_e, mo_le_e, mo_is_e, mo_bs_e, mo_zs_0, mo_zs_1, mo_ls_e, mo_as_e, mo_na_e, mo_aci_e, mo_acb_e, mo_acj_e, hp_gs, hp_gn, hp_ss, List.getElem?_cons_zero, List.getElem?_cons_succ, List.set_cons_zero, List.set_cons_succ]
        rw [x221_c30]
        simp (disch := first | assumption | exact zz_nl_i _ | exact zz_nl_r _ | exact zz_nl_n | exact okv_i _ | exact okv_j _ | exact okv_0 | exact okv_1 | exact okv_o _ _ | exact okv_a _ _ | exact bI_okr _ | omega | exact llt_0 | ((repeat apply llt_s) <;> exact llt_0) | fail) only [x221, ig2, bI_f, if_true, mo_k_v, mo_k_n, mo_v_e, mo_gf_e, mo_pf_e, mo_ia_e, mo_ba_e, mo_za_e, mo_la_e, mo_aa_e, mo_le_e, mo_is_e, mo_bs_e, mo_zs_0, mo_zs_1, mo_ls_e, mo_as_e, mo_na_e, mo_aci_e, mo_acb_e, mo_acj_e, hp_gs, hp_gn, hp_ss, List.getElem?_cons_zero, List.getElem?_cons_succ, List.set_cons_zero, List.set_cons_succ]
      | inr x =>
        obtain ⟨s', D'⟩ := x
        obtain ⟨d1, d2, d3⟩ := DI_line hd hs c e
        rw [e] at q
        obtain ⟨p', rk', tg', f'⟩ := D'
        obtain ⟨k, B, e1, u0, uA, ur, uz, uo, uf⟩ := q
        have r := ih k s' (p', rk', tg', f') B u0 uA ((uf.2.2.2 _ (by omega)).trans wT) d3 ur uz d1 (fun j hj => (uo j hj).trans (ho j hj)) (frm_trans hf uf) (by omega)
        have st : zz_Y 221 (30, [some (.ref (M)), i], [], h) = zz_Y 221 (30, [some (.ref (M)), i], [], k) := by
          rw [x221_c30]
          simp (disch := first | assumption | exact zz_nl_i _ | exact zz_nl_r _ | exact zz_nl_n | exact okv_i _ | exact okv_j _ | exact okv_0 | exact okv_1 | exact okv_o _ _ | exact okv_a _ _ | exact bI_okr _ | omega | exact llt_0 | ((repeat apply llt_s) <;> exact llt_0) | fail) only [x221, ig, bI_t, nI_01, if_false, w0, nI_eq, cm, e1, show ((1 : Nat) = 0) = False from eq_false (by omega), mo_k_v, mo_k_n, mo_v_e, mo_gf_e, mo_pf_e, mo_ia_e, mo_ba_e, mo_za_e, mo_la_e, mo_aa_e, mo_le_e, mo_is_e, mo_bs_e, mo_zs_0, mo_zs_1, mo_ls_e, mo_as_e, mo_na_e, mo_aci_e, mo_acb_e, mo_acj_e, hp_gs, hp_gn, hp_ss, List.getElem?_cons_zero, List.getElem?_cons_succ, List.set_cons_zero, List.set_cons_succ]
        rw [st]
        exact r
theorem m_begins {h : zz_H} (w0 : hp_g h M = some (mdO M (nI tl) mk mp mu ms mn mo ml mv me mf mw)) (wT : hp_g h (M + 2) = some (iA 600 T)) (hT : tpR T t) (htl : tl ≤ 600) : zz_run 222 [.ref M] h = some (none, hp_s h M (mdT M (nI 0) (nI 0) (-1) mu t tl (tkS t tl 0) me mf mw)) := by
  have tk := m_takes (h := hp_s h M (mdO M (nI 0) (nI 0) (-1) mu (nI tl) (nI 0) mo ml mv me mf mw)) (q := 0) (hp_gs _ _ _) ((hp_gn (by omega)).trans wT) hT htl (by omega)
  rw [hp_ss] at tk
  rw [en222 w0]
  simp (disch := first | assumption | exact zz_nl_i _ | exact zz_nl_r _ | exact zz_nl_n | exact okv_i _ | exact okv_j _ | exact okv_0 | exact okv_1 | exact okv_o _ _ | exact okv_a _ _ | exact bI_okr _ | omega | exact llt_0 | ((repeat apply llt_s) <;> exact llt_0) | fail) only [x222, w0, tk, mo_k_v, mo_k_n, mo_v_e, mo_gf_e, mo_pf_e, mo_ia_e, mo_ba_e, mo_za_e, mo_la_e, mo_aa_e, mo_le_e, mo_is_e, mo_bs_e, mo_zs_0, mo_zs_1, mo_ls_e, mo_as_e, mo_na_e, mo_aci_e, mo_acb_e, mo_acj_e, hp_gs, hp_gn, hp_ss, List.getElem?_cons_zero, List.getElem?_cons_succ, List.set_cons_zero, List.set_cons_succ]
theorem RS_em {B : Nat → Int32} {D : Sk} (he : emD D) (hB : ∀ i, i < 718 → B (730 + i) = nI 0) : RS B 730 D.1 D.2.1 D.2.2.1 z0 z0 ∧ ZR B D.1 := by
  obtain ⟨p, rk, tg, f⟩ := D
  obtain ⟨e1, e2, e3, e4, e5⟩ := he
  dsimp only at e1 e2 e3 e4 ⊢
  refine ⟨⟨⟨by omega, by omega, ?_, ?_⟩, fun d hd => by omega, fun v hv => by omega, fun q hq => ⟨?_, Or.inl (e3 q hq)⟩, fun v hv => by omega⟩, fun d h1 h2 => ?_, fun v h1 h2 => ⟨?_, fun b hb => ?_⟩⟩
  · rw [e1]; exact hB 0 (by omega)
  · rw [e2]; exact hB 1 (by omega)
  · rw [Nat.add_assoc, hB _ (by omega), nI_0, b_0, e3 q hq, decide_eq_true rfl]
    rfl
  · rw [Nat.add_assoc]; exact hB _ (by omega)
  · rw [Nat.add_assoc]; exact hB _ (by omega)
  · rw [Nat.add_assoc, Nat.add_assoc]; exact hB _ (by omega)
theorem m_scheme {h : zz_H} {A : Nat → Int32} (w0 : hp_g h M = some (mdO M (nI tl) mk mp mu ms mn mo ml mv me mf mw)) (wA : hp_g h (M + 1) = some (iA 12639 A)) (wT : hp_g h (M + 2) = some (iA 600 T)) (hT : tpR T t) (htl : tl ≤ 600) {D : Sk} (he : emD D) : match schP t tl 601 (tkS t tl 0) D with
    | .inl (a, b) => ∃ k B s', zz_run 221 [.ref M] h = some (some (.int (-1)), k) ∧ hp_g k M = some (mdT M (nI 0) (nI a) (nI b) mu t tl s' me mf mw) ∧ hp_g k (M + 1) = some (iA 12639 B) ∧ offR A B ∧ frm h k M (M + 2)
    | .inr (_, p, rk, tg, f) => ∃ k B s', zz_run 221 [.ref M] h = some (some (.int (nI (amt (rw8 f 20)))), k) ∧ hp_g k M = some (mdT M (nI 0) (nI 0) (-1) (nI 0) t tl s' me mf mw) ∧ hp_g k (M + 1) = some (iA 12639 B) ∧ RS B 0 p rk tg z0 z0 ∧ (∀ i, (718 ≤ i ∧ i < 730) ∨ 1460 ≤ i → B i = A i) ∧ frm h k M (M + 2) := by
  have bg := m_begins w0 wT hT htl
  have hs0 := (tkS_le (t := t) (Nat.zero_le tl)).2
  have step : ∀ k g, k < 718 → zz_Y 221 (6, [some (.ref (M)), some (.int (nI (k)))], [], hp_s (hp_s h M (mdT M (nI 0) (nI 0) (-1) mu t tl (tkS t tl 0) me mf mw)) (M + 1) (iA 12639 g)) = zz_Y 221 (6, [some (.ref (M)), some (.int (nI (k + 1)))], [], hp_s (hp_s h M (mdT M (nI 0) (nI 0) (-1) mu t tl (tkS t tl 0) me mf mw)) (M + 1) (iA 12639 (upd g (730 + k) (nI 0)))) := by
    intro k g hk
    rw [x221_c6]
    simp (disch := first | assumption | exact zz_nl_i _ | exact zz_nl_r _ | exact zz_nl_n | exact okv_i _ | exact okv_j _ | exact okv_0 | exact okv_1 | exact okv_o _ _ | exact okv_a _ _ | exact bI_okr _ | omega | exact llt_0 | ((repeat apply llt_s) <;> exact llt_0) | fail) only [x221, nI_ltI, hk, if_true, nI_add, mo_k_v, mo_k_n, mo_v_e, mo_gf_e, mo_pf_e, mo_ia_e, mo_ba_e, mo_za_e, mo_la_e, mo_aa_e, mo_le_e, mo_is_e, mo_bs_e, mo_zs_0, mo_zs_1, mo_ls_e, mo_as_e, mo_na_e, mo_aci_e, mo_acb_e, mo_acj_e, hp_gs, hp_gn, hp_ss, List.getElem?_cons_zero, List.getElem?_cons_succ, List.set_cons_zero, List.set_cons_succ]
  have l := lp_fold (N := 718) (St := fun k g => zz_Y 221 (6, [some (.ref (M)), some (.int (nI (k)))], [], hp_s (hp_s h M (mdT M (nI 0) (nI 0) (-1) mu t tl (tkS t tl 0) me mf mw)) (M + 1) (iA 12639 g))) (s := A) step
  rw [hp_same (h := hp_s h M (mdT M (nI 0) (nI 0) (-1) mu t tl (tkS t tl 0) me mf mw)) ((hp_gn (by omega)).trans wA)] at l
  obtain ⟨s1, s2⟩ := lp_set 730 (fun _ => nI 0) A 718
  generalize lp_it (fun k g => upd g (730 + k) (nI 0)) 718 A = B0 at *
  obtain ⟨hr, hz⟩ := RS_em he s1
  have e0 : zz_run 221 [.ref M] h = zz_Y 221 (30, [some (.ref (M)), some (.int (nI (718)))], [], hp_s (hp_s h M (mdT M (nI 0) (nI 0) (-1) mu t tl (tkS t tl 0) me mf mw)) (M + 1) (iA 12639 B0)) := by
    rw [en221 w0]
    simp (disch := first | assumption | exact zz_nl_i _ | exact zz_nl_r _ | exact zz_nl_n | exact okv_i _ | exact okv_j _ | exact okv_0 | exact okv_1 | exact okv_o _ _ | exact okv_a _ _ | exact bI_okr _ | omega | exact llt_0 | ((repeat apply llt_s) <;> exact llt_0) | fail) only [x221, bg, mo_k_v, mo_k_n, mo_v_e, mo_gf_e, mo_pf_e, mo_ia_e, mo_ba_e, mo_za_e, mo_la_e, mo_aa_e, mo_le_e, mo_is_e, mo_bs_e, mo_zs_0, mo_zs_1, mo_ls_e, mo_as_e, mo_na_e, mo_aci_e, mo_acb_e, mo_acj_e, hp_gs, hp_gn, hp_ss, List.getElem?_cons_zero, List.getElem?_cons_succ, List.set_cons_zero, List.set_cons_succ]
    rw [l, x221_c6]
    simp (disch := first | assumption | exact zz_nl_i _ | exact zz_nl_r _ | exact zz_nl_n | exact okv_i _ | exact okv_j _ | exact okv_0 | exact okv_1 | exact okv_o _ _ | exact okv_a _ _ | exact bI_okr _ | omega | exact llt_0 | ((repeat apply llt_s) <;> exact llt_0) | fail) only [x221, nI_ltI, Nat.lt_irrefl, if_false, mo_k_v, mo_k_n, mo_v_e, mo_gf_e, mo_pf_e, mo_ia_e, mo_ba_e, mo_za_e, mo_la_e, mo_aa_e, mo_le_e, mo_is_e, mo_bs_e, mo_zs_0, mo_zs_1, mo_ls_e, mo_as_e, mo_na_e, mo_aci_e, mo_acb_e, mo_acj_e, hp_gs, hp_gn, hp_ss, List.getElem?_cons_zero, List.getElem?_cons_succ, List.set_cons_zero, List.set_cons_succ]
  have r := m_schLoop (M := M) (mt := nI 0) (mu := mu) (me := me) (mf := mf) (mw := mw) hT htl (some (.int (nI 718))) h A 601 _ (tkS t tl 0) D B0 ((hp_gn (by omega)).trans (hp_gs _ _ _)) (hp_gs _ _ _) ((hp_gn (by omega)).trans ((hp_gn (by omega)).trans wT)) hs0 hr hz (DI_em he) (fun i hi => s2 i (by omega)) (frm_s (b := M + 1) ⟨by omega, by omega⟩ (frm_s (b := M) ⟨by omega, by omega⟩ (frm_refl _ _ _))) (by omega)
  rw [← e0] at r
  cases e : schP t tl 601 (tkS t tl 0) D with
  | inl x =>
    obtain ⟨a, b⟩ := x
    rw [e] at r
    obtain ⟨k, B, s', e1, u0, uA, uo, uf, ua, ub⟩ := r
    have ig := m_isGood u0
    rw [decide_eq_false (nz ua ub).1] at ig
    refine ⟨k, B, s', e1.trans ?_, u0, uA, uo, uf⟩
    simp (disch := first | assumption | exact zz_nl_i _ | exact zz_nl_r _ | exact zz_nl_n | exact okv_i _ | exact okv_j _ | exact okv_0 | exact okv_1 | exact okv_o _ _ | exact okv_a _ _ | exact bI_okr _ | omega | exact llt_0 | ((repeat apply llt_s) <;> exact llt_0) | fail) only [x221, ig, bI_f, if_true, mo_k_v, mo_k_n, mo_v_e, mo_gf_e, mo_pf_e, mo_ia_e, mo_ba_e, mo_za_e, mo_la_e, mo_aa_e, mo_le_e, mo_is_e, mo_bs_e, mo_zs_0, mo_zs_1, mo_ls_e, mo_as_e, mo_na_e, mo_aci_e, mo_acb_e, mo_acj_e, hp_gs, hp_gn, hp_ss, List.getElem?_cons_zero, List.getElem?_cons_succ, List.set_cons_zero, List.set_cons_succ]
  | inr x =>
    obtain ⟨s0, p, rk, tg, f⟩ := x
    rw [e] at r
    obtain ⟨k, B, s', e1, u0, uA, ur, ud, uo, uf⟩ := r
    have ig := m_isGood u0
    rw [decide_eq_true rfl] at ig
    have cp := m_copies u0 uA (a := 730) (b := 0) (n := 718) (by omega) (by omega) (by omega)
    have hr2 : RS (cpA B 730 0 718) 0 p rk tg z0 z0 := RS_shift ur (fun i hi => by rw [cpA_in hi])
    have v0 : hp_g (hp_s (hp_s k (M + 1) (iA 12639 (cpA B 730 0 718))) M (mdT M (nI 0) (nI 0) (-1) (nI 0) t tl s' me mf mw)) M = some (mdT M (nI 0) (nI 0) (-1) (nI 0) t tl s' me mf mw) := hp_gs _ _ _
    have vA : hp_g (hp_s (hp_s k (M + 1) (iA 12639 (cpA B 730 0 718))) M (mdT M (nI 0) (nI 0) (-1) (nI 0) t tl s' me mf mw)) (M + 1) = some (iA 12639 (cpA B 730 0 718)) := (hp_gn (by omega)).trans (hp_gs _ _ _)
    have th := m_thereMany v0 vA hr2 ud.2.2.1
    refine ⟨_, _, s', e1.trans ?_, v0, vA, hr2, fun i hi => (cpA_out (by omega)).trans (uo i (by omega)), frm_s ⟨by omega, by omega⟩ (frm_s ⟨by omega, by omega⟩ uf)⟩
    simp (disch := first | assumption | exact zz_nl_i _ | exact zz_nl_r _ | exact zz_nl_n | exact okv_i _ | exact okv_j _ | exact okv_0 | exact okv_1 | exact okv_o _ _ | exact okv_a _ _ | exact bI_okr _ | omega | exact llt_0 | ((repeat apply llt_s) <;> exact llt_0) | fail) only [x221, ig, bI_t, nI_01, if_false, cp, u0, th, mo_k_v, mo_k_n, mo_v_e, mo_gf_e, mo_pf_e, mo_ia_e, mo_ba_e, mo_za_e, mo_la_e, mo_aa_e, mo_le_e, mo_is_e, mo_bs_e, mo_zs_0, mo_zs_1, mo_ls_e, mo_as_e, mo_na_e, mo_aci_e, mo_acb_e, mo_acj_e, hp_gs, hp_gn, hp_ss, List.getElem?_cons_zero, List.getElem?_cons_succ, List.set_cons_zero, List.set_cons_succ]
end
