/-! questions, in themselves; the class's stack -/
abbrev Le : Type := Bool × (Nat → Int32) × Bool × (Nat → Int32) × Nat
def comeL (e : Le) (x : Nat → Int32) : Le × Nat := if e.2.2.1 = true then ((e.1, e.2.1, true, fun b => jnd e.2.2.2.2 (e.2.2.2.1 b) (x b), e.2.2.2.2), wj8 e.2.2.2.2 e.2.2.2.1 x) else ((e.1, e.2.1, true, x, e.2.2.2.2), 0)
def endL (e : Le) : (Nat → Int32) × Nat := if e.1 = true then (fun b => jnd 1 (e.2.1 b) (e.2.2.2.1 b), wj8 1 e.2.1 e.2.2.2.1) else (e.2.2.2.1, 0)
def newL : Le := (false, z0, false, z0, 0)
def upL (L : Nat → Le) (d : Nat) (e : Le) : Nat → Le := fun i => if i = d then e else L i
theorem upL_eq (L : Nat → Le) (d : Nat) (e : Le) : upL L d e d = e := if_pos rfl
theorem upL_ne {L : Nat → Le} {d i : Nat} {e : Le} (h : i ≠ d) : upL L d e i = L i := if_neg h
def setJ (e : Le) (j : Nat) : Le := (e.1, e.2.1, e.2.2.1, e.2.2.2.1, j)
def orL (e : Le) : Le := (true, (endL e).1, false, e.2.2.2.1, e.2.2.2.2)
abbrev Ans : Type := (Nat × Nat) ⊕ ((Nat → Int32) × Nat)
abbrev Qst : Type := Nat × Bool × Nat × Nat × (Nat → Le)
/-- a token that is not the end -/
def stepP (t : Nat → Nat) (tl : Nat) (p : Pl) (f : Nat → Int32) (s dep : Nat) (fd : Bool) (fc wk : Nat) (L : Nat → Le) : (Nat × Nat) ⊕ Qst :=
  if fd = true then
    (if kdP t tl s = 2 then
      (if ¬ vnP p (wP t tl s) < pnv p then .inl (3, s) else if ¬ fc < 30 then .inl (7, s) else
        .inr (dep, false, fc + 1, wk + (comeL (L dep) (rw8 f (vnP p (wP t tl s)))).2, upL L dep (comeL (L dep) (rw8 f (vnP p (wP t tl s)))).1))
    else if kdP t tl s = 16 then
      (if ¬ fc < 30 then .inl (7, s) else .inr (dep, false, fc + 1, wk + (comeL (L dep) (rw8 f 20)).2, upL L dep (comeL (L dep) (rw8 f 20)).1))
    else if kdP t tl s = 5 then
      (if ¬ dep < 6 then .inl (8, s) else .inr (dep + 1, true, fc, wk, upL L (dep + 1) newL))
    else .inl (1, s))
  else
    (if kdP t tl s = 14 then .inr (dep, true, fc, wk, upL L dep (setJ (L dep) 0))
    else if kdP t tl s = 15 then .inr (dep, true, fc, wk, upL L dep (setJ (L dep) 2))
    else if kdP t tl s = 13 then .inr (dep, true, fc, wk + (endL (L dep)).2, upL L dep (orL (L dep)))
    else if kdP t tl s = 6 then
      (if dep = 0 then .inl (1, s) else .inr (dep - 1, false, fc, wk + (endL (L dep)).2 + (comeL (L (dep - 1)) (endL (L dep)).1).2, upL L (dep - 1) (comeL (L (dep - 1)) (endL (L dep)).1).1))
    else .inl (1, s))
def askP (t : Nat → Nat) (tl : Nat) (p : Pl) (f : Nat → Int32) : Nat → Nat → Nat → Bool → Nat → Nat → (Nat → Le) → Ans
  | 0, s, _, _, _, _, _ => .inl (1, s)
  | n + 1, s, dep, fd, fc, wk, L => if kdP t tl s = 0 then (if fd = true ∨ 0 < dep then .inl (1, s) else .inr ((endL (L dep)).1, wk + (endL (L dep)).2)) else
    match stepP t tl p f s dep fd fc wk L with
    | .inl e => .inl e
    | .inr (dep', fd', fc', wk', L') => askP t tl p f n (advP t tl s) dep' fd' fc' wk' L'
def b2n (b : Bool) : Nat := if b = true then 1 else 0
def bs (L : Nat → Le) : Nat → Nat
  | 0 => 0
  | d + 1 => bs L d + b2n (L d).1 + b2n (L d).2.2.1
theorem b2n_le (b : Bool) : b2n b ≤ 1 := by cases b <;> decide
theorem bs_le (L : Nat → Le) : ∀ d, bs L d ≤ 2 * d
  | 0 => Nat.le_refl _
  | d + 1 => by
    have := bs_le L d
    have h1 := b2n_le (L d).1
    have h2 := b2n_le (L d).2.2.1
    show bs L d + b2n (L d).1 + b2n (L d).2.2.1 ≤ 2 * (d + 1)
    omega
theorem bs_up {L : Nat → Le} {d : Nat} {e : Le} : ∀ {i : Nat}, i ≤ d → bs (upL L d e) i = bs L i
  | 0, _ => rfl
  | i + 1, h => by
    show bs (upL L d e) i + b2n (upL L d e i).1 + b2n (upL L d e i).2.2.1 = _
    rw [bs_up (show i ≤ d by omega), upL_ne (by omega)]
    rfl
theorem bs_mono (L : Nat → Le) {i d : Nat} (h : i ≤ d) : bs L i ≤ bs L d := by
  induction d with
  | zero =>
    have : i = 0 := by omega
    subst this
    exact Nat.le_refl _
  | succ d ih =>
    by_cases c : i = d + 1
    · subst c; exact Nat.le_refl _
    · have := ih (by omega)
      show bs L i ≤ bs L d + b2n (L d).1 + b2n (L d).2.2.1
      omega
/-- a level as it lies in the class -/
def lvC (L : Nat → Le) (sf jn wt : Nat → Int32) (d : Nat) (pend : Prop) [Decidable pend] : Prop :=
  wt d = bI (L d).1 ∧ jn d = (if (L d).2.2.1 = true ∧ pend then nI (L d).2.2.2.2 else -1) ∧ ((L d).1 = true → ∀ b, b < 8 → sf (8 * bs L d + b) = (L d).2.1 b) ∧ ((L d).2.2.1 = true → ∀ b, b < 8 → sf (8 * (bs L d + b2n (L d).1) + b) = (L d).2.2.2.1 b) ∧ ((L d).2.2.1 = true → pend → (L d).2.2.2.2 = 0 ∨ (L d).2.2.2.2 = 2)
def cQ (h : zz_H) (X : Nat) (dep : Nat) (fd : Bool) (fc wk : Nat) (L : Nat → Le) : Prop := ∃ sf jn wt, hp_g h (X + 47) = some (qrO X (nI (bs L (dep + 1))) (nI dep) fd (nI fc) (nI wk)) ∧ isSets h (X + 51) 15 sf ∧ hp_g h (X + 53) = some (iA 7 jn) ∧ hp_g h (X + 54) = some (iA 7 wt) ∧ dep ≤ 6 ∧ (∀ d, d < dep → lvC L sf jn wt d True) ∧ lvC L sf jn wt dep (fd = true) ∧ (fd = false → (L dep).2.2.1 = true)
section
variable {h : zz_H} {X : Nat}
/-- the two on top are joined -/
theorem c_joinTop {hh dp fc wk : Nat} {fd : Bool} {sf : Nat → Int32} (w0 : hp_g h (X + 47) = some (qrO X (nI (hh + 2)) (nI dp) fd (nI fc) (nI wk))) (hs : isSets h (X + 51) 15 sf) (hh15 : hh + 2 ≤ 15) {j : Nat} (hj : j < 3) : ∃ k, zz_run 73 [.ref (X + 47), .int (nI j)] h = some (none, k) ∧ hp_g k (X + 47) = some (qrO X (nI (hh + 1)) (nI dp) fd (nI fc) (nI (wk + wj8 j (rw8 sf hh) (rw8 sf (hh + 1))))) ∧ isSets k (X + 51) 15 (lay8 sf hh (fun b => jnd j (sf (8 * hh + b)) (sf (8 * (hh + 1) + b))) 8) ∧ frm h k (X + 47) (X + 53) ∧ sam h k (X + 48) (X + 51) := by
  have w0' := w0
  unfold qrO at w0'
  have s1 : nI (hh + 2) - nI 1 = nI (hh + 1) := pk_sub (by omega)
  have s2 : nI (hh + 1) - nI 1 = nI hh := pk_sub (by omega)
  have c2 : ¬ nI (hh + 2) < nI 2 := fun z => by rw [nI_ltI (by omega) (by omega)] at z; omega
  have hrow : hh < 15 := by omega
  have hrow1 : hh + 1 < 15 := by omega
  have step : ∀ b, b < 8 → ∀ o1 o2 : Option Value, zz_nl o1 = true → zz_nl o2 = true → ∃ o1' o2', zz_nl o1' = true ∧ zz_nl o2' = true ∧ zz_Y 73 (21, [some (.ref (X + 47)), some (.int (nI (j))), some (.int (nI (b))), o1, o2], [], hp_s (hp_s h (X + 47) (qrO X (nI (hh + 1)) (nI dp) fd (nI fc) (nI (wk + fb_sm (fun b => wrk j (rw8 sf hh b) (rw8 sf (hh + 1) b)) b)))) (X + 51 + 1) (.inl (.int, 8 * 15, .inl (lay8 sf hh (fun b => jnd j (sf (8 * hh + b)) (sf (8 * (hh + 1) + b))) b)))) = zz_Y 73 (21, [some (.ref (X + 47)), some (.int (nI (j))), some (.int (nI (b + 1))), o1', o2'], [], hp_s (hp_s h (X + 47) (qrO X (nI (hh + 1)) (nI dp) fd (nI fc) (nI (wk + fb_sm (fun b => wrk j (rw8 sf hh b) (rw8 sf (hh + 1) b)) (b + 1))))) (X + 51 + 1) (.inl (.int, 8 * 15, .inl (lay8 sf hh (fun b => jnd j (sf (8 * hh + b)) (sf (8 * (hh + 1) + b))) (b + 1))))) := by
    intro b hb o1 o2 ho1 ho2
    have hs1 : isSets (hp_s (hp_s h (X + 47) (qrO X (nI (hh + 1)) (nI dp) fd (nI fc) (nI (wk + fb_sm (fun b => wrk j (rw8 sf hh b) (rw8 sf (hh + 1) b)) b)))) (X + 51 + 1) (.inl (.int, 8 * 15, .inl (lay8 sf hh (fun b => jnd j (sf (8 * hh + b)) (sf (8 * (hh + 1) + b))) b)))) (X + 51) 15 (lay8 sf hh (fun b => jnd j (sf (8 * hh + b)) (sf (8 * (hh + 1) + b))) b) := isSets_set (isSets_s hs (by omega))
    have e1 := c_bitsOf hs1 hrow hb
    have e2 := c_bitsOf hs1 hrow1 hb
    have g1 : lay8 sf hh (fun b => jnd j (sf (8 * hh + b)) (sf (8 * (hh + 1) + b))) b (8 * hh + b) = sf (8 * hh + b) := if_neg (by omega)
    have g2 : lay8 sf hh (fun b => jnd j (sf (8 * hh + b)) (sf (8 * (hh + 1) + b))) b (8 * (hh + 1) + b) = sf (8 * (hh + 1) + b) := if_neg (by omega)
    rw [g1] at e1
    rw [g2] at e2
    have hs2 : isSets (hp_s (hp_s h (X + 47) (qrO X (nI (hh + 1)) (nI dp) fd (nI fc) (nI (wk + fb_sm (fun b => wrk j (rw8 sf hh b) (rw8 sf (hh + 1) b)) b + wrk j (sf (8 * hh + b)) (sf (8 * (hh + 1) + b)))))) (X + 51 + 1) (.inl (.int, 8 * 15, .inl (lay8 sf hh (fun b => jnd j (sf (8 * hh + b)) (sf (8 * (hh + 1) + b))) b)))) (X + 51) 15 (lay8 sf hh (fun b => jnd j (sf (8 * hh + b)) (sf (8 * (hh + 1) + b))) b) := isSets_set (isSets_s hs (by omega))
    have e3 := c_setBits hs2 hrow hb (jnd j (sf (8 * hh + b)) (sf (8 * (hh + 1) + b)))
    rw [show upd (lay8 sf hh (fun b => jnd j (sf (8 * hh + b)) (sf (8 * (hh + 1) + b))) b) (8 * hh + b) (jnd j (sf (8 * hh + b)) (sf (8 * (hh + 1) + b))) = lay8 sf hh (fun b => jnd j (sf (8 * hh + b)) (sf (8 * (hh + 1) + b))) (b + 1) from lay8_s sf hh (fun b => jnd j (sf (8 * hh + b)) (sf (8 * (hh + 1) + b))) b, hp_ss] at e3
    refine ⟨some (.int (sf (8 * hh + b))), some (.int (sf (8 * (hh + 1) + b))), zz_nl_i _, zz_nl_i _, ?_⟩
    rw [x73_c21, fb_sm_succ]
    unfold qrO at e1 e2 e3 ⊢
    simp (disch := first | assumption | exact zz_nl_i _ | exact zz_nl_r _ | exact zz_nl_n | exact okv_i _ | exact okv_j _ | exact okv_0 | exact okv_1 | exact okv_o _ _ | exact okv_a _ _ | exact bI_okr _ | omega | exact llt_0 | ((repeat apply llt_s) <;> exact llt_0) | fail) only [x73, nI_ltI, hb, if_true, s2, e1, e2, c_work hj, nI_add, c_joined hj, mo_k_v, mo_k_n, mo_v_e, mo_gf_e, mo_pf_e, mo_ia_e, mo_ba_e, mo_za_e, mo_la_e, mo_aa_e, mo_le_e, mo_is_e, mo_bs_e, mo_zs_0, mo_zs_1, mo_ls_e, mo_as_e, mo_na_e, mo_aci_e, mo_acb_e, mo_acj_e, hp_gs, hp_gn, hp_ss, List.getElem?_cons_zero, List.getElem?_cons_succ, List.set_cons_zero, List.set_cons_succ]
    rw [hp_comm (h := hp_s h (X + 47) _) (show X + 51 + 1 ≠ X + 47 by omega), hp_ss]
    simp (disch := first | assumption | exact zz_nl_i _ | exact zz_nl_r _ | exact zz_nl_n | exact okv_i _ | exact okv_j _ | exact okv_0 | exact okv_1 | exact okv_o _ _ | exact okv_a _ _ | exact bI_okr _ | omega | exact llt_0 | ((repeat apply llt_s) <;> exact llt_0) | fail) only [x73, e3, nI_add, mo_k_v, mo_k_n, mo_v_e, mo_gf_e, mo_pf_e, mo_ia_e, mo_ba_e, mo_za_e, mo_la_e, mo_aa_e, mo_le_e, mo_is_e, mo_bs_e, mo_zs_0, mo_zs_1, mo_ls_e, mo_as_e, mo_na_e, mo_aci_e, mo_acb_e, mo_acj_e, hp_gs, hp_gn, hp_ss, List.getElem?_cons_zero, List.getElem?_cons_succ, List.set_cons_zero, List.set_cons_succ]
    rw [Nat.add_assoc wk]
    rfl
  have l : ∀ b, b ≤ 8 → ∃ o1 o2, zz_nl o1 = true ∧ zz_nl o2 = true ∧ zz_Y 73 (21, [some (.ref (X + 47)), some (.int (nI (j))), some (.int (nI (0))), none, none], [], hp_s (hp_s h (X + 47) (qrO X (nI (hh + 1)) (nI dp) fd (nI fc) (nI (wk + fb_sm (fun b => wrk j (rw8 sf hh b) (rw8 sf (hh + 1) b)) 0)))) (X + 51 + 1) (.inl (.int, 8 * 15, .inl (lay8 sf hh (fun b => jnd j (sf (8 * hh + b)) (sf (8 * (hh + 1) + b))) 0)))) = zz_Y 73 (21, [some (.ref (X + 47)), some (.int (nI (j))), some (.int (nI (b))), o1, o2], [], hp_s (hp_s h (X + 47) (qrO X (nI (hh + 1)) (nI dp) fd (nI fc) (nI (wk + fb_sm (fun b => wrk j (rw8 sf hh b) (rw8 sf (hh + 1) b)) b)))) (X + 51 + 1) (.inl (.int, 8 * 15, .inl (lay8 sf hh (fun b => jnd j (sf (8 * hh + b)) (sf (8 * (hh + 1) + b))) b)))) := by
    intro b
    induction b with
    | zero => exact fun _ => ⟨none, none, zz_nl_n, zz_nl_n, rfl⟩
    | succ b ih =>
      intro hb
      obtain ⟨o1, o2, p1, p2, e⟩ := ih (by omega)
      obtain ⟨o3, o4, p3, p4, e'⟩ := step b (by omega) o1 o2 p1 p2
      exact ⟨o3, o4, p3, p4, e.trans e'⟩
  obtain ⟨o1, o2, p1, p2, e⟩ := l 8 (Nat.le_refl _)
  rw [lay8_0, show wk + fb_sm (fun b => wrk j (rw8 sf hh b) (rw8 sf (hh + 1) b)) 0 = wk from rfl, hp_same (h := hp_s h (X + 47) _) ((hp_gn (by omega)).trans hs.2.1)] at e
  refine ⟨hp_s (hp_s h (X + 47) (qrO X (nI (hh + 1)) (nI dp) fd (nI fc) (nI (wk + wj8 j (rw8 sf hh) (rw8 sf (hh + 1)))))) (X + 51 + 1) (.inl (.int, 8 * 15, .inl (lay8 sf hh (fun b => jnd j (sf (8 * hh + b)) (sf (8 * (hh + 1) + b))) 8))), ?_, (hp_gn (by omega)).trans (hp_gs _ _ _), isSets_set (isSets_s hs (by omega)), frm_s ⟨by omega, by omega⟩ (frm_s ⟨by omega, by omega⟩ (frm_refl _ _ _)), fun c g1 g2 => (hp_gn (by omega)).trans (hp_gn (by omega))⟩
  rw [en73 w0']
  unfold qrO at e ⊢
  simp (disch := first | assumption | exact zz_nl_i _ | exact zz_nl_r _ | exact zz_nl_n | exact okv_i _ | exact okv_j _ | exact okv_0 | exact okv_1 | exact okv_o _ _ | exact okv_a _ _ | exact bI_okr _ | omega | exact llt_0 | ((repeat apply llt_s) <;> exact llt_0) | fail) only [x73, w0', c2, if_false, s1, mo_k_v, mo_k_n, mo_v_e, mo_gf_e, mo_pf_e, mo_ia_e, mo_ba_e, mo_za_e, mo_la_e, mo_aa_e, mo_le_e, mo_is_e, mo_bs_e, mo_zs_0, mo_zs_1, mo_ls_e, mo_as_e, mo_na_e, mo_aci_e, mo_acb_e, mo_acj_e, hp_gs, hp_gn, hp_ss, List.getElem?_cons_zero, List.getElem?_cons_succ, List.set_cons_zero, List.set_cons_succ]
  refine e.trans ?_
  rw [x73_c21]
  simp (disch := first | assumption | exact zz_nl_i _ | exact zz_nl_r _ | exact zz_nl_n | exact okv_i _ | exact okv_j _ | exact okv_0 | exact okv_1 | exact okv_o _ _ | exact okv_a _ _ | exact bI_okr _ | omega | exact llt_0 | ((repeat apply llt_s) <;> exact llt_0) | fail) only [x73, nI_ltI, Nat.lt_irrefl, if_false, mo_k_v, mo_k_n, mo_v_e, mo_gf_e, mo_pf_e, mo_ia_e, mo_ba_e, mo_za_e, mo_la_e, mo_aa_e, mo_le_e, mo_is_e, mo_bs_e, mo_zs_0, mo_zs_1, mo_ls_e, mo_as_e, mo_na_e, mo_aci_e, mo_acb_e, mo_acj_e, hp_gs, hp_gn, hp_ss, List.getElem?_cons_zero, List.getElem?_cons_succ, List.set_cons_zero, List.set_cons_succ]
  rfl
/-- a row laid: what lies elsewhere stays -/
theorem lay_in {sf W : Nat → Int32} {r b : Nat} (hb : b < 8) : lay8 sf r W 8 (8 * r + b) = W b := by
  unfold lay8
  rw [if_pos ⟨by omega, by omega⟩, Nat.add_sub_cancel_left]
theorem lay_out {sf W : Nat → Int32} {r i : Nat} (hi : i < 8 * r ∨ 8 * r + 8 ≤ i) : lay8 sf r W 8 i = sf i := if_neg (by omega)
theorem b2n_t : b2n true = 1 := rfl
theorem b2n_f : b2n false = 0 := rfl
theorem bs_s (L : Nat → Le) (d : Nat) : bs L (d + 1) = bs L d + b2n (L d).1 + b2n (L d).2.2.1 := rfl
/-- levels below stay when rows above are laid and the arrays change above -/
theorem lv_keep {L L' : Nat → Le} {sf sf' jn jn' wt wt' : Nat → Int32} {d : Nat} (hl : lvC L sf jn wt d True) (h1 : ∀ i, i ≤ d → L' i = L i) (h2 : jn' d = jn d) (h3 : wt' d = wt d) (h4 : ∀ i, i < 8 * bs L (d + 1) → sf' i = sf i) : lvC L' sf' jn' wt' d True := by
  obtain ⟨a1, a2, a3, a4, a5⟩ := hl
  have hb : ∀ i, i ≤ d → bs L' i = bs L i := by
    intro i
    induction i with
    | zero => intro _; rfl
    | succ i ih =>
      intro hi
      rw [bs_s, bs_s, ih (by omega), h1 i (by omega)]
  have e := h1 d (Nat.le_refl _)
  have hbs := bs_s L d
  unfold lvC
  rw [e, hb d (Nat.le_refl _), h2, h3]
  refine ⟨a1, a2, fun c b hb8 => ?_, fun c b hb8 => ?_, a5⟩
  · rw [h4 _ (by rw [hbs, c, b2n_t]; omega)]
    exact a3 c b hb8
  · rw [h4 _ (by rw [hbs, c, b2n_t]; omega)]
    exact a4 c b hb8
end
