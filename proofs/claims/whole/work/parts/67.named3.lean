/-! the reference: named, all of it -/
def pkF (t : Nat × Nat × Nat) : Nat → Nat := fun k => if k = 0 then t.1 else if k = 1 then t.2.1 else t.2.2
def lxn (n : Nat) (a b : Nat × Nat × Nat) : Prop := (n = 1 ∧ a.1 < b.1) ∨ (n = 2 ∧ (a.1 < b.1 ∨ a.1 = b.1 ∧ a.2.1 < b.2.1)) ∨ (n = 3 ∧ (a.1 < b.1 ∨ a.1 = b.1 ∧ (a.2.1 < b.2.1 ∨ a.2.1 = b.2.1 ∧ a.2.2 < b.2.2)))
def eqn (n : Nat) (a b : Nat × Nat × Nat) : Prop := (0 < n → a.1 = b.1) ∧ (1 < n → a.2.1 = b.2.1) ∧ (2 < n → a.2.2 = b.2.2)
def msr (t : Nat × Nat × Nat) : Nat := (20 - t.1) * 400 + (20 - t.2.1) * 20 + (20 - t.2.2)
theorem nxt_some {nv n : Nat} {t t2 : Nat × Nat × Nat} (hv : nv ≤ 20) (hn : n ≤ 3) (ht : pkOk nv n t) (e : nxt nv n t = some t2) : pkOk nv n t2 ∧ msr t2 < msr t ∧ ∀ t', pkOk nv n t' → lxn n t' t2 → lxn n t' t ∨ eqn n t' t := by
  obtain ⟨x, y, z⟩ := t
  obtain ⟨h1, h2, h3⟩ := ht
  match n, hn with
  | 0, _ => cases e
  | 1, _ =>
    have h1 := h1 rfl
    replace e : (if x + 1 < nv then some (x + 1, y, z) else none) = some t2 := e
    split at e
    · cases e
      refine ⟨⟨fun _ => by assumption, fun q => by omega, fun q => by omega⟩, by unfold msr; dsimp only at h1 ⊢; omega, ?_⟩
      rintro ⟨x', y', z'⟩ ⟨k1, _, _⟩ hl
      unfold lxn at hl ⊢
      unfold eqn
      dsimp only at *
      omega
    · cases e
  | 2, _ =>
    have h2 := h2 rfl
    replace e : (if y + 1 < nv then some (x, y + 1, z) else if x + 2 < nv then some (x + 1, x + 2, z) else none) = some t2 := e
    dsimp only at h2
    split at e
    · cases e
      refine ⟨⟨fun q => by omega, fun _ => by dsimp only; omega, fun q => by omega⟩, by unfold msr; dsimp only; omega, ?_⟩
      rintro ⟨x', y', z'⟩ ⟨_, k2, _⟩ hl
      have k2 := k2 rfl
      unfold lxn at hl ⊢
      unfold eqn
      dsimp only at *
      omega
    · split at e
      · cases e
        refine ⟨⟨fun q => by omega, fun _ => by dsimp only; omega, fun q => by omega⟩, by unfold msr; dsimp only; omega, ?_⟩
        rintro ⟨x', y', z'⟩ ⟨_, k2, _⟩ hl
        have k2 := k2 rfl
        unfold lxn at hl ⊢
        unfold eqn
        dsimp only at *
        omega
      · cases e
  | 3, _ =>
    have h3 := h3 rfl
    replace e : (if z + 1 < nv then some (x, y, z + 1) else if y + 2 < nv then some (x, y + 1, y + 2) else if x + 3 < nv then some (x + 1, x + 2, x + 3) else none) = some t2 := e
    dsimp only at h3
    split at e
    · cases e
      refine ⟨⟨fun q => by omega, fun q => by omega, fun _ => by dsimp only; omega⟩, by unfold msr; dsimp only; omega, ?_⟩
      rintro ⟨x', y', z'⟩ ⟨_, _, k3⟩ hl
      have k3 := k3 rfl
      unfold lxn at hl ⊢
      unfold eqn
      dsimp only at *
      omega
    · split at e
      · cases e
        refine ⟨⟨fun q => by omega, fun q => by omega, fun _ => by dsimp only; omega⟩, by unfold msr; dsimp only; omega, ?_⟩
        rintro ⟨x', y', z'⟩ ⟨_, _, k3⟩ hl
        have k3 := k3 rfl
        unfold lxn at hl ⊢
        unfold eqn
        dsimp only at *
        omega
      · split at e
        · cases e
          refine ⟨⟨fun q => by omega, fun q => by omega, fun _ => by dsimp only; omega⟩, by unfold msr; dsimp only; omega, ?_⟩
          rintro ⟨x', y', z'⟩ ⟨_, _, k3⟩ hl
          have k3 := k3 rfl
          unfold lxn at hl ⊢
          unfold eqn
          dsimp only at *
          omega
        · cases e
theorem nxt_none {nv n : Nat} {t : Nat × Nat × Nat} (hn : n ≤ 3) (ht : pkOk nv n t) (e : nxt nv n t = none) : ∀ t', pkOk nv n t' → lxn n t' t ∨ eqn n t' t := by
  obtain ⟨x, y, z⟩ := t
  obtain ⟨h1, h2, h3⟩ := ht
  rintro ⟨x', y', z'⟩ ⟨k1, k2, k3⟩
  match n, hn with
  | 0, _ => exact Or.inr ⟨fun q => by omega, fun q => by omega, fun q => by omega⟩
  | 1, _ =>
    replace e : (if x + 1 < nv then some (x + 1, y, z) else none) = none := e
    split at e
    · cases e
    · unfold lxn eqn
      have h1 := h1 rfl
      have k1 := k1 rfl
      dsimp only at *
      omega
  | 2, _ =>
    replace e : (if y + 1 < nv then some (x, y + 1, z) else if x + 2 < nv then some (x + 1, x + 2, z) else none) = none := e
    split at e
    · cases e
    · split at e
      · cases e
      · unfold lxn eqn
        have h2 := h2 rfl
        have k2 := k2 rfl
        dsimp only at *
        omega
  | 3, _ =>
    replace e : (if z + 1 < nv then some (x, y, z + 1) else if y + 2 < nv then some (x, y + 1, y + 2) else if x + 3 < nv then some (x + 1, x + 2, x + 3) else none) = none := e
    split at e
    · cases e
    · split at e
      · cases e
      · split at e
        · cases e
        · unfold lxn eqn
          have h3 := h3 rfl
          have k3 := k3 rfl
          dsimp only at *
          omega
def PP (f : Nat → Int32) (q n : Nat) (t : Nat × Nat × Nat) : Bool := pb (dn f (pkF t) n) q && decide (amt (dn f (pkF t) n) = 1)
theorem dn_cong {f : Nat → Int32} {pk pk' : Nat → Nat} : ∀ {n : Nat}, (∀ k, k < n → pk k = pk' k) → dn f pk n = dn f pk' n
  | 0, _ => rfl
  | n + 1, h => by
    funext b
    show dn f pk n b &&& f (8 * pk n + b) = dn f pk' n b &&& f (8 * pk' n + b)
    rw [dn_cong (fun k hk => h k (by omega)), h n (by omega)]
theorem PP_cong {f : Nat → Int32} {q n : Nat} {t t' : Nat × Nat × Nat} (hn : n ≤ 3) (h : eqn n t' t) : PP f q n t' = PP f q n t := by
  unfold PP
  rw [dn_cong (pk' := pkF t) (fun k hk => ?_)]
  obtain ⟨h1, h2, h3⟩ := h
  unfold pkF
  split
  · exact h1 (by omega)
  · split
    · exact h2 (by omega)
    · exact h3 (by omega)
def resN (n : Nat) (t : Nat × Nat × Nat) (y : Int32) : Int32 := if y = -1 then nI n else if isV n y = true then nI (pkF t y.toNatClampNeg) else -2
def fndN (f : Nat → Int32) (q nv n : Nat) (t : Nat × Nat × Nat) : Prop := pkOk nv n t ∧ PP f q n t = true ∧ ∀ t', pkOk nv n t' → lxn n t' t → PP f q n t' = false
section
variable {h : zz_H} {M : Nat} {A : Nat → Int32} {mt mk mp mu ms mn mo ml : Int32} {mv : Int64} {me mf mw : Int32} {p : Pl} {rk tg f ch ba : Nat → Int32}
def scr8 (h : zz_H) (M : Nat) : Prop := ∃ g, hp_g h (M + 8) = some (iA 3 g)
def frN (h k : zz_H) (M : Nat) : Prop := frm h k (M + 4) (M + 9) ∧ hp_g k (M + 7) = hp_g h (M + 7)
theorem frN_refl (h : zz_H) (M : Nat) : frN h h M := ⟨frm_refl _ _ _, rfl⟩
theorem frN_q {h k l : zz_H} {M : Nat} (h1 : frN h k M) (h2 : frm k l (M + 4) (M + 7)) : frN h l M := ⟨frm_trans h1.1 (frm_mono h2 (by omega) (by omega)), (h2.2.2.2 _ (by omega)).trans h1.2⟩
theorem frN_s {h k : zz_H} {M : Nat} {e : zz_E} (h1 : frN h k M) : frN h (hp_s k (M + 8) e) M := ⟨frm_s ⟨by omega, by omega⟩ h1.1, (hp_gn (by omega)).trans h1.2⟩
theorem m_while (w0 : hp_g h M = some (mdO M mt mk mp mu ms mn mo ml mv me mf mw)) (wA : hp_g h (M + 1) = some (iA 12639 A)) (hr : RS A 0 p rk tg ch ba) (hc : CI p rk tg f ch ba) {q n : Nat} (hq : q < 256) (hn : n ≤ 3) (hnv : n ≤ pnv p) (y : Int32) : ∀ (m : Nat) (t : Nat × Nat × Nat) (k : zz_H) (g8 : Nat → Int32), msr t < m → scr3 k M → hp_g k (M + 8) = some (iA 3 g8) → pkG g8 n t → frN h k M → pkOk (pnv p) n t → (∀ t', pkOk (pnv p) n t' → lxn n t' t → PP f q n t' = false) →
    (∃ t' k', fndN f q (pnv p) n t' ∧ zz_Y 199 (55, [some (.ref (M)), some (.int (nI (q))), some (.int (y)), some (.int (nI (n))), some (.int (nI (1)))], [], k) = some (some (.int (resN n t' y)), k') ∧ scr3 k' M ∧ scr8 k' M ∧ frN h k' M) ∨
    ((∀ t', pkOk (pnv p) n t' → PP f q n t' = false) ∧ ∃ k', zz_Y 199 (55, [some (.ref (M)), some (.int (nI (q))), some (.int (y)), some (.int (nI (n))), some (.int (nI (1)))], [], k) = zz_Y 199 (13, [some (.ref (M)), some (.int (nI (q))), some (.int (y)), some (.int (nI (n + 1))), some (.int (nI (0)))], [], k') ∧ scr3 k' M ∧ scr8 k' M ∧ frN h k' M) := by
  intro m
  induction m with
  | zero => intro t k g8 hm; omega
  | succ m ih =>
    intro t k g8 hm hs h8 hg hf hok hinv
    have w0' := (hf.1.2.2.2 M (by omega)).trans w0
    have wA' := (hf.1.2.2.2 (M + 1) (by omega)).trans wA
    obtain ⟨k2, e2, s2, hf2⟩ := m_doName w0' wA' hr hc hs hq hn h8 (pk := pkF t) (fun i hi => by
      obtain ⟨g1, g2, g3⟩ := hg
      obtain ⟨o1, o2, o3⟩ := hok
      unfold pkF
      by_cases c0 : i = 0
      · subst c0
        rw [if_pos rfl]
        exact ⟨g1 hi, by omega⟩
      · by_cases c1 : i = 1
        · subst c1
          rw [if_neg (by omega), if_pos rfl]
          exact ⟨g2 hi, by omega⟩
        · have : i = 2 := by omega
          subst this
          rw [if_neg (by omega), if_neg (by omega)]
          exact ⟨g3 hi, by omega⟩)
    have w0'' := (hf2.2.2.2 M (by omega)).trans w0'
    have wA'' := (hf2.2.2.2 (M + 1) (by omega)).trans wA'
    have h8'' := (hf2.2.2.2 (M + 8) (by omega)).trans h8
    have hf3 : frN h k2 M := frN_q hf hf2
    have e2' : zz_run 200 [.ref M, .int (nI q), .int (nI n)] k = some (some (.int (bI (PP f q n t))), k2) := e2
    rw [x199_c55]
    cases c : PP f q n t with
    | true =>
      rw [c] at e2'
      refine Or.inl ⟨t, k2, ⟨hok, c, hinv⟩, ?_, s2, ⟨_, h8''⟩, hf3⟩
      unfold resN
      by_cases cy : y = -1
      · simp (disch := first | assumption | exact zz_nl_i _ | exact zz_nl_r _ | exact zz_nl_n | exact okv_i _ | exact okv_j _ | exact okv_0 | exact okv_1 | exact okv_o _ _ | exact okv_a _ _ | exact bI_okr _ | omega | exact llt_0 | ((repeat apply llt_s) <;> exact llt_0) | fail) only [x199_p0, x199_p1, nI_01, if_false, e2', bI_t, eq_true cy, if_true, mo_k_v, mo_k_n, mo_v_e, mo_gf_e, mo_pf_e, mo_ia_e, mo_ba_e, mo_za_e, mo_la_e, mo_aa_e, mo_le_e, mo_is_e, mo_bs_e, mo_zs_0, mo_zs_1, mo_ls_e, mo_as_e, mo_na_e, mo_aci_e, mo_acb_e, mo_acj_e, hp_gs, hp_gn, hp_ss, List.getElem?_cons_zero, List.getElem?_cons_succ, List.set_cons_zero, List.set_cons_succ]
      · cases cv : isV n y with
        | false => simp (disch := first | assumption | exact zz_nl_i _ | exact zz_nl_r _ | exact zz_nl_n | exact okv_i _ | exact okv_j _ | exact okv_0 | exact okv_1 | exact okv_o _ _ | exact okv_a _ _ | exact bI_okr _ | omega | exact llt_0 | ((repeat apply llt_s) <;> exact llt_0) | fail) only [x199_p0, x199_p1, nI_01, if_false, e2', bI_t, cy, m_isIn, in_V', cv, bI_f, if_true, Bool.false_eq_true, mo_k_v, mo_k_n, mo_v_e, mo_gf_e, mo_pf_e, mo_ia_e, mo_ba_e, mo_za_e, mo_la_e, mo_aa_e, mo_le_e, mo_is_e, mo_bs_e, mo_zs_0, mo_zs_1, mo_ls_e, mo_as_e, mo_na_e, mo_aci_e, mo_acb_e, mo_acj_e, hp_gs, hp_gn, hp_ss, List.getElem?_cons_zero, List.getElem?_cons_succ, List.set_cons_zero, List.set_cons_succ]
        | true =>
          obtain ⟨j, hj, rfl⟩ := (isV_iff (by omega)).mp cv
          have hgj : g8 j = nI (pkF t j) := by
            obtain ⟨g1, g2, g3⟩ := hg
            unfold pkF
            by_cases c0 : j = 0
            · subst c0; rw [if_pos rfl]; exact g1 hj
            · by_cases c1 : j = 1
              · subst c1; rw [if_neg (by omega), if_pos rfl]; exact g2 hj
              · have : j = 2 := by omega
                subst this; rw [if_neg (by omega), if_neg (by omega)]; exact g3 hj
          simp (disch := first | assumption | exact zz_nl_i _ | exact zz_nl_r _ | exact zz_nl_n | exact okv_i _ | exact okv_j _ | exact okv_0 | exact okv_1 | exact okv_o _ _ | exact okv_a _ _ | exact bI_okr _ | omega | exact llt_0 | ((repeat apply llt_s) <;> exact llt_0) | fail) only [x199_p0, x199_p1, nI_01, if_false, e2', bI_t, cy, m_isIn, in_V', cv, w0'', h8'', hgj, nI_clamp, if_true, mo_k_v, mo_k_n, mo_v_e, mo_gf_e, mo_pf_e, mo_ia_e, mo_ba_e, mo_za_e, mo_la_e, mo_aa_e, mo_le_e, mo_is_e, mo_bs_e, mo_zs_0, mo_zs_1, mo_ls_e, mo_as_e, mo_na_e, mo_aci_e, mo_acb_e, mo_acj_e, hp_gs, hp_gn, hp_ss, List.getElem?_cons_zero, List.getElem?_cons_succ, List.set_cons_zero, List.set_cons_succ]
    | false =>
      rw [c] at e2'
      rcases m_next w0'' wA'' hr hn hnv h8'' hg hok with ⟨en, er⟩ | ⟨t2, g', en, hg', er⟩
      · refine Or.inr ⟨fun t' ht' => ?_, k2, ?_, s2, ⟨_, h8''⟩, hf3⟩
        · rcases nxt_none hn hok en t' ht' with d | d
          · exact hinv t' ht' d
          · rw [PP_cong hn d]; exact c
        · simp (disch := first | assumption | exact zz_nl_i _ | exact zz_nl_r _ | exact zz_nl_n | exact okv_i _ | exact okv_j _ | exact okv_0 | exact okv_1 | exact okv_o _ _ | exact okv_a _ _ | exact bI_okr _ | omega | exact llt_0 | ((repeat apply llt_s) <;> exact llt_0) | fail) only [x199_p0, x199_p1, nI_01, if_false, e2', bI_f, if_true, er, mo_k_v, mo_k_n, mo_v_e, mo_gf_e, mo_pf_e, mo_ia_e, mo_ba_e, mo_za_e, mo_la_e, mo_aa_e, mo_le_e, mo_is_e, mo_bs_e, mo_zs_0, mo_zs_1, mo_ls_e, mo_as_e, mo_na_e, mo_aci_e, mo_acb_e, mo_acj_e, hp_gs, hp_gn, hp_ss, List.getElem?_cons_zero, List.getElem?_cons_succ, List.set_cons_zero, List.set_cons_succ]
          rw [x199_c55]
          simp (disch := first | assumption | exact zz_nl_i _ | exact zz_nl_r _ | exact zz_nl_n | exact okv_i _ | exact okv_j _ | exact okv_0 | exact okv_1 | exact okv_o _ _ | exact okv_a _ _ | exact bI_okr _ | omega | exact llt_0 | ((repeat apply llt_s) <;> exact llt_0) | fail) only [x199_p0, x199_p1, if_true, nI_add, mo_k_v, mo_k_n, mo_v_e, mo_gf_e, mo_pf_e, mo_ia_e, mo_ba_e, mo_za_e, mo_la_e, mo_aa_e, mo_le_e, mo_is_e, mo_bs_e, mo_zs_0, mo_zs_1, mo_ls_e, mo_as_e, mo_na_e, mo_aci_e, mo_acb_e, mo_acj_e, hp_gs, hp_gn, hp_ss, List.getElem?_cons_zero, List.getElem?_cons_succ, List.set_cons_zero, List.set_cons_succ]
      · obtain ⟨o2, m2, l2⟩ := nxt_some hr.1.2.1 hn hok en
        have := ih t2 (hp_s k2 (M + 8) (iA 3 g')) g' (by omega) (scr3_sam s2 (fun b h1 h2 => hp_gn (by omega))) (hp_gs _ _ _) hg' (frN_s hf3) o2 (fun t' ht' hl => by
          rcases l2 t' ht' hl with d | d
          · exact hinv t' ht' d
          · rw [PP_cong hn d]; exact c)
        simp (disch := first | assumption | exact zz_nl_i _ | exact zz_nl_r _ | exact zz_nl_n | exact okv_i _ | exact okv_j _ | exact okv_0 | exact okv_1 | exact okv_o _ _ | exact okv_a _ _ | exact bI_okr _ | omega | exact llt_0 | ((repeat apply llt_s) <;> exact llt_0) | fail) only [x199_p0, x199_p1, nI_01, if_false, e2', bI_f, if_true, er, mo_k_v, mo_k_n, mo_v_e, mo_gf_e, mo_pf_e, mo_ia_e, mo_ba_e, mo_za_e, mo_la_e, mo_aa_e, mo_le_e, mo_is_e, mo_bs_e, mo_zs_0, mo_zs_1, mo_ls_e, mo_as_e, mo_na_e, mo_aci_e, mo_acb_e, mo_acj_e, hp_gs, hp_gn, hp_ss, List.getElem?_cons_zero, List.getElem?_cons_succ, List.set_cons_zero, List.set_cons_succ]
        exact this
theorem m_stage (w0 : hp_g h M = some (mdO M mt mk mp mu ms mn mo ml mv me mf mw)) (wA : hp_g h (M + 1) = some (iA 12639 A)) (hr : RS A 0 p rk tg ch ba) (hc : CI p rk tg f ch ba) {q n : Nat} (hq : q < 256) (hn : n ≤ 3) (hnv : n ≤ pnv p) (y : Int32) {k : zz_H} (hs : scr3 k M) (h8 : scr8 k M) (hf : frN h k M) {o : Option Value} (ho : zz_nl o = true) :
    (∃ t' k', fndN f q (pnv p) n t' ∧ zz_Y 199 (13, [some (.ref (M)), some (.int (nI (q))), some (.int (y)), some (.int (nI (n))), o], [], k) = some (some (.int (resN n t' y)), k') ∧ scr3 k' M ∧ scr8 k' M ∧ frN h k' M) ∨
    ((∀ t', pkOk (pnv p) n t' → PP f q n t' = false) ∧ ∃ k', zz_Y 199 (13, [some (.ref (M)), some (.int (nI (q))), some (.int (y)), some (.int (nI (n))), o], [], k) = zz_Y 199 (13, [some (.ref (M)), some (.int (nI (q))), some (.int (y)), some (.int (nI (n + 1))), some (.int (nI (0)))], [], k') ∧ scr3 k' M ∧ scr8 k' M ∧ frN h k' M) := by
  obtain ⟨r1, r2, r3, r4⟩ := hr.1
  rw [Nat.zero_add] at r4
  have w0' := (hf.1.2.2.2 M (by omega)).trans w0
  have wA' := (hf.1.2.2.2 (M + 1) (by omega)).trans wA
  obtain ⟨g8, h8⟩ := h8
  have l1 := lp_arr (N := n) (St := fun b k => zz_Y 199 (31, [some (.ref (M)), some (.int (nI (q))), some (.int (y)), some (.int (nI (n))), some (.int (nI (b)))], [], k)) (fun b _ => nI b) h8 (fun b g hb => by
    rw [x199_c31]
    simp (disch := first | assumption | exact zz_nl_i _ | exact zz_nl_r _ | exact zz_nl_n | exact okv_i _ | exact okv_j _ | exact okv_0 | exact okv_1 | exact okv_o _ _ | exact okv_a _ _ | exact bI_okr _ | omega | exact llt_0 | ((repeat apply llt_s) <;> exact llt_0) | fail) only [x199_p0, x199_p1, w0', nI_ltI, hb, if_true, nI_add, mo_k_v, mo_k_n, mo_v_e, mo_gf_e, mo_pf_e, mo_ia_e, mo_ba_e, mo_za_e, mo_la_e, mo_aa_e, mo_le_e, mo_is_e, mo_bs_e, mo_zs_0, mo_zs_1, mo_ls_e, mo_as_e, mo_na_e, mo_aci_e, mo_acb_e, mo_acj_e, hp_gs, hp_gn, hp_ss, List.getElem?_cons_zero, List.getElem?_cons_succ, List.set_cons_zero, List.set_cons_succ])
  have e : zz_Y 199 (13, [some (.ref (M)), some (.int (nI (q))), some (.int (y)), some (.int (nI (n))), o], [], k) = zz_Y 199 (55, [some (.ref (M)), some (.int (nI (q))), some (.int (y)), some (.int (nI (n))), some (.int (nI (1)))], [], hp_s k (M + 8) (iA 3 (mpa n (fun b _ => nI b) g8))) := by
    rw [x199_c13]
    simp (disch := first | assumption | exact zz_nl_i _ | exact zz_nl_r _ | exact zz_nl_n | exact okv_i _ | exact okv_j _ | exact okv_0 | exact okv_1 | exact okv_o _ _ | exact okv_a _ _ | exact bI_okr _ | omega | exact llt_0 | ((repeat apply llt_s) <;> exact llt_0) | fail) only [x199_p0, x199_p1, nI_ltI, show (3 < n) = False from eq_false (by omega), show (pnv p < n) = False from eq_false (by omega), if_false, w0', wA', r4, mo_k_v, mo_k_n, mo_v_e, mo_gf_e, mo_pf_e, mo_ia_e, mo_ba_e, mo_za_e, mo_la_e, mo_aa_e, mo_le_e, mo_is_e, mo_bs_e, mo_zs_0, mo_zs_1, mo_ls_e, mo_as_e, mo_na_e, mo_aci_e, mo_acb_e, mo_acj_e, hp_gs, hp_gn, hp_ss, List.getElem?_cons_zero, List.getElem?_cons_succ, List.set_cons_zero, List.set_cons_succ]
    rw [l1, x199_c31]
    simp (disch := first | assumption | exact zz_nl_i _ | exact zz_nl_r _ | exact zz_nl_n | exact okv_i _ | exact okv_j _ | exact okv_0 | exact okv_1 | exact okv_o _ _ | exact okv_a _ _ | exact bI_okr _ | omega | exact llt_0 | ((repeat apply llt_s) <;> exact llt_0) | fail) only [x199_p0, x199_p1, nI_ltI, Nat.lt_irrefl, if_false, mo_k_v, mo_k_n, mo_v_e, mo_gf_e, mo_pf_e, mo_ia_e, mo_ba_e, mo_za_e, mo_la_e, mo_aa_e, mo_le_e, mo_is_e, mo_bs_e, mo_zs_0, mo_zs_1, mo_ls_e, mo_as_e, mo_na_e, mo_aci_e, mo_acb_e, mo_acj_e, hp_gs, hp_gn, hp_ss, List.getElem?_cons_zero, List.getElem?_cons_succ, List.set_cons_zero, List.set_cons_succ]
  rw [e]
  refine m_while w0 wA hr hc hq hn hnv y (msr (0, 1, 2) + 1) (0, 1, 2) _ (mpa n (fun b _ => nI b) g8) (by omega) (scr3_sam hs (fun b h1 h2 => hp_gn (by omega))) (hp_gs _ _ _) ⟨fun a => mpa_in a, fun a => mpa_in a, fun a => mpa_in a⟩ (frN_s hf) ⟨fun a => by dsimp only; omega, fun a => by dsimp only; omega, fun a => by dsimp only; omega⟩ ?_
  rintro ⟨x', y', z'⟩ ⟨k1, k2, k3⟩ hl
  exfalso
  unfold lxn at hl
  dsimp only at *
  omega
theorem m_named_no (w0 : hp_g h M = some (mdO M mt mk mp mu ms mn mo ml mv me mf mw)) (wA : hp_g h (M + 1) = some (iA 12639 A)) (hr : RS A 0 p rk tg ch ba) (hc : CI p rk tg f ch ba) {x y : Int32} (ht : thrC rk x = false) : zz_run 199 [.ref M, .int x, .int y] h = some (some (.int (-2)), h) := by
  rw [en199 w0]
  simp (disch := first | assumption | exact zz_nl_i _ | exact zz_nl_r _ | exact zz_nl_n | exact okv_i _ | exact okv_j _ | exact okv_0 | exact okv_1 | exact okv_o _ _ | exact okv_a _ _ | exact bI_okr _ | omega | exact llt_0 | ((repeat apply llt_s) <;> exact llt_0) | fail) only [x199_p0, x199_p1, m_isThere w0 wA hr, ht, bI_f, if_true, mo_k_v, mo_k_n, mo_v_e, mo_gf_e, mo_pf_e, mo_ia_e, mo_ba_e, mo_za_e, mo_la_e, mo_aa_e, mo_le_e, mo_is_e, mo_bs_e, mo_zs_0, mo_zs_1, mo_ls_e, mo_as_e, mo_na_e, mo_aci_e, mo_acb_e, mo_acj_e, hp_gs, hp_gn, hp_ss, List.getElem?_cons_zero, List.getElem?_cons_succ, List.set_cons_zero, List.set_cons_succ]
end
