/-! named: both are one -/
theorem pk_ne {w : Int32} {n : Nat} {pk : Nat → Nat} (hn : n ≤ 3) (hm : ∀ i j, i < j → j < n → pk i < pk j) (hl : ∀ j, j < n → pk j < 20) (hw : ∀ i, i < 32 → (bt w i = true ↔ ∃ j, j < n ∧ i = pk j)) : ¬ w = -1 := fun e => by
  have h1 : ∀ i, i < 32 → ∃ j, j < n ∧ i = pk j := fun i hi => (hw i hi).mp (by rw [e, b_m1 i hi])
  obtain ⟨j, hj, e2⟩ := h1 31 (by omega)
  have := hl j hj
  omega
section
variable {h : zz_H} {M : Nat} {A : Nat → Int32} {mt mk mp mu ms mn mo ml : Int32} {mv : Int64} {me mf mw : Int32} {p : Pl} {rk tg f ch ba : Nat → Int32}
theorem row_th (hc : CI p rk tg f ch ba) {v b : Nat} (hv : v < pnv p) (hb : b < 8) : f (8 * 20 + b) &&& f (8 * v + b) = f (8 * v + b) := by
  refine b_ext (fun i hi => ?_)
  rw [b_and]
  have e := hc.2.2.2.2.2 v hv (32 * b + i) (by omega)
  have t := hc.2.2.2.2.1 (32 * b + i) (by omega)
  rw [show (32 * b + i) / 32 = b by omega, show (32 * b + i) % 32 = i by omega] at e t
  cases c : bt (f (8 * v + b)) i with
  | false => rw [Bool.and_false]
  | true =>
    rw [c] at e
    obtain ⟨u, h1, h2, h3⟩ := (lin_bt _ _ _ _).mp e.symm
    have hrk : ¬ rk (32 * b + i) = -1 := fun q => by
      rcases (hc.2.2.2.1 (32 * b + i) (by omega)).2 with ⟨_, e2⟩ | ⟨a, h4, h5⟩
      · rw [e2, nI_0, b_0] at h2
        cases h2
      · rw [h5] at q
        exact nI_m1 (by omega) q
    rw [show 8 * 20 + b = 160 + b by omega, t, decide_eq_false hrk]
    rfl
theorem pb_row (hc : CI p rk tg f ch ba) {v q : Nat} (hv : v < pnv p) (hq : q < 256) : bt (f (8 * v + q / 32)) (q % 32) = bt (linOf p (tg q) (pnv p)) v := hc.2.2.2.2.2 v hv q hq
theorem pb_th (hc : CI p rk tg f ch ba) {q : Nat} (hq : q < 256) (ht : thrC rk (nI q) = true) : bt (f (8 * 20 + q / 32)) (q % 32) = true := by
  rw [show 8 * 20 + q / 32 = 160 + q / 32 by omega, hc.2.2.2.2.1 q hq, decide_eq_false (thr_rk hq ht)]
  rfl
theorem PP_0 (hc : CI p rk tg f ch ba) {q : Nat} (hq : q < 256) (ht : thrC rk (nI q) = true) (t : Nat × Nat × Nat) : PP f q 0 t = decide (amt (rw8 f 20) = 1) := by
  unfold PP
  rw [show pb (dn f (pkF t) 0) q = bt (f (8 * 20 + q / 32)) (q % 32) from rfl, pb_th hc hq ht, Bool.true_and]
  rfl
theorem PP_1 (hc : CI p rk tg f ch ba) {q : Nat} (hq : q < 256) (ht : thrC rk (nI q) = true) {x y z : Nat} (hx : x < pnv p) : PP f q 1 (x, y, z) = true ↔ Q1 f (linOf p (tg q) (pnv p)) x := by
  unfold PP Q1 alone
  have e1 : pb (dn f (pkF (x, y, z)) 1) q = bt (linOf p (tg q) (pnv p)) x := by
    show bt (f (8 * 20 + q / 32) &&& f (8 * x + q / 32)) (q % 32) = _
    rw [b_and, pb_th hc hq ht, Bool.true_and, pb_row hc hx hq]
  have e2 : amt (dn f (pkF (x, y, z)) 1) = fb_sm (fun k => pc (f (8 * x + k) &&& f (8 * x + k) &&& f (8 * x + k))) 8 := by
    unfold amt
    refine sm_cong (fun b hb => ?_)
    show pc (f (8 * 20 + b) &&& f (8 * x + b)) = _
    rw [row_th hc hx hb, Int32.and_self, Int32.and_self]
  rw [e1, e2, Bool.and_eq_true]
theorem PP_2 (hc : CI p rk tg f ch ba) {q : Nat} (hq : q < 256) (ht : thrC rk (nI q) = true) {x y z : Nat} (hx : x < pnv p) (hy : y < pnv p) : PP f q 2 (x, y, z) = true ↔ Q2 f (linOf p (tg q) (pnv p)) x y := by
  unfold PP Q2 alone
  have e1 : pb (dn f (pkF (x, y, z)) 2) q = (bt (linOf p (tg q) (pnv p)) x && bt (linOf p (tg q) (pnv p)) y) := by
    show bt (f (8 * 20 + q / 32) &&& f (8 * x + q / 32) &&& f (8 * y + q / 32)) (q % 32) = _
    rw [b_and, b_and, pb_th hc hq ht, Bool.true_and, pb_row hc hx hq, pb_row hc hy hq]
  have e2 : amt (dn f (pkF (x, y, z)) 2) = fb_sm (fun k => pc (f (8 * x + k) &&& f (8 * y + k) &&& f (8 * y + k))) 8 := by
    unfold amt
    refine sm_cong (fun b hb => ?_)
    show pc (f (8 * 20 + b) &&& f (8 * x + b) &&& f (8 * y + b)) = _
    rw [row_th hc hx hb, Int32.and_assoc (f (8 * x + b)), Int32.and_self]
  rw [e1, e2, Bool.and_eq_true, Bool.and_eq_true, and_assoc]
theorem PP_3 (hc : CI p rk tg f ch ba) {q : Nat} (hq : q < 256) (ht : thrC rk (nI q) = true) {x y z : Nat} (hx : x < pnv p) (hy : y < pnv p) (hz : z < pnv p) : PP f q 3 (x, y, z) = true ↔ Q3 f (linOf p (tg q) (pnv p)) x y z := by
  unfold PP Q3 alone
  have e1 : pb (dn f (pkF (x, y, z)) 3) q = (bt (linOf p (tg q) (pnv p)) x && bt (linOf p (tg q) (pnv p)) y && bt (linOf p (tg q) (pnv p)) z) := by
    show bt (f (8 * 20 + q / 32) &&& f (8 * x + q / 32) &&& f (8 * y + q / 32) &&& f (8 * z + q / 32)) (q % 32) = _
    rw [b_and, b_and, b_and, pb_th hc hq ht, Bool.true_and, pb_row hc hx hq, pb_row hc hy hq, pb_row hc hz hq]
  have e2 : amt (dn f (pkF (x, y, z)) 3) = fb_sm (fun k => pc (f (8 * x + k) &&& f (8 * y + k) &&& f (8 * z + k))) 8 := by
    unfold amt
    refine sm_cong (fun b hb => ?_)
    show pc (f (8 * 20 + b) &&& f (8 * x + b) &&& f (8 * y + b) &&& f (8 * z + b)) = _
    rw [row_th hc hx hb]
  rw [e1, e2, Bool.and_eq_true, Bool.and_eq_true, Bool.and_eq_true, and_assoc, and_assoc]
theorem nmA_1 {x y z : Nat} (hx : x < 20) (k : Int32) : nmA (sh1 x) k = resN 1 (x, y, z) k ∧ ¬ sh1 x = -1 := by
  have hw : ∀ i, i < 32 → (bt (sh1 x) i = true ↔ ∃ j, j < 1 ∧ i = pkF (x, y, z) j) := fun i hi => by
    rw [b_sh1 (by omega) hi, decide_eq_true_iff]
    exact ⟨fun e => ⟨0, by omega, e⟩, fun ⟨j, hj, e⟩ => by (have : j = 0 := by omega); subst this; exact e⟩
  have hl : ∀ j, j < 1 → pkF (x, y, z) j < 20 := fun j hj => by (have : j = 0 := by omega); subst this; exact hx
  exact ⟨nmA_pk (by omega) (fun i j h1 h2 => by omega) hl hw k, pk_ne (by omega) (fun i j h1 h2 => by omega) hl hw⟩
theorem nmA_2 {x y z : Nat} (hxy : x < y) (hy : y < 20) (k : Int32) : nmA (sh1 x ||| sh1 y) k = resN 2 (x, y, z) k ∧ ¬ sh1 x ||| sh1 y = -1 := by
  have hw : ∀ i, i < 32 → (bt (sh1 x ||| sh1 y) i = true ↔ ∃ j, j < 2 ∧ i = pkF (x, y, z) j) := fun i hi => by
    rw [b_or, b_sh1 (by omega) hi, b_sh1 (by omega) hi, Bool.or_eq_true, decide_eq_true_iff, decide_eq_true_iff]
    exact ⟨fun e => e.elim (fun e => ⟨0, by omega, e⟩) (fun e => ⟨1, by omega, e⟩), fun ⟨j, hj, e⟩ => by
      rcases (show j = 0 ∨ j = 1 by omega) with c | c
      · subst c; exact Or.inl e
      · subst c; exact Or.inr e⟩
  have hl : ∀ j, j < 2 → pkF (x, y, z) j < 20 := fun j hj => by
    rcases (show j = 0 ∨ j = 1 by omega) with c | c
    · subst c; show x < 20; omega
    · subst c; exact hy
  have hm : ∀ i j, i < j → j < 2 → pkF (x, y, z) i < pkF (x, y, z) j := fun i j h1 h2 => by
    have c0 : i = 0 := by omega
    have c1 : j = 1 := by omega
    subst c0 c1
    exact hxy
  exact ⟨nmA_pk (by omega) hm hl hw k, pk_ne (by omega) hm hl hw⟩
theorem nmA_3 {x y z : Nat} (hxy : x < y) (hyz : y < z) (hz : z < 20) (k : Int32) : nmA (sh1 x ||| sh1 y ||| sh1 z) k = resN 3 (x, y, z) k ∧ ¬ sh1 x ||| sh1 y ||| sh1 z = -1 := by
  have hw : ∀ i, i < 32 → (bt (sh1 x ||| sh1 y ||| sh1 z) i = true ↔ ∃ j, j < 3 ∧ i = pkF (x, y, z) j) := fun i hi => by
    rw [b_or, b_or, b_sh1 (by omega) hi, b_sh1 (by omega) hi, b_sh1 (by omega) hi, Bool.or_eq_true, Bool.or_eq_true, decide_eq_true_iff, decide_eq_true_iff, decide_eq_true_iff]
    exact ⟨fun e => e.elim (fun e => e.elim (fun e => ⟨0, by omega, e⟩) (fun e => ⟨1, by omega, e⟩)) (fun e => ⟨2, by omega, e⟩), fun ⟨j, hj, e⟩ => by
      rcases (show j = 0 ∨ j = 1 ∨ j = 2 by omega) with c | c | c
      · subst c; exact Or.inl (Or.inl e)
      · subst c; exact Or.inl (Or.inr e)
      · subst c; exact Or.inr e⟩
  have hl : ∀ j, j < 3 → pkF (x, y, z) j < 20 := fun j hj => by
    rcases (show j = 0 ∨ j = 1 ∨ j = 2 by omega) with c | c | c
    · subst c; show x < 20; omega
    · subst c; show y < 20; omega
    · subst c; exact hz
  have hm : ∀ i j, i < j → j < 3 → pkF (x, y, z) i < pkF (x, y, z) j := fun i j h1 h2 => by
    rcases (show i = 0 ∧ j = 1 ∨ i = 0 ∧ j = 2 ∨ i = 1 ∧ j = 2 by omega) with ⟨c0, c1⟩ | ⟨c0, c1⟩ | ⟨c0, c1⟩
    · subst c0 c1; exact hxy
    · subst c0 c1; show x < z; omega
    · subst c0 c1; exact hyz
  exact ⟨nmA_pk (by omega) hm hl hw k, pk_ne (by omega) hm hl hw⟩
theorem m_named_ok (w0 : hp_g h M = some (mdO M mt mk mp mu ms mn mo ml mv me mf mw)) (wA : hp_g h (M + 1) = some (iA 12639 A)) (hr : RS A 0 p rk tg ch ba) (hc : CI p rk tg f ch ba) (hs : scr3 h M) (h8 : scr8 h M) {q : Nat} (hq : q < 256) {y : Int32} (ht : thrC rk (nI q) = true) : ∃ k, zz_run 199 [.ref M, .int (nI q), .int y] h = some (some (.int (nmA (namV f (linOf p (tg q) (pnv p)) (pnv p)) y)), k) ∧ scr3 k M ∧ scr8 k M ∧ frN h k M := by
  obtain ⟨r1, r2, r3, r4⟩ := hr.1
  rw [Nat.zero_add] at r4
  have hnv := r2
  generalize hA : linOf p (tg q) (pnv p) = ar at *
  have exit_ : ∀ n (k : zz_H) (o : Option Value), frN h k M → n ≤ 4 → (3 < n ∨ pnv p < n) → zz_nl o = true → zz_Y 199 (13, [some (.ref (M)), some (.int (nI (q))), some (.int (y)), some (.int (nI (n))), o], [], k) = some (some (.int (-2)), k) := by
    intro n k o hf hn4 hn ho
    have w0' := (hf.1.2.2.2 M (by omega)).trans w0
    have wA' := (hf.1.2.2.2 (M + 1) (by omega)).trans wA
    rw [x199_c13]
    by_cases c : 3 < n
    · simp (disch := first | assumption | exact zz_nl_i _ | exact zz_nl_r _ | exact zz_nl_n | exact okv_i _ | exact okv_j _ | exact okv_0 | exact okv_1 | exact okv_o _ _ | exact okv_a _ _ | exact bI_okr _ | omega | exact llt_0 | ((repeat apply llt_s) <;> exact llt_0) | fail) only [x199_p0, x199_p1, nI_ltI, c, if_true, mo_k_v, mo_k_n, mo_v_e, mo_gf_e, mo_pf_e, mo_ia_e, mo_ba_e, mo_za_e, mo_la_e, mo_aa_e, mo_le_e, mo_is_e, mo_bs_e, mo_zs_0, mo_zs_1, mo_ls_e, mo_as_e, mo_na_e, mo_aci_e, mo_acb_e, mo_acj_e, hp_gs, hp_gn, hp_ss, List.getElem?_cons_zero, List.getElem?_cons_succ, List.set_cons_zero, List.set_cons_succ]
    · have c2 : pnv p < n := by omega
      simp (disch := first | assumption | exact zz_nl_i _ | exact zz_nl_r _ | exact zz_nl_n | exact okv_i _ | exact okv_j _ | exact okv_0 | exact okv_1 | exact okv_o _ _ | exact okv_a _ _ | exact bI_okr _ | omega | exact llt_0 | ((repeat apply llt_s) <;> exact llt_0) | fail) only [x199_p0, x199_p1, nI_ltI, c, if_false, w0', wA', r4, c2, if_true, mo_k_v, mo_k_n, mo_v_e, mo_gf_e, mo_pf_e, mo_ia_e, mo_ba_e, mo_za_e, mo_la_e, mo_aa_e, mo_le_e, mo_is_e, mo_bs_e, mo_zs_0, mo_zs_1, mo_ls_e, mo_as_e, mo_na_e, mo_aci_e, mo_acb_e, mo_acj_e, hp_gs, hp_gn, hp_ss, List.getElem?_cons_zero, List.getElem?_cons_succ, List.set_cons_zero, List.set_cons_succ]
  have none_ : ¬ amt (rw8 f 20) = 1 → (∀ x, x < pnv p → ¬ Q1 f ar x) → (∀ x y, x < y → y < pnv p → ¬ Q2 f ar x y) → (∀ x y z, x < y → y < z → z < pnv p → ¬ Q3 f ar x y z) → nmA (namV f ar (pnv p)) y = -2 := by
    intro n0 n1 n2 n3
    unfold namV
    have e1 : nam1 f ar (pnv p) = -1 := (nam1_spec f ar (pnv p)).elim (fun ⟨x, hL, _⟩ => absurd hL.2.1 (n1 x hL.1)) (fun c => c.2)
    have e2 : nam2 f ar (pnv p) = -1 := (nam2_spec f ar (pnv p)).elim (fun ⟨x, y, hL, _⟩ => absurd hL.2.2.1 (n2 x y hL.1 hL.2.1)) (fun c => c.2)
    have e3 : nam3 f ar (pnv p) = -1 := (nam3_spec f ar (pnv p)).elim (fun ⟨x, y, z, hL, _⟩ => absurd hL.2.2.2.1 (n3 x y z hL.1 hL.2.1 hL.2.2.1)) (fun c => c.2)
    rw [if_neg n0, if_pos e1, if_pos e2, e3]
    unfold nmA
    rw [if_pos rfl]
  have st : zz_run 199 [.ref M, .int (nI q), .int y] h = zz_Y 199 (13, [some (.ref (M)), some (.int (nI (q))), some (.int (y)), some (.int (nI (0))), none], [], h) := by
    rw [en199 w0]
    simp (disch := first | assumption | exact zz_nl_i _ | exact zz_nl_r _ | exact zz_nl_n | exact okv_i _ | exact okv_j _ | exact okv_0 | exact okv_1 | exact okv_o _ _ | exact okv_a _ _ | exact bI_okr _ | omega | exact llt_0 | ((repeat apply llt_s) <;> exact llt_0) | fail) only [x199_p0, x199_p1, m_isThere w0 wA hr, ht, bI_t, nI_01, if_false, mo_k_v, mo_k_n, mo_v_e, mo_gf_e, mo_pf_e, mo_ia_e, mo_ba_e, mo_za_e, mo_la_e, mo_aa_e, mo_le_e, mo_is_e, mo_bs_e, mo_zs_0, mo_zs_1, mo_ls_e, mo_as_e, mo_na_e, mo_aci_e, mo_acb_e, mo_acj_e, hp_gs, hp_gn, hp_ss, List.getElem?_cons_zero, List.getElem?_cons_succ, List.set_cons_zero, List.set_cons_succ]
  rw [st]
  rcases m_stage w0 wA hr hc hq (n := 0) (by omega) (by omega) y hs h8 (frN_refl _ _) zz_nl_n with ⟨t, k, ⟨_, hP, _⟩, e, s1, s2, hf⟩ | ⟨hno, k, e, s1, s2, hf⟩
  · rw [PP_0 hc hq ht, decide_eq_true_iff] at hP
    refine ⟨k, e.trans ?_, s1, s2, hf⟩
    unfold namV
    rw [if_pos hP, nmA_pk (n := 0) (pk := pkF t) (by omega) (fun i j h1 h2 => by omega) (fun j hj => by omega) (fun i hi => by rw [nI_0, b_0]; exact ⟨fun c => (by cases c), fun ⟨j, hj, _⟩ => by omega⟩) y]
    rfl
  · have n0 : ¬ amt (rw8 f 20) = 1 := fun c => by
      have := hno (0, 0, 0) ⟨fun a => by omega, fun a => by omega, fun a => by omega⟩
      rw [PP_0 hc hq ht, decide_eq_true c] at this
      cases this
    by_cases v1 : pnv p < 1
    · refine ⟨k, (e.trans (exit_ 1 k _ hf (by omega) (Or.inr v1) (zz_nl_i _))).trans ?_, s1, s2, hf⟩
      rw [none_ n0 (fun x hx => by omega) (fun x y h1 h2 => by omega) (fun x y z h1 h2 h3 => by omega)]
    · rcases m_stage w0 wA hr hc hq (n := 1) (by omega) (by omega) y s1 s2 hf (zz_nl_i (nI 0)) with ⟨⟨a, b, c⟩, k2, ⟨hok, hP, hmin⟩, e2, s12, s22, hf2⟩ | ⟨hno1, k2, e2, s12, s22, hf2⟩
      · have ha : a < pnv p := hok.1 rfl
        have hq1 := (PP_1 hc hq ht ha).mp hP
        rw [hA] at hq1
        refine ⟨k2, (e.trans e2).trans ?_, s12, s22, hf2⟩
        have e3 : nam1 f ar (pnv p) = sh1 a := by
          rcases nam1_spec f ar (pnv p) with ⟨x, hL, ex⟩ | ⟨hn, _⟩
          · rcases Nat.lt_trichotomy x a with c1 | c1 | c1
            · have h1 := hmin (x, b, c) ⟨fun _ => hL.1, fun q => by omega, fun q => by omega⟩ (Or.inl ⟨rfl, c1⟩)
              rw [(PP_1 hc hq ht hL.1).mpr (by rw [hA]; exact hL.2.1)] at h1
              cases h1
            · rw [ex, c1]
            · exact absurd hq1 (hL.2.2 a c1)
          · exact absurd hq1 (hn a ha)
        obtain ⟨f1, f2⟩ := nmA_1 (x := a) (y := b) (z := c) (by omega) y
        unfold namV
        rw [if_neg n0, e3, if_neg f2, f1]
      · have n1 : ∀ x, x < pnv p → ¬ Q1 f ar x := fun x hx c => by
          have := hno1 (x, 0, 0) ⟨fun _ => hx, fun q => by omega, fun q => by omega⟩
          rw [(PP_1 hc hq ht hx).mpr (by rw [hA]; exact c)] at this
          cases this
        have e1 : nam1 f ar (pnv p) = -1 := (nam1_spec f ar (pnv p)).elim (fun ⟨x, hL, _⟩ => absurd hL.2.1 (n1 x hL.1)) (fun c => c.2)
        by_cases v2 : pnv p < 2
        · refine ⟨k2, ((e.trans e2).trans (exit_ 2 k2 _ hf2 (by omega) (Or.inr v2) (zz_nl_i _))).trans ?_, s12, s22, hf2⟩
          rw [none_ n0 n1 (fun x y h1 h2 => by omega) (fun x y z h1 h2 h3 => by omega)]
        · rcases m_stage w0 wA hr hc hq (n := 2) (by omega) (by omega) y s12 s22 hf2 (zz_nl_i (nI 0)) with ⟨⟨a, b, c⟩, k3, ⟨hok, hP, hmin⟩, e3, s13, s23, hf3⟩ | ⟨hno2, k3, e3, s13, s23, hf3⟩
          · obtain ⟨hab, hbv⟩ := hok.2.1 rfl
            dsimp only at hab hbv
            have hq2 := (PP_2 hc hq ht (by omega) hbv).mp hP
            rw [hA] at hq2
            refine ⟨k3, ((e.trans e2).trans e3).trans ?_, s13, s23, hf3⟩
            have e4 : nam2 f ar (pnv p) = sh1 a ||| sh1 b := by
              rcases nam2_spec f ar (pnv p) with ⟨x, x2, hL, ex⟩ | ⟨hn, _⟩
              · obtain ⟨l1, l2, l3, l4⟩ := hL
                by_cases c1 : x < a ∨ x = a ∧ x2 < b
                · have h1 := hmin (x, x2, c) ⟨fun q => by omega, fun _ => ⟨l1, l2⟩, fun q => by omega⟩ (Or.inr (Or.inl ⟨rfl, c1⟩))
                  rw [(PP_2 hc hq ht (by omega) l2).mpr (by rw [hA]; exact l3)] at h1
                  cases h1
                · by_cases c2 : a < x ∨ a = x ∧ b < x2
                  · exact absurd hq2 (l4 a b hab hbv c2)
                  · have c3 : x = a := by omega
                    have c4 : x2 = b := by omega
                    rw [ex, c3, c4]
              · exact absurd hq2 (hn a b hab hbv)
            obtain ⟨f1, f2⟩ := nmA_2 (x := a) (y := b) (z := c) hab (by omega) y
            unfold namV
            rw [if_neg n0, if_pos e1, e4, if_neg f2, f1]
          · have n2 : ∀ x y, x < y → y < pnv p → ¬ Q2 f ar x y := fun x x2 h1 h2 c => by
              have := hno2 (x, x2, 0) ⟨fun q => by omega, fun _ => ⟨h1, h2⟩, fun q => by omega⟩
              rw [(PP_2 hc hq ht (by omega) h2).mpr (by rw [hA]; exact c)] at this
              cases this
            have e12 : nam2 f ar (pnv p) = -1 := (nam2_spec f ar (pnv p)).elim (fun ⟨x, y, hL, _⟩ => absurd hL.2.2.1 (n2 x y hL.1 hL.2.1)) (fun c => c.2)
            by_cases v3 : pnv p < 3
            · refine ⟨k3, (((e.trans e2).trans e3).trans (exit_ 3 k3 _ hf3 (by omega) (Or.inr v3) (zz_nl_i _))).trans ?_, s13, s23, hf3⟩
              rw [none_ n0 n1 n2 (fun x y z h1 h2 h3 => by omega)]
            · rcases m_stage w0 wA hr hc hq (n := 3) (by omega) (by omega) y s13 s23 hf3 (zz_nl_i (nI 0)) with ⟨⟨a, b, c⟩, k4, ⟨hok, hP, hmin⟩, e4, s14, s24, hf4⟩ | ⟨hno3, k4, e4, s14, s24, hf4⟩
              · obtain ⟨hab, hbc, hcv⟩ := hok.2.2 rfl
                dsimp only at hab hbc hcv
                have hq3 := (PP_3 hc hq ht (by omega) (by omega) hcv).mp hP
                rw [hA] at hq3
                refine ⟨k4, (((e.trans e2).trans e3).trans e4).trans ?_, s14, s24, hf4⟩
                have e5 : nam3 f ar (pnv p) = sh1 a ||| sh1 b ||| sh1 c := by
                  rcases nam3_spec f ar (pnv p) with ⟨x, x2, x3, hL, ex⟩ | ⟨hn, _⟩
                  · obtain ⟨l1, l2, l3, l4, l5⟩ := hL
                    by_cases c1 : x < a ∨ x = a ∧ (x2 < b ∨ x2 = b ∧ x3 < c)
                    · have h1 := hmin (x, x2, x3) ⟨fun q => by omega, fun q => by omega, fun _ => ⟨l1, l2, l3⟩⟩ (Or.inr (Or.inr ⟨rfl, c1⟩))
                      rw [(PP_3 hc hq ht (by omega) (by omega) l3).mpr (by rw [hA]; exact l4)] at h1
                      cases h1
                    · by_cases c2 : a < x ∨ a = x ∧ (b < x2 ∨ b = x2 ∧ c < x3)
                      · exact absurd hq3 (l5 a b c hab hbc hcv c2)
                      · have c3 : x = a := by omega
                        have c4 : x2 = b := by omega
                        have c5 : x3 = c := by omega
                        rw [ex, c3, c4, c5]
                  · exact absurd hq3 (hn a b c hab hbc hcv)
                obtain ⟨f1, f2⟩ := nmA_3 (x := a) (y := b) (z := c) hab hbc (by omega) y
                unfold namV
                rw [if_neg n0, if_pos e1, if_pos e12, e5, f1]
              · have n3 : ∀ x y z, x < y → y < z → z < pnv p → ¬ Q3 f ar x y z := fun x x2 x3 h1 h2 h3 c => by
                  have := hno3 (x, x2, x3) ⟨fun q => by omega, fun q => by omega, fun _ => ⟨h1, h2, h3⟩⟩
                  rw [(PP_3 hc hq ht (by omega) (by omega) h3).mpr (by rw [hA]; exact c)] at this
                  cases this
                refine ⟨k4, ((((e.trans e2).trans e3).trans e4).trans (exit_ 4 k4 _ hf4 (by omega) (Or.inl (by omega)) (zz_nl_i _))).trans ?_, s14, s24, hf4⟩
                rw [none_ n0 n1 n2 n3]
end
