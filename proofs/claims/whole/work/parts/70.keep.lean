/-! the reference: what was is kept -/
def cpA (A : Nat → Int32) (a b n : Nat) : Nat → Int32 := fun i => if b ≤ i ∧ i < b + n then A (a + (i - b)) else A i
theorem cpA_in {A : Nat → Int32} {a b n i : Nat} (hi : i < n) : cpA A a b n (b + i) = A (a + i) := by
  unfold cpA
  rw [if_pos ⟨by omega, by omega⟩, show b + i - b = i by omega]
theorem cpA_out {A : Nat → Int32} {a b n i : Nat} (hi : i < b ∨ b + n ≤ i) : cpA A a b n i = A i := if_neg (fun q => by omega)
theorem lp_cpA (A : Nat → Int32) {a b : Nat} : ∀ {n : Nat}, (b ≤ a ∨ a + n ≤ b) → lp_it (fun k g => upd g (b + k) (g (a + k))) n A = cpA A a b n
  | 0, _ => by
    funext i
    rw [cpA_out (by omega)]
    rfl
  | n + 1, h => by
    rw [lp_it_s, lp_cpA A (show b ≤ a ∨ a + n ≤ b by omega)]
    funext i
    by_cases c : i = b + n
    · subst c
      rw [upd_eq, cpA_in (show n < n + 1 by omega), cpA_out (by omega)]
    · rw [upd_ne c]
      by_cases c2 : b ≤ i ∧ i < b + n
      · obtain ⟨j, rfl⟩ : ∃ j, i = b + j := ⟨i - b, by omega⟩
        rw [cpA_in (by omega), cpA_in (by omega)]
      · rw [cpA_out (by omega), cpA_out (by omega)]
def kpA (A : Nat → Int32) (u : Nat) : Nat → Int32 := if u = 10 then cpA (cpA A 2178 1460 6462) 0 7922 718 else cpA A 0 (1460 + 718 * u) 718
theorem kp_off {A : Nat → Int32} {u i : Nat} (hu : u ≤ 10) (hi : i < 1460 ∨ 8640 ≤ i) : kpA A u i = A i := by
  unfold kpA
  split
  · rw [cpA_out (by omega), cpA_out (by omega)]
  · rw [cpA_out (by omega)]
theorem kp_new {A : Nat → Int32} {u i : Nat} (hu : u ≤ 10) (hi : i < 718) : kpA A u (1460 + 718 * (min u 9) + i) = A i := by
  unfold kpA
  split
  · have : min u 9 = 9 := by omega
    rw [this, show 1460 + 718 * 9 + i = 7922 + i by omega, cpA_in hi, cpA_out (by omega), Nat.zero_add]
  · have : min u 9 = u := by omega
    rw [this, cpA_in hi, Nat.zero_add]
theorem kp_old {A : Nat → Int32} {u k i : Nat} (hu : u ≤ 10) (hi : i < 718) (hk : k < min u 9) : kpA A u (1460 + 718 * k + i) = A (1460 + 718 * (k + (u - min u 9)) + i) := by
  unfold kpA
  split
  · have e : u - min u 9 = 1 := by omega
    rw [e, cpA_out (by omega), show 1460 + 718 * k + i = 1460 + (718 * k + i) by omega, cpA_in (by omega), show 2178 + (718 * k + i) = 1460 + 718 * (k + 1) + i by omega]
  · have e : u - min u 9 = 0 := by omega
    rw [e, cpA_out (by omega), Nat.add_zero]
def mU (h k : zz_H) (M : Nat) (o : zz_E) (A : Nat → Int32) : Prop := hp_g k M = some o ∧ hp_g k (M + 1) = some (iA 12639 A) ∧ frm h k M (M + 2)
section
variable {h : zz_H} {M : Nat} {A : Nat → Int32} {mt mk mp mu ms mn mo ml : Int32} {mv : Int64} {me mf mw : Int32} {p : Pl} {rk tg f ch ba : Nat → Int32}
theorem m_copies (w0 : hp_g h M = some (mdO M mt mk mp mu ms mn mo ml mv me mf mw)) (wA : hp_g h (M + 1) = some (iA 12639 A)) {a b n : Nat} (h1 : b ≤ a ∨ a + n ≤ b) (h2 : a + n ≤ 12639) (h3 : b + n ≤ 12639) : zz_run 207 [.ref M, .int (nI a), .int (nI b), .int (nI n)] h = some (none, hp_s h (M + 1) (iA 12639 (cpA A a b n))) := by
  have step : ∀ k g, k < n → zz_Y 207 (3, [some (.ref (M)), some (.int (nI (a))), some (.int (nI (b))), some (.int (nI (n))), some (.int (nI (k)))], [], hp_s h (M + 1) (iA 12639 g)) = zz_Y 207 (3, [some (.ref (M)), some (.int (nI (a))), some (.int (nI (b))), some (.int (nI (n))), some (.int (nI (k + 1)))], [], hp_s h (M + 1) (iA 12639 (upd g (b + k) (g (a + k))))) := by
    intro k g hk
    rw [x207_c3]
    simp (disch := first | assumption | exact zz_nl_i _ | exact zz_nl_r _ | exact zz_nl_n | exact okv_i _ | exact okv_j _ | exact okv_0 | exact okv_1 | exact okv_o _ _ | exact okv_a _ _ | exact bI_okr _ | omega | exact llt_0 | ((repeat apply llt_s) <;> exact llt_0) | fail) only [x207, w0, nI_ltI, hk, if_true, nI_add, mo_k_v, mo_k_n, mo_v_e, mo_gf_e, mo_pf_e, mo_ia_e, mo_ba_e, mo_za_e, mo_la_e, mo_aa_e, mo_le_e, mo_is_e, mo_bs_e, mo_zs_0, mo_zs_1, mo_ls_e, mo_as_e, mo_na_e, mo_aci_e, mo_acb_e, mo_acj_e, hp_gs, hp_gn, hp_ss, List.getElem?_cons_zero, List.getElem?_cons_succ, List.set_cons_zero, List.set_cons_succ]
  have e := lp_fold (N := n) (St := fun k g => zz_Y 207 (3, [some (.ref (M)), some (.int (nI (a))), some (.int (nI (b))), some (.int (nI (n))), some (.int (nI (k)))], [], hp_s h (M + 1) (iA 12639 g))) (s := A) step
  rw [lp_cpA A h1, hp_same wA] at e
  rw [en207 w0]
  simp (disch := first | assumption | exact zz_nl_i _ | exact zz_nl_r _ | exact zz_nl_n | exact okv_i _ | exact okv_j _ | exact okv_0 | exact okv_1 | exact okv_o _ _ | exact okv_a _ _ | exact bI_okr _ | omega | exact llt_0 | ((repeat apply llt_s) <;> exact llt_0) | fail) only [x207, mo_k_v, mo_k_n, mo_v_e, mo_gf_e, mo_pf_e, mo_ia_e, mo_ba_e, mo_za_e, mo_la_e, mo_aa_e, mo_le_e, mo_is_e, mo_bs_e, mo_zs_0, mo_zs_1, mo_ls_e, mo_as_e, mo_na_e, mo_aci_e, mo_acb_e, mo_acj_e, hp_gs, hp_gn, hp_ss, List.getElem?_cons_zero, List.getElem?_cons_succ, List.set_cons_zero, List.set_cons_succ]
  refine e.trans ?_
  rw [x207_c3]
  simp (disch := first | assumption | exact zz_nl_i _ | exact zz_nl_r _ | exact zz_nl_n | exact okv_i _ | exact okv_j _ | exact okv_0 | exact okv_1 | exact okv_o _ _ | exact okv_a _ _ | exact bI_okr _ | omega | exact llt_0 | ((repeat apply llt_s) <;> exact llt_0) | fail) only [x207, nI_ltI, Nat.lt_irrefl, if_false, mo_k_v, mo_k_n, mo_v_e, mo_gf_e, mo_pf_e, mo_ia_e, mo_ba_e, mo_za_e, mo_la_e, mo_aa_e, mo_le_e, mo_is_e, mo_bs_e, mo_zs_0, mo_zs_1, mo_ls_e, mo_as_e, mo_na_e, mo_aci_e, mo_acb_e, mo_acj_e, hp_gs, hp_gn, hp_ss, List.getElem?_cons_zero, List.getElem?_cons_succ, List.set_cons_zero, List.set_cons_succ]
theorem m_turns (w0 : hp_g h M = some (mdO M mt mk mp mu ms mn mo ml mv me mf mw)) (wA : hp_g h (M + 1) = some (iA 12639 A)) {a q : Nat} (hq : q < 256) (ha : a + q / 32 < 12639) : zz_run 208 [.ref M, .int (nI a), .int (nI q)] h = some (none, hp_s h (M + 1) (iA 12639 (upd A (a + q / 32) (A (a + q / 32) ^^^ (nI 1 <<< (nI (q % 32) &&& 31)))))) := by
  have n := n32
  obtain ⟨d1, d2⟩ := dm32 hq
  rw [d1] at d2
  rw [en208 w0]
  simp (disch := first | assumption | exact zz_nl_i _ | exact zz_nl_r _ | exact zz_nl_n | exact okv_i _ | exact okv_j _ | exact okv_0 | exact okv_1 | exact okv_o _ _ | exact okv_a _ _ | exact bI_okr _ | omega | exact llt_0 | ((repeat apply llt_s) <;> exact llt_0) | fail) only [x208, w0, wA, d1, d2, nI_add, mo_k_v, mo_k_n, mo_v_e, mo_gf_e, mo_pf_e, mo_ia_e, mo_ba_e, mo_za_e, mo_la_e, mo_aa_e, mo_le_e, mo_is_e, mo_bs_e, mo_zs_0, mo_zs_1, mo_ls_e, mo_as_e, mo_na_e, mo_aci_e, mo_acb_e, mo_acj_e, hp_gs, hp_gn, hp_ss, List.getElem?_cons_zero, List.getElem?_cons_succ, List.set_cons_zero, List.set_cons_succ]
theorem m_keeps (w0 : hp_g h M = some (mdO M mt mk mp mu ms mn mo ml mv me mf mw)) (wA : hp_g h (M + 1) = some (iA 12639 A)) {u : Nat} (hu : u ≤ 10) (hmu : mu = nI u) : ∃ k, zz_run 206 [.ref M] h = some (none, k) ∧ mU h k M (mdO M mt mk mp (nI (min (u + 1) 10)) ms mn mo ml mv me mf mw) (kpA A u) := by
  subst hmu
  rw [en206 w0]
  by_cases c : u = 10
  · subst c
    have s1 : nI 10 - nI 1 = nI 9 := pk_sub (by omega)
    have w0' : hp_g (hp_s (hp_s h (M + 1) (iA 12639 (cpA A 2178 1460 6462))) M (mdO M mt mk mp (nI 9) ms mn mo ml mv me mf mw)) M = some (mdO M mt mk mp (nI 9) ms mn mo ml mv me mf mw) := hp_gs _ _ _
    have wA' : hp_g (hp_s (hp_s h (M + 1) (iA 12639 (cpA A 2178 1460 6462))) M (mdO M mt mk mp (nI 9) ms mn mo ml mv me mf mw)) (M + 1) = some (iA 12639 (cpA A 2178 1460 6462)) := (hp_gn (by omega)).trans (hp_gs _ _ _)
    have c2 := m_copies w0' wA' (a := 0) (b := 7922) (n := 718) (by omega) (by omega) (by omega)
    have e9 : nI 1460 + nI 718 * nI 9 = nI 7922 := by decide +kernel
    simp (disch := first | assumption | exact zz_nl_i _ | exact zz_nl_r _ | exact zz_nl_n | exact okv_i _ | exact okv_j _ | exact okv_0 | exact okv_1 | exact okv_o _ _ | exact okv_a _ _ | exact bI_okr _ | omega | exact llt_0 | ((repeat apply llt_s) <;> exact llt_0) | fail) only [x206, w0, if_true, m_copies w0 wA (a := 2178) (b := 1460) (n := 6462) (by omega) (by omega) (by omega), s1, e9, c2, nI_add, mo_k_v, mo_k_n, mo_v_e, mo_gf_e, mo_pf_e, mo_ia_e, mo_ba_e, mo_za_e, mo_la_e, mo_aa_e, mo_le_e, mo_is_e, mo_bs_e, mo_zs_0, mo_zs_1, mo_ls_e, mo_as_e, mo_na_e, mo_aci_e, mo_acb_e, mo_acj_e, hp_gs, hp_gn, hp_ss, List.getElem?_cons_zero, List.getElem?_cons_succ, List.set_cons_zero, List.set_cons_succ]
    refine ⟨_, rfl, ?_, ?_, ?_⟩
    · simp (disch := first | assumption | exact zz_nl_i _ | exact zz_nl_r _ | exact zz_nl_n | exact okv_i _ | exact okv_j _ | exact okv_0 | exact okv_1 | exact okv_o _ _ | exact okv_a _ _ | exact bI_okr _ | omega | exact llt_0 | ((repeat apply llt_s) <;> exact llt_0) | fail) only [mo_k_v, mo_k_n, mo_v_e, mo_gf_e, mo_pf_e, mo_ia_e, mo_ba_e, mo_za_e, mo_la_e, mo_aa_e, mo_le_e, mo_is_e, mo_bs_e, mo_zs_0, mo_zs_1, mo_ls_e, mo_as_e, mo_na_e, mo_aci_e, mo_acb_e, mo_acj_e, hp_gs, hp_gn, hp_ss, List.getElem?_cons_zero, List.getElem?_cons_succ, List.set_cons_zero, List.set_cons_succ]
      rfl
    · simp (disch := first | assumption | exact zz_nl_i _ | exact zz_nl_r _ | exact zz_nl_n | exact okv_i _ | exact okv_j _ | exact okv_0 | exact okv_1 | exact okv_o _ _ | exact okv_a _ _ | exact bI_okr _ | omega | exact llt_0 | ((repeat apply llt_s) <;> exact llt_0) | fail) only [mo_k_v, mo_k_n, mo_v_e, mo_gf_e, mo_pf_e, mo_ia_e, mo_ba_e, mo_za_e, mo_la_e, mo_aa_e, mo_le_e, mo_is_e, mo_bs_e, mo_zs_0, mo_zs_1, mo_ls_e, mo_as_e, mo_na_e, mo_aci_e, mo_acb_e, mo_acj_e, hp_gs, hp_gn, hp_ss, List.getElem?_cons_zero, List.getElem?_cons_succ, List.set_cons_zero, List.set_cons_succ]
      rfl
    · repeat (first | exact frm_refl _ _ _ | refine frm_s (by omega) ?_)
  · have e9 : nI 1460 + nI 718 * nI u = nI (1460 + 718 * u) := by rw [pk_mul, nI_add]
    simp (disch := first | assumption | exact zz_nl_i _ | exact zz_nl_r _ | exact zz_nl_n | exact okv_i _ | exact okv_j _ | exact okv_0 | exact okv_1 | exact okv_o _ _ | exact okv_a _ _ | exact bI_okr _ | omega | exact llt_0 | ((repeat apply llt_s) <;> exact llt_0) | fail) only [x206, w0, nI_eq, c, if_false, e9, m_copies w0 wA (a := 0) (b := 1460 + 718 * u) (n := 718) (by omega) (by omega) (by omega), nI_add, mo_k_v, mo_k_n, mo_v_e, mo_gf_e, mo_pf_e, mo_ia_e, mo_ba_e, mo_za_e, mo_la_e, mo_aa_e, mo_le_e, mo_is_e, mo_bs_e, mo_zs_0, mo_zs_1, mo_ls_e, mo_as_e, mo_na_e, mo_aci_e, mo_acb_e, mo_acj_e, hp_gs, hp_gn, hp_ss, List.getElem?_cons_zero, List.getElem?_cons_succ, List.set_cons_zero, List.set_cons_succ]
    refine ⟨_, rfl, ?_, ?_, ?_⟩
    · rw [hp_gs, show min (u + 1) 10 = u + 1 by omega]
    · rw [hp_gn (by omega), hp_gs]
      unfold kpA
      rw [if_neg c]
    · repeat (first | exact frm_refl _ _ _ | refine frm_s (by omega) ?_)
theorem m_refused_0 (w0 : hp_g h M = some (mdO M mt mk mp mu ms mn mo ml mv me mf mw)) (wA : hp_g h (M + 1) = some (iA 12639 A)) {u : Nat} (hu : u ≤ 10) (hmu : mu = nI u) (y : Int32) : ∃ k, zz_run 205 [.ref M, .int (nI 0), .int y] h = some (some (.int (nI 0)), k) ∧ mU h k M (mdO M mt mk mp (nI (min (u + 1) 10)) ms mn mo ml mv me mf mw) (kpA (upd (upd A 728 (nI 0)) 729 y) u) := by
  have w0' : hp_g (hp_s h (M + 1) (iA 12639 (upd (upd A 728 (nI 0)) 729 y))) M = some (mdO M mt mk mp mu ms mn mo ml mv me mf mw) := (hp_gn (by omega)).trans w0
  obtain ⟨k, e, u1, u2, u3⟩ := m_keeps w0' (hp_gs _ _ _) hu hmu
  refine ⟨k, ?_, u1, u2, frm_trans (frm_s (b := M + 1) ⟨by omega, by omega⟩ (frm_refl _ _ _)) u3⟩
  rw [en205 w0]
  simp (disch := first | assumption | exact zz_nl_i _ | exact zz_nl_r _ | exact zz_nl_n | exact okv_i _ | exact okv_j _ | exact okv_0 | exact okv_1 | exact okv_o _ _ | exact okv_a _ _ | exact bI_okr _ | omega | exact llt_0 | ((repeat apply llt_s) <;> exact llt_0) | fail) only [x205, w0, wA, if_true, e, mo_k_v, mo_k_n, mo_v_e, mo_gf_e, mo_pf_e, mo_ia_e, mo_ba_e, mo_za_e, mo_la_e, mo_aa_e, mo_le_e, mo_is_e, mo_bs_e, mo_zs_0, mo_zs_1, mo_ls_e, mo_as_e, mo_na_e, mo_aci_e, mo_acb_e, mo_acj_e, hp_gs, hp_gn, hp_ss, List.getElem?_cons_zero, List.getElem?_cons_succ, List.set_cons_zero, List.set_cons_succ]
theorem m_refused_n (w0 : hp_g h M = some (mdO M mt mk mp mu ms mn mo ml mv me mf mw)) (wA : hp_g h (M + 1) = some (iA 12639 A)) {r : Nat} (hr : 0 < r) (hr2 : r < 10) (y : Int32) : ∃ k, zz_run 205 [.ref M, .int (nI r), .int y] h = some (some (.int (nI r)), k) ∧ mU h k M (mdO M mt mk mp mu ms mn mo ml mv me mf mw) (upd (upd A 728 (nI r)) 729 y) := by
  refine ⟨hp_s h (M + 1) (iA 12639 (upd (upd A 728 (nI r)) 729 y)), ?_, (hp_gn (by omega)).trans w0, hp_gs _ _ _, frm_s (b := M + 1) ⟨by omega, by omega⟩ (frm_refl _ _ _)⟩
  rw [en205 w0]
  simp (disch := first | assumption | exact zz_nl_i _ | exact zz_nl_r _ | exact zz_nl_n | exact okv_i _ | exact okv_j _ | exact okv_0 | exact okv_1 | exact okv_o _ _ | exact okv_a _ _ | exact bI_okr _ | omega | exact llt_0 | ((repeat apply llt_s) <;> exact llt_0) | fail) only [x205, w0, wA, nI_eq, show (r = 0) = False from eq_false (by omega), if_false, mo_k_v, mo_k_n, mo_v_e, mo_gf_e, mo_pf_e, mo_ia_e, mo_ba_e, mo_za_e, mo_la_e, mo_aa_e, mo_le_e, mo_is_e, mo_bs_e, mo_zs_0, mo_zs_1, mo_ls_e, mo_as_e, mo_na_e, mo_aci_e, mo_acb_e, mo_acj_e, hp_gs, hp_gn, hp_ss, List.getElem?_cons_zero, List.getElem?_cons_succ, List.set_cons_zero, List.set_cons_succ]
end
/-! the relation, moved -/
theorem RS_shift {A B : Nat → Int32} {o o' : Nat} {p : Pl} {rk tg ch ba : Nat → Int32} (hr : RS A o p rk tg ch ba) (he : ∀ i, i < 718 → B (o' + i) = A (o + i)) : RS B o' p rk tg ch ba := by
  obtain ⟨⟨r1, r2, r3, r4⟩, rH, rV, rT, rG⟩ := hr
  refine ⟨⟨r1, r2, (he 0 (by omega)).trans r3, (he 1 (by omega)).trans r4⟩, fun d hd => ?_, fun v hv => ?_, fun q hq => ?_, fun v hv q hq => ?_⟩
  · obtain ⟨a1, a2, a3⟩ := rH d hd
    refine ⟨(he _ (by omega)).trans a1, ?_, nmR_cong a3 (fun i hi => ?_)⟩
    · rw [Nat.add_assoc, he _ (by omega), ← Nat.add_assoc]; exact a2
    · rw [Nat.add_assoc, Nat.add_assoc, he _ (by omega), ← Nat.add_assoc, ← Nat.add_assoc]
  · obtain ⟨a1, a2, a3, a4⟩ := rV v hv
    refine ⟨(he _ (by omega)).trans a1, ?_, ?_, nmR_cong a4 (fun i hi => ?_)⟩
    · rw [Nat.add_assoc, he _ (by omega), ← Nat.add_assoc]; exact a2
    · rw [Nat.add_assoc, he _ (by omega), ← Nat.add_assoc]; exact a3
    · rw [Nat.add_assoc, Nat.add_assoc, he _ (by omega), ← Nat.add_assoc, ← Nat.add_assoc]
  · obtain ⟨a1, a2⟩ := rT q hq
    refine ⟨?_, ?_⟩
    · rw [Nat.add_assoc, he _ (by omega), ← Nat.add_assoc]; exact a1
    · rw [Nat.add_assoc, he _ (by omega), ← Nat.add_assoc]; exact a2
  · rw [Nat.add_assoc, Nat.add_assoc, he _ (by omega), ← Nat.add_assoc, ← Nat.add_assoc]
    exact rG v hv q hq
def okRT (nv : Nat) (x t : Int32) : Prop := (∀ v, nv ≤ v → v < 32 → bt t v = false) ∧ (x = -1 ∧ t = nI 0 ∨ ∃ r, r < 1000 ∧ x = nI r)
/-- the state before an entry -/
def prv (p : Pl) (kn pl bf jt : Nat → Int32) (e : Nat) (rk tg ch ba rk' tg' ch' ba' : Nat → Int32) : Prop :=
  (kn e = nI 0 ∧ (∃ q, q < 256 ∧ pl e = nI q ∧ okRT (pnv p) (bf e) (jt e) ∧ rk' = upd rk q (bf e) ∧ tg' = upd tg q (jt e)) ∧ ch' = ch ∧ ba' = ba) ∨
  (kn e = nI 1 ∧ (∃ v, v < pnv p ∧ pl e = nI v ∧ (bf e = nI 0 ∨ bf e = nI 1 ∨ bf e = nI 2) ∧ ch' = upd ch v (bf e)) ∧ rk' = rk ∧ tg' = tg ∧ ba' = ba) ∨
  (kn e = nI 2 ∧ (∃ d, d < pnh p ∧ pl e = nI d ∧ (bf e = nI 0 ∨ bf e = nI 1) ∧ ba' = upd ba d (bf e)) ∧ rk' = rk ∧ tg' = tg ∧ ch' = ch)
def HS (A : Nat → Int32) (p : Pl) (kn pl bf jt : Nat → Int32) : Nat → Nat → (Nat → Int32) → (Nat → Int32) → (Nat → Int32) → (Nat → Int32) → Prop
  | 0, _, _, _, _, _ => True
  | am + 1, nx, rk, tg, ch, ba => ∃ rk' tg' ch' ba', prv p kn pl bf jt (jLast nx) rk tg ch ba rk' tg' ch' ba' ∧ RS A (1460 + 718 * am) p rk' tg' ch' ba' ∧ HS A p kn pl bf jt am (jLast nx) rk' tg' ch' ba'
theorem prv_cong {p : Pl} {kn pl bf jt kn' pl' bf' jt' : Nat → Int32} {e : Nat} {rk tg ch ba rk' tg' ch' ba' : Nat → Int32} (h : prv p kn pl bf jt e rk tg ch ba rk' tg' ch' ba') (h1 : kn' e = kn e) (h2 : pl' e = pl e) (h3 : bf' e = bf e) (h4 : jt' e = jt e) : prv p kn' pl' bf' jt' e rk tg ch ba rk' tg' ch' ba' := by
  unfold prv at h ⊢
  rw [h1, h2, h3, h4]
  exact h
theorem HS_cong {A B : Nat → Int32} {p : Pl} {kn pl bf jt kn' pl' bf' jt' : Nat → Int32} {s : Nat} : ∀ (am nx : Nat) (rk tg ch ba : Nat → Int32), (∀ k, k < am → ∀ i, i < 718 → B (1460 + 718 * k + i) = A (1460 + 718 * (k + s) + i)) → (∀ j, 1 ≤ j → j ≤ am → kn' ((nx + 9 * j) % 10) = kn ((nx + 9 * j) % 10) ∧ pl' ((nx + 9 * j) % 10) = pl ((nx + 9 * j) % 10) ∧ bf' ((nx + 9 * j) % 10) = bf ((nx + 9 * j) % 10) ∧ jt' ((nx + 9 * j) % 10) = jt ((nx + 9 * j) % 10)) → HS A p kn pl bf jt (am + s) nx rk tg ch ba → HS B p kn' pl' bf' jt' am nx rk tg ch ba
  | 0, _, _, _, _, _, _, _, _ => trivial
  | am + 1, nx, rk, tg, ch, ba, hA, hj, h => by
    rw [show am + 1 + s = (am + s) + 1 by omega] at h
    obtain ⟨rk', tg', ch', ba', p1, p2, p3⟩ := h
    obtain ⟨j1, j2, j3, j4⟩ := hj 1 (by omega) (by omega)
    rw [Nat.mul_one] at j1 j2 j3 j4
    refine ⟨rk', tg', ch', ba', prv_cong p1 j1 j2 j3 j4, RS_shift p2 (hA am (by omega)), HS_cong am (jLast nx) rk' tg' ch' ba' (fun k hk => hA k (by omega)) (fun j g1 g2 => ?_) p3⟩
    have := hj (j + 1) (by omega) (by omega)
    rw [show (jLast nx + 9 * j) % 10 = (nx + 9 * (j + 1)) % 10 by unfold jLast; omega]
    exact this
theorem HS_push {A B : Nat → Int32} {p : Pl} {kn pl bf jt : Nat → Int32} {am nx : Nat} {rk tg ch ba rk2 tg2 ch2 ba2 : Nat → Int32} (x1 x2 x3 x4 : Int32) (ham : am ≤ 10) (hnx : nx < 10) (hr : RS A 0 p rk tg ch ba) (hh : HS A p kn pl bf jt am nx rk tg ch ba) (hB : ∀ i, 1460 ≤ i → i < 8640 → B i = kpA A am i) (hp : prv p (upd kn nx x1) (upd pl nx x2) (upd bf nx x3) (upd jt nx x4) nx rk2 tg2 ch2 ba2 rk tg ch ba) : HS B p (upd kn nx x1) (upd pl nx x2) (upd bf nx x3) (upd jt nx x4) (min (am + 1) 10) ((nx + 1) % 10) rk2 tg2 ch2 ba2 := by
  have e1 : min (am + 1) 10 = min am 9 + 1 := by omega
  have e2 : jLast ((nx + 1) % 10) = nx := by unfold jLast; omega
  rw [e1]
  refine ⟨rk, tg, ch, ba, by rw [e2]; exact hp, ?_, ?_⟩
  · refine RS_shift hr (fun i hi => ?_)
    rw [hB _ (by omega) (by omega), kp_new ham hi, Nat.zero_add]
  · rw [e2]
    refine HS_cong (s := am - min am 9) (min am 9) nx rk tg ch ba (fun k hk i hi => ?_) (fun j g1 g2 => ?_) (by rw [show min am 9 + (am - min am 9) = am by omega]; exact hh)
    · rw [hB _ (by omega) (by omega), kp_old ham hi hk]
    · have : (nx + 9 * j) % 10 ≠ nx := by omega
      exact ⟨upd_ne this, upd_ne this, upd_ne this, upd_ne this⟩
