/-! the interpreter's answers are the machine's -/
theorem zz_ld_some {ls : zz_L} {i : Nat} {v : Value} (h : zz_ld ls i = some v) : ls[i]? = some (some v) := by
  unfold zz_ld at h
  split at h
  · rename_i w hw
    rw [hw, h]
  · cases h
theorem zz_to_some {pc t : Nat} {off : Int} (h : zz_to pc off = some t) : (pc : Int) + off = (t : Int) := by
  unfold zz_to at h
  split at h
  · rename_i h0
    cases h
    omega
  · cases h
theorem zz_cat_le (v : Value) : v.category ≤ 2 := by cases v <;> simp [Value.category]
theorem zz_sum_le : ∀ st : List Value, (st.map fun v => v.category).sum ≤ 2 * st.length
  | [] => by simp
  | v :: st => by
    have := zz_sum_le st
    have := zz_cat_le v
    simp only [List.map_cons, List.sum_cons, List.length_cons]
    omega
theorem zz_sum8 {st : List Value} (h : st.length ≤ 4) : (st.map fun v => v.category).sum ≤ 8 := by
  have := zz_sum_le st
  omega
theorem zz_okv_int {ty : FieldType} {v : Value} (h : zz_okv ty v = true) : narrow ty v = v ∧ fits ty v = true := by
  unfold zz_okv at h
  split at h
  · exact ⟨rfl, rfl⟩
  · exact ⟨rfl, rfl⟩
  · rename_i x
    simp only [Bool.or_eq_true, decide_eq_true_eq] at h
    rcases h with rfl | rfl
    · exact ⟨by decide, by decide⟩
    · exact ⟨by decide, by decide⟩
  · exact ⟨rfl, rfl⟩
  · exact ⟨rfl, rfl⟩
  · cases h
theorem zz_ix_in {i : Int32} {n : Nat} (h : zz_ix i n = true) : vp_in i n := by
  have h := of_decide_eq_true h
  exact h
theorem zz_lk_some {o k kd z : Nat} (h : zz_lk o k = some (kd, z)) : ∃ wi, zz_mlOk (o, k, kd, z, wi) = true := by
  unfold zz_lk at h
  rw [Option.map_eq_some_iff] at h
  obtain ⟨r, hr, he⟩ := h
  have h1 := List.find?_some hr
  have h2 := List.mem_of_find?_eq_some hr
  have h3 := List.all_eq_true.mp zz_ML_ok r h2
  obtain ⟨a, b, c, d, wi⟩ := r
  simp only [Bool.and_eq_true, beq_iff_eq] at h1
  obtain ⟨rfl, rfl⟩ := h1
  cases he
  exact ⟨wi, h3⟩
theorem zz_fk_some {o k ci j : Nat} (h : zz_fk o k = some (ci, j)) : ∃ q, zz_cls[ci]? = some q ∧ j < q.2.2 ∧ Cond.fieldLink (zz_cn o) k q.1 (q.2.1 j).2.1 (q.2.1 j).2.2.1 ∈ zz_gw ∧ (q.2.1 j).1 = q.1 := by
  unfold zz_fk at h
  rw [Option.map_eq_some_iff] at h
  obtain ⟨r, hr, he⟩ := h
  have h1 := List.find?_some hr
  have h2 := List.mem_of_find?_eq_some hr
  have h3 := List.all_eq_true.mp zz_FL_ok r h2
  obtain ⟨a, b, c, d, wi⟩ := r
  simp only [Bool.and_eq_true, beq_iff_eq] at h1
  obtain ⟨rfl, rfl⟩ := h1
  cases he
  unfold zz_flOk at h3
  split at h3
  · rename_i q hq
    simp only [Bool.and_eq_true, decide_eq_true_eq] at h3
    exact ⟨q, hq, h3.1.2, zz_gw_mem h3.1.1 rfl, h3.2⟩
  · cases h3
theorem zz_nk_some {o k ci : Nat} (h : zz_nk o k = some ci) : ∃ q, zz_cls[ci]? = some q ∧ Cond.classLink (zz_cn o) k q.1 ∈ zz_gw ∧ Cond.instantiable q.1 q.2.2 ∈ zz_gw ∧ Cond.initialized q.1 ∈ zz_gw := by
  unfold zz_nk at h
  rw [Option.map_eq_some_iff] at h
  obtain ⟨r, hr, he⟩ := h
  have h1 := List.find?_some hr
  have h2 := List.mem_of_find?_eq_some hr
  have h3 := List.all_eq_true.mp zz_NL_ok r h2
  obtain ⟨a, b, c, d, wi⟩ := r
  simp only [Bool.and_eq_true, beq_iff_eq] at h1
  obtain ⟨rfl, rfl⟩ := h1
  cases he
  unfold zz_nlOk at h3
  split at h3
  · rename_i q hq
    simp only [Bool.and_eq_true, decide_eq_true_eq] at h3
    exact ⟨q, hq, zz_gw_mem h3.1.1 rfl, zz_gw_mem h3.1.2 rfl, zz_gw_mem h3.2 rfl⟩
  · cases h3
theorem zz_kk_some {o k : Nat} {v : Int32} (h : zz_kk o k = some v) : Cond.constant (zz_cn o) k v ∈ zz_gw := by
  unfold zz_kk at h
  rw [Option.map_eq_some_iff] at h
  obtain ⟨r, hr, he⟩ := h
  have h1 := List.find?_some hr
  have h3 := List.all_eq_true.mp zz_KL_ok r (List.mem_of_find?_eq_some hr)
  obtain ⟨a, b, c, d⟩ := r
  simp only [Bool.and_eq_true, beq_iff_eq] at h1
  obtain ⟨rfl, rfl⟩ := h1
  cases he
  exact zz_gw_mem (of_decide_eq_true h3) rfl
theorem zz_jk_some {o k : Nat} {v : Int64} (h : zz_jk o k = some v) : Cond.constantLong (zz_cn o) k v ∈ zz_gw := by
  unfold zz_jk at h
  rw [Option.map_eq_some_iff] at h
  obtain ⟨r, hr, he⟩ := h
  have h1 := List.find?_some hr
  have h3 := List.all_eq_true.mp zz_JL_ok r (List.mem_of_find?_eq_some hr)
  obtain ⟨a, b, c, d⟩ := r
  simp only [Bool.and_eq_true, beq_iff_eq] at h1
  obtain ⟨rfl, rfl⟩ := h1
  cases he
  exact zz_gw_mem (of_decide_eq_true h3) rfl
section Sound
variable {l : Launch} {dC : Nat → ClassId} {dI : Nat → Nat → Nat} {dA : FieldType → ClassId} {B : Nat}
/-- what holds of fewer steps -/
def zz_ih (l : Launch) (dC : Nat → ClassId) (dI : Nat → Nat → Nat) (dA : FieldType → ClassId) (B : Nat) (F : Nat → zz_S → Option zz_O) : Prop := ∀ (y : Nat) (pc : Nat) (ls : zz_L) (st : List Value) (h : zz_H) (r : Option Value) (h' : zz_H), F y (pc, ls, st, h) = some (r, h') → zz_W l dC dI dA B y pc ls st h r h'
variable {F : Nat → zz_S → Option zz_O} {y pc : Nat} {ls : zz_L} {st : List Value} {h : zz_H} {r : Option Value} {h' : zz_H}
theorem zz_jp_some {off : Int} (ih : zz_ih l dC dI dA B F) {h1 : zz_H} (ha : zz_act F y h1 (zz_jp pc off ls st h) = some (r, h')) : ∃ t : Nat, (pc : Int) + off = (t : Int) ∧ zz_W l dC dI dA B y t ls st h r h' := by
  unfold zz_jp at ha
  split at ha
  · rename_i t ht
    exact ⟨t, zz_to_some ht, ih _ _ _ _ _ _ _ ha⟩
  · cases ha
/-- a call's parts -/
theorem zz_cl_some {z n : Nat} (ih : zz_ih l dC dI dA B F) (ha : zz_act F y h (zz_cl y z n pc ls st) = some (r, h')) : ∃ (As rest : List Value) (r1 : Option Value) (h1 : zz_H), st = As.reverse ++ rest ∧ As.length = n ∧ zz_roomy y z ∧ (rest.map fun v => v.category).sum ≤ 8 ∧ (lg_sl As).length ≤ zz_ml z ∧ zz_rc z As h = true ∧
    zz_W l dC dI dA B z 0 (zz_e0 As (zz_ml z)) [] h r1 h1 ∧ zz_W l dC dI dA B y (pc + 3) ls (r1.toList ++ rest) h1 r h' := by
  unfold zz_cl at ha
  split at ha
  · rename_i hc
    simp only [Bool.and_eq_true, decide_eq_true_eq, zz_can] at hc
    simp only [zz_act, zz_ent] at ha
    split at ha
    · rename_i l0 he
      split at he
      · rename_i he2
        cases he
        split at ha
        · rename_i r1 h1 hf
          refine ⟨(st.take n).reverse, st.drop n, r1, h1, by simp, by simp; omega, hc.1.1, zz_sum8 hc.2, he2.1, he2.2, ih _ _ _ _ _ _ _ hf, ih _ _ _ _ _ _ _ ha⟩
        · cases ha
      · cases he
    · cases ha
  · cases ha
theorem zz_step (ih : zz_ih l dC dI dA B F) {i : Instr} {n : Nat} (d : decode (zz_c y) pc = .ok (i, n)) (hn : n = zz_len i n) (ha : zz_act F y h (zz_I y i pc ls st h) = some (r, h')) : zz_W l dC dI dA B y pc ls st h r h' := by
  cases i with
  | iconst k => simp only [zz_len] at hn; subst hn; exact zz_iconst d (ih _ _ _ _ _ _ _ ha)
  | bipush k => simp only [zz_len] at hn; subst hn; exact zz_bipush d (ih _ _ _ _ _ _ _ ha)
  | sipush k => simp only [zz_len] at hn; subst hn; exact zz_sipush d (ih _ _ _ _ _ _ _ ha)
  | lconst k => simp only [zz_len] at hn; subst hn; exact zz_lconst d (ih _ _ _ _ _ _ _ ha)
  | ldc_w k =>
    simp only [zz_len] at hn; subst hn; simp only [zz_I] at ha; split at ha
    · rename_i v hv; exact zz_ldcw d (zz_kk_some hv) (ih _ _ _ _ _ _ _ ha)
    · cases ha
  | ldc2_w k =>
    simp only [zz_len] at hn; subst hn; simp only [zz_I] at ha; split at ha
    · rename_i v hv; exact zz_ldc2 d (zz_jk_some hv) (ih _ _ _ _ _ _ _ ha)
    · cases ha
  | iload_n k =>
    simp only [zz_len] at hn; subst hn; simp only [zz_I] at ha; split at ha
    · rename_i x hx; exact zz_iload_n d (zz_ld_some hx) (ih _ _ _ _ _ _ _ ha)
    · cases ha
  | iload k =>
    simp only [zz_len] at hn; subst hn; simp only [zz_I] at ha; split at ha
    · rename_i x hx; exact zz_iload d (zz_ld_some hx) (ih _ _ _ _ _ _ _ ha)
    · cases ha
  | lload_n k =>
    simp only [zz_len] at hn; subst hn; simp only [zz_I] at ha; split at ha
    · rename_i x hx; exact zz_lload_n d (zz_ld_some hx) (ih _ _ _ _ _ _ _ ha)
    · cases ha
  | aload_n k =>
    simp only [zz_len] at hn; subst hn; simp only [zz_I] at ha; split at ha
    · rename_i x hx; exact zz_aload_n d (zz_ld_some hx) (ih _ _ _ _ _ _ _ ha)
    · cases ha
  | aload k =>
    simp only [zz_len] at hn; subst hn; simp only [zz_I] at ha; split at ha
    · rename_i x hx; exact zz_aload d (zz_ld_some hx) (ih _ _ _ _ _ _ _ ha)
    · cases ha
  | istore_n k =>
    simp only [zz_len] at hn; subst hn; simp only [zz_I] at ha; split at ha
    · split at ha
      · rename_i hk; exact zz_istore_n d hk (ih _ _ _ _ _ _ _ ha)
      · cases ha
    · cases ha
  | istore k =>
    simp only [zz_len] at hn; subst hn; simp only [zz_I] at ha; split at ha
    · split at ha
      · rename_i hk; exact zz_istore d hk (ih _ _ _ _ _ _ _ ha)
      · cases ha
    · cases ha
  | astore_n k =>
    simp only [zz_len] at hn; subst hn; simp only [zz_I] at ha; split at ha
    · split at ha
      · rename_i hk; exact zz_astore_n d hk (ih _ _ _ _ _ _ _ ha)
      · cases ha
    · cases ha
  | astore k =>
    simp only [zz_len] at hn; subst hn; simp only [zz_I] at ha; split at ha
    · split at ha
      · rename_i hk; exact zz_astore d hk (ih _ _ _ _ _ _ _ ha)
      · cases ha
    · cases ha
  | lstore_n k =>
    simp only [zz_len] at hn; subst hn; simp only [zz_I] at ha; split at ha
    · split at ha
      · rename_i hk; exact zz_lstore_n d hk (ih _ _ _ _ _ _ _ ha)
      · cases ha
    · cases ha
  | iinc k c =>
    simp only [zz_len] at hn; subst hn; simp only [zz_I] at ha; split at ha
    · rename_i x hx
      split at ha
      · rename_i hk; exact zz_iinc d (zz_ld_some hx) hk (ih _ _ _ _ _ _ _ ha)
      · cases ha
    · cases ha
  | iadd => simp only [zz_len] at hn; subst hn; simp only [zz_I] at ha; split at ha; exact zz_iadd d (ih _ _ _ _ _ _ _ ha); cases ha
  | isub => simp only [zz_len] at hn; subst hn; simp only [zz_I] at ha; split at ha; exact zz_isub d (ih _ _ _ _ _ _ _ ha); cases ha
  | imul => simp only [zz_len] at hn; subst hn; simp only [zz_I] at ha; split at ha; exact zz_imul d (ih _ _ _ _ _ _ _ ha); cases ha
  | iand => simp only [zz_len] at hn; subst hn; simp only [zz_I] at ha; split at ha; exact zz_iand d (ih _ _ _ _ _ _ _ ha); cases ha
  | ior => simp only [zz_len] at hn; subst hn; simp only [zz_I] at ha; split at ha; exact zz_ior d (ih _ _ _ _ _ _ _ ha); cases ha
  | ixor => simp only [zz_len] at hn; subst hn; simp only [zz_I] at ha; split at ha; exact zz_ixor d (ih _ _ _ _ _ _ _ ha); cases ha
  | idiv =>
    simp only [zz_len] at hn; subst hn; simp only [zz_I] at ha; split at ha
    · split at ha
      · cases ha
      · rename_i hb; exact zz_idiv d hb (ih _ _ _ _ _ _ _ ha)
    · cases ha
  | irem =>
    simp only [zz_len] at hn; subst hn; simp only [zz_I] at ha; split at ha
    · split at ha
      · cases ha
      · rename_i hb; exact zz_irem d hb (ih _ _ _ _ _ _ _ ha)
    · cases ha
  | ishl => simp only [zz_len] at hn; subst hn; simp only [zz_I] at ha; split at ha; exact zz_ishl d (ih _ _ _ _ _ _ _ ha); cases ha
  | ishr => simp only [zz_len] at hn; subst hn; simp only [zz_I] at ha; split at ha; exact zz_ishr d (ih _ _ _ _ _ _ _ ha); cases ha
  | iushr => simp only [zz_len] at hn; subst hn; simp only [zz_I] at ha; split at ha; exact zz_iushr d (ih _ _ _ _ _ _ _ ha); cases ha
  | ladd => simp only [zz_len] at hn; subst hn; simp only [zz_I] at ha; split at ha; exact zz_ladd d (ih _ _ _ _ _ _ _ ha); cases ha
  | lsub => simp only [zz_len] at hn; subst hn; simp only [zz_I] at ha; split at ha; exact zz_lsub d (ih _ _ _ _ _ _ _ ha); cases ha
  | lmul => simp only [zz_len] at hn; subst hn; simp only [zz_I] at ha; split at ha; exact zz_lmul d (ih _ _ _ _ _ _ _ ha); cases ha
  | lor => simp only [zz_len] at hn; subst hn; simp only [zz_I] at ha; split at ha; exact zz_lor d (ih _ _ _ _ _ _ _ ha); cases ha
  | lshl => simp only [zz_len] at hn; subst hn; simp only [zz_I] at ha; split at ha; exact zz_lshl d (ih _ _ _ _ _ _ _ ha); cases ha
  | lshr => simp only [zz_len] at hn; subst hn; simp only [zz_I] at ha; split at ha; exact zz_lshr d (ih _ _ _ _ _ _ _ ha); cases ha
  | lcmp => simp only [zz_len] at hn; subst hn; simp only [zz_I] at ha; split at ha; exact zz_lcmp d (ih _ _ _ _ _ _ _ ha); cases ha
  | i2l => simp only [zz_len] at hn; subst hn; simp only [zz_I] at ha; split at ha; exact zz_i2l d (ih _ _ _ _ _ _ _ ha); cases ha
  | l2i => simp only [zz_len] at hn; subst hn; simp only [zz_I] at ha; split at ha; exact zz_l2i d (ih _ _ _ _ _ _ _ ha); cases ha
  | i2b => simp only [zz_len] at hn; subst hn; simp only [zz_I] at ha; split at ha; exact zz_i2b d (ih _ _ _ _ _ _ _ ha); cases ha
  | dup => simp only [zz_len] at hn; subst hn; simp only [zz_I] at ha; split at ha; exact zz_dup d rfl (ih _ _ _ _ _ _ _ ha); exact zz_dup d rfl (ih _ _ _ _ _ _ _ ha); cases ha
  | dup2 => simp only [zz_len] at hn; subst hn; simp only [zz_I] at ha; split at ha; exact zz_dup2 d rfl rfl (ih _ _ _ _ _ _ _ ha); cases ha
  | goto off =>
    simp only [zz_len] at hn; subst hn
    obtain ⟨t, ht, w⟩ := zz_jp_some ih ha
    exact zz_goto d ht w
  | ifCond q off =>
    simp only [zz_len] at hn; subst hn; simp only [zz_I] at ha; split at ha
    · split at ha
      · rename_i t ht; exact zz_ifCond d (zz_to_some ht) (ih _ _ _ _ _ _ _ ha)
      · cases ha
    · cases ha
  | if_icmp q off =>
    simp only [zz_len] at hn; subst hn; simp only [zz_I] at ha; split at ha
    · split at ha
      · rename_i t ht; exact zz_ificmp d (zz_to_some ht) (ih _ _ _ _ _ _ _ ha)
      · cases ha
    · cases ha
  | ifnonnull off =>
    simp only [zz_len] at hn; subst hn; simp only [zz_I] at ha; split at ha
    · obtain ⟨t, ht, w⟩ := zz_jp_some ih ha
      exact zz_nonnull d ht w
    · exact zz_nonnullN d (ih _ _ _ _ _ _ _ ha)
    · cases ha
  | lookupswitch dflt ps =>
    simp only [zz_I] at ha; split at ha
    · split at ha
      · rename_i hp
        obtain ⟨t, ht, w⟩ := zz_jp_some ih ha
        exact zz_lookup d hp ht w
      · cases ha
    · cases ha
  | tableswitch dflt lo hi offs =>
    simp only [zz_I] at ha; split at ha
    · split at ha
      · rename_i hx
        obtain ⟨t, ht, w⟩ := zz_jp_some ih ha
        exact zz_tableOut d hx ht w
      · rename_i hx
        split at ha
        · rename_i off ho
          obtain ⟨t, ht, w⟩ := zz_jp_some ih ha
          exact zz_tableIn d (fun q => hx (Or.inl q)) (fun q => hx (Or.inr q)) ho ht w
        · cases ha
    · cases ha
  | getfield k =>
    simp only [zz_len] at hn; subst hn; simp only [zz_I] at ha; split at ha
    · split at ha
      · rename_i ci j hk
        obtain ⟨q, q1, q2, q3, q4⟩ := zz_fk_some hk
        unfold zz_gf at ha
        split at ha
        · rename_i c fs hg
          split at ha
          · rename_i hc
            subst hc
            split at ha
            · rename_i v hv
              exact zz_getf d hg q1 q2 q3 q4 hv (ih _ _ _ _ _ _ _ ha)
            · cases ha
          · cases ha
        · cases ha
      · cases ha
    · cases ha
  | putfield k =>
    simp only [zz_len] at hn; subst hn; simp only [zz_I] at ha; split at ha
    · split at ha
      · rename_i ci j hk
        obtain ⟨q, q1, q2, q3, q4⟩ := zz_fk_some hk
        split at ha
        · rename_i hf
          unfold zz_pf at ha
          split at ha
          · rename_i c fs hg
            split at ha
            · rename_i hc
              obtain ⟨rfl, hc2, hc3⟩ := hc
              have hv := zz_okv_int hc3
              refine zz_putf d hg q1 q2 q3 q4 ?_ hv.1 hv.2 hc2 (ih _ _ _ _ _ _ _ ha)
              unfold zz_fin at hf
              rw [q1] at hf
              simp only [Bool.or_eq_true, Bool.not_eq_true', Bool.and_eq_true, decide_eq_true_eq] at hf
              by_cases hfin : (q.2.1 j).2.2.2 = false
              · exact Or.inl hfin
              · have hfin' : (q.2.1 j).2.2.2 = true := by simpa using hfin
                rcases hf with hf | hf
                · exact absurd hf hfin
                · exact Or.inr ⟨hf.1, hfin', hf.2⟩
            · cases ha
          · cases ha
        · cases ha
      · cases ha
    · cases ha
  | iaload =>
    simp only [zz_len] at hn; subst hn; simp only [zz_I] at ha; split at ha
    · unfold zz_ia at ha
      split at ha
      · rename_i hg
        split at ha
        · rename_i hi; exact zz_iald d hg (zz_ix_in hi) (ih _ _ _ _ _ _ _ ha)
        · cases ha
      · split at ha
        · rename_i hi
          obtain ⟨rfl, hi⟩ := hi
          exact zz_xald d (zz_ix_in hi) (ih _ _ _ _ _ _ _ ha)
        · cases ha
      · cases ha
    · cases ha
  | baload =>
    simp only [zz_len] at hn; subst hn; simp only [zz_I] at ha; split at ha
    · unfold zz_ba at ha
      split at ha
      · rename_i hg
        split at ha
        · rename_i hi; exact zz_bald d hg (zz_ix_in hi) (ih _ _ _ _ _ _ _ ha)
        · cases ha
      · rename_i hg
        split at ha
        · rename_i hi; exact zz_zald d hg (zz_ix_in hi) (ih _ _ _ _ _ _ _ ha)
        · cases ha
      · cases ha
    · cases ha
  | laload =>
    simp only [zz_len] at hn; subst hn; simp only [zz_I] at ha; split at ha
    · unfold zz_la at ha
      split at ha
      · rename_i hg
        split at ha
        · rename_i hi; exact zz_lald d hg (zz_ix_in hi) (ih _ _ _ _ _ _ _ ha)
        · cases ha
      · cases ha
    · cases ha
  | aaload =>
    simp only [zz_len] at hn; subst hn; simp only [zz_I] at ha; split at ha
    · unfold zz_aa at ha
      split at ha
      · rename_i hg
        split at ha
        · rename_i hi
          obtain ⟨rfl, hi⟩ := hi
          exact zz_aald d hg (zz_ix_in hi) (ih _ _ _ _ _ _ _ ha)
        · cases ha
      · cases ha
    · cases ha
  | arraylength =>
    simp only [zz_len] at hn; subst hn; simp only [zz_I] at ha; split at ha
    · unfold zz_le at ha
      split at ha
      · rename_i hg; exact zz_alen d hg (ih _ _ _ _ _ _ _ ha)
      · split at ha
        · rename_i hi
          subst hi
          exact zz_xlen d (ih _ _ _ _ _ _ _ ha)
        · cases ha
      · cases ha
    · cases ha
  | iastore =>
    simp only [zz_len] at hn; subst hn; simp only [zz_I] at ha; split at ha
    · unfold zz_is at ha
      split at ha
      · rename_i hg
        split at ha
        · rename_i hi; exact zz_iast d hg (zz_ix_in hi) (ih _ _ _ _ _ _ _ ha)
        · cases ha
      · cases ha
    · cases ha
  | bastore =>
    simp only [zz_len] at hn; subst hn; simp only [zz_I] at ha; split at ha
    · unfold zz_bs at ha
      split at ha
      · rename_i hg
        split at ha
        · rename_i hi; exact zz_bast d hg (zz_ix_in hi) (ih _ _ _ _ _ _ _ ha)
        · cases ha
      · rename_i hg
        split at ha
        · rename_i hi
          obtain ⟨hi, hx⟩ := hi
          refine zz_zast d hg (zz_ix_in hi) ?_ (ih _ _ _ _ _ _ _ ha)
          rcases hx with rfl | rfl
          · decide
          · decide
        · cases ha
      · cases ha
    · cases ha
  | lastore =>
    simp only [zz_len] at hn; subst hn; simp only [zz_I] at ha; split at ha
    · unfold zz_lst at ha
      split at ha
      · rename_i hg
        split at ha
        · rename_i hi; exact zz_last d hg (zz_ix_in hi) (ih _ _ _ _ _ _ _ ha)
        · cases ha
      · cases ha
    · cases ha
  | aastore =>
    simp only [zz_len] at hn; subst hn; simp only [zz_I] at ha; split at ha
    · unfold zz_ast at ha
      split at ha
      · rename_i hg hv
        split at ha
        · rename_i hi
          obtain ⟨rfl, rfl, hi⟩ := hi
          exact zz_aast d hg hv (zz_ix_in hi) (ih _ _ _ _ _ _ _ ha)
        · cases ha
      · cases ha
    · cases ha
  | new k =>
    simp only [zz_len] at hn; subst hn; simp only [zz_I] at ha; split at ha
    · rename_i ci hk
      obtain ⟨q, q1, q2, q3, q4⟩ := zz_nk_some hk
      rw [q1] at ha
      exact zz_new d q1 q2 q3 q4 (ih _ _ _ _ _ _ _ ha)
    · cases ha
  | newarray t =>
    simp only [zz_len] at hn; subst hn
    cases t <;> simp only [zz_I] at ha <;> first | (cases ha; done) | skip
    all_goals (split at ha <;> first | (cases ha; done) | skip)
    all_goals (unfold zz_na at ha; split at ha <;> first | (cases ha; done) | skip)
    all_goals (rename_i hc; first | exact zz_newZ d hc.1 hc.2 (ih _ _ _ _ _ _ _ ha) | exact zz_newB d hc.1 hc.2 (ih _ _ _ _ _ _ _ ha) | exact zz_newI d hc.1 hc.2 (ih _ _ _ _ _ _ _ ha) | exact zz_newJ d hc.1 hc.2 (ih _ _ _ _ _ _ _ ha))
  | anewarray k =>
    simp only [zz_len] at hn; subst hn; simp only [zz_I] at ha; split at ha
    · split at ha
      · rename_i hk
        obtain ⟨q, q1, q2, q3, q4⟩ := zz_nk_some hk
        cases q1
        unfold zz_na at ha
        split at ha
        · rename_i hc; exact zz_anew d q2 hc.1 hc.2 (ih _ _ _ _ _ _ _ ha)
        · cases ha
      · cases ha
    · cases ha
  | ireturn =>
    simp only [zz_len] at hn; subst hn; simp only [zz_I] at ha; split at ha
    · split at ha
      · rename_i hr
        split at ha
        · rename_i hv
          cases ha
          exact zz_ireturn d hr (zz_okv_int hv).1
        · cases ha
      · cases ha
    · cases ha
  | lreturn =>
    simp only [zz_len] at hn; subst hn; simp only [zz_I] at ha; split at ha
    · split at ha
      · rename_i hr
        cases ha
        exact zz_lreturn d hr
      · cases ha
    · cases ha
  | return_ =>
    simp only [zz_len] at hn; subst hn; simp only [zz_I] at ha; split at ha
    · split at ha
      · rename_i hr
        cases ha
        exact zz_return d hr
      · cases ha
    · cases ha
  | invokestatic k =>
    simp only [zz_len] at hn; subst hn; simp only [zz_I] at ha; split at ha
    · rename_i z hk
      obtain ⟨wi, hw⟩ := zz_lk_some hk
      simp only [zz_mlOk, Bool.and_eq_true, decide_eq_true_eq] at hw
      obtain ⟨As, rest, r1, h1, rfl, e2, e3, e4, e5, e6, w1, w2⟩ := zz_cl_some ih ha
      exact zz_callS d hw.1.2 hw.2 (zz_gw_mem hw.1.1.1 rfl) hw.1.1.2 e3 e2 e4 e5 w1 w2
    · rename_i z hk
      obtain ⟨wi, hw⟩ := zz_lk_some hk
      simp only [zz_mlOk, Bool.and_eq_true, decide_eq_true_eq] at hw
      obtain ⟨As, rest, r1, h1, rfl, e2, e3, e4, e5, e6, w1, w2⟩ := zz_cl_some ih ha
      exact zz_callSN d hw.1.2 hw.2 (List.mem_filter.mpr ⟨List.mem_of_getElem? hw.1.1.1, rfl⟩) hw.1.1.2 e3 e2 e4 e5 w1 w2
    · rename_i hk
      obtain ⟨wi, hw⟩ := zz_lk_some hk
      simp only [zz_mlOk, decide_eq_true_eq] at hw
      split at ha
      · split at ha
        · rename_i hc
          simp only [Bool.and_eq_true, decide_eq_true_eq, zz_l4] at hc
          unfold zz_ac at ha
          split at ha
          · rename_i g1 g2
            split at ha
            · rename_i c
              exact zz_copyI (zz_ty_at dA).1 rfl (fun _ => Or.inr rfl) d (zz_gw_mem hw rfl) hc.1.2 hc.2 (zz_sum8 hc.1.1) g1 g2 c.1 c.2.1 c.2.2.1 c.2.2.2.1 c.2.2.2.2 (ih _ _ _ _ _ _ _ ha)
            · cases ha
          · rename_i g1 g2
            split at ha
            · rename_i c
              exact zz_copyI (zz_ty_at dA).2.1 rfl (fun _ => Or.inl rfl) d (zz_gw_mem hw rfl) hc.1.2 hc.2 (zz_sum8 hc.1.1) g1 g2 c.1 c.2.1 c.2.2.1 c.2.2.2.1 c.2.2.2.2 (ih _ _ _ _ _ _ _ ha)
            · cases ha
          · rename_i g1 g2
            split at ha
            · rename_i c
              exact zz_copyJ d (zz_gw_mem hw rfl) hc.1.2 hc.2 (zz_sum8 hc.1.1) g1 g2 c.1 c.2.1 c.2.2.1 c.2.2.2.1 c.2.2.2.2 (ih _ _ _ _ _ _ _ ha)
            · cases ha
          · cases ha
        · cases ha
      · cases ha
    · rename_i hk
      obtain ⟨wi, hw⟩ := zz_lk_some hk
      simp only [zz_mlOk, decide_eq_true_eq] at hw
      split at ha
      · split at ha
        · rename_i hc
          simp only [Bool.and_eq_true, decide_eq_true_eq, zz_l4] at hc
          exact zz_max d (zz_gw_mem hw rfl) hc.1.2 hc.2 (zz_sum8 hc.1.1) (ih _ _ _ _ _ _ _ ha)
        · cases ha
      · cases ha
    · rename_i hk
      obtain ⟨wi, hw⟩ := zz_lk_some hk
      simp only [zz_mlOk, decide_eq_true_eq] at hw
      split at ha
      · split at ha
        · rename_i hc
          simp only [Bool.and_eq_true, decide_eq_true_eq, zz_l4] at hc
          exact zz_min d (zz_gw_mem hw rfl) hc.1.2 hc.2 (zz_sum8 hc.1.1) (ih _ _ _ _ _ _ _ ha)
        · cases ha
      · cases ha
    · cases ha
  | invokevirtual k =>
    simp only [zz_len] at hn; subst hn; simp only [zz_I] at ha; split at ha
    · rename_i z hk
      obtain ⟨wi, hw⟩ := zz_lk_some hk
      simp only [zz_mlOk, Bool.and_eq_true, decide_eq_true_eq, Bool.not_eq_true'] at hw
      obtain ⟨As, rest, r1, h1, rfl, e2, e3, e4, e5, e6, w1, w2⟩ := zz_cl_some ih ha
      unfold zz_rc at e6
      rw [hw.1.1.1.2, Bool.false_or] at e6
      split at e6
      · rename_i b As
        rw [hw.1.1.2, Bool.false_or] at e6
        split at e6
        · rename_i c fs hb
          have hc := of_decide_eq_true e6
          subst hc
          have := zz_callV (As := As) (rest := rest) d hw.1.2 hw.2 (zz_gw_mem hw.1.1.1.1 rfl) (by rw [hw.1.1.1.2]; decide) (by rw [hw.1.1.2]; decide) hb e3 (by simpa using e2) e4 e5 w1 w2
          simpa using this
        · cases e6
      · cases e6
    · cases ha
  | invokespecial k =>
    simp only [zz_len] at hn; subst hn; simp only [zz_I] at ha; split at ha
    · rename_i z hk
      obtain ⟨wi, hw⟩ := zz_lk_some hk
      simp only [zz_mlOk, Bool.and_eq_true, decide_eq_true_eq, Bool.not_eq_true'] at hw
      obtain ⟨As, rest, r1, h1, rfl, e2, e3, e4, e5, e6, w1, w2⟩ := zz_cl_some ih ha
      unfold zz_rc at e6
      rw [hw.1.1.1.2, Bool.false_or] at e6
      split at e6
      · rename_i b As
        have := zz_callI (As := As) (rest := rest) d hw.1.2 hw.2 (zz_gw_mem hw.1.1.1.1 rfl) (by rw [hw.1.1.1.2]; decide) hw.1.1.2 e3 (by simpa using e2) e4 e5 w1 w2
        simpa using this
      · cases e6
    · rename_i z hk
      obtain ⟨wi, hw⟩ := zz_lk_some hk
      simp only [zz_mlOk, Bool.and_eq_true, decide_eq_true_eq, Bool.not_eq_true'] at hw
      obtain ⟨As, rest, r1, h1, rfl, e2, e3, e4, e5, e6, w1, w2⟩ := zz_cl_some ih ha
      unfold zz_rc at e6
      rw [hw.1.1.1.2, Bool.false_or] at e6
      split at e6
      · rename_i b As
        have := zz_callIN (As := As) (rest := rest) d hw.1.2 hw.2 (List.mem_filter.mpr ⟨List.mem_of_getElem? hw.1.1.1.1, rfl⟩) (by rw [hw.1.1.1.2]; decide) hw.1.1.2 e3 (by simpa using e2) e4 e5 w1 w2
        simpa using this
      · cases e6
    · rename_i hk
      obtain ⟨wi, hw⟩ := zz_lk_some hk
      simp only [zz_mlOk, decide_eq_true_eq] at hw
      split at ha
      · split at ha
        · rename_i hc
          simp only [Bool.and_eq_true, decide_eq_true_eq, zz_l4] at hc
          exact zz_objInit d (zz_gw_mem hw rfl) hc.1.2 hc.2 (zz_sum8 hc.1.1) (ih _ _ _ _ _ _ _ ha)
        · cases ha
      · cases ha
    · cases ha
  | _ => cases ha
theorem zz_sound_X : ∀ n : Nat, zz_ih l dC dI dA B (zz_X n)
  | 0 => fun _ _ _ _ _ _ _ h => by cases h
  | n + 1 => fun y pc ls st h r h' ha => by
    have ha : zz_B (zz_X n) y (pc, ls, st, h) = some (r, h') := ha
    unfold zz_B at ha
    split at ha
    · rename_i i k hd
      split at ha
      · rename_i hk
        exact zz_step (zz_sound_X n) hd hk ha
      · cases ha
    · cases ha
theorem zz_sound {y pc : Nat} {ls : zz_L} {st : List Value} {h : zz_H} {r : Option Value} {h' : zz_H} (ha : zz_Y y (pc, ls, st, h) = some (r, h')) : zz_W l dC dI dA B y pc ls st h r h' := by
  obtain ⟨n, hn⟩ := zz_Y_iff.mp ha
  exact zz_sound_X n y pc ls st h r h' hn
end Sound
