/-! the words that go from frame to frame, and what the tables say, decided by program -/
def zz_gw : List Cond := lw_tbl.filter goodWord
theorem zz_gw_mem {i : Nat} {w : Cond} (h : lw_tbl[i]? = some w) (hg : goodWord w = true) : w ∈ zz_gw := List.mem_filter.mpr ⟨List.mem_of_getElem? h, hg⟩
def zz_isNest : Cond → Bool
  | .methodLinkNest .. => true
  | _ => false
def zz_nest : List Cond := lw_tbl.filter zz_isNest
/-- a method's row of the table is true (its code apart) -/
def zz_rowOk (r : zz_M) : Bool :=
  (if r.2.2.2.2.2.2.2.1 then decide (lw_tbl[r.2.2.2.2.2.2.2.2.2.2.1]? = some (.static r.1)) else decide (lw_tbl[r.2.2.2.2.2.2.2.2.2.2.1]? = some (.instanceMethod r.1)) && decide (r.2.2.2.2.1 < 12)) &&
  decide (lw_tbl[r.2.2.2.2.2.2.2.2.2.2.2.2]? = some (.initialized r.1.cls)) &&
  (r.2.2.2.2.2.2.2.1 || r.2.2.2.2.2.2.2.2.1 || decide (lw_tbl[r.2.2.2.2.2.2.2.2.2.2.2.1]? = some (.selects r.1.cls r.1 r.1))) &&
  decide (r.1.cls = zz_cn r.2.2.2.2.1) && plainName r.1.cls && decide (r.1.cls ≠ "java/lang/invoke/MethodHandle" ∧ r.1.cls ≠ "java/lang/invoke/VarHandle") &&
  decide ((parseMethodDescriptor r.1.desc).map (fun d => d.parameters.length) = some r.2.2.2.2.2.2.1) &&
  (!r.2.2.2.2.2.2.2.2.1 || (decide (r.1.name = "<init>") && decide (r.2.2.2.1 = none) && !r.2.2.2.2.2.2.2.1)) &&
  (decide (r.2.2.2.1 = none) || decide (r.2.2.2.1 = some .int) || decide (r.2.2.2.1 = some .boolean) || decide (r.2.2.2.1 = some .long))
def zz_cw (r : zz_M) : Prop := lw_tbl[r.2.2.2.2.2.2.2.2.2.1]? = some (.code r.1 r.2.1 r.2.2.1 r.2.2.2.1)
theorem zz_cw_of {l : List zz_M} (h : l.map (fun r => lw_tbl[r.2.2.2.2.2.2.2.2.2.1]?) = l.map (fun r => some (.code r.1 r.2.1 r.2.2.1 r.2.2.2.1))) : ∀ r ∈ l, zz_cw r := by
  intro r hr
  exact List.map_inj_left.mp h r hr
theorem zz_ok0 : (zz_T0.drop 1).all zz_rowOk = true := by decide +kernel
set_option maxHeartbeats 4000000 in
set_option maxRecDepth 100000 in
theorem zz_ck0 : ∀ r ∈ (zz_T0.drop 1), zz_cw r := zz_cw_of rfl
theorem zz_ok1 : zz_T1.all zz_rowOk = true := by decide +kernel
set_option maxHeartbeats 4000000 in
set_option maxRecDepth 100000 in
theorem zz_ck1 : ∀ r ∈ zz_T1, zz_cw r := zz_cw_of rfl
theorem zz_ok2 : zz_T2.all zz_rowOk = true := by decide +kernel
set_option maxHeartbeats 4000000 in
set_option maxRecDepth 100000 in
theorem zz_ck2 : ∀ r ∈ zz_T2, zz_cw r := zz_cw_of rfl
theorem zz_ok3 : zz_T3.all zz_rowOk = true := by decide +kernel
set_option maxHeartbeats 4000000 in
set_option maxRecDepth 100000 in
theorem zz_ck3 : ∀ r ∈ zz_T3, zz_cw r := zz_cw_of rfl
theorem zz_ok4 : zz_T4.all zz_rowOk = true := by decide +kernel
set_option maxHeartbeats 4000000 in
set_option maxRecDepth 100000 in
theorem zz_ck4 : ∀ r ∈ zz_T4, zz_cw r := zz_cw_of rfl
theorem zz_ok5 : zz_T5.all zz_rowOk = true := by decide +kernel
set_option maxHeartbeats 4000000 in
set_option maxRecDepth 100000 in
theorem zz_ck5 : ∀ r ∈ zz_T5, zz_cw r := zz_cw_of rfl
theorem zz_ok6 : zz_T6.all zz_rowOk = true := by decide +kernel
set_option maxHeartbeats 4000000 in
set_option maxRecDepth 100000 in
theorem zz_ck6 : ∀ r ∈ zz_T6, zz_cw r := zz_cw_of rfl
theorem zz_ok7 : zz_T7.all zz_rowOk = true := by decide +kernel
set_option maxHeartbeats 4000000 in
set_option maxRecDepth 100000 in
theorem zz_ck7 : ∀ r ∈ zz_T7, zz_cw r := zz_cw_of rfl
theorem zz_T_in {y : Nat} (h0 : y ≠ 0) (hy : y < 256) : zz_m y ∈ zz_T.drop 1 := by
  have hl : zz_T.length = 256 := by decide +kernel
  obtain ⟨k, rfl⟩ := Nat.exists_eq_succ_of_ne_zero h0
  have hk : k + 1 < zz_T.length := by rw [hl]; exact hy
  unfold zz_m
  rw [List.getD_eq_getElem?_getD, List.getElem?_eq_getElem hk]
  refine List.mem_of_getElem? (i := k) ?_
  rw [List.getElem?_drop, Nat.add_comm, List.getElem?_eq_getElem hk]
  rfl
theorem zz_T_e : zz_T.drop 1 = zz_T0.drop 1 ++ (zz_T1 ++ (zz_T2 ++ (zz_T3 ++ (zz_T4 ++ (zz_T5 ++ (zz_T6 ++ (zz_T7))))))) := rfl
theorem zz_T_ok {y : Nat} (h0 : y ≠ 0) (hy : y < 256) : zz_rowOk (zz_m y) = true := by
  have h : (zz_T.drop 1).all zz_rowOk = true := by
    rw [zz_T_e]
    simp only [List.all_append, zz_ok0, zz_ok1, zz_ok2, zz_ok3, zz_ok4, zz_ok5, zz_ok6, zz_ok7, Bool.and_self]
  exact List.all_eq_true.mp h _ (zz_T_in h0 hy)
theorem zz_T_cw {y : Nat} (h0 : y ≠ 0) (hy : y < 256) : Cond.code (zz_y y) (zz_c y) (zz_ml y) (zz_rt y) ∈ zz_gw := by
  have h : ∀ r ∈ zz_T.drop 1, zz_cw r := by
    rw [zz_T_e]
    simp only [List.mem_append]
    intro r hr
    rcases hr with hr | hr | hr | hr | hr | hr | hr | hr
    · exact zz_ck0 r hr
    · exact zz_ck1 r hr
    · exact zz_ck2 r hr
    · exact zz_ck3 r hr
    · exact zz_ck4 r hr
    · exact zz_ck5 r hr
    · exact zz_ck6 r hr
    · exact zz_ck7 r hr
  exact zz_gw_mem (h _ (zz_T_in h0 hy)) rfl
/-- links -/
def zz_mlOk (r : Nat × Nat × Nat × Nat × Nat) : Bool :=
  match r.2.2.1 with
  | 0 => decide (lw_tbl[r.2.2.2.2]? = some (.methodLink (zz_cn r.1) r.2.1 (zz_y r.2.2.2.1))) && zz_st r.2.2.2.1 && decide (r.2.2.2.1 ≠ 0) && decide (r.2.2.2.1 < 256)
  | 1 => decide (lw_tbl[r.2.2.2.2]? = some (.methodLink (zz_cn r.1) r.2.1 (zz_y r.2.2.2.1))) && !zz_st r.2.2.2.1 && !zz_in r.2.2.2.1 && decide (r.2.2.2.1 ≠ 0) && decide (r.2.2.2.1 < 256)
  | 2 => decide (lw_tbl[r.2.2.2.2]? = some (.methodLink (zz_cn r.1) r.2.1 (zz_y r.2.2.2.1))) && !zz_st r.2.2.2.1 && zz_in r.2.2.2.1 && decide (r.2.2.2.1 ≠ 0) && decide (r.2.2.2.1 < 256)
  | 3 => decide (lw_tbl[r.2.2.2.2]? = some (.methodLinkNest (zz_cn r.1) r.2.1 (zz_y r.2.2.2.1) "FacetSieve")) && zz_st r.2.2.2.1 && decide (r.2.2.2.1 ≠ 0) && decide (r.2.2.2.1 < 256)
  | 5 => decide (lw_tbl[r.2.2.2.2]? = some (.methodLinkNest (zz_cn r.1) r.2.1 (zz_y r.2.2.2.1) "FacetSieve")) && !zz_st r.2.2.2.1 && zz_in r.2.2.2.1 && decide (r.2.2.2.1 ≠ 0) && decide (r.2.2.2.1 < 256)
  | 6 => decide (lw_tbl[r.2.2.2.2]? = some (.methodLink (zz_cn r.1) r.2.1 objectInit))
  | 7 => decide (lw_tbl[r.2.2.2.2]? = some (.methodLink (zz_cn r.1) r.2.1 arraycopyName))
  | 8 => decide (lw_tbl[r.2.2.2.2]? = some (.methodLink (zz_cn r.1) r.2.1 Lib.Math.max.name))
  | 9 => decide (lw_tbl[r.2.2.2.2]? = some (.methodLink (zz_cn r.1) r.2.1 Lib.Math.min.name))
  | _ => false
theorem zz_ML_ok : zz_ML.all zz_mlOk = true := by decide +kernel
def zz_flOk (r : Nat × Nat × Nat × Nat × Nat) : Bool :=
  match zz_cls[r.2.2.1]? with
  | some q => decide (lw_tbl[r.2.2.2.2]? = some (.fieldLink (zz_cn r.1) r.2.1 q.1 (q.2.1 r.2.2.2.1).2.1 (q.2.1 r.2.2.2.1).2.2.1)) && decide (r.2.2.2.1 < q.2.2) && decide ((q.2.1 r.2.2.2.1).1 = q.1)
  | none => false
theorem zz_FL_ok : zz_FL.all zz_flOk = true := by decide +kernel
def zz_nlOk (r : Nat × Nat × Nat × Nat × Nat × Nat) : Bool :=
  match zz_cls[r.2.2.1]? with
  | some q => decide (lw_tbl[r.2.2.2.1]? = some (.classLink (zz_cn r.1) r.2.1 q.1)) && decide (lw_tbl[r.2.2.2.2.1]? = some (.instantiable q.1 q.2.2)) && decide (lw_tbl[r.2.2.2.2.2]? = some (.initialized q.1))
  | none => false
theorem zz_NL_ok : zz_NL.all zz_nlOk = true := by decide +kernel
theorem zz_KL_ok : zz_KL.all (fun r => decide (lw_tbl[r.2.2.2]? = some (.constant (zz_cn r.1) r.2.1 r.2.2.1))) = true := by decide +kernel
theorem zz_JL_ok : zz_JL.all (fun r => decide (lw_tbl[r.2.2.2]? = some (.constantLong (zz_cn r.1) r.2.1 r.2.2.1))) = true := by decide +kernel
theorem zz_uw0 : ∀ w ∈ u_ws RX1 TX1 2, w ∈ zz_gw := by
  have h : (u_ws RX1 TX1 2).all (fun w => decide (w ∈ lw_tbl) && goodWord w) = true := by decide +kernel
  intro w hw
  have h1 := List.all_eq_true.mp h w hw
  simp only [Bool.and_eq_true, decide_eq_true_eq] at h1
  exact List.mem_filter.mpr h1
theorem zz_uw1 : ∀ w ∈ u_ws RX2 TX2 10, w ∈ zz_gw := by
  have h : (u_ws RX2 TX2 10).all (fun w => decide (w ∈ lw_tbl) && goodWord w) = true := by decide +kernel
  intro w hw
  have h1 := List.all_eq_true.mp h w hw
  simp only [Bool.and_eq_true, decide_eq_true_eq] at h1
  exact List.mem_filter.mpr h1
theorem zz_uw2 : ∀ w ∈ u_ws RX3 TX3 6, w ∈ zz_gw := by
  have h : (u_ws RX3 TX3 6).all (fun w => decide (w ∈ lw_tbl) && goodWord w) = true := by decide +kernel
  intro w hw
  have h1 := List.all_eq_true.mp h w hw
  simp only [Bool.and_eq_true, decide_eq_true_eq] at h1
  exact List.mem_filter.mpr h1
theorem zz_uw3 : ∀ w ∈ u_ws RX4 TX4 10, w ∈ zz_gw := by
  have h : (u_ws RX4 TX4 10).all (fun w => decide (w ∈ lw_tbl) && goodWord w) = true := by decide +kernel
  intro w hw
  have h1 := List.all_eq_true.mp h w hw
  simp only [Bool.and_eq_true, decide_eq_true_eq] at h1
  exact List.mem_filter.mpr h1
theorem zz_uw4 : ∀ w ∈ u_ws RX5 TX5 9, w ∈ zz_gw := by
  have h : (u_ws RX5 TX5 9).all (fun w => decide (w ∈ lw_tbl) && goodWord w) = true := by decide +kernel
  intro w hw
  have h1 := List.all_eq_true.mp h w hw
  simp only [Bool.and_eq_true, decide_eq_true_eq] at h1
  exact List.mem_filter.mpr h1
theorem zz_uw5 : ∀ w ∈ u_ws RX6 TX6 2, w ∈ zz_gw := by
  have h : (u_ws RX6 TX6 2).all (fun w => decide (w ∈ lw_tbl) && goodWord w) = true := by decide +kernel
  intro w hw
  have h1 := List.all_eq_true.mp h w hw
  simp only [Bool.and_eq_true, decide_eq_true_eq] at h1
  exact List.mem_filter.mpr h1
theorem zz_uw6 : ∀ w ∈ u_ws RX7 TX7 2, w ∈ zz_gw := by
  have h : (u_ws RX7 TX7 2).all (fun w => decide (w ∈ lw_tbl) && goodWord w) = true := by decide +kernel
  intro w hw
  have h1 := List.all_eq_true.mp h w hw
  simp only [Bool.and_eq_true, decide_eq_true_eq] at h1
  exact List.mem_filter.mpr h1
theorem zz_uw7 : ∀ w ∈ u_ws RX8 TX8 4, w ∈ zz_gw := by
  have h : (u_ws RX8 TX8 4).all (fun w => decide (w ∈ lw_tbl) && goodWord w) = true := by decide +kernel
  intro w hw
  have h1 := List.all_eq_true.mp h w hw
  simp only [Bool.and_eq_true, decide_eq_true_eq] at h1
  exact List.mem_filter.mpr h1
theorem zz_uw8 : ∀ w ∈ u_ws RX9 TX9 2, w ∈ zz_gw := by
  have h : (u_ws RX9 TX9 2).all (fun w => decide (w ∈ lw_tbl) && goodWord w) = true := by decide +kernel
  intro w hw
  have h1 := List.all_eq_true.mp h w hw
  simp only [Bool.and_eq_true, decide_eq_true_eq] at h1
  exact List.mem_filter.mpr h1
theorem zz_uw9 : ∀ w ∈ u_ws RX10 TX10 8, w ∈ zz_gw := by
  have h : (u_ws RX10 TX10 8).all (fun w => decide (w ∈ lw_tbl) && goodWord w) = true := by decide +kernel
  intro w hw
  have h1 := List.all_eq_true.mp h w hw
  simp only [Bool.and_eq_true, decide_eq_true_eq] at h1
  exact List.mem_filter.mpr h1
theorem zz_uw10 : ∀ w ∈ u_ws RX11 TX11 6, w ∈ zz_gw := by
  have h : (u_ws RX11 TX11 6).all (fun w => decide (w ∈ lw_tbl) && goodWord w) = true := by decide +kernel
  intro w hw
  have h1 := List.all_eq_true.mp h w hw
  simp only [Bool.and_eq_true, decide_eq_true_eq] at h1
  exact List.mem_filter.mpr h1
theorem zz_uw11 : ∀ w ∈ u_ws RX12 TX12 26, w ∈ zz_gw := by
  have h : (u_ws RX12 TX12 26).all (fun w => decide (w ∈ lw_tbl) && goodWord w) = true := by decide +kernel
  intro w hw
  have h1 := List.all_eq_true.mp h w hw
  simp only [Bool.and_eq_true, decide_eq_true_eq] at h1
  exact List.mem_filter.mpr h1
/-- of each class: its words, its types, its names apart -/
def zz_clsOk (ci : Nat) (q : vw_C) : Prop := (∀ w ∈ u_ws q.1 q.2.1 q.2.2, w ∈ zz_gw) ∧ (∀ k, k < q.2.2 → parseFieldDescriptor (q.2.1 k).2.2.1 = some (zz_ty ci k)) ∧ (∀ a, a < q.2.2 → ∀ b, b < q.2.2 → a ≠ b → (q.2.1 a).2.1 ≠ (q.2.1 b).2.1) ∧ zz_cn ci = q.1
theorem zz_cls_ok {ci : Nat} {q : vw_C} (h : zz_cls[ci]? = some q) : zz_clsOk ci q := by
  match ci, h with
  | 0, h => cases h; exact ⟨zz_uw0, tyX1_ok, nmX1, rfl⟩
  | 1, h => cases h; exact ⟨zz_uw1, tyX2_ok, nmX2, rfl⟩
  | 2, h => cases h; exact ⟨zz_uw2, tyX3_ok, nmX3, rfl⟩
  | 3, h => cases h; exact ⟨zz_uw3, tyX4_ok, nmX4, rfl⟩
  | 4, h => cases h; exact ⟨zz_uw4, tyX5_ok, nmX5, rfl⟩
  | 5, h => cases h; exact ⟨zz_uw5, tyX6_ok, nmX6, rfl⟩
  | 6, h => cases h; exact ⟨zz_uw6, tyX7_ok, nmX7, rfl⟩
  | 7, h => cases h; exact ⟨zz_uw7, tyX8_ok, nmX8, rfl⟩
  | 8, h => cases h; exact ⟨zz_uw8, tyX9_ok, nmX9, rfl⟩
  | 9, h => cases h; exact ⟨zz_uw9, tyX10_ok, nmX10, rfl⟩
  | 10, h => cases h; exact ⟨zz_uw10, tyX11_ok, nmX11, rfl⟩
  | 11, h => cases h; exact ⟨zz_uw11, tyX12_ok, nmX12, rfl⟩
  | _ + 12, h => simp [zz_cls] at h
theorem zz_ac_int : Cond.arrayClass .int ∈ zz_gw := zz_gw_mem (i := 200) (by decide +kernel) rfl
theorem zz_ac_byte : Cond.arrayClass .byte ∈ zz_gw := zz_gw_mem (i := 140) (by decide +kernel) rfl
theorem zz_ac_boolean : Cond.arrayClass .boolean ∈ zz_gw := zz_gw_mem (i := 1153) (by decide +kernel) rfl
theorem zz_ac_long : Cond.arrayClass .long ∈ zz_gw := zz_gw_mem (i := 199) (by decide +kernel) rfl
theorem zz_oi1 : Cond.instanceMethod objectInit ∈ zz_gw := zz_gw_mem (i := 117) (by decide +kernel) rfl
theorem zz_oi2 : Cond.code objectInit ⟨#[0xb1]⟩ 1 none ∈ zz_gw := zz_gw_mem (i := 118) (by decide +kernel) rfl
theorem zz_ay1 : Cond.native arraycopyName ∈ zz_gw := zz_gw_mem (i := 500) (by decide +kernel) rfl
theorem zz_ay2 : Cond.static arraycopyName ∈ zz_gw := zz_gw_mem (i := 499) (by decide +kernel) rfl
theorem zz_ay3 : Cond.initialized "java/lang/System" ∈ zz_gw := zz_gw_mem (i := 108) (by decide +kernel) rfl
theorem zz_max1 : Cond.static Lib.Math.max.name ∈ zz_gw := zz_gw_mem (i := 208) (by decide +kernel) rfl
theorem zz_max2 : Cond.code Lib.Math.max.name Lib.Math.max.code 2 (some .int) ∈ zz_gw := zz_gw_mem (i := 209) (by decide +kernel) rfl
theorem zz_min1 : Cond.static Lib.Math.min.name ∈ zz_gw := zz_gw_mem (i := 662) (by decide +kernel) rfl
theorem zz_min2 : Cond.code Lib.Math.min.name Lib.Math.min.code 2 (some .int) ∈ zz_gw := zz_gw_mem (i := 663) (by decide +kernel) rfl
theorem zz_mt3 : Cond.initialized "java/lang/Math" ∈ zz_gw := zz_gw_mem (i := 100) (by decide +kernel) rfl
theorem zz_ao : Cond.arrayOver (.object "FacetSieve$Everything") ∈ lw_tbl := List.mem_of_getElem? (i := 306) (by decide +kernel)
