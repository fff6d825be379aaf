/-! making, copying, leaving, calling -/
section Calls
variable {l : Launch} {dC : Nat → ClassId} {dI : Nat → Nat → Nat} {dA : FieldType → ClassId} {B : Nat} {y pc : Nat} {ls : zz_L} {st : List Value} {h : zz_H} {r : Option Value} {h' : zz_H}
def zz_bl (ci N : Nat) : List Value := (List.range N).map (fun j => defaultValue (zz_ty ci j))
theorem zz_new {index ci : Nat} {q : vw_C} (d : decode (zz_c y) pc = .ok (.new index, 3)) (hq : zz_cls[ci]? = some q) (h1 : Cond.classLink (zz_cn (zz_co y)) index q.1 ∈ zz_gw) (h2 : Cond.instantiable q.1 q.2.2 ∈ zz_gw) (h3 : Cond.initialized q.1 ∈ zz_gw)
    (kk : zz_W l dC dI dA B y (pc + 3) ls (.ref h.1 :: st) (hp_n h q.2.2 (.inr (ci, zz_bl ci q.2.2))) r h') : zz_W l dC dI dA B y pc ls st h r h' := by
  obtain ⟨C, T, N⟩ := q
  obtain ⟨hin, hty, hnm, -⟩ := zz_cls_ok hq
  refine zz_makes (fun p e R s m args below meth c H locs cells slots lsR Q hF c1 c2 w => ?_) (fun _ _ hf => by cases hf) kk
  have hts := hF.2.2.2.2.1
  have hKn := hF.2.2.2.2.2.2.2.2.1.1.1 ci _ hq
  refine W.newcK hF.1 hF.2.1 hF.2.2.2.1 (hts _ h1) (hts _ h2) (hts _ h3) rfl d c1 c2 hKn.2.1 rfl fun H1 kC hkC e1 z1 o1 => w H1 z1 o1 ⟨_, hq, (u_born (zz_ty ci) hts hin hKn hkC e1 hty).to (fun j hj => ?_)⟩
  have hj : j < N := hj
  show defaultValue (zz_ty ci j) = vp_V (zz_bl ci N) j
  simp [vp_V, zz_bl, hj]
theorem zz_newI {n : Int32} (d : decode (zz_c y) pc = .ok (.newarray .int, 2)) (hn : ¬ n < 0) (hN : n.toNatClampNeg ≤ 65536)
    (kk : zz_W l dC dI dA B y (pc + 2) ls (.ref h.1 :: st) (hp_n h n.toNatClampNeg (.inl (.int, n.toNatClampNeg, .inl (fun _ => 0)))) r h') : zz_W l dC dI dA B y pc ls (.int n :: st) h r h' := by
  refine zz_makes (fun p e R s m args below meth c H locs cells slots lsR Q hF c1 c2 w => ?_) (fun _ _ hf => by cases hf) kk
  refine va_newaK hF.1 hF.2.1 (atype := .int) (hF.2.2.2.2.1 _ zz_ac_int) rfl d rfl hn rfl (by show _ * 4 ≤ _; omega) c1 c2 rfl fun H1 cA e1 z1 o1 hAr hNm => w H1 z1 o1 ?_
  have hc : cA = dA .int := Option.some.inj (hNm.symm.trans (hF.2.2.2.2.2.2.2.2.1.1.2 0 _ (zz_ty_at dA).1).2)
  subst hc
  exact e1
theorem zz_newB {n : Int32} (d : decode (zz_c y) pc = .ok (.newarray .byte, 2)) (hn : ¬ n < 0) (hN : n.toNatClampNeg ≤ 65536)
    (kk : zz_W l dC dI dA B y (pc + 2) ls (.ref h.1 :: st) (hp_n h n.toNatClampNeg (.inl (.byte, n.toNatClampNeg, .inl (fun _ => 0)))) r h') : zz_W l dC dI dA B y pc ls (.int n :: st) h r h' := by
  refine zz_makes (fun p e R s m args below meth c H locs cells slots lsR Q hF c1 c2 w => ?_) (fun _ _ hf => by cases hf; intro j; exact pk_fb 0) kk
  refine va_newaK hF.1 hF.2.1 (atype := .byte) (hF.2.2.2.2.1 _ zz_ac_byte) rfl d rfl hn rfl (by show _ * 1 ≤ _; omega) c1 c2 rfl fun H1 cA e1 z1 o1 hAr hNm => w H1 z1 o1 ?_
  have hc : cA = dA .byte := Option.some.inj (hNm.symm.trans (hF.2.2.2.2.2.2.2.2.1.1.2 1 _ (zz_ty_at dA).2.1).2)
  subst hc
  exact e1
theorem zz_newZ {n : Int32} (d : decode (zz_c y) pc = .ok (.newarray .boolean, 2)) (hn : ¬ n < 0) (hN : n.toNatClampNeg ≤ 65536)
    (kk : zz_W l dC dI dA B y (pc + 2) ls (.ref h.1 :: st) (hp_n h n.toNatClampNeg (.inl (.boolean, n.toNatClampNeg, .inl (fun _ => 0)))) r h') : zz_W l dC dI dA B y pc ls (.int n :: st) h r h' := by
  refine zz_makes (fun p e R s m args below meth c H locs cells slots lsR Q hF c1 c2 w => ?_) (fun _ _ hf => by cases hf) kk
  refine va_newaK hF.1 hF.2.1 (atype := .boolean) (hF.2.2.2.2.1 _ zz_ac_boolean) rfl d rfl hn rfl (by show _ * 1 ≤ _; omega) c1 c2 rfl fun H1 cA e1 z1 o1 hAr hNm => w H1 z1 o1 ?_
  have hc : cA = dA .boolean := Option.some.inj (hNm.symm.trans (hF.2.2.2.2.2.2.2.2.1.1.2 2 _ (zz_ty_at dA).2.2.1).2)
  subst hc
  exact e1
theorem zz_newJ {n : Int32} (d : decode (zz_c y) pc = .ok (.newarray .long, 2)) (hn : ¬ n < 0) (hN : n.toNatClampNeg ≤ 65536)
    (kk : zz_W l dC dI dA B y (pc + 2) ls (.ref h.1 :: st) (hp_n h n.toNatClampNeg (.inl (.long, n.toNatClampNeg, .inr (.inl (fun _ => 0))))) r h') : zz_W l dC dI dA B y pc ls (.int n :: st) h r h' := by
  refine zz_makes (fun p e R s m args below meth c H locs cells slots lsR Q hF c1 c2 w => ?_) (fun _ _ hf => by cases hf) kk
  refine va_newaK hF.1 hF.2.1 (atype := .long) (hF.2.2.2.2.1 _ zz_ac_long) rfl d rfl hn rfl (by show _ * 8 ≤ _; omega) c1 c2 rfl fun H1 cA e1 z1 o1 hAr hNm => w H1 z1 o1 ?_
  have hc : cA = dA .long := Option.some.inj (hNm.symm.trans (hF.2.2.2.2.2.2.2.2.1.1.2 3 _ (zz_ty_at dA).2.2.2.1).2)
  subst hc
  exact e1
theorem zz_anew {index : Nat} {n : Int32} (d : decode (zz_c y) pc = .ok (.anewarray index, 3)) (hcl : Cond.classLink (zz_cn (zz_co y)) index "FacetSieve$Everything" ∈ zz_gw) (hn : ¬ n < 0) (hN : n.toNatClampNeg ≤ 65536)
    (kk : zz_W l dC dI dA B y (pc + 3) ls (.ref h.1 :: st) (hp_n h n.toNatClampNeg (.inl (zz_ev, n.toNatClampNeg, .inr (.inr (.inr (.inr (fun _ => none))))))) r h') : zz_W l dC dI dA B y pc ls (.int n :: st) h r h' := by
  refine zz_makes (fun p e R s m args below meth c H locs cells slots lsR Q hF c1 c2 w => ?_) (fun _ _ hf => by cases hf) kk
  refine W.anew hF.1 hF.2.1 hF.2.2.2.1 (hF.2.2.2.2.1 _ hcl) (va_AO.use hF.2.2.2.2.2.2.2.2.1.2.2) rfl d rfl hn (by omega) c1 c2 fun cA kA comp f1 f2 f3 f4 => ?_
  obtain ⟨kA', comp', k1, k2, k3, k4⟩ := (hF.2.2.2.2.2.2.2.2.1.1.2 4 _ (zz_ty_at dA).2.2.2.2).2
  have hc : cA = dA zz_ev := Option.some.inj (f1.symm.trans k4)
  subst hc
  refine w _ (by simp) (fun q hq => by rw [Array.getElem?_push, if_neg (Nat.ne_of_lt hq)]) ?_
  show (H.push _)[H.size]? = some (vp_cell _ _)
  rw [vp_cell_q, show (fun j : Nat => va_rf none) = (fun _ => Value.null) from rfl, ← arrV_new]
  simp
theorem zz_objInit {index a : Nat} (d : decode (zz_c y) pc = .ok (.invokespecial index, 3)) (hl : Cond.methodLink (zz_cn (zz_co y)) index objectInit ∈ zz_gw) (hfr : 1 ≤ zz_fr y) (hlo : 20 ≤ zz_lo y) (hst : (st.map fun v => v.category).sum ≤ 8)
    (kk : zz_W l dC dI dA B y (pc + 3) ls st h r h') : zz_W l dC dI dA B y pc ls (.ref a :: st) h r h' :=
  zz_plain (fun _ _ _ _ _ _ _ _ _ _ _ _ _ lsR _ hF hlv w => W.objInit hF.1 hF.2.1 hF.2.2.2.1 (hF.2.2.2.2.1 _ hl) (hF.2.2.2.2.1 _ zz_oi1) (hF.2.2.2.2.1 _ zz_oi2) rfl (by rw [hF.2.2.1]; exact hlv.1) rfl d (Nat.le_trans hfr hF.2.2.2.2.2.2.2.2.2.1) (by show 2 * 0 + _ + 12 ≤ _; have := hF.2.2.2.2.2.2.2.2.2.2; omega) (W.eq rfl (w lsR hlv))) kk
theorem zz_max {index : Nat} {a b : Int32} (d : decode (zz_c y) pc = .ok (.invokestatic index, 3)) (hl : Cond.methodLink (zz_cn (zz_co y)) index Lib.Math.max.name ∈ zz_gw) (hfr : 1 ≤ zz_fr y) (hlo : 21 ≤ zz_lo y) (hst : (st.map fun v => v.category).sum ≤ 8)
    (kk : zz_W l dC dI dA B y (pc + 3) ls (.int (if a < b then b else a) :: st) h r h') : zz_W l dC dI dA B y pc ls (.int b :: .int a :: st) h r h' :=
  zz_reads (fun _ _ _ _ _ _ _ _ _ _ _ _ _ lsR _ hF hlv _ c1 c2 w => va_mmax hF.1 hF.2.1 (by rw [hF.2.2.1]; exact hlv.1.symm) hF.2.2.2.1 (hF.2.2.2.2.1 _ hl) (hF.2.2.2.2.1 _ zz_max1) (hF.2.2.2.2.1 _ zz_mt3) (hF.2.2.2.2.1 _ zz_max2) (Nat.le_trans hfr hF.2.2.2.2.2.2.2.2.2.1) (by have := hF.2.2.2.2.2.2.2.2.2.2; omega) c1 c2 d (w lsR hlv)) kk
theorem zz_min {index : Nat} {a b : Int32} (d : decode (zz_c y) pc = .ok (.invokestatic index, 3)) (hl : Cond.methodLink (zz_cn (zz_co y)) index Lib.Math.min.name ∈ zz_gw) (hfr : 1 ≤ zz_fr y) (hlo : 21 ≤ zz_lo y) (hst : (st.map fun v => v.category).sum ≤ 8)
    (kk : zz_W l dC dI dA B y (pc + 3) ls (.int (if b < a then b else a) :: st) h r h') : zz_W l dC dI dA B y pc ls (.int b :: .int a :: st) h r h' :=
  zz_reads (fun _ _ _ _ _ _ _ _ _ _ _ _ _ lsR _ hF hlv _ c1 c2 w => va_mmin hF.1 hF.2.1 (by rw [hF.2.2.1]; exact hlv.1.symm) hF.2.2.2.1 (hF.2.2.2.2.1 _ hl) (hF.2.2.2.2.1 _ zz_min1) (hF.2.2.2.2.1 _ zz_mt3) (hF.2.2.2.2.1 _ zz_min2) (Nat.le_trans hfr hF.2.2.2.2.2.2.2.2.2.1) (by have := hF.2.2.2.2.2.2.2.2.2.2; omega) c1 c2 d (w lsR hlv)) kk
theorem zz_nn : ∀ z : Int32, ¬ z < 0 → z.toInt = (z.toNatClampNeg : Int) := by
  intro z hz
  have hz0 : (0 : Int) ≤ z.toInt := by
    have := Int32.not_lt.mp hz
    simpa using Int32.le_iff_toInt_le.mp this
  show z.toInt = ((z.toInt.toNat : Nat) : Int)
  omega
/-- System.arraycopy over ints, or bytes -/
theorem zz_copyI {index : Nat} {t0 : Nat} {ty : FieldType} (hty : (zz_tys dA)[t0]? = some (dA ty, ty)) (hprim : refKind ty = false) (hfit : ∀ x : Int32, ty = .byte ∨ fits ty (.int x) = true) {a0 a n0 n1 : Nat} {f g : Nat → Int32} {sp dp n : Int32} (d : decode (zz_c y) pc = .ok (.invokestatic index, 3)) (hl : Cond.methodLink (zz_cn (zz_co y)) index arraycopyName ∈ zz_gw) (hfr : 1 ≤ zz_fr y) (hlo : 26 ≤ zz_lo y) (hst : (st.map fun v => v.category).sum ≤ 8)
    (ha0 : hp_g h a0 = some (.inl (ty, n0, .inl f))) (ha : hp_g h a = some (.inl (ty, n1, .inl g))) (h1 : ¬ sp < 0) (h2 : ¬ dp < 0) (h3 : ¬ n < 0) (h4 : sp.toNatClampNeg + n.toNatClampNeg ≤ n0) (h5 : dp.toNatClampNeg + n.toNatClampNeg ≤ n1)
    (kk : zz_W l dC dI dA B y (pc + 3) ls st (hp_s h a (.inl (ty, n1, .inl (va_cpy f g sp.toNatClampNeg dp.toNatClampNeg n.toNatClampNeg)))) r h') : zz_W l dC dI dA B y pc ls (.int n :: .int dp :: .ref a :: .int sp :: .ref a0 :: st) h r h' := by
  refine zz_writes (fun p e R s m args below meth c H locs cells slots lsR Q hF hlv hR w => ?_) ha (fun n' f' hf hall j => ?_) kk
  · intro T hT X
    have hK := hF.2.2.2.2.2.2.2.2.1.1
    have hts := hF.2.2.2.2.1
    have hc0 : H[a0]? = some (vp_cell (dA ty) (n0, .inl f)) := zz_P1 hR ha0 0 _ rfl
    have hc1 : H[a]? = some (vp_cell (dA ty) (n1, .inl g)) := zz_P1 hR ha 0 _ rfl
    obtain ⟨-, k0, hk0, cm0, hkk0⟩ := (hK.2 t0 _ hty).1 n0 (fun j => .int (f j))
    obtain ⟨-, k1, hk1, cm1, hkk1⟩ := (hK.2 t0 _ hty).1 n1 (fun j => .int (g j))
    obtain ⟨vm', X', step⟩ := X.arraycopy hF.1 hF.2.2.2.1 (hts _ hl) (hts _ zz_ay1) (hts _ zz_ay2) (hts _ zz_ay3) (src := a0) (dst := a) (cs := vp_cell (dA ty) (n0, .inl f)) (cd := vp_cell (dA ty) (n1, .inl g)) (srcPos := sp) (destPos := dp) (n := n) (by rw [hT]; exact hc0) (by rw [hT]; exact hc1)
      (fun _ h => by cases h) (fun _ h => by cases h) (fun h => by cases h) (fun h => by cases h) hk0 hk1 hkk0 hkk1 (by simp [hprim]) h1 h2 h3
      (by rw [zz_nn sp h1, zz_nn n h3]; show ¬ _ > ((arrV (dA ty) n0 (fun j => .int (f j))).slots.size : Int); rw [arrV_size]; omega)
      (by rw [zz_nn dp h2, zz_nn n h3]; show ¬ _ > ((arrV (dA ty) n1 (fun j => .int (g j))).slots.size : Int); rw [arrV_size]; omega)
      (fun vm₁ _ i hi => by
        have e : (vp_cell (dA ty) (n0, .inl f)).slots.getD (sp.toNatClampNeg + i) .null = .int (f (sp.toNatClampNeg + i)) := by
          show (arrV (dA ty) n0 (fun j => .int (f j))).slots.getD _ _ = _
          rw [Array.getD_eq_getD_getElem?, arrV_read _ _ (by omega)]
          rfl
        refine ⟨?_, ?_⟩
        · rw [e]
          rcases hfit (f (sp.toNatClampNeg + i)) with hb | hb
          · subst hb
            exact hR.2.2.2.1 a0 n0 f ha0 _
          · exact hb
        · rw [e]
          exact trivial)
      (g := F0 m pc lsR (.int n :: .int dp :: .ref a :: .int sp :: .ref a0 :: st)) rfl (by rw [hF.2.2.1]; exact hlv) (rest := st) rfl (by rw [hF.2.1]; exact d) (Nat.le_trans hfr hF.2.2.2.2.2.2.2.2.2.1) (by
        show 2 * 0 + _ + (nativeFrameWords "java/lang/System" "arraycopy" 5 + 11) ≤ _
        rw [show nativeFrameWords "java/lang/System" "arraycopy" 5 = 7 from by decide +kernel]
        have := hF.2.2.2.2.2.2.2.2.2.2
        omega)
    have e1 : copied (vp_cell (dA ty) (n0, .inl f)) (vp_cell (dA ty) (n1, .inl g)) sp dp n = vp_cell (dA ty) (n1, .inl (va_cpy f g sp.toNatClampNeg dp.toNatClampNeg n.toNatClampNeg)) := va_copied (fun z => .int z) (dA ty) (dA ty) f g h4
    rw [e1] at X' step
    have hl : a < H.size := (Array.getElem?_eq_some_iff.mp hc1).1
    have hheap : ((T.setVm vm').setCell a (vp_cell (dA ty) (n1, .inl (va_cpy f g sp.toNatClampNeg dp.toNatClampNeg n.toNatClampNeg)))).heap = H.setIfInBounds a (vp_cell (dA ty) (n1, .inl (va_cpy f g sp.toNatClampNeg dp.toNatClampNeg n.toNatClampNeg))) := by rw [← hT]; rfl
    obtain ⟨t, a1, b1⟩ := w _ _ (by simp) (fun q hq => by simp [Array.getElem?_setIfInBounds, Ne.symm hq]) (show (H.setIfInBounds a _)[a]? = some _ by simp [Array.getElem?_setIfInBounds, hl]) (fun q hq => by
      obtain ⟨z, -, hz⟩ := List.mem_map.mp hq
      rw [← hz]) _ hheap X'
    exact ⟨t, step t a1, b1⟩
  · cases hf
    simp only [va_cpy]
    split
    · exact hall a0 n0 f ha0 _
    · exact hall a n1 g ha _
theorem zz_copyJ {index : Nat} {a0 a n0 n1 : Nat} {f g : Nat → Int64} {sp dp n : Int32} (d : decode (zz_c y) pc = .ok (.invokestatic index, 3)) (hl : Cond.methodLink (zz_cn (zz_co y)) index arraycopyName ∈ zz_gw) (hfr : 1 ≤ zz_fr y) (hlo : 26 ≤ zz_lo y) (hst : (st.map fun v => v.category).sum ≤ 8)
    (ha0 : hp_g h a0 = some (.inl (.long, n0, .inr (.inl f)))) (ha : hp_g h a = some (.inl (.long, n1, .inr (.inl g)))) (h1 : ¬ sp < 0) (h2 : ¬ dp < 0) (h3 : ¬ n < 0) (h4 : sp.toNatClampNeg + n.toNatClampNeg ≤ n0) (h5 : dp.toNatClampNeg + n.toNatClampNeg ≤ n1)
    (kk : zz_W l dC dI dA B y (pc + 3) ls st (hp_s h a (.inl (.long, n1, .inr (.inl (va_cpy f g sp.toNatClampNeg dp.toNatClampNeg n.toNatClampNeg))))) r h') : zz_W l dC dI dA B y pc ls (.int n :: .int dp :: .ref a :: .int sp :: .ref a0 :: st) h r h' := by
  refine zz_writes (fun p e R s m args below meth c H locs cells slots lsR Q hF hlv hR w => ?_) ha (fun n' f' hf => by cases hf) kk
  intro T hT X
  have hK := hF.2.2.2.2.2.2.2.2.1.1
  have hts := hF.2.2.2.2.1
  have hc0 : H[a0]? = some (vp_cell (dA .long) (n0, .inr (.inl f))) := zz_P1 hR ha0 0 _ rfl
  have hc1 : H[a]? = some (vp_cell (dA .long) (n1, .inr (.inl g))) := zz_P1 hR ha 0 _ rfl
  obtain ⟨-, k0, hk0, cm0, hkk0⟩ := (hK.2 3 _ (zz_ty_at dA).2.2.2.1).1 n0 (fun j => .long (f j))
  obtain ⟨-, k1, hk1, cm1, hkk1⟩ := (hK.2 3 _ (zz_ty_at dA).2.2.2.1).1 n1 (fun j => .long (g j))
  obtain ⟨vm', X', step⟩ := X.arraycopy hF.1 hF.2.2.2.1 (hts _ hl) (hts _ zz_ay1) (hts _ zz_ay2) (hts _ zz_ay3) (src := a0) (dst := a) (cs := vp_cell (dA .long) (n0, .inr (.inl f))) (cd := vp_cell (dA .long) (n1, .inr (.inl g))) (srcPos := sp) (destPos := dp) (n := n) (by rw [hT]; exact hc0) (by rw [hT]; exact hc1)
    (fun _ h => by cases h) (fun _ h => by cases h) (fun h => by cases h) (fun h => by cases h) hk0 hk1 hkk0 hkk1 (by simp [refKind]) h1 h2 h3
    (by rw [zz_nn sp h1, zz_nn n h3]; show ¬ _ > ((arrV (dA .long) n0 (fun j => .long (f j))).slots.size : Int); rw [arrV_size]; omega)
    (by rw [zz_nn dp h2, zz_nn n h3]; show ¬ _ > ((arrV (dA .long) n1 (fun j => .long (g j))).slots.size : Int); rw [arrV_size]; omega)
    (fun vm₁ _ i hi => by
      have e : (vp_cell (dA .long) (n0, .inr (.inl f))).slots.getD (sp.toNatClampNeg + i) .null = .long (f (sp.toNatClampNeg + i)) := by
        show (arrV (dA .long) n0 (fun j => .long (f j))).slots.getD _ _ = _
        rw [Array.getD_eq_getD_getElem?, arrV_read _ _ (by omega)]
        rfl
      refine ⟨?_, ?_⟩
      · rw [e]; rfl
      · rw [e]; exact trivial)
    (g := F0 m pc lsR (.int n :: .int dp :: .ref a :: .int sp :: .ref a0 :: st)) rfl (by rw [hF.2.2.1]; exact hlv) (rest := st) rfl (by rw [hF.2.1]; exact d) (Nat.le_trans hfr hF.2.2.2.2.2.2.2.2.2.1) (by
      show 2 * 0 + _ + (nativeFrameWords "java/lang/System" "arraycopy" 5 + 11) ≤ _
      rw [show nativeFrameWords "java/lang/System" "arraycopy" 5 = 7 from by decide +kernel]
      have := hF.2.2.2.2.2.2.2.2.2.2
      omega)
  have e1 : copied (vp_cell (dA .long) (n0, .inr (.inl f))) (vp_cell (dA .long) (n1, .inr (.inl g))) sp dp n = vp_cell (dA .long) (n1, .inr (.inl (va_cpy f g sp.toNatClampNeg dp.toNatClampNeg n.toNatClampNeg))) := va_copied (fun z => .long z) (dA .long) (dA .long) f g h4
  rw [e1] at X' step
  have hl : a < H.size := (Array.getElem?_eq_some_iff.mp hc1).1
  have hheap : ((T.setVm vm').setCell a (vp_cell (dA .long) (n1, .inr (.inl (va_cpy f g sp.toNatClampNeg dp.toNatClampNeg n.toNatClampNeg))))).heap = H.setIfInBounds a (vp_cell (dA .long) (n1, .inr (.inl (va_cpy f g sp.toNatClampNeg dp.toNatClampNeg n.toNatClampNeg)))) := by rw [← hT]; rfl
  obtain ⟨t, a1, b1⟩ := w _ _ (by simp) (fun q hq => by simp [Array.getElem?_setIfInBounds, Ne.symm hq]) (show (H.setIfInBounds a _)[a]? = some _ by simp [Array.getElem?_setIfInBounds, hl]) (fun q hq => by
    obtain ⟨z, -, hz⟩ := List.mem_map.mp hq
    rw [← hz]) _ hheap X'
  exact ⟨t, step t a1, b1⟩
/-- leaving -/
theorem zz_ireturn {ty : FieldType} {v : Int32} (d : decode (zz_c y) pc = .ok (.ireturn, 1)) (hr : zz_rt y = some ty) (hn : narrow ty (.int v) = .int v) : zz_W l dC dI dA B y pc ls [.int v] h (some (.int v)) h := by
  refine ⟨⟨Nat.le_refl _, Nat.le_refl _⟩, fun p e R s m args below meth c H locs cells slots lsR hF hl hR hS hB h1 h2 => ?_⟩
  refine W.widen (k := R.cells) (n := R.slots) (by omega) (by omega) ?_
  exact W.zret hF.1 hF.2.1 (by rw [hF.2.2.2.2.2.1]; exact hr) hn (fun t ht hW => ⟨rfl, by rw [ht]; exact hR.moved hW.alike, hS.F ht⟩) hS.2.2 d hF.2.2.2.2.2.2.1
theorem zz_lreturn {v : Int64} (d : decode (zz_c y) pc = .ok (.lreturn, 1)) (hr : zz_rt y = some .long) : zz_W l dC dI dA B y pc ls [.long v] h (some (.long v)) h := by
  refine ⟨⟨Nat.le_refl _, Nat.le_refl _⟩, fun p e R s m args below meth c H locs cells slots lsR hF hl hR hS hB h1 h2 => ?_⟩
  refine W.widen (k := R.cells) (n := R.slots) (by omega) (by omega) ?_
  exact W.lret hF.1 hF.2.1 (by rw [hF.2.2.2.2.2.1]; exact hr) (fun t ht hW => ⟨rfl, by rw [ht]; exact hR.moved hW.alike, hS.F ht⟩) hS.2.2 d hF.2.2.2.2.2.2.1
theorem zz_return (d : decode (zz_c y) pc = .ok (.return_, 1)) (hr : zz_rt y = none) : zz_W l dC dI dA B y pc ls [] h none h := by
  refine ⟨⟨Nat.le_refl _, Nat.le_refl _⟩, fun p e R s m args below meth c H locs cells slots lsR hF hl hR hS hB h1 h2 => ?_⟩
  refine W.widen (k := R.cells) (n := R.slots) (by omega) (by omega) ?_
  exact W.vret hF.1 hF.2.1 (by rw [hF.2.2.2.2.2.1]; exact hr) (fun t ht hW => ⟨rfl, by rw [ht]; exact hR.moved hW.alike, hS.F ht⟩) hS.2.2 d hF.2.2.2.2.2.2.1
end Calls
