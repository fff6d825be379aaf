/-! calls: the callee's judgement gives its contract; the contract goes into the caller's walk -/
section Run
variable {l : Launch} {dC : Nat → ClassId} {dI : Nat → Nat → Nat} {dA : FieldType → ClassId} {B : Nat} {y pc : Nat} {ls : zz_L} {h h1 : zz_H} {r r1 : Option Value} {h' : zz_H} {z index : Nat} {As rest : List Value}
def zz_rm (z : Nat) (h h1 : zz_H) : Room := { frames := zz_fr z, cells := h1.1 - h.1, slots := h1.2.1 - h.2.1, locals := zz_lo z }
def zz_cd0 (z : Nat) : Cond := .code (zz_y z) (zz_c z) (zz_ml z) (zz_rt z)
def zz_Pc (dC : Nat → ClassId) (dI : Nat → Nat → Nat) (dA : FieldType → ClassId) (B : Nat) (vs : List Value) (h : zz_H) : Array Value → State → Prop := va_Pc vs (fun U => zz_R dC dI dA B U h U.heap ∧ zz_K dC dI dA U)
/-- what the table says of a method -/
theorem zz_row (h0 : z ≠ 0) (hz : z < 256) : (if zz_st z = true then Cond.static (zz_y z) ∈ zz_gw else Cond.instanceMethod (zz_y z) ∈ zz_gw ∧ zz_co z < 12) ∧ Cond.initialized (zz_y z).cls ∈ zz_gw ∧ (zz_st z = true ∨ zz_in z = true ∨ Cond.selects (zz_y z).cls (zz_y z) (zz_y z) ∈ zz_gw) ∧
    (zz_y z).cls = zz_cn (zz_co z) ∧ plainName (zz_y z).cls = true ∧ ((zz_y z).cls ≠ "java/lang/invoke/MethodHandle" ∧ (zz_y z).cls ≠ "java/lang/invoke/VarHandle") ∧ (parseMethodDescriptor (zz_y z).desc).map (fun d => d.parameters.length) = some (zz_np z) ∧ (zz_in z = true → (zz_y z).name = "<init>" ∧ zz_rt z = none) := by
  have hr := zz_T_ok h0 hz
  unfold zz_rowOk at hr
  simp only [Bool.and_eq_true, decide_eq_true_eq, Bool.or_eq_true, Bool.not_eq_true'] at hr
  obtain ⟨⟨⟨⟨⟨⟨⟨⟨q1, q2⟩, q3⟩, q4⟩, q5⟩, q6⟩, q7⟩, q8⟩, q9⟩ := hr
  refine ⟨?_, zz_gw_mem q2 rfl, ?_, q4, q5, q6, q7, fun hi => ?_⟩
  · show (if (zz_m z).2.2.2.2.2.2.2.1 = true then _ else _)
    by_cases hs : (zz_m z).2.2.2.2.2.2.2.1 = true
    · rw [if_pos hs] at q1 ⊢
      exact zz_gw_mem (of_decide_eq_true q1) rfl
    · rw [if_neg hs] at q1 ⊢
      simp only [Bool.and_eq_true, decide_eq_true_eq] at q1
      exact ⟨zz_gw_mem q1.1 rfl, q1.2⟩
  · rcases q3 with (q3 | q3) | q3
    · exact Or.inl q3
    · exact Or.inr (Or.inl q3)
    · exact Or.inr (Or.inr (zz_gw_mem q3 rfl))
  · rcases q8 with q8 | q8
    · rw [show zz_in z = (zz_m z).2.2.2.2.2.2.2.2.1 from rfl, q8] at hi
      cases hi
    · exact ⟨q8.1.1, q8.1.2⟩
theorem zz_goodIn (h0 : z ≠ 0) (hz : z < 256) : GoodIn zz_gw (zz_cd0 z :: zz_gw) := by
  intro w hw
  rcases List.mem_cons.mp hw with rfl | hw
  · exact ⟨zz_T_cw h0 hz, Or.inl rfl⟩
  · exact ⟨hw, good_of_word (List.mem_filter.mp hw).2⟩
theorem zz_met (h0 : z ≠ 0) (hz : z < 256) (hlen : (lg_sl As).length ≤ zz_ml z) (k : zz_W l dC dI dA B z 0 (zz_e0 As (zz_ml z)) [] h r1 h1) :
    Met l (zz_y z) (zz_cd0 z :: zz_gw) (zz_rm z h h1) (zz_Pc dC dI dA B As h) (zz_Q dC dI dA B r1 h1) (h1.1 - h.1) (h1.2.1 - h.2.1) (fun q => B ≤ q) := by
  obtain ⟨w1, w2, w3, w4, w5, w6, w7, w8⟩ := zz_row h0 hz
  refine Met.ofW (cc := zz_c z) (maxL := zz_ml z) (ret := zz_rt z) w5 rfl ?_
  intro p e s m args below meth c s₁ Bd hml hv
  obtain ⟨rfl, hR, hK⟩ := hv
  have hts := atoms_spec (ws := zz_cd0 z :: zz_gw) Bd.pre
  rw [lg_entry_eq]
  have hl := lv_entry As (n := zz_ml z) hlen
  refine k.2 p e (zz_rm z h h1) s m As.toArray below meth c s.heap [] 0 0 _ ⟨Bd.exec, Bd.bytes, hml, by rw [← w4]; exact findClass_of_methodNamed Bd.named, fun w hw => hts w (List.mem_cons_of_mem _ hw), Bd.returns, Bd.notSynchronized, fun hi => ?_, hK, Nat.le_refl _, Nat.le_refl _⟩ (zz_fewer hl (zz_e0_mem As (zz_ml z))) hR va_S.rf (by have := hR.1; have := hR.2.1; omega) ?_ ?_
  · rw [(name_of_methodNamed Bd.named Bd.method).1]
    exact (w8 hi).1
  · have := k.1.1
    show 0 + h1.1 ≤ h1.1 - h.1 + h.1
    omega
  · have := k.1.2
    show 0 + h1.2.1 ≤ h1.2.1 - h.2.1 + h.2.1
    omega
theorem zz_blind (vs : List Value) (h : zz_H) : FrameBlind (zz_Pc dC dI dA B vs h) := by
  intro a U g mk q
  obtain ⟨q1, q2, q3⟩ := q
  exact ⟨q1, q2.moved (Vm.Alike.refl U.vm), q3.same rfl⟩
theorem zz_pre {s : State} {H : Heap} (hR : zz_R dC dI dA B s h H) (hK : zz_K dC dI dA s) (vs : List Value) : ∀ U : State, U.heap = H → s.WarmedH U.vm → zz_Pc dC dI dA B vs h vs.toArray U :=
  fun U hU hW => ⟨rfl, by rw [hU]; exact hR.moved hW.alike, hK.moved hW⟩
/-- behind a call -/
theorem zz_goes {p : Program} {e : Env} {R : Room} {s : State} {m : MethodId} {args a : Array Value} {below : List Frame} {meth : Method} {c : Code} {H : Heap} {locs : List Loc} {cells slots : Nat} {lsR : Array Slot} {st : List Value}
    (hr : va_Run p l e R s m args below meth c H locs cells slots (h1.1 - h.1) (h1.2.1 - h.2.1) (F0 m pc lsR st) rest (zz_Q dC dI dA B r1 h1 a) (fun q => B ≤ q)) (hm : h.1 ≤ h1.1 ∧ h.2.1 ≤ h1.2.1) (k : zz_W l dC dI dA B y (pc + 3) ls (r1.toList ++ rest) h1 r h')
    (hF : zz_Fx dC dI dA p R s m args meth c y) (hl : lv_has lsR (zz_ml y) (zz_as ls)) (hS : va_S (fun q => B ≤ q) s.heap H locs) (hB : B ≤ s.heap.size) (c1 : cells + h'.1 ≤ R.cells + h.1) (c2 : slots + h'.2.1 ≤ R.slots + h.2.1) :
    W p l e R s m args below meth c H locs cells slots (MQ below (zz_Q dC dI dA B r h') args s R.cells R.slots (fun q => B ≤ q)) (F0 m pc lsR st) := by
  intro T hT X
  obtain ⟨v, st₀, t, T', L, g0, X', hL, e1, e2, ⟨hv, hR1, hF1, hF2⟩, stp⟩ := hr T hT X
  cases hv
  rw [g0] at hF1 hF2
  obtain ⟨t2, a1, b1⟩ := k.2 p e R s m args below meth c T'.heap (locs ++ L) (cells + (h1.1 - h.1)) (slots + (h1.2.1 - h.2.1)) lsR hF hl (by rw [e1]; exact hR1.moved (by rw [← e2]; exact X'.warmed.alike.symm)) ⟨Nat.le_trans hS.1 (by rw [e1]; exact hF1), fun q q1 q2 => by rw [e1, hF2 q (Nat.lt_of_lt_of_le q1 hS.1) q2]; exact hS.2.1 q q1 q2, fun q hq => by
      rcases List.mem_append.mp hq with g | g
      · exact hS.2.2 q g
      · exact hL q g⟩ hB (by have := hm.1; omega) (by have := hm.2; omega) T' rfl X'
  exact ⟨t2, stp t2 a1, b1⟩
def zz_roomy (y z : Nat) : Prop := zz_fr z + 1 ≤ zz_fr y ∧ 8 + (zz_ml z + 11) + zz_lo z ≤ zz_lo y
theorem zz_roomR {p : Program} {R : Room} {s : State} {m : MethodId} {args : Array Value} {meth : Method} {c : Code} (hF : zz_Fx dC dI dA p R s m args meth c y) (hr : zz_roomy y z) : (zz_rm z h h1).frames + 1 ≤ R.frames ∧ 8 + (zz_ml z + 11) + (zz_rm z h h1).locals ≤ R.locals :=
  ⟨Nat.le_trans hr.1 hF.2.2.2.2.2.2.2.2.2.1, Nat.le_trans hr.2 hF.2.2.2.2.2.2.2.2.2.2⟩
theorem zz_callB {p : Program} {R : Room} {s : State} {m : MethodId} {args : Array Value} {meth : Method} {c : Code} (hF : zz_Fx dC dI dA p R s m args meth c y) (hr : zz_roomy y z) (h0 : z ≠ 0) (hz : z < 256) (hlink : Cond.methodLink (zz_cn (zz_co y)) index (zz_y z) ∈ zz_gw) :
    CallB R s args (zz_cn (zz_co y)) index (zz_y z) (zz_c z) (zz_ml z) (zz_rt z) (zz_cd0 z :: zz_gw) (zz_rm z h h1) (h1.1 - h.1) (h1.2.1 - h.2.1) (zz_np z) := by
  obtain ⟨w1, w2, w3, w4, w5, w6, w7, w8⟩ := zz_row h0 hz
  exact callB_of (zz_np z) hF.2.2.2.2.1 (zz_goodIn h0 hz) rfl rfl rfl (hF.2.2.2.2.1 _ w2) (hF.2.2.2.2.1 _ hlink) ⟨w6.1, w6.2, w7⟩ (zz_roomR hF hr)
theorem zz_callS (d : decode (zz_c y) pc = .ok (.invokestatic index, 3)) (h0 : z ≠ 0) (hz : z < 256) (hlink : Cond.methodLink (zz_cn (zz_co y)) index (zz_y z) ∈ zz_gw) (hst : zz_st z = true) (hr : zz_roomy y z) (hn : As.length = zz_np z) (hrest : (rest.map fun v => v.category).sum ≤ 8) (hlen : (lg_sl As).length ≤ zz_ml z)
    (k1 : zz_W l dC dI dA B z 0 (zz_e0 As (zz_ml z)) [] h r1 h1) (k2 : zz_W l dC dI dA B y (pc + 3) ls (r1.toList ++ rest) h1 r h') : zz_W l dC dI dA B y pc ls (As.reverse ++ rest) h r h' := by
  refine ⟨⟨Nat.le_trans k1.1.1 k2.1.1, Nat.le_trans k1.1.2 k2.1.2⟩, fun p e R s m args below meth c H locs cells slots lsR hF hl hR hS hB c1 c2 => ?_⟩
  obtain ⟨w1, -⟩ := zz_row h0 hz
  rw [if_pos hst] at w1
  exact zz_goes (va_runS (Ts := zz_gw) ⟨hF.1, hF.2.1, hF.2.2.1, hF.2.2.2.1, hF.2.2.2.2.1⟩ (zz_met h0 hz hlen k1) ⟨zz_callB hF hr h0 hz hlink, hF.2.2.2.2.1 _ w1⟩ ⟨zz_blind As h, zz_pre hR hF.2.2.2.2.2.2.2.2.1 As⟩ rfl hn hl.1 rfl (lv_room hrest) d ⟨by have := k1.1.1; have := k2.1.1; omega, by have := k1.1.2; have := k2.1.2; omega⟩) k1.1 k2 hF hl hS hB c1 c2
theorem zz_callSN (d : decode (zz_c y) pc = .ok (.invokestatic index, 3)) (h0 : z ≠ 0) (hz : z < 256) (hlink : Cond.methodLinkNest (zz_cn (zz_co y)) index (zz_y z) "FacetSieve" ∈ zz_nest) (hst : zz_st z = true) (hr : zz_roomy y z) (hn : As.length = zz_np z) (hrest : (rest.map fun v => v.category).sum ≤ 8) (hlen : (lg_sl As).length ≤ zz_ml z)
    (k1 : zz_W l dC dI dA B z 0 (zz_e0 As (zz_ml z)) [] h r1 h1) (k2 : zz_W l dC dI dA B y (pc + 3) ls (r1.toList ++ rest) h1 r h') : zz_W l dC dI dA B y pc ls (As.reverse ++ rest) h r h' := by
  refine ⟨⟨Nat.le_trans k1.1.1 k2.1.1, Nat.le_trans k1.1.2 k2.1.2⟩, fun p e R s m args below meth c H locs cells slots lsR hF hl hR hS hB c1 c2 => ?_⟩
  obtain ⟨w1, w2, w3, w4, w5, w6, w7, w8⟩ := zz_row h0 hz
  rw [if_pos hst] at w1
  exact zz_goes (va_runSN (Ts := zz_gw) ⟨hF.1, hF.2.1, hF.2.2.1, hF.2.2.2.1, hF.2.2.2.2.1⟩ (zz_met h0 hz hlen k1) ⟨va_cnB (zz_np z) hF.2.2.2.2.1 (zz_goodIn h0 hz) rfl rfl rfl (hF.2.2.2.2.2.2.2.2.1.2.1 _ hlink) (hF.2.2.2.2.1 _ w2) ⟨w6.1, w6.2, w7⟩ (zz_roomR hF hr), hF.2.2.2.2.1 _ w1, trivial⟩ ⟨zz_blind As h, zz_pre hR hF.2.2.2.2.2.2.2.2.1 As⟩ rfl hn hl.1 rfl (lv_room hrest) d ⟨by have := k1.1.1; have := k2.1.1; omega, by have := k1.1.2; have := k2.1.2; omega⟩) k1.1 k2 hF hl hS hB c1 c2
theorem zz_callV {b : Nat} {fs : List Value} (d : decode (zz_c y) pc = .ok (.invokevirtual index, 3)) (h0 : z ≠ 0) (hz : z < 256) (hlink : Cond.methodLink (zz_cn (zz_co y)) index (zz_y z) ∈ zz_gw) (hst : ¬ zz_st z = true) (hin : ¬ zz_in z = true) (hb : hp_g h b = some (.inr (zz_co z, fs))) (hr : zz_roomy y z) (hn : As.length = zz_np z) (hrest : (rest.map fun v => v.category).sum ≤ 8) (hlen : (lg_sl (.ref b :: As)).length ≤ zz_ml z)
    (k1 : zz_W l dC dI dA B z 0 (zz_e0 (.ref b :: As) (zz_ml z)) [] h r1 h1) (k2 : zz_W l dC dI dA B y (pc + 3) ls (r1.toList ++ rest) h1 r h') : zz_W l dC dI dA B y pc ls (As.reverse ++ .ref b :: rest) h r h' := by
  refine ⟨⟨Nat.le_trans k1.1.1 k2.1.1, Nat.le_trans k1.1.2 k2.1.2⟩, fun p e R s m args below meth c H locs cells slots lsR hF hl hR hS hB c1 c2 => ?_⟩
  obtain ⟨w1, w2, w3, w4, w5, w6, w7, w8⟩ := zz_row h0 hz
  rw [if_neg hst] at w1
  have wsel := (w3.resolve_left hst).resolve_left hin
  have hP := zz_P1 hR hb
  obtain ⟨r', hr', -⟩ := hP 0 _ rfl
  have hco := (zz_cls_ok hr').2.2.2
  have hrec := va_recv hF.2.2.2.2.2.2.2.2.1.1 hP (q0 := 0) hr' rfl
  rw [← hco, ← w4] at hrec
  exact zz_goes (va_runV (Ts := zz_gw) (C := (zz_y z).cls) ⟨hF.1, hF.2.1, hF.2.2.1, hF.2.2.2.1, hF.2.2.2.2.1⟩ (zz_met h0 hz hlen k1) ⟨zz_callB hF hr h0 hz hlink, hF.2.2.2.2.1 _ w1.1, hF.2.2.2.2.1 _ wsel⟩ ⟨zz_blind _ h, hrec, zz_pre hR hF.2.2.2.2.2.2.2.2.1 _⟩ rfl hn hl.1 rfl (lv_room hrest) d ⟨by have := k1.1.1; have := k2.1.1; omega, by have := k1.1.2; have := k2.1.2; omega⟩) k1.1 k2 hF hl hS hB c1 c2
theorem zz_callI {b : Nat} (d : decode (zz_c y) pc = .ok (.invokespecial index, 3)) (h0 : z ≠ 0) (hz : z < 256) (hlink : Cond.methodLink (zz_cn (zz_co y)) index (zz_y z) ∈ zz_gw) (hst : ¬ zz_st z = true) (hin : zz_in z = true) (hr : zz_roomy y z) (hn : As.length = zz_np z) (hrest : (rest.map fun v => v.category).sum ≤ 8) (hlen : (lg_sl (.ref b :: As)).length ≤ zz_ml z)
    (k1 : zz_W l dC dI dA B z 0 (zz_e0 (.ref b :: As) (zz_ml z)) [] h r1 h1) (k2 : zz_W l dC dI dA B y (pc + 3) ls (r1.toList ++ rest) h1 r h') : zz_W l dC dI dA B y pc ls (As.reverse ++ .ref b :: rest) h r h' := by
  refine ⟨⟨Nat.le_trans k1.1.1 k2.1.1, Nat.le_trans k1.1.2 k2.1.2⟩, fun p e R s m args below meth c H locs cells slots lsR hF hl hR hS hB c1 c2 => ?_⟩
  obtain ⟨w1, w2, w3, w4, w5, w6, w7, w8⟩ := zz_row h0 hz
  rw [if_neg hst] at w1
  have hb := zz_callB (h := h) (h1 := h1) hF hr h0 hz hlink
  have hM := zz_met h0 hz hlen k1
  rw [(w8 hin).2] at hb
  exact zz_goes (va_runI (Ts := zz_gw) ⟨hF.1, hF.2.1, hF.2.2.1, hF.2.2.2.1, hF.2.2.2.2.1⟩ hM ⟨hb, (w8 hin).1, hF.2.2.2.2.1 _ w1.1⟩ ⟨zz_blind _ h, zz_pre hR hF.2.2.2.2.2.2.2.2.1 _⟩ rfl hn hl.1 rfl (lv_room hrest) d ⟨by have := k1.1.1; have := k2.1.1; omega, by have := k1.1.2; have := k2.1.2; omega⟩) k1.1 k2 hF hl hS hB c1 c2
theorem zz_callIN {b : Nat} (d : decode (zz_c y) pc = .ok (.invokespecial index, 3)) (h0 : z ≠ 0) (hz : z < 256) (hlink : Cond.methodLinkNest (zz_cn (zz_co y)) index (zz_y z) "FacetSieve" ∈ zz_nest) (hst : ¬ zz_st z = true) (hin : zz_in z = true) (hr : zz_roomy y z) (hn : As.length = zz_np z) (hrest : (rest.map fun v => v.category).sum ≤ 8) (hlen : (lg_sl (.ref b :: As)).length ≤ zz_ml z)
    (k1 : zz_W l dC dI dA B z 0 (zz_e0 (.ref b :: As) (zz_ml z)) [] h r1 h1) (k2 : zz_W l dC dI dA B y (pc + 3) ls (r1.toList ++ rest) h1 r h') : zz_W l dC dI dA B y pc ls (As.reverse ++ .ref b :: rest) h r h' := by
  refine ⟨⟨Nat.le_trans k1.1.1 k2.1.1, Nat.le_trans k1.1.2 k2.1.2⟩, fun p e R s m args below meth c H locs cells slots lsR hF hl hR hS hB c1 c2 => ?_⟩
  obtain ⟨w1, w2, w3, w4, w5, w6, w7, w8⟩ := zz_row h0 hz
  rw [if_neg hst] at w1
  have hb := va_cnB (mc := h1.1 - h.1) (ms := h1.2.1 - h.2.1) (zz_np z) hF.2.2.2.2.1 (zz_goodIn h0 hz) rfl rfl rfl (hF.2.2.2.2.2.2.2.2.1.2.1 _ hlink) (hF.2.2.2.2.1 _ w2) ⟨w6.1, w6.2, w7⟩ (zz_roomR (h := h) (h1 := h1) hF hr)
  have hM := zz_met h0 hz hlen k1
  rw [(w8 hin).2] at hb
  exact zz_goes (va_runIN (Ts := zz_gw) ⟨hF.1, hF.2.1, hF.2.2.1, hF.2.2.2.1, hF.2.2.2.2.1⟩ hM ⟨hb, (w8 hin).1, hF.2.2.2.2.1 _ w1.1⟩ ⟨zz_blind _ h, zz_pre hR hF.2.2.2.2.2.2.2.2.1 _⟩ rfl hn hl.1 rfl (lv_room hrest) d ⟨by have := k1.1.1; have := k2.1.1; omega, by have := k1.1.2; have := k2.1.2; omega⟩) k1.1 k2 hF hl hS hB c1 c2
end Run
