/-! the judgement and its rules -/
def zz_Fx (dC : Nat → ClassId) (dI : Nat → Nat → Nat) (dA : FieldType → ClassId) (p : Program) (R : Room) (s : State) (m : MethodId) (args : Array Value) (meth : Method) (c : Code) (y : Nat) : Prop :=
  p.tables.exec = Jvm.exec ∧ c.code = zz_c y ∧ c.maxLocals = zz_ml y ∧ s.vm.findClass (zz_cn (zz_co y)) = some m.cls ∧ (∀ w ∈ zz_gw, w.before args s = true) ∧ meth.sig.returnType = zz_rt y ∧ meth.locks = false ∧
  (zz_in y = true → meth.name = "<init>") ∧ zz_K dC dI dA s ∧ zz_fr y ≤ R.frames ∧ zz_lo y ≤ R.locals
def zz_Q (dC : Nat → ClassId) (dI : Nat → Nat → Nat) (dA : FieldType → ClassId) (B : Nat) (r : Option Value) (h' : zz_H) : Array Value → State → Outcome → State → Prop := fun _ st o t => o = .returned r ∧ zz_R dC dI dA B t h' t.heap ∧ va_F (fun q => B ≤ q) st t
def zz_W (l : Launch) (dC : Nat → ClassId) (dI : Nat → Nat → Nat) (dA : FieldType → ClassId) (B : Nat) (y pc : Nat) (ls : zz_L) (st : List Value) (h : zz_H) (r : Option Value) (h' : zz_H) : Prop :=
  (h.1 ≤ h'.1 ∧ h.2.1 ≤ h'.2.1) ∧ ∀ (p : Program) (e : Env) (R : Room) (s : State) (m : MethodId) (args : Array Value) (below : List Frame) (meth : Method) (c : Code) (H : Heap) (locs : List Loc) (cells slots : Nat) (lsR : Array Slot),
    zz_Fx dC dI dA p R s m args meth c y → lv_has lsR (zz_ml y) (zz_as ls) → zz_R dC dI dA B s h H → va_S (fun q => B ≤ q) s.heap H locs → B ≤ s.heap.size → cells + h'.1 ≤ R.cells + h.1 → slots + h'.2.1 ≤ R.slots + h.2.1 →
      W p l e R s m args below meth c H locs cells slots (MQ below (zz_Q dC dI dA B r h') args s R.cells R.slots (fun q => B ≤ q)) (F0 m pc lsR st)
section Rules
variable {l : Launch} {dC : Nat → ClassId} {dI : Nat → Nat → Nat} {dA : FieldType → ClassId} {B : Nat} {y pc : Nat} {ls : zz_L} {st : List Value} {h : zz_H} {r : Option Value} {h' : zz_H}
/-- a step that leaves the heap -/
theorem zz_plain {pc' : Nat} {ls' : zz_L} {st' : List Value}
    (hs : ∀ (p : Program) (e : Env) (R : Room) (s : State) (m : MethodId) (args : Array Value) (below : List Frame) (meth : Method) (c : Code) (H : Heap) (locs : List Loc) (cells slots : Nat) (lsR : Array Slot) (Q : State → Prop), zz_Fx dC dI dA p R s m args meth c y → lv_has lsR (zz_ml y) (zz_as ls) →
      (∀ lsR' : Array Slot, lv_has lsR' (zz_ml y) (zz_as ls') → W p l e R s m args below meth c H locs cells slots Q (F0 m pc' lsR' st')) → W p l e R s m args below meth c H locs cells slots Q (F0 m pc lsR st))
    (k : zz_W l dC dI dA B y pc' ls' st' h r h') : zz_W l dC dI dA B y pc ls st h r h' :=
  ⟨k.1, fun p e R s m args below meth c H locs cells slots lsR hF hl hR hS hB h1 h2 => hs p e R s m args below meth c H locs cells slots lsR _ hF hl (fun lsR' hl' => k.2 p e R s m args below meth c H locs cells slots lsR' hF hl' hR hS hB h1 h2)⟩
theorem zz_iconst {n : Int} (d : decode (zz_c y) pc = .ok (.iconst n, 1)) (k : zz_W l dC dI dA B y (pc + 1) ls (.int (Int32.ofInt n) :: st) h r h') : zz_W l dC dI dA B y pc ls st h r h' :=
  zz_plain (fun _ _ _ _ _ _ _ _ _ _ _ _ _ lsR _ hF hl kk => lv_iconst hF.1 hF.2.1 d rfl (kk lsR hl)) k
theorem zz_bipush {n : Int} (d : decode (zz_c y) pc = .ok (.bipush n, 2)) (k : zz_W l dC dI dA B y (pc + 2) ls (.int (Int8.ofInt n).toInt32 :: st) h r h') : zz_W l dC dI dA B y pc ls st h r h' :=
  zz_plain (fun _ _ _ _ _ _ _ _ _ _ _ _ _ lsR _ hF hl kk => lv_bipush hF.1 hF.2.1 d rfl (kk lsR hl)) k
theorem zz_sipush {n : Int} (d : decode (zz_c y) pc = .ok (.sipush n, 3)) (k : zz_W l dC dI dA B y (pc + 3) ls (.int (Int16.ofInt n).toInt32 :: st) h r h') : zz_W l dC dI dA B y pc ls st h r h' :=
  zz_plain (fun _ _ _ _ _ _ _ _ _ _ _ _ _ lsR _ hF hl kk => lv_sipush hF.1 hF.2.1 d rfl (kk lsR hl)) k
theorem zz_lconst {n : Fin 2} (d : decode (zz_c y) pc = .ok (.lconst n, 1)) (k : zz_W l dC dI dA B y (pc + 1) ls (.long (Int64.ofNat (n : Nat)) :: st) h r h') : zz_W l dC dI dA B y pc ls st h r h' :=
  zz_plain (fun _ _ _ _ _ _ _ _ _ _ _ _ _ lsR _ hF hl kk => lv_lconst hF.1 hF.2.1 d rfl (kk lsR hl)) k
theorem zz_iload_n {i : Fin 4} {x : Int32} (d : decode (zz_c y) pc = .ok (.iload_n i, 1)) (hi : ls[(i : Nat)]? = some (some (.int x))) (k : zz_W l dC dI dA B y (pc + 1) ls (.int x :: st) h r h') : zz_W l dC dI dA B y pc ls st h r h' :=
  zz_plain (fun _ _ _ _ _ _ _ _ _ _ _ _ _ lsR _ hF hl kk => lv_iload_n hF.1 hF.2.1 d rfl (zz_at hl hi) (kk lsR hl)) k
theorem zz_iload {i : Nat} {x : Int32} (d : decode (zz_c y) pc = .ok (.iload i, 2)) (hi : ls[i]? = some (some (.int x))) (k : zz_W l dC dI dA B y (pc + 2) ls (.int x :: st) h r h') : zz_W l dC dI dA B y pc ls st h r h' :=
  zz_plain (fun _ _ _ _ _ _ _ _ _ _ _ _ _ lsR _ hF hl kk => lv_iload hF.1 hF.2.1 d (zz_at hl hi) (kk lsR hl)) k
theorem zz_lload_n {i : Fin 4} {x : Int64} (d : decode (zz_c y) pc = .ok (.lload_n i, 1)) (hi : ls[(i : Nat)]? = some (some (.long x))) (k : zz_W l dC dI dA B y (pc + 1) ls (.long x :: st) h r h') : zz_W l dC dI dA B y pc ls st h r h' :=
  zz_plain (fun _ _ _ _ _ _ _ _ _ _ _ _ _ lsR _ hF hl kk => lv_lload_n hF.1 hF.2.1 d rfl (zz_at hl hi) (kk lsR hl)) k
theorem zz_aload_n {i : Fin 4} {x : Nat} (d : decode (zz_c y) pc = .ok (.aload_n i, 1)) (hi : ls[(i : Nat)]? = some (some (.ref x))) (k : zz_W l dC dI dA B y (pc + 1) ls (.ref x :: st) h r h') : zz_W l dC dI dA B y pc ls st h r h' :=
  zz_plain (fun _ _ _ _ _ _ _ _ _ _ _ _ _ lsR _ hF hl kk => lv_aload_n hF.1 hF.2.1 d rfl (zz_at hl hi) (kk lsR hl)) k
theorem zz_aload {i : Nat} {x : Nat} (d : decode (zz_c y) pc = .ok (.aload i, 2)) (hi : ls[i]? = some (some (.ref x))) (k : zz_W l dC dI dA B y (pc + 2) ls (.ref x :: st) h r h') : zz_W l dC dI dA B y pc ls st h r h' :=
  zz_plain (fun _ _ _ _ _ _ _ _ _ _ _ _ _ lsR _ hF hl kk => lv_aload hF.1 hF.2.1 d (zz_at hl hi) (kk lsR hl)) k
theorem zz_istore_n {i : Fin 4} {x : Int32} (d : decode (zz_c y) pc = .ok (.istore_n i, 1)) (hn : (i : Nat) < zz_ml y) (k : zz_W l dC dI dA B y (pc + 1) (zz_s1 ls i (.int x)) st h r h') : zz_W l dC dI dA B y pc ls (.int x :: st) h r h' :=
  zz_plain (fun _ _ _ _ _ _ _ _ _ _ _ _ _ lsR _ hF hl kk => lv_istore_n hF.1 hF.2.1 d rfl hl hn rfl (fun ls' h' => kk ls' (zz_fewer h' (zz_s1_mem)))) k
theorem zz_istore {i : Nat} {x : Int32} (d : decode (zz_c y) pc = .ok (.istore i, 2)) (hn : i < zz_ml y) (k : zz_W l dC dI dA B y (pc + 2) (zz_s1 ls i (.int x)) st h r h') : zz_W l dC dI dA B y pc ls (.int x :: st) h r h' :=
  zz_plain (fun _ _ _ _ _ _ _ _ _ _ _ _ _ lsR _ hF hl kk => lv_istore hF.1 hF.2.1 d hl hn rfl (fun ls' h' => kk ls' (zz_fewer h' (zz_s1_mem)))) k
theorem zz_astore_n {i : Fin 4} {x : Nat} (d : decode (zz_c y) pc = .ok (.astore_n i, 1)) (hn : (i : Nat) < zz_ml y) (k : zz_W l dC dI dA B y (pc + 1) (zz_s1 ls i (.ref x)) st h r h') : zz_W l dC dI dA B y pc ls (.ref x :: st) h r h' :=
  zz_plain (fun _ _ _ _ _ _ _ _ _ _ _ _ _ lsR _ hF hl kk => lv_astore_n hF.1 hF.2.1 d rfl hl hn rfl (fun ls' h' => kk ls' (zz_fewer h' (zz_s1_mem)))) k
theorem zz_astore {i : Nat} {x : Nat} (d : decode (zz_c y) pc = .ok (.astore i, 2)) (hn : i < zz_ml y) (k : zz_W l dC dI dA B y (pc + 2) (zz_s1 ls i (.ref x)) st h r h') : zz_W l dC dI dA B y pc ls (.ref x :: st) h r h' :=
  zz_plain (fun _ _ _ _ _ _ _ _ _ _ _ _ _ lsR _ hF hl kk => lv_astore hF.1 hF.2.1 d hl hn rfl (fun ls' h' => kk ls' (zz_fewer h' (zz_s1_mem)))) k
theorem zz_lstore_n {i : Fin 4} {x : Int64} (d : decode (zz_c y) pc = .ok (.lstore_n i, 1)) (hn : (i : Nat) + 1 < zz_ml y) (k : zz_W l dC dI dA B y (pc + 1) (zz_s2 ls i (.long x)) st h r h') : zz_W l dC dI dA B y pc ls (.long x :: st) h r h' :=
  zz_plain (fun _ _ _ _ _ _ _ _ _ _ _ _ _ lsR _ hF hl kk => lv_lstore_n hF.1 hF.2.1 d rfl hl hn rfl (fun ls' h' => kk ls' (zz_fewer h' (zz_s2_mem)))) k
theorem zz_iinc {i : Nat} {n : Int} {x : Int32} (d : decode (zz_c y) pc = .ok (.iinc i n, 3)) (hx : ls[i]? = some (some (.int x))) (hn : i < zz_ml y) (k : zz_W l dC dI dA B y (pc + 3) (zz_s1 ls i (.int (x + Int32.ofInt n))) st h r h') : zz_W l dC dI dA B y pc ls st h r h' := by
  obtain ⟨q, hq⟩ := List.getElem?_of_mem (zz_as_mem.mpr hx)
  exact zz_plain (fun _ _ _ _ _ _ _ _ _ _ _ _ _ lsR _ hF hl kk => lv_iinc hF.1 hF.2.1 d hl hq rfl hn rfl (fun ls' h' => kk ls' (zz_fewer h' zz_s1_mem))) k
theorem zz_iadd {a b : Int32} (d : decode (zz_c y) pc = .ok (.iadd, 1)) (k : zz_W l dC dI dA B y (pc + 1) ls (.int (a + b) :: st) h r h') : zz_W l dC dI dA B y pc ls (.int b :: .int a :: st) h r h' :=
  zz_plain (fun _ _ _ _ _ _ _ _ _ _ _ _ _ lsR _ hF hl kk => lv_iadd hF.1 hF.2.1 d (kk lsR hl)) k
theorem zz_isub {a b : Int32} (d : decode (zz_c y) pc = .ok (.isub, 1)) (k : zz_W l dC dI dA B y (pc + 1) ls (.int (a - b) :: st) h r h') : zz_W l dC dI dA B y pc ls (.int b :: .int a :: st) h r h' :=
  zz_plain (fun _ _ _ _ _ _ _ _ _ _ _ _ _ lsR _ hF hl kk => lv_isub hF.1 hF.2.1 d (kk lsR hl)) k
theorem zz_imul {a b : Int32} (d : decode (zz_c y) pc = .ok (.imul, 1)) (k : zz_W l dC dI dA B y (pc + 1) ls (.int (a * b) :: st) h r h') : zz_W l dC dI dA B y pc ls (.int b :: .int a :: st) h r h' :=
  zz_plain (fun _ _ _ _ _ _ _ _ _ _ _ _ _ lsR _ hF hl kk => lv_imul hF.1 hF.2.1 d (kk lsR hl)) k
theorem zz_iand {a b : Int32} (d : decode (zz_c y) pc = .ok (.iand, 1)) (k : zz_W l dC dI dA B y (pc + 1) ls (.int (a &&& b) :: st) h r h') : zz_W l dC dI dA B y pc ls (.int b :: .int a :: st) h r h' :=
  zz_plain (fun _ _ _ _ _ _ _ _ _ _ _ _ _ lsR _ hF hl kk => lv_iand hF.1 hF.2.1 d (kk lsR hl)) k
theorem zz_ior {a b : Int32} (d : decode (zz_c y) pc = .ok (.ior, 1)) (k : zz_W l dC dI dA B y (pc + 1) ls (.int (a ||| b) :: st) h r h') : zz_W l dC dI dA B y pc ls (.int b :: .int a :: st) h r h' :=
  zz_plain (fun _ _ _ _ _ _ _ _ _ _ _ _ _ lsR _ hF hl kk => lv_ior hF.1 hF.2.1 d (kk lsR hl)) k
theorem zz_ixor {a b : Int32} (d : decode (zz_c y) pc = .ok (.ixor, 1)) (k : zz_W l dC dI dA B y (pc + 1) ls (.int (a ^^^ b) :: st) h r h') : zz_W l dC dI dA B y pc ls (.int b :: .int a :: st) h r h' :=
  zz_plain (fun _ _ _ _ _ _ _ _ _ _ _ _ _ lsR _ hF hl kk => lv_ixor hF.1 hF.2.1 d (kk lsR hl)) k
theorem zz_idiv {a b : Int32} (d : decode (zz_c y) pc = .ok (.idiv, 1)) (hne : ¬ b = 0) (k : zz_W l dC dI dA B y (pc + 1) ls (.int (a / b) :: st) h r h') : zz_W l dC dI dA B y pc ls (.int b :: .int a :: st) h r h' :=
  zz_plain (fun _ _ _ _ _ _ _ _ _ _ _ _ _ lsR _ hF hl kk => lv_idiv hF.1 hF.2.1 d hne (kk lsR hl)) k
theorem zz_irem {a b : Int32} (d : decode (zz_c y) pc = .ok (.irem, 1)) (hne : ¬ b = 0) (k : zz_W l dC dI dA B y (pc + 1) ls (.int (a - a / b * b) :: st) h r h') : zz_W l dC dI dA B y pc ls (.int b :: .int a :: st) h r h' :=
  zz_plain (fun _ _ _ _ _ _ _ _ _ _ _ _ _ lsR _ hF hl kk => lv_irem hF.1 hF.2.1 d hne (kk lsR hl)) k
theorem zz_ishl {a b : Int32} (d : decode (zz_c y) pc = .ok (.ishl, 1)) (k : zz_W l dC dI dA B y (pc + 1) ls (.int (a <<< (b &&& 31)) :: st) h r h') : zz_W l dC dI dA B y pc ls (.int b :: .int a :: st) h r h' :=
  zz_plain (fun _ _ _ _ _ _ _ _ _ _ _ _ _ lsR _ hF hl kk => lv_ishl hF.1 hF.2.1 d (kk lsR hl)) k
theorem zz_ishr {a b : Int32} (d : decode (zz_c y) pc = .ok (.ishr, 1)) (k : zz_W l dC dI dA B y (pc + 1) ls (.int (a >>> (b &&& 31)) :: st) h r h') : zz_W l dC dI dA B y pc ls (.int b :: .int a :: st) h r h' :=
  zz_plain (fun _ _ _ _ _ _ _ _ _ _ _ _ _ lsR _ hF hl kk => lv_ishr hF.1 hF.2.1 d (kk lsR hl)) k
theorem zz_iushr {a b : Int32} (d : decode (zz_c y) pc = .ok (.iushr, 1)) (k : zz_W l dC dI dA B y (pc + 1) ls (.int (a.toUInt32 >>> (b.toUInt32 &&& Int32.toUInt32 31)).toInt32 :: st) h r h') : zz_W l dC dI dA B y pc ls (.int b :: .int a :: st) h r h' :=
  zz_plain (fun _ _ _ _ _ _ _ _ _ _ _ _ _ lsR _ hF hl kk => lv_iushr hF.1 hF.2.1 d rfl (kk lsR hl)) k
theorem zz_ladd {a b : Int64} (d : decode (zz_c y) pc = .ok (.ladd, 1)) (k : zz_W l dC dI dA B y (pc + 1) ls (.long (a + b) :: st) h r h') : zz_W l dC dI dA B y pc ls (.long b :: .long a :: st) h r h' :=
  zz_plain (fun _ _ _ _ _ _ _ _ _ _ _ _ _ lsR _ hF hl kk => lv_ladd hF.1 hF.2.1 d (kk lsR hl)) k
theorem zz_lsub {a b : Int64} (d : decode (zz_c y) pc = .ok (.lsub, 1)) (k : zz_W l dC dI dA B y (pc + 1) ls (.long (a - b) :: st) h r h') : zz_W l dC dI dA B y pc ls (.long b :: .long a :: st) h r h' :=
  zz_plain (fun _ _ _ _ _ _ _ _ _ _ _ _ _ lsR _ hF hl kk => lv_lsub hF.1 hF.2.1 d (kk lsR hl)) k
theorem zz_lmul {a b : Int64} (d : decode (zz_c y) pc = .ok (.lmul, 1)) (k : zz_W l dC dI dA B y (pc + 1) ls (.long (a * b) :: st) h r h') : zz_W l dC dI dA B y pc ls (.long b :: .long a :: st) h r h' :=
  zz_plain (fun _ _ _ _ _ _ _ _ _ _ _ _ _ lsR _ hF hl kk => lv_lmul hF.1 hF.2.1 d (kk lsR hl)) k
theorem zz_lor {a b : Int64} (d : decode (zz_c y) pc = .ok (.lor, 1)) (k : zz_W l dC dI dA B y (pc + 1) ls (.long (a ||| b) :: st) h r h') : zz_W l dC dI dA B y pc ls (.long b :: .long a :: st) h r h' :=
  zz_plain (fun _ _ _ _ _ _ _ _ _ _ _ _ _ lsR _ hF hl kk => lv_lor hF.1 hF.2.1 d (kk lsR hl)) k
theorem zz_lshl {a : Int64} {b : Int32} (d : decode (zz_c y) pc = .ok (.lshl, 1)) (k : zz_W l dC dI dA B y (pc + 1) ls (.long (a <<< (b.toInt64 &&& 63)) :: st) h r h') : zz_W l dC dI dA B y pc ls (.int b :: .long a :: st) h r h' :=
  zz_plain (fun _ _ _ _ _ _ _ _ _ _ _ _ _ lsR _ hF hl kk => lv_lshl hF.1 hF.2.1 d rfl (kk lsR hl)) k
theorem zz_lshr {a : Int64} {b : Int32} (d : decode (zz_c y) pc = .ok (.lshr, 1)) (k : zz_W l dC dI dA B y (pc + 1) ls (.long (a >>> (b.toInt64 &&& 63)) :: st) h r h') : zz_W l dC dI dA B y pc ls (.int b :: .long a :: st) h r h' :=
  zz_plain (fun _ _ _ _ _ _ _ _ _ _ _ _ _ lsR _ hF hl kk => lv_lshr hF.1 hF.2.1 d rfl (kk lsR hl)) k
theorem zz_lcmp {a b : Int64} (d : decode (zz_c y) pc = .ok (.lcmp, 1)) (k : zz_W l dC dI dA B y (pc + 1) ls (.int (lg_cmp a b) :: st) h r h') : zz_W l dC dI dA B y pc ls (.long b :: .long a :: st) h r h' :=
  zz_plain (fun _ _ _ _ _ _ _ _ _ _ _ _ _ lsR _ hF hl kk => W.lcmp hF.1 hF.2.1 d (kk lsR hl)) k
theorem zz_i2l {a : Int32} (d : decode (zz_c y) pc = .ok (.i2l, 1)) (k : zz_W l dC dI dA B y (pc + 1) ls (.long a.toInt64 :: st) h r h') : zz_W l dC dI dA B y pc ls (.int a :: st) h r h' :=
  zz_plain (fun _ _ _ _ _ _ _ _ _ _ _ _ _ lsR _ hF hl kk => lv_i2l hF.1 hF.2.1 d rfl (kk lsR hl)) k
theorem zz_l2i {a : Int64} (d : decode (zz_c y) pc = .ok (.l2i, 1)) (k : zz_W l dC dI dA B y (pc + 1) ls (.int a.toInt32 :: st) h r h') : zz_W l dC dI dA B y pc ls (.long a :: st) h r h' :=
  zz_plain (fun _ _ _ _ _ _ _ _ _ _ _ _ _ lsR _ hF hl kk => lv_l2i hF.1 hF.2.1 d rfl (kk lsR hl)) k
theorem zz_i2b {a : Int32} (d : decode (zz_c y) pc = .ok (.i2b, 1)) (k : zz_W l dC dI dA B y (pc + 1) ls (.int a.toInt8.toInt32 :: st) h r h') : zz_W l dC dI dA B y pc ls (.int a :: st) h r h' :=
  zz_plain (fun _ _ _ _ _ _ _ _ _ _ _ _ _ lsR _ hF hl kk => lv_i2b hF.1 hF.2.1 d rfl (kk lsR hl)) k
theorem zz_dup {v : Value} (d : decode (zz_c y) pc = .ok (.dup, 1)) (hv : v.category = 1) (k : zz_W l dC dI dA B y (pc + 1) ls (v :: v :: st) h r h') : zz_W l dC dI dA B y pc ls (v :: st) h r h' :=
  zz_plain (fun _ _ _ _ _ _ _ _ _ _ _ _ _ lsR _ hF hl kk => lv_dup hF.1 hF.2.1 d hv (kk lsR hl)) k
theorem zz_dup2 {v w : Value} (d : decode (zz_c y) pc = .ok (.dup2, 1)) (hv : v.category = 1) (hw : w.category = 1) (k : zz_W l dC dI dA B y (pc + 1) ls (v :: w :: v :: w :: st) h r h') : zz_W l dC dI dA B y pc ls (v :: w :: st) h r h' :=
  zz_plain (fun _ _ _ _ _ _ _ _ _ _ _ _ _ lsR _ hF hl kk => lv_dup2_11 hF.1 hF.2.1 d hv hw (kk lsR hl)) k
theorem zz_goto {off : Int} {tgt : Nat} (d : decode (zz_c y) pc = .ok (.goto off, 3)) (ht : (pc : Int) + off = (tgt : Int)) (k : zz_W l dC dI dA B y tgt ls st h r h') : zz_W l dC dI dA B y pc ls st h r h' :=
  zz_plain (fun _ _ _ _ _ _ _ _ _ _ _ _ _ lsR _ hF hl kk => lv_goto hF.1 hF.2.1 d ht (kk lsR hl)) k
/-- what a branch asks -/
def zz_cd : ClassFile.Cond → Int32 → Int32 → Bool
  | .eq, a, b => decide (a = b)
  | .ne, a, b => decide (¬ a = b)
  | .lt, a, b => decide (a < b)
  | .ge, a, b => decide (b ≤ a)
  | .gt, a, b => decide (b < a)
  | .le, a, b => decide (a ≤ b)
theorem zz_ifCond {q : ClassFile.Cond} {a : Int32} {off : Int} {tgt : Nat} (d : decode (zz_c y) pc = .ok (.ifCond q off, 3)) (ht : (pc : Int) + off = (tgt : Int)) (k : zz_W l dC dI dA B y (if zz_cd q a 0 = true then tgt else pc + 3) ls st h r h') : zz_W l dC dI dA B y pc ls (.int a :: st) h r h' := by
  refine zz_plain (fun _ _ _ _ _ _ _ _ _ _ _ _ _ lsR _ hF hl kk => ?_) k
  have kk := kk lsR hl
  cases q <;> simp only [zz_cd, decide_eq_true_eq] at kk
  · exact lv_if_eq hF.1 hF.2.1 d ht (fun c => by rwa [if_pos c] at kk) (fun c => by rwa [if_neg c] at kk)
  · exact lv_if_ne hF.1 hF.2.1 d ht (fun c => by rwa [if_pos c] at kk) (fun c => by rwa [if_neg (not_not_intro c)] at kk)
  · exact lv_if_lt hF.1 hF.2.1 d ht (fun c => by rwa [if_pos c] at kk) (fun c => by rwa [if_neg c] at kk)
  · exact lv_if_ge hF.1 hF.2.1 d ht (fun c => by rwa [if_pos c] at kk) (fun c => by rwa [if_neg c] at kk)
  · exact lv_if_gt hF.1 hF.2.1 d ht (fun c => by rwa [if_pos c] at kk) (fun c => by rwa [if_neg c] at kk)
  · exact lv_if_le hF.1 hF.2.1 d ht (fun c => by rwa [if_pos c] at kk) (fun c => by rwa [if_neg c] at kk)
theorem zz_ificmp {q : ClassFile.Cond} {a b : Int32} {off : Int} {tgt : Nat} (d : decode (zz_c y) pc = .ok (.if_icmp q off, 3)) (ht : (pc : Int) + off = (tgt : Int)) (k : zz_W l dC dI dA B y (if zz_cd q a b = true then tgt else pc + 3) ls st h r h') : zz_W l dC dI dA B y pc ls (.int b :: .int a :: st) h r h' := by
  refine zz_plain (fun _ _ _ _ _ _ _ _ _ _ _ _ _ lsR _ hF hl kk => ?_) k
  have kk := kk lsR hl
  cases q <;> simp only [zz_cd, decide_eq_true_eq] at kk
  · exact lv_icmp_eq hF.1 hF.2.1 d ht (fun c => by rwa [if_pos c] at kk) (fun c => by rwa [if_neg c] at kk)
  · exact lv_icmp_ne hF.1 hF.2.1 d ht (fun c => by rwa [if_pos c] at kk) (fun c => by rwa [if_neg (not_not_intro c)] at kk)
  · exact lv_icmp_lt hF.1 hF.2.1 d ht (fun c => by rwa [if_pos c] at kk) (fun c => by rwa [if_neg c] at kk)
  · exact lv_icmp_ge hF.1 hF.2.1 d ht (fun c => by rwa [if_pos c] at kk) (fun c => by rwa [if_neg c] at kk)
  · exact lv_icmp_gt hF.1 hF.2.1 d ht (fun c => by rwa [if_pos c] at kk) (fun c => by rwa [if_neg c] at kk)
  · exact lv_icmp_le hF.1 hF.2.1 d ht (fun c => by rwa [if_pos c] at kk) (fun c => by rwa [if_neg c] at kk)
theorem zz_nonnull {a : Nat} {off : Int} {tgt : Nat} (d : decode (zz_c y) pc = .ok (.ifnonnull off, 3)) (ht : (pc : Int) + off = (tgt : Int)) (k : zz_W l dC dI dA B y tgt ls st h r h') : zz_W l dC dI dA B y pc ls (.ref a :: st) h r h' :=
  zz_plain (fun _ _ _ _ _ _ _ _ _ _ _ _ _ lsR _ hF hl kk => lv_ifnonnull hF.1 hF.2.1 d ht (kk lsR hl)) k
theorem zz_nonnullN {off : Int} (d : decode (zz_c y) pc = .ok (.ifnonnull off, 3)) (k : zz_W l dC dI dA B y (pc + 3) ls st h r h') : zz_W l dC dI dA B y pc ls (.null :: st) h r h' :=
  zz_plain (fun _ _ _ _ _ _ _ _ _ _ _ _ _ lsR _ hF hl kk => lv_ifnonnullN hF.1 hF.2.1 d (kk lsR hl)) k
theorem zz_lookup {dflt : Int} {ps : Array (Int × Int)} {len : Nat} {x : Int32} {tgt : Nat} (d : decode (zz_c y) pc = .ok (.lookupswitch dflt ps, len)) (hp : (ps.toList.zip (ps.toList.drop 1)).all (fun (a, next) => a.1 < next.1) = true) (ht : (pc : Int) + Op.lookupswitch.offset ps.toList dflt x.toInt = (tgt : Int))
    (k : zz_W l dC dI dA B y tgt ls st h r h') : zz_W l dC dI dA B y pc ls (.int x :: st) h r h' :=
  zz_plain (fun _ _ _ _ _ _ _ _ _ _ _ _ _ lsR _ hF hl kk => lv_lookup hF.1 hF.2.1 d hp rfl ht (kk lsR hl)) k
theorem zz_tableOut {dflt lo hi : Int} {offs : Array Int} {len : Nat} {x : Int32} {tgt : Nat} (d : decode (zz_c y) pc = .ok (.tableswitch dflt lo hi offs, len)) (hx : x.toInt < lo ∨ hi < x.toInt) (ht : (pc : Int) + dflt = (tgt : Int))
    (k : zz_W l dC dI dA B y tgt ls st h r h') : zz_W l dC dI dA B y pc ls (.int x :: st) h r h' :=
  zz_plain (fun _ _ _ _ _ _ _ _ _ _ _ _ _ lsR _ hF hl kk => lv_tableOut hF.1 hF.2.1 d hx ht (kk lsR hl)) k
theorem zz_tableIn {dflt lo hi : Int} {offs : Array Int} {len : Nat} {x : Int32} {off : Int} {tgt : Nat} (d : decode (zz_c y) pc = .ok (.tableswitch dflt lo hi offs, len)) (h1 : ¬ x.toInt < lo) (h2 : ¬ hi < x.toInt) (ho : offs[(x.toInt - lo).toNat]? = some off) (ht : (pc : Int) + off = (tgt : Int))
    (k : zz_W l dC dI dA B y tgt ls st h r h') : zz_W l dC dI dA B y pc ls (.int x :: st) h r h' :=
  zz_plain (fun _ _ _ _ _ _ _ _ _ _ _ _ _ lsR _ hF hl kk => lv_tableIn hF.1 hF.2.1 d h1 h2 ho ht (kk lsR hl)) k
theorem zz_ldcw {index : Nat} {v : Int32} (d : decode (zz_c y) pc = .ok (.ldc_w index, 3)) (hw : Cond.constant (zz_cn (zz_co y)) index v ∈ zz_gw) (k : zz_W l dC dI dA B y (pc + 3) ls (.int v :: st) h r h') : zz_W l dC dI dA B y pc ls st h r h' :=
  zz_plain (fun _ _ _ _ _ _ _ _ _ _ _ _ _ lsR _ hF hl kk => lv_ldcw hF.1 hF.2.1 hF.2.2.2.1 (hF.2.2.2.2.1 _ hw) d (kk lsR hl)) k
theorem zz_ldc2 {index : Nat} {v : Int64} (d : decode (zz_c y) pc = .ok (.ldc2_w index, 3)) (hw : Cond.constantLong (zz_cn (zz_co y)) index v ∈ zz_gw) (k : zz_W l dC dI dA B y (pc + 3) ls (.long v :: st) h r h') : zz_W l dC dI dA B y pc ls st h r h' :=
  zz_plain (fun _ _ _ _ _ _ _ _ _ _ _ _ _ lsR _ hF hl kk => lv_ldc2 hF.1 hF.2.1 hF.2.2.2.1 (hF.2.2.2.2.1 _ hw) d (kk lsR hl)) k
end Rules
