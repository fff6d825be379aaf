/-! one rewriting row an instruction: zz_Y at an instruction is zz_Y at the next -/
noncomputable def zz_run (z : Nat) (vs : List Value) (h : zz_H) : Option zz_O := match zz_ent z vs h with
  | some l0 => zz_Y z (0, l0, [], h)
  | none => none
noncomputable def mo_k (y p : Nat) (ls : zz_L) (st : List Value) : Option zz_O → Option zz_O
  | some (r1, h1) => zz_Y y (p, ls, r1.toList ++ st, h1)
  | none => none
noncomputable def mo_v (v : Option Value) (y p : Nat) (ls : zz_L) (st : List Value) (h : zz_H) : Option zz_O := match v with
  | some v => zz_Y y (p, ls, v :: st, h)
  | none => none
noncomputable def mo_gf (v : Option zz_E) (ci k y p : Nat) (ls : zz_L) (st : List Value) (h : zz_H) : Option zz_O := zz_act zz_Y y h (zz_gf v ci k p ls st h)
noncomputable def mo_pf (v : Option zz_E) (ci k : Nat) (ty : FieldType) (x : Value) (a y p : Nat) (ls : zz_L) (st : List Value) (h : zz_H) : Option zz_O := match v with
  | some (.inr (c, fs)) => if c = ci ∧ k < fs.length ∧ zz_okv ty x = true then zz_Y y (p, ls, st, hp_s h a (.inr (ci, fs.set k x))) else none
  | _ => none
noncomputable def mo_ia (v : Option zz_E) (i : Int32) (a y p : Nat) (ls : zz_L) (st : List Value) (h : zz_H) : Option zz_O := zz_act zz_Y y h (zz_ia v i a p ls st h)
noncomputable def mo_ba (v : Option zz_E) (i : Int32) (y p : Nat) (ls : zz_L) (st : List Value) (h : zz_H) : Option zz_O := zz_act zz_Y y h (zz_ba v i p ls st h)
noncomputable def mo_la (v : Option zz_E) (i : Int32) (y p : Nat) (ls : zz_L) (st : List Value) (h : zz_H) : Option zz_O := zz_act zz_Y y h (zz_la v i p ls st h)
noncomputable def mo_aa (v : Option zz_E) (i : Int32) (y p : Nat) (ls : zz_L) (st : List Value) (h : zz_H) : Option zz_O := zz_act zz_Y y h (zz_aa v i p ls st h)
noncomputable def mo_le (v : Option zz_E) (a y p : Nat) (ls : zz_L) (st : List Value) (h : zz_H) : Option zz_O := zz_act zz_Y y h (zz_le v a p ls st h)
noncomputable def mo_is (v : Option zz_E) (x i : Int32) (a y p : Nat) (ls : zz_L) (st : List Value) (h : zz_H) : Option zz_O := zz_act zz_Y y h (zz_is v x i a p ls st h)
noncomputable def mo_bs (v : Option zz_E) (x i : Int32) (a y p : Nat) (ls : zz_L) (st : List Value) (h : zz_H) : Option zz_O := zz_act zz_Y y h (zz_bs v x i a p ls st h)
noncomputable def mo_ls (v : Option zz_E) (x : Int64) (i : Int32) (a y p : Nat) (ls : zz_L) (st : List Value) (h : zz_H) : Option zz_O := zz_act zz_Y y h (zz_lst v x i a p ls st h)
noncomputable def mo_as (v w : Option zz_E) (x : Nat) (i : Int32) (a y p : Nat) (ls : zz_L) (st : List Value) (h : zz_H) : Option zz_O := zz_act zz_Y y h (zz_ast v w x i a p ls st h)
noncomputable def mo_ac (v w : Option zz_E) (sp dp n : Int32) (a y p : Nat) (ls : zz_L) (st : List Value) (h : zz_H) : Option zz_O := zz_act zz_Y y h (zz_ac v w sp dp n a p ls st h)
noncomputable def mo_na (ty : FieldType) (c : Nat → vp_A) (n : Int32) (y p : Nat) (ls : zz_L) (st : List Value) (h : zz_H) : Option zz_O := zz_act zz_Y y h (zz_na ty c n p ls st h)
/-- a value of one word -/
def zz_nl : Option Value → Bool
  | some (.long _) => false
  | some (.double _) => false
  | _ => true
section XL
variable {y pc : Nat} {ls : zz_L} {st : List Value} {h : zz_H}
theorem xl_of {i : Instr} {n : Nat} {R : Option zz_O} (d : decode (zz_c y) pc = .ok (i, n)) (hn : n = zz_len i n) (e : zz_act zz_Y y h (zz_I y i pc ls st h) = R) : zz_Y y (pc, ls, st, h) = R := by
  rw [zz_Y_eq]
  unfold zz_B
  show (match decode (zz_c y) pc with
    | .ok (i, n) => if n = zz_len i n then zz_act zz_Y y h (zz_I y i pc ls st h) else none
    | .error _ => none) = R
  rw [d]
  show (if n = zz_len i n then zz_act zz_Y y h (zz_I y i pc ls st h) else none) = R
  rw [if_pos hn]
  exact e
theorem xl_ic {n : Int} {v : Int32} (d : decode (zz_c y) pc = .ok (.iconst n, 1)) (hv : Int32.ofInt n = v) : zz_Y y (pc, ls, st, h) = zz_Y y (pc + 1, ls, .int v :: st, h) := by subst hv; exact xl_of d rfl rfl
theorem xl_bi {n : Int} {v : Int32} (d : decode (zz_c y) pc = .ok (.bipush n, 2)) (hv : (Int8.ofInt n).toInt32 = v) : zz_Y y (pc, ls, st, h) = zz_Y y (pc + 2, ls, .int v :: st, h) := by subst hv; exact xl_of d rfl rfl
theorem xl_si {n : Int} {v : Int32} (d : decode (zz_c y) pc = .ok (.sipush n, 3)) (hv : (Int16.ofInt n).toInt32 = v) : zz_Y y (pc, ls, st, h) = zz_Y y (pc + 3, ls, .int v :: st, h) := by subst hv; exact xl_of d rfl rfl
theorem xl_lc {n : Fin 2} (d : decode (zz_c y) pc = .ok (.lconst n, 1)) : zz_Y y (pc, ls, st, h) = zz_Y y (pc + 1, ls, .long (lN n) :: st, h) := xl_of d rfl rfl
theorem xl_kw {k o : Nat} {v : Int32} (d : decode (zz_c y) pc = .ok (.ldc_w k, 3)) (ho : zz_co y = o) (hv : zz_kk o k = some v) : zz_Y y (pc, ls, st, h) = zz_Y y (pc + 3, ls, .int v :: st, h) := xl_of d rfl (by simp only [zz_I, ho, hv]; rfl)
theorem xl_jw {k o : Nat} {v : Int64} (d : decode (zz_c y) pc = .ok (.ldc2_w k, 3)) (ho : zz_co y = o) (hv : zz_jk o k = some v) : zz_Y y (pc, ls, st, h) = zz_Y y (pc + 3, ls, .long v :: st, h) := xl_of d rfl (by simp only [zz_I, ho, hv]; rfl)
theorem xl_iln {k : Fin 4} {x : Int32} (d : decode (zz_c y) pc = .ok (.iload_n k, 1)) (hl : zz_ld ls k = some (.int x)) : zz_Y y (pc, ls, st, h) = zz_Y y (pc + 1, ls, .int x :: st, h) := xl_of d rfl (by simp only [zz_I, hl]; rfl)
theorem xl_il {k : Nat} {x : Int32} (d : decode (zz_c y) pc = .ok (.iload k, 2)) (hl : zz_ld ls k = some (.int x)) : zz_Y y (pc, ls, st, h) = zz_Y y (pc + 2, ls, .int x :: st, h) := xl_of d rfl (by simp only [zz_I, hl]; rfl)
theorem xl_lln {k : Fin 4} {x : Int64} (d : decode (zz_c y) pc = .ok (.lload_n k, 1)) (hl : zz_ld ls k = some (.long x)) : zz_Y y (pc, ls, st, h) = zz_Y y (pc + 1, ls, .long x :: st, h) := xl_of d rfl (by simp only [zz_I, hl]; rfl)
theorem xl_aln {k : Fin 4} {x : Nat} (d : decode (zz_c y) pc = .ok (.aload_n k, 1)) (hl : zz_ld ls k = some (.ref x)) : zz_Y y (pc, ls, st, h) = zz_Y y (pc + 1, ls, .ref x :: st, h) := xl_of d rfl (by simp only [zz_I, hl]; rfl)
theorem xl_al {k : Nat} {x : Nat} (d : decode (zz_c y) pc = .ok (.aload k, 2)) (hl : zz_ld ls k = some (.ref x)) : zz_Y y (pc, ls, st, h) = zz_Y y (pc + 2, ls, .ref x :: st, h) := xl_of d rfl (by simp only [zz_I, hl]; rfl)
theorem xl_isn {k : Fin 4} {x : Int32} {n : Nat} {ls' : zz_L} (d : decode (zz_c y) pc = .ok (.istore_n k, 1)) (hn : zz_ml y = n) (hk : (k : Nat) < n) (hl : zz_s1 ls k (.int x) = ls') : zz_Y y (pc, ls, .int x :: st, h) = zz_Y y (pc + 1, ls', st, h) := xl_of d rfl (by simp only [zz_I, hn, hl, if_pos hk]; rfl)
theorem xl_is {k : Nat} {x : Int32} {n : Nat} {ls' : zz_L} (d : decode (zz_c y) pc = .ok (.istore k, 2)) (hn : zz_ml y = n) (hk : k < n) (hl : zz_s1 ls k (.int x) = ls') : zz_Y y (pc, ls, .int x :: st, h) = zz_Y y (pc + 2, ls', st, h) := xl_of d rfl (by simp only [zz_I, hn, hl, if_pos hk]; rfl)
theorem xl_asn {k : Fin 4} {x : Nat} {n : Nat} {ls' : zz_L} (d : decode (zz_c y) pc = .ok (.astore_n k, 1)) (hn : zz_ml y = n) (hk : (k : Nat) < n) (hl : zz_s1 ls k (.ref x) = ls') : zz_Y y (pc, ls, .ref x :: st, h) = zz_Y y (pc + 1, ls', st, h) := xl_of d rfl (by simp only [zz_I, hn, hl, if_pos hk]; rfl)
theorem xl_as {k : Nat} {x : Nat} {n : Nat} {ls' : zz_L} (d : decode (zz_c y) pc = .ok (.astore k, 2)) (hn : zz_ml y = n) (hk : k < n) (hl : zz_s1 ls k (.ref x) = ls') : zz_Y y (pc, ls, .ref x :: st, h) = zz_Y y (pc + 2, ls', st, h) := xl_of d rfl (by simp only [zz_I, hn, hl, if_pos hk]; rfl)
theorem xl_lsn {k : Fin 4} {x : Int64} {n : Nat} {ls' : zz_L} (d : decode (zz_c y) pc = .ok (.lstore_n k, 1)) (hn : zz_ml y = n) (hk : (k : Nat) + 1 < n) (hl : zz_s2 ls k (.long x) = ls') : zz_Y y (pc, ls, .long x :: st, h) = zz_Y y (pc + 1, ls', st, h) := xl_of d rfl (by simp only [zz_I, hn, hl, if_pos hk]; rfl)
theorem xl_inc {k : Nat} {c : Int} {x v : Int32} {n : Nat} {ls' : zz_L} (d : decode (zz_c y) pc = .ok (.iinc k c, 3)) (hn : zz_ml y = n) (hk : k < n) (hx : zz_ld ls k = some (.int x)) (hv : Int32.ofInt c = v) (hl : zz_s1 ls k (.int (x + v)) = ls') : zz_Y y (pc, ls, st, h) = zz_Y y (pc + 3, ls', st, h) := by subst hv; exact xl_of d rfl (by simp only [zz_I, hn, hx, hl, if_pos hk]; rfl)
theorem xl_iadd {a b : Int32} (d : decode (zz_c y) pc = .ok (.iadd, 1)) : zz_Y y (pc, ls, .int b :: .int a :: st, h) = zz_Y y (pc + 1, ls, .int (a + b) :: st, h) := xl_of d rfl rfl
theorem xl_isub {a b : Int32} (d : decode (zz_c y) pc = .ok (.isub, 1)) : zz_Y y (pc, ls, .int b :: .int a :: st, h) = zz_Y y (pc + 1, ls, .int (a - b) :: st, h) := xl_of d rfl rfl
theorem xl_imul {a b : Int32} (d : decode (zz_c y) pc = .ok (.imul, 1)) : zz_Y y (pc, ls, .int b :: .int a :: st, h) = zz_Y y (pc + 1, ls, .int (a * b) :: st, h) := xl_of d rfl rfl
theorem xl_iand {a b : Int32} (d : decode (zz_c y) pc = .ok (.iand, 1)) : zz_Y y (pc, ls, .int b :: .int a :: st, h) = zz_Y y (pc + 1, ls, .int (a &&& b) :: st, h) := xl_of d rfl rfl
theorem xl_ior {a b : Int32} (d : decode (zz_c y) pc = .ok (.ior, 1)) : zz_Y y (pc, ls, .int b :: .int a :: st, h) = zz_Y y (pc + 1, ls, .int (a ||| b) :: st, h) := xl_of d rfl rfl
theorem xl_ixor {a b : Int32} (d : decode (zz_c y) pc = .ok (.ixor, 1)) : zz_Y y (pc, ls, .int b :: .int a :: st, h) = zz_Y y (pc + 1, ls, .int (a ^^^ b) :: st, h) := xl_of d rfl rfl
theorem xl_idiv {a b : Int32} (d : decode (zz_c y) pc = .ok (.idiv, 1)) (hb : ¬ b = 0) : zz_Y y (pc, ls, .int b :: .int a :: st, h) = zz_Y y (pc + 1, ls, .int (a / b) :: st, h) := xl_of d rfl (by simp only [zz_I, if_neg hb]; rfl)
theorem xl_irem {a b : Int32} (d : decode (zz_c y) pc = .ok (.irem, 1)) (hb : ¬ b = 0) : zz_Y y (pc, ls, .int b :: .int a :: st, h) = zz_Y y (pc + 1, ls, .int (a - a / b * b) :: st, h) := xl_of d rfl (by simp only [zz_I, if_neg hb]; rfl)
theorem xl_ishl {a b : Int32} (d : decode (zz_c y) pc = .ok (.ishl, 1)) : zz_Y y (pc, ls, .int b :: .int a :: st, h) = zz_Y y (pc + 1, ls, .int (a <<< (b &&& 31)) :: st, h) := xl_of d rfl rfl
theorem xl_ishr {a b : Int32} (d : decode (zz_c y) pc = .ok (.ishr, 1)) : zz_Y y (pc, ls, .int b :: .int a :: st, h) = zz_Y y (pc + 1, ls, .int (a >>> (b &&& 31)) :: st, h) := xl_of d rfl rfl
theorem xl_iushr {a b : Int32} (d : decode (zz_c y) pc = .ok (.iushr, 1)) : zz_Y y (pc, ls, .int b :: .int a :: st, h) = zz_Y y (pc + 1, ls, .int (a.toUInt32 >>> (b.toUInt32 &&& Int32.toUInt32 31)).toInt32 :: st, h) := xl_of d rfl rfl
theorem xl_ladd {a b : Int64} (d : decode (zz_c y) pc = .ok (.ladd, 1)) : zz_Y y (pc, ls, .long b :: .long a :: st, h) = zz_Y y (pc + 1, ls, .long (a + b) :: st, h) := xl_of d rfl rfl
theorem xl_lsub {a b : Int64} (d : decode (zz_c y) pc = .ok (.lsub, 1)) : zz_Y y (pc, ls, .long b :: .long a :: st, h) = zz_Y y (pc + 1, ls, .long (a - b) :: st, h) := xl_of d rfl rfl
theorem xl_lmul {a b : Int64} (d : decode (zz_c y) pc = .ok (.lmul, 1)) : zz_Y y (pc, ls, .long b :: .long a :: st, h) = zz_Y y (pc + 1, ls, .long (a * b) :: st, h) := xl_of d rfl rfl
theorem xl_lor {a b : Int64} (d : decode (zz_c y) pc = .ok (.lor, 1)) : zz_Y y (pc, ls, .long b :: .long a :: st, h) = zz_Y y (pc + 1, ls, .long (a ||| b) :: st, h) := xl_of d rfl rfl
theorem xl_lshl {a : Int64} {b : Int32} (d : decode (zz_c y) pc = .ok (.lshl, 1)) : zz_Y y (pc, ls, .int b :: .long a :: st, h) = zz_Y y (pc + 1, ls, .long (a <<< (b.toInt64 &&& 63)) :: st, h) := xl_of d rfl rfl
theorem xl_lshr {a : Int64} {b : Int32} (d : decode (zz_c y) pc = .ok (.lshr, 1)) : zz_Y y (pc, ls, .int b :: .long a :: st, h) = zz_Y y (pc + 1, ls, .long (a >>> (b.toInt64 &&& 63)) :: st, h) := xl_of d rfl rfl
theorem xl_lcmp {a b : Int64} (d : decode (zz_c y) pc = .ok (.lcmp, 1)) : zz_Y y (pc, ls, .long b :: .long a :: st, h) = zz_Y y (pc + 1, ls, .int (lg_cmp a b) :: st, h) := xl_of d rfl rfl
theorem xl_i2l {a : Int32} (d : decode (zz_c y) pc = .ok (.i2l, 1)) : zz_Y y (pc, ls, .int a :: st, h) = zz_Y y (pc + 1, ls, .long a.toInt64 :: st, h) := xl_of d rfl rfl
theorem xl_l2i {a : Int64} (d : decode (zz_c y) pc = .ok (.l2i, 1)) : zz_Y y (pc, ls, .long a :: st, h) = zz_Y y (pc + 1, ls, .int a.toInt32 :: st, h) := xl_of d rfl rfl
theorem xl_i2b {a : Int32} (d : decode (zz_c y) pc = .ok (.i2b, 1)) : zz_Y y (pc, ls, .int a :: st, h) = zz_Y y (pc + 1, ls, .int a.toInt8.toInt32 :: st, h) := xl_of d rfl rfl
theorem xl_dupr {a : Nat} (d : decode (zz_c y) pc = .ok (.dup, 1)) : zz_Y y (pc, ls, .ref a :: st, h) = zz_Y y (pc + 1, ls, .ref a :: .ref a :: st, h) := xl_of d rfl rfl
theorem xl_dup2 {a : Nat} {b : Int32} (d : decode (zz_c y) pc = .ok (.dup2, 1)) : zz_Y y (pc, ls, .int b :: .ref a :: st, h) = zz_Y y (pc + 1, ls, .int b :: .ref a :: .int b :: .ref a :: st, h) := xl_of d rfl rfl
theorem xl_goto {off : Int} {t : Nat} (d : decode (zz_c y) pc = .ok (.goto off, 3)) (ht : zz_to pc off = some t) : zz_Y y (pc, ls, st, h) = zz_Y y (t, ls, st, h) := xl_of d rfl (by simp only [zz_I, zz_jp, ht]; rfl)
theorem xl_if0 {q : ClassFile.Cond} {a : Int32} {off : Int} {t : Nat} (d : decode (zz_c y) pc = .ok (.ifCond q off, 3)) (ht : zz_to pc off = some t) : zz_Y y (pc, ls, .int a :: st, h) = if zz_cd q a 0 = true then zz_Y y (t, ls, st, h) else zz_Y y (pc + 3, ls, st, h) := xl_of d rfl (by
  simp only [zz_I, ht]
  by_cases hc : zz_cd q a 0 = true
  · rw [if_pos hc, if_pos hc]; rfl
  · rw [if_neg hc, if_neg hc]; rfl)
theorem xl_if2 {q : ClassFile.Cond} {a b : Int32} {off : Int} {t : Nat} (d : decode (zz_c y) pc = .ok (.if_icmp q off, 3)) (ht : zz_to pc off = some t) : zz_Y y (pc, ls, .int b :: .int a :: st, h) = if zz_cd q a b = true then zz_Y y (t, ls, st, h) else zz_Y y (pc + 3, ls, st, h) := xl_of d rfl (by
  simp only [zz_I, ht]
  by_cases hc : zz_cd q a b = true
  · rw [if_pos hc, if_pos hc]; rfl
  · rw [if_neg hc, if_neg hc]; rfl)
section
variable {a b : Int32} {off : Int} {t : Nat}
theorem xl_ifeq (d : decode (zz_c y) pc = .ok (.ifCond .eq off, 3)) (ht : zz_to pc off = some t) : zz_Y y (pc, ls, .int a :: st, h) = if a = nI 0 then zz_Y y (t, ls, st, h) else zz_Y y (pc + 3, ls, st, h) := (xl_if0 d ht).trans (by simp only [zz_cd, decide_eq_true_eq]; rfl)
theorem xl_ifne (d : decode (zz_c y) pc = .ok (.ifCond .ne off, 3)) (ht : zz_to pc off = some t) : zz_Y y (pc, ls, .int a :: st, h) = if a = nI 0 then zz_Y y (pc + 3, ls, st, h) else zz_Y y (t, ls, st, h) := (xl_if0 d ht).trans (by simp only [zz_cd, decide_eq_true_eq, ite_not]; rfl)
theorem xl_iflt (d : decode (zz_c y) pc = .ok (.ifCond .lt off, 3)) (ht : zz_to pc off = some t) : zz_Y y (pc, ls, .int a :: st, h) = if a < nI 0 then zz_Y y (t, ls, st, h) else zz_Y y (pc + 3, ls, st, h) := (xl_if0 d ht).trans (by simp only [zz_cd, decide_eq_true_eq]; rfl)
theorem xl_ifge (d : decode (zz_c y) pc = .ok (.ifCond .ge off, 3)) (ht : zz_to pc off = some t) : zz_Y y (pc, ls, .int a :: st, h) = if a < nI 0 then zz_Y y (pc + 3, ls, st, h) else zz_Y y (t, ls, st, h) := (xl_if0 d ht).trans (by simp only [zz_cd, decide_eq_true_eq, ← Int32.not_lt, ite_not]; rfl)
theorem xl_ifgt (d : decode (zz_c y) pc = .ok (.ifCond .gt off, 3)) (ht : zz_to pc off = some t) : zz_Y y (pc, ls, .int a :: st, h) = if nI 0 < a then zz_Y y (t, ls, st, h) else zz_Y y (pc + 3, ls, st, h) := (xl_if0 d ht).trans (by simp only [zz_cd, decide_eq_true_eq]; rfl)
theorem xl_ifle (d : decode (zz_c y) pc = .ok (.ifCond .le off, 3)) (ht : zz_to pc off = some t) : zz_Y y (pc, ls, .int a :: st, h) = if nI 0 < a then zz_Y y (pc + 3, ls, st, h) else zz_Y y (t, ls, st, h) := (xl_if0 d ht).trans (by simp only [zz_cd, decide_eq_true_eq, ← Int32.not_lt, ite_not]; rfl)
theorem xl_iceq (d : decode (zz_c y) pc = .ok (.if_icmp .eq off, 3)) (ht : zz_to pc off = some t) : zz_Y y (pc, ls, .int b :: .int a :: st, h) = if a = b then zz_Y y (t, ls, st, h) else zz_Y y (pc + 3, ls, st, h) := (xl_if2 d ht).trans (by simp only [zz_cd, decide_eq_true_eq])
theorem xl_icne (d : decode (zz_c y) pc = .ok (.if_icmp .ne off, 3)) (ht : zz_to pc off = some t) : zz_Y y (pc, ls, .int b :: .int a :: st, h) = if a = b then zz_Y y (pc + 3, ls, st, h) else zz_Y y (t, ls, st, h) := (xl_if2 d ht).trans (by simp only [zz_cd, decide_eq_true_eq, ite_not])
theorem xl_iclt (d : decode (zz_c y) pc = .ok (.if_icmp .lt off, 3)) (ht : zz_to pc off = some t) : zz_Y y (pc, ls, .int b :: .int a :: st, h) = if a < b then zz_Y y (t, ls, st, h) else zz_Y y (pc + 3, ls, st, h) := (xl_if2 d ht).trans (by simp only [zz_cd, decide_eq_true_eq])
theorem xl_icge (d : decode (zz_c y) pc = .ok (.if_icmp .ge off, 3)) (ht : zz_to pc off = some t) : zz_Y y (pc, ls, .int b :: .int a :: st, h) = if a < b then zz_Y y (pc + 3, ls, st, h) else zz_Y y (t, ls, st, h) := (xl_if2 d ht).trans (by simp only [zz_cd, decide_eq_true_eq, ← Int32.not_lt, ite_not])
theorem xl_icgt (d : decode (zz_c y) pc = .ok (.if_icmp .gt off, 3)) (ht : zz_to pc off = some t) : zz_Y y (pc, ls, .int b :: .int a :: st, h) = if b < a then zz_Y y (t, ls, st, h) else zz_Y y (pc + 3, ls, st, h) := (xl_if2 d ht).trans (by simp only [zz_cd, decide_eq_true_eq])
theorem xl_icle (d : decode (zz_c y) pc = .ok (.if_icmp .le off, 3)) (ht : zz_to pc off = some t) : zz_Y y (pc, ls, .int b :: .int a :: st, h) = if b < a then zz_Y y (pc + 3, ls, st, h) else zz_Y y (t, ls, st, h) := (xl_if2 d ht).trans (by simp only [zz_cd, decide_eq_true_eq, ← Int32.not_lt, ite_not])
end
theorem xl_nnr {a : Nat} {off : Int} {t : Nat} (d : decode (zz_c y) pc = .ok (.ifnonnull off, 3)) (ht : zz_to pc off = some t) : zz_Y y (pc, ls, .ref a :: st, h) = zz_Y y (t, ls, st, h) := xl_of d rfl (by simp only [zz_I, zz_jp, ht]; rfl)
theorem xl_nnn {off : Int} (d : decode (zz_c y) pc = .ok (.ifnonnull off, 3)) : zz_Y y (pc, ls, .null :: st, h) = zz_Y y (pc + 3, ls, st, h) := xl_of d rfl rfl
/-- switches: to where, by the number -/
def zz_sw : List (Int32 × Nat) → Nat → Int32 → Nat
  | [], dflt, _ => dflt
  | (k, t) :: r, dflt, x => if x = k then t else zz_sw r dflt x
theorem xl_lks {dflt : Int} {ps : Array (Int × Int)} {len dt : Nat} {qs : List (Int32 × Nat)} (d : decode (zz_c y) pc = .ok (.lookupswitch dflt ps, len)) (hp : (ps.toList.zip (ps.toList.drop 1)).all (fun (a, next) => a.1 < next.1) = true) (hd : zz_to pc dflt = some dt) (hq : ps.toList.map (fun q => (q.1, zz_to pc q.2)) = qs.map (fun q => (q.1.toInt, some q.2))) {x : Int32} : zz_Y y (pc, ls, .int x :: st, h) = zz_Y y (zz_sw qs dt x, ls, st, h) := by
  refine xl_of d rfl ?_
  simp only [zz_I, if_pos hp]
  have key : ∀ (l : List (Int × Int)) (qs : List (Int32 × Nat)), l.map (fun q => (q.1, zz_to pc q.2)) = qs.map (fun q => (q.1.toInt, some q.2)) → zz_to pc (Op.lookupswitch.offset l dflt x.toInt) = some (zz_sw qs dt x) := by
    intro l
    induction l with
    | nil =>
      intro qs hqs
      cases qs with
      | nil => simpa [Op.lookupswitch.offset, zz_sw] using hd
      | cons q qs => simp at hqs
    | cons p l ih =>
      intro qs hqs
      cases qs with
      | nil => simp at hqs
      | cons q qs =>
        obtain ⟨p1, p2⟩ := p
        obtain ⟨q1, q2⟩ := q
        simp only [List.map_cons, List.cons.injEq, Prod.mk.injEq] at hqs
        obtain ⟨⟨e1, e2⟩, e3⟩ := hqs
        rw [Op.lookupswitch.offset_cons]
        unfold zz_sw
        by_cases hx : x = q1
        · rw [if_pos hx, if_pos (by rw [hx, e1])]
          exact e2
        · rw [if_neg hx, if_neg (fun e => hx (Int32.toInt_inj.mp (e.symm.trans e1)))]
          exact ih qs e3
  unfold zz_jp
  rw [key _ qs hq]
  rfl
theorem xl_tbk {pc dt : Nat} {x : Int32} : ∀ (l : List Int) (qs : List (Int32 × Nat)) (lo : Int), l.map (zz_to pc) = qs.map (fun q => some q.2) → qs.map (fun q => q.1.toInt) = (List.range l.length).map (fun i : Nat => lo + (i : Int)) → (if x.toInt < lo ∨ lo + (l.length : Int) ≤ x.toInt then some dt else (l[(x.toInt - lo).toNat]?).bind (zz_to pc)) = some (zz_sw qs dt x) := by
  intro l
  induction l with
  | nil =>
    intro qs lo h1 h2
    cases qs with
    | nil =>
      rw [if_pos (by simp; omega)]
      rfl
    | cons q qs => simp at h1
  | cons p l ih =>
    intro qs lo h1 h2
    cases qs with
    | nil => simp at h1
    | cons q qs =>
      obtain ⟨q1, q2⟩ := q
      simp only [List.map_cons, List.cons.injEq] at h1
      rw [List.length_cons, List.range_succ_eq_map] at h2
      simp only [List.map_cons, List.cons.injEq, List.map_map] at h2
      have h3 := ih qs (lo + 1) h1.2 (h2.2.trans (List.map_congr_left (fun i _ => by simp only [Function.comp]; omega)))
      have h4 : q1.toInt = lo := by have := h2.1; simpa using this
      unfold zz_sw
      by_cases hx : x = q1
      · rw [if_pos hx]
        subst hx
        rw [if_neg (by simp only [List.length_cons]; omega), h4, Int.sub_self]
        exact h1.1
      · rw [if_neg hx]
        have hne : x.toInt ≠ lo := fun e => hx (Int32.toInt_inj.mp (e.trans h4.symm))
        rw [← h3]
        by_cases hc : x.toInt < lo ∨ lo + ((p :: l).length : Int) ≤ x.toInt
        · rw [if_pos hc, if_pos (by simp only [List.length_cons] at hc; omega)]
        · rw [if_neg hc, if_neg (by simp only [List.length_cons] at hc; omega), show (x.toInt - lo).toNat = (x.toInt - (lo + 1)).toNat + 1 by omega, List.getElem?_cons_succ]
theorem xl_tbs {dflt lo hi : Int} {offs : Array Int} {len dt : Nat} {qs : List (Int32 × Nat)} (d : decode (zz_c y) pc = .ok (.tableswitch dflt lo hi offs, len)) (hd : zz_to pc dflt = some dt) (hh : hi + 1 = lo + (offs.toList.length : Int)) (h1 : offs.toList.map (zz_to pc) = qs.map (fun q => some q.2)) (h2 : qs.map (fun q => q.1.toInt) = (List.range offs.toList.length).map (fun i : Nat => lo + (i : Int))) {x : Int32} : zz_Y y (pc, ls, .int x :: st, h) = zz_Y y (zz_sw qs dt x, ls, st, h) := by
  refine xl_of d rfl ?_
  have k := xl_tbk (pc := pc) (dt := dt) (x := x) offs.toList qs lo h1 h2
  simp only [zz_I]
  by_cases hc : x.toInt < lo ∨ hi < x.toInt
  · rw [if_pos hc]
    rw [if_pos (by omega)] at k
    rw [← Option.some.inj k]
    simp only [zz_jp, hd]
    rfl
  · rw [if_neg hc]
    rw [if_neg (by omega)] at k
    rw [← Array.getElem?_toList]
    cases hg : offs.toList[(x.toInt - lo).toNat]? with
    | none => rw [hg] at k; cases k
    | some off =>
      rw [hg] at k
      have k : zz_to pc off = some (zz_sw qs dt x) := k
      simp only [zz_jp, k]
      rfl
theorem xl_gf {k o ci j : Nat} {a : Nat} (d : decode (zz_c y) pc = .ok (.getfield k, 3)) (ho : zz_co y = o) (hk : zz_fk o k = some (ci, j)) : zz_Y y (pc, ls, .ref a :: st, h) = mo_gf (hp_g h a) ci j y (pc + 3) ls st h := xl_of d rfl (by simp only [zz_I, ho, hk]; rfl)
theorem xl_pf {k o ci j : Nat} {ty : FieldType} {a : Nat} {v : Value} (d : decode (zz_c y) pc = .ok (.putfield k, 3)) (ho : zz_co y = o) (hk : zz_fk o k = some (ci, j)) (hf : zz_fin y ci j = true) (ht : zz_ty ci j = ty) : zz_Y y (pc, ls, v :: .ref a :: st, h) = mo_pf (hp_g h a) ci j ty v a y (pc + 3) ls st h := xl_of d rfl (by
  subst ht
  simp only [zz_I, ho, hk, if_pos hf]
  generalize hp_g h a = w
  match w with
  | none => rfl
  | some (.inl _) => rfl
  | some (.inr (c, fs)) =>
    simp only [zz_pf, mo_pf]
    split <;> rfl)
theorem xl_ia {a : Nat} {i : Int32} (d : decode (zz_c y) pc = .ok (.iaload, 1)) : zz_Y y (pc, ls, .int i :: .ref a :: st, h) = mo_ia (hp_g h a) i a y (pc + 1) ls st h := xl_of d rfl rfl
theorem xl_ba {a : Nat} {i : Int32} (d : decode (zz_c y) pc = .ok (.baload, 1)) : zz_Y y (pc, ls, .int i :: .ref a :: st, h) = mo_ba (hp_g h a) i y (pc + 1) ls st h := xl_of d rfl rfl
theorem xl_la {a : Nat} {i : Int32} (d : decode (zz_c y) pc = .ok (.laload, 1)) : zz_Y y (pc, ls, .int i :: .ref a :: st, h) = mo_la (hp_g h a) i y (pc + 1) ls st h := xl_of d rfl rfl
theorem xl_aa {a : Nat} {i : Int32} (d : decode (zz_c y) pc = .ok (.aaload, 1)) : zz_Y y (pc, ls, .int i :: .ref a :: st, h) = mo_aa (hp_g h a) i y (pc + 1) ls st h := xl_of d rfl rfl
theorem xl_le {a : Nat} (d : decode (zz_c y) pc = .ok (.arraylength, 1)) : zz_Y y (pc, ls, .ref a :: st, h) = mo_le (hp_g h a) a y (pc + 1) ls st h := xl_of d rfl rfl
theorem xl_ist {a : Nat} {i x : Int32} (d : decode (zz_c y) pc = .ok (.iastore, 1)) : zz_Y y (pc, ls, .int x :: .int i :: .ref a :: st, h) = mo_is (hp_g h a) x i a y (pc + 1) ls st h := xl_of d rfl rfl
theorem xl_bst {a : Nat} {i x : Int32} (d : decode (zz_c y) pc = .ok (.bastore, 1)) : zz_Y y (pc, ls, .int x :: .int i :: .ref a :: st, h) = mo_bs (hp_g h a) x i a y (pc + 1) ls st h := xl_of d rfl rfl
theorem xl_lst {a : Nat} {i : Int32} {x : Int64} (d : decode (zz_c y) pc = .ok (.lastore, 1)) : zz_Y y (pc, ls, .long x :: .int i :: .ref a :: st, h) = mo_ls (hp_g h a) x i a y (pc + 1) ls st h := xl_of d rfl rfl
theorem xl_ast {a v : Nat} {i : Int32} (d : decode (zz_c y) pc = .ok (.aastore, 1)) : zz_Y y (pc, ls, .ref v :: .int i :: .ref a :: st, h) = mo_as (hp_g h a) (hp_g h v) v i a y (pc + 1) ls st h := xl_of d rfl rfl
theorem xl_new {k o ci N : Nat} {q : vw_C} {bl : List Value} (d : decode (zz_c y) pc = .ok (.new k, 3)) (ho : zz_co y = o) (hk : zz_nk o k = some ci) (hq : zz_cls[ci]? = some q) (hN : q.2.2 = N) (hb : zz_bl ci N = bl) : zz_Y y (pc, ls, st, h) = zz_Y y (pc + 3, ls, .ref h.1 :: st, hp_n h N (.inr (ci, bl))) := by
  subst hN; subst hb
  exact xl_of d rfl (by simp only [zz_I, ho, hk, hq]; rfl)
theorem xl_nai {n : Int32} (d : decode (zz_c y) pc = .ok (.newarray .int, 2)) : zz_Y y (pc, ls, .int n :: st, h) = mo_na .int (fun n => (n, .inl (fun _ => 0))) n y (pc + 2) ls st h := xl_of d rfl rfl
theorem xl_nab {n : Int32} (d : decode (zz_c y) pc = .ok (.newarray .byte, 2)) : zz_Y y (pc, ls, .int n :: st, h) = mo_na .byte (fun n => (n, .inl (fun _ => 0))) n y (pc + 2) ls st h := xl_of d rfl rfl
theorem xl_naz {n : Int32} (d : decode (zz_c y) pc = .ok (.newarray .boolean, 2)) : zz_Y y (pc, ls, .int n :: st, h) = mo_na .boolean (fun n => (n, .inl (fun _ => 0))) n y (pc + 2) ls st h := xl_of d rfl rfl
theorem xl_naj {n : Int32} (d : decode (zz_c y) pc = .ok (.newarray .long, 2)) : zz_Y y (pc, ls, .int n :: st, h) = mo_na .long (fun n => (n, .inr (.inl (fun _ => 0)))) n y (pc + 2) ls st h := xl_of d rfl rfl
theorem xl_nae {k o : Nat} {n : Int32} (d : decode (zz_c y) pc = .ok (.anewarray k, 3)) (ho : zz_co y = o) (hk : zz_nk o k = some 1) : zz_Y y (pc, ls, .int n :: st, h) = mo_na zz_ev (fun n => (n, .inr (.inr (.inr (.inr (fun _ => none)))))) n y (pc + 3) ls st h := xl_of d rfl (by simp only [zz_I, ho, if_pos hk]; rfl)
theorem xl_iri {v : Int32} (d : decode (zz_c y) pc = .ok (.ireturn, 1)) (hr : zz_rt y = some .int) : zz_Y y (pc, ls, [.int v], h) = some (some (.int v), h) := xl_of d rfl (by simp only [zz_I, hr]; rfl)
theorem xl_irz {v : Int32} (d : decode (zz_c y) pc = .ok (.ireturn, 1)) (hr : zz_rt y = some .boolean) (hv : v = nI 0 ∨ v = nI 1) : zz_Y y (pc, ls, [.int v], h) = some (some (.int v), h) := xl_of d rfl (by rcases hv with rfl | rfl <;> simp only [zz_I, hr] <;> rfl)
theorem xl_irz0 (d : decode (zz_c y) pc = .ok (.ireturn, 1)) (hr : zz_rt y = some .boolean) : zz_Y y (pc, ls, [.int (nI 0)], h) = some (some (.int (nI 0)), h) := xl_irz d hr (Or.inl rfl)
theorem xl_irz1 (d : decode (zz_c y) pc = .ok (.ireturn, 1)) (hr : zz_rt y = some .boolean) : zz_Y y (pc, ls, [.int (nI 1)], h) = some (some (.int (nI 1)), h) := xl_irz d hr (Or.inr rfl)
theorem xl_lr {v : Int64} (d : decode (zz_c y) pc = .ok (.lreturn, 1)) (hr : zz_rt y = some .long) : zz_Y y (pc, ls, [.long v], h) = some (some (.long v), h) := xl_of d rfl (by simp only [zz_I, hr]; rfl)
theorem xl_r (d : decode (zz_c y) pc = .ok (.return_, 1)) (hr : zz_rt y = none) : zz_Y y (pc, ls, [], h) = some (none, h) := xl_of d rfl (by simp only [zz_I, hr]; rfl)
theorem xl_oi {k o z a : Nat} (d : decode (zz_c y) pc = .ok (.invokespecial k, 3)) (ho : zz_co y = o) (hk : zz_lk o k = some (6, z)) (hf : decide (1 ≤ zz_fr y) = true) (hl : decide (20 ≤ zz_lo y) = true) (h4 : zz_l4 st = true) : zz_Y y (pc, ls, .ref a :: st, h) = zz_Y y (pc + 3, ls, st, h) := xl_of d rfl (by simp only [zz_I, ho, hk, h4, hf, hl, Bool.and_self]; rfl)
theorem xl_mx {k o z : Nat} {a b : Int32} (d : decode (zz_c y) pc = .ok (.invokestatic k, 3)) (ho : zz_co y = o) (hk : zz_lk o k = some (8, z)) (hf : decide (1 ≤ zz_fr y) = true) (hl : decide (21 ≤ zz_lo y) = true) (h4 : zz_l4 st = true) : zz_Y y (pc, ls, .int b :: .int a :: st, h) = zz_Y y (pc + 3, ls, .int (if a < b then b else a) :: st, h) := xl_of d rfl (by simp only [zz_I, ho, hk, h4, hf, hl, Bool.and_self]; rfl)
theorem xl_mn {k o z : Nat} {a b : Int32} (d : decode (zz_c y) pc = .ok (.invokestatic k, 3)) (ho : zz_co y = o) (hk : zz_lk o k = some (9, z)) (hf : decide (1 ≤ zz_fr y) = true) (hl : decide (21 ≤ zz_lo y) = true) (h4 : zz_l4 st = true) : zz_Y y (pc, ls, .int b :: .int a :: st, h) = zz_Y y (pc + 3, ls, .int (if b < a then b else a) :: st, h) := xl_of d rfl (by simp only [zz_I, ho, hk, h4, hf, hl, Bool.and_self]; rfl)
theorem xl_cp {k o z a a0 : Nat} {n dp sp : Int32} (d : decode (zz_c y) pc = .ok (.invokestatic k, 3)) (ho : zz_co y = o) (hk : zz_lk o k = some (7, z)) (hf : decide (1 ≤ zz_fr y) = true) (hl : decide (26 ≤ zz_lo y) = true) (h4 : zz_l4 st = true) : zz_Y y (pc, ls, .int n :: .int dp :: .ref a :: .int sp :: .ref a0 :: st, h) = mo_ac (hp_g h a0) (hp_g h a) sp dp n a y (pc + 3) ls st h := xl_of d rfl (by simp only [zz_I, ho, hk, h4, hf, hl, Bool.and_self]; rfl)
/-- calls of n things on the stack -/
theorem xl_cl {z : Nat} {As : List Value} (hc : zz_can y z = true) (h4 : zz_l4 st = true) : zz_act zz_Y y h (zz_cl y z As.length pc ls (As.reverse ++ st)) = mo_k y (pc + 3) ls st (zz_run z As h) := by
  have h4 := of_decide_eq_true h4
  have e1 : (As.reverse ++ st).drop As.length = st := by rw [show As.length = As.reverse.length by simp, List.drop_left]
  have e2 : ((As.reverse ++ st).take As.length).reverse = As := by rw [show As.length = As.reverse.length by simp, List.take_left]; simp
  unfold zz_cl
  rw [if_pos (by rw [hc, e1]; simp [h4]), e1, e2]
  simp only [zz_act, mo_k, zz_run]
  cases zz_ent z As h with
  | none => rfl
  | some l0 => rfl
theorem xl_cs {k o z : Nat} {As : List Value} (d : decode (zz_c y) pc = .ok (.invokestatic k, 3)) (ho : zz_co y = o) (hk : zz_lk o k = some (0, z)) (hn : zz_np z = As.length) (hc : zz_can y z = true) (h4 : zz_l4 st = true) : zz_Y y (pc, ls, As.reverse ++ st, h) = mo_k y (pc + 3) ls st (zz_run z As h) := xl_of d rfl (by simp only [zz_I, ho, hk, hn]; exact xl_cl hc h4)
theorem xl_csn {k o z : Nat} {As : List Value} (d : decode (zz_c y) pc = .ok (.invokestatic k, 3)) (ho : zz_co y = o) (hk : zz_lk o k = some (3, z)) (hn : zz_np z = As.length) (hc : zz_can y z = true) (h4 : zz_l4 st = true) : zz_Y y (pc, ls, As.reverse ++ st, h) = mo_k y (pc + 3) ls st (zz_run z As h) := xl_of d rfl (by simp only [zz_I, ho, hk, hn]; exact xl_cl hc h4)
theorem xl_cv {k o z : Nat} {As : List Value} (d : decode (zz_c y) pc = .ok (.invokevirtual k, 3)) (ho : zz_co y = o) (hk : zz_lk o k = some (1, z)) (hn : zz_np z + 1 = As.length) (hc : zz_can y z = true) (h4 : zz_l4 st = true) : zz_Y y (pc, ls, As.reverse ++ st, h) = mo_k y (pc + 3) ls st (zz_run z As h) := xl_of d rfl (by simp only [zz_I, ho, hk, hn]; exact xl_cl hc h4)
theorem xl_ci {k o z : Nat} {As : List Value} (d : decode (zz_c y) pc = .ok (.invokespecial k, 3)) (ho : zz_co y = o) (hk : zz_lk o k = some (2, z)) (hn : zz_np z + 1 = As.length) (hc : zz_can y z = true) (h4 : zz_l4 st = true) : zz_Y y (pc, ls, As.reverse ++ st, h) = mo_k y (pc + 3) ls st (zz_run z As h) := xl_of d rfl (by simp only [zz_I, ho, hk, hn]; exact xl_cl hc h4)
theorem xl_cin {k o z : Nat} {As : List Value} (d : decode (zz_c y) pc = .ok (.invokespecial k, 3)) (ho : zz_co y = o) (hk : zz_lk o k = some (5, z)) (hn : zz_np z + 1 = As.length) (hc : zz_can y z = true) (h4 : zz_l4 st = true) : zz_Y y (pc, ls, As.reverse ++ st, h) = mo_k y (pc + 3) ls st (zz_run z As h) := xl_of d rfl (by simp only [zz_I, ho, hk, hn]; exact xl_cl hc h4)
end XL
