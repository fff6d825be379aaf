/-! THE INTERPRETER: one step as data, many steps by fuel, all steps by the limit -/
abbrev zz_O : Type := Option Value × zz_H
abbrev zz_S : Type := Nat × zz_L × List Value × zz_H
/-- what a step does: leave, go on, call -/
abbrev zz_A : Type := zz_O ⊕ (zz_S ⊕ (Nat × List Value × Nat × zz_L × List Value))
def zz_go (pc : Nat) (ls : zz_L) (st : List Value) (h : zz_H) : Option zz_A := some (.inr (.inl (pc, ls, st, h)))
def zz_to (pc : Nat) (off : Int) : Option Nat := if 0 ≤ (pc : Int) + off then some ((pc : Int) + off).toNat else none
def zz_jp (pc : Nat) (off : Int) (ls : zz_L) (st : List Value) (h : zz_H) : Option zz_A := match zz_to pc off with
  | some t => zz_go t ls st h
  | none => none
def zz_ld (ls : zz_L) (i : Nat) : Option Value := match ls[i]? with
  | some v => v
  | none => none
/-- may this value stand in a field of that type, be answered by a method of that type? -/
def zz_okv : FieldType → Value → Bool
  | .int, .int _ => true
  | .long, .long _ => true
  | .boolean, .int x => decide (x = 0) || decide (x = 1)
  | .object _, .ref _ => true
  | .array _, .ref _ => true
  | _, _ => false
def zz_lk (o idx : Nat) : Option (Nat × Nat) := (zz_ML.find? (fun r => r.1 == o && r.2.1 == idx)).map (fun r => (r.2.2.1, r.2.2.2.1))
def zz_fk (o idx : Nat) : Option (Nat × Nat) := (zz_FL.find? (fun r => r.1 == o && r.2.1 == idx)).map (fun r => (r.2.2.1, r.2.2.2.1))
def zz_nk (o idx : Nat) : Option Nat := (zz_NL.find? (fun r => r.1 == o && r.2.1 == idx)).map (fun r => r.2.2.1)
def zz_kk (o idx : Nat) : Option Int32 := (zz_KL.find? (fun r => r.1 == o && r.2.1 == idx)).map (fun r => r.2.2.1)
def zz_jk (o idx : Nat) : Option Int64 := (zz_JL.find? (fun r => r.1 == o && r.2.1 == idx)).map (fun r => r.2.2.1)
def zz_can (y z : Nat) : Bool := decide (zz_fr z + 1 ≤ zz_fr y) && decide (8 + (zz_ml z + 11) + zz_lo z ≤ zz_lo y)
def zz_cl (y z n pc : Nat) (ls : zz_L) (st : List Value) : Option zz_A := if zz_can y z && decide (n ≤ st.length) && decide ((st.drop n).length ≤ 4) then some (.inr (.inr (z, (st.take n).reverse, pc + 3, ls, st.drop n))) else none
def zz_ix (i : Int32) (n : Nat) : Bool := decide (¬ (i < 0 ∨ n ≤ i.toNatClampNeg))
def zz_gf (v : Option zz_E) (ci k pc : Nat) (ls : zz_L) (st : List Value) (h : zz_H) : Option zz_A := match v with
  | some (.inr (c, fs)) => if c = ci then (match fs[k]? with
    | some v => zz_go pc ls (v :: st) h
    | none => none) else none
  | _ => none
def zz_pf (v : Option zz_E) (ci k : Nat) (x : Value) (a pc : Nat) (ls : zz_L) (st : List Value) (h : zz_H) : Option zz_A := match v with
  | some (.inr (c, fs)) => if c = ci ∧ k < fs.length ∧ zz_okv (zz_ty ci k) x = true then zz_go pc ls st (hp_s h a (.inr (ci, fs.set k x))) else none
  | _ => none
/-- may method y write the field? -/
def zz_fin (y ci k : Nat) : Bool := match zz_cls[ci]? with
  | some q => !(q.2.1 k).2.2.2 || (zz_in y && decide (q.1 = zz_cn (zz_co y)))
  | none => false
def zz_ia (v : Option zz_E) (i : Int32) (a pc : Nat) (ls : zz_L) (st : List Value) (h : zz_H) : Option zz_A := match v with
  | some (.inl (.int, n, .inl f)) => if zz_ix i n then zz_go pc ls (.int (f i.toNatClampNeg) :: st) h else none
  | none => if a = h.2.2.2.1 ∧ zz_ix i h.2.2.2.2.1 = true then zz_go pc ls (.int (h.2.2.2.2.2 i.toNatClampNeg) :: st) h else none
  | _ => none
def zz_ba (v : Option zz_E) (i : Int32) (pc : Nat) (ls : zz_L) (st : List Value) (h : zz_H) : Option zz_A := match v with
  | some (.inl (.byte, n, .inl f)) => if zz_ix i n then zz_go pc ls (.int (f i.toNatClampNeg) :: st) h else none
  | some (.inl (.boolean, n, .inl f)) => if zz_ix i n then zz_go pc ls (.int (f i.toNatClampNeg) :: st) h else none
  | _ => none
def zz_la (v : Option zz_E) (i : Int32) (pc : Nat) (ls : zz_L) (st : List Value) (h : zz_H) : Option zz_A := match v with
  | some (.inl (.long, n, .inr (.inl f))) => if zz_ix i n then zz_go pc ls (.long (f i.toNatClampNeg) :: st) h else none
  | _ => none
def zz_aa (v : Option zz_E) (i : Int32) (pc : Nat) (ls : zz_L) (st : List Value) (h : zz_H) : Option zz_A := match v with
  | some (.inl (ty, n, .inr (.inr (.inr (.inr f))))) => if ty = zz_ev ∧ zz_ix i n = true then zz_go pc ls (va_rf (f i.toNatClampNeg) :: st) h else none
  | _ => none
def zz_le (v : Option zz_E) (a pc : Nat) (ls : zz_L) (st : List Value) (h : zz_H) : Option zz_A := match v with
  | some (.inl (.int, n, .inl _)) => zz_go pc ls (.int (Int32.ofNat n) :: st) h
  | none => if a = h.2.2.2.1 then zz_go pc ls (.int (Int32.ofNat h.2.2.2.2.1) :: st) h else none
  | _ => none
def zz_is (v : Option zz_E) (x i : Int32) (a pc : Nat) (ls : zz_L) (st : List Value) (h : zz_H) : Option zz_A := match v with
  | some (.inl (.int, n, .inl f)) => if zz_ix i n then zz_go pc ls st (hp_s h a (.inl (.int, n, .inl (upd f i.toNatClampNeg x)))) else none
  | _ => none
def zz_bs (v : Option zz_E) (x i : Int32) (a pc : Nat) (ls : zz_L) (st : List Value) (h : zz_H) : Option zz_A := match v with
  | some (.inl (.byte, n, .inl f)) => if zz_ix i n then zz_go pc ls st (hp_s h a (.inl (.byte, n, .inl (upd f i.toNatClampNeg x.toInt8.toInt32)))) else none
  | some (.inl (.boolean, n, .inl f)) => if zz_ix i n = true ∧ (x = 0 ∨ x = 1) then zz_go pc ls st (hp_s h a (.inl (.boolean, n, .inl (upd f i.toNatClampNeg x)))) else none
  | _ => none
def zz_lst (v : Option zz_E) (x : Int64) (i : Int32) (a pc : Nat) (ls : zz_L) (st : List Value) (h : zz_H) : Option zz_A := match v with
  | some (.inl (.long, n, .inr (.inl f))) => if zz_ix i n then zz_go pc ls st (hp_s h a (.inl (.long, n, .inr (.inl (vp_updL f i.toNatClampNeg x))))) else none
  | _ => none
def zz_ast (v w : Option zz_E) (x : Nat) (i : Int32) (a pc : Nat) (ls : zz_L) (st : List Value) (h : zz_H) : Option zz_A := match v, w with
  | some (.inl (ty, n, .inr (.inr (.inr (.inr f))))), some (.inr (c, _)) => if ty = zz_ev ∧ c = 1 ∧ zz_ix i n = true then zz_go pc ls st (hp_s h a (.inl (zz_ev, n, .inr (.inr (.inr (.inr (va_up f i.toNatClampNeg (some x)))))))) else none
  | _, _ => none
def zz_na (ty : FieldType) (c : Nat → vp_A) (n : Int32) (pc : Nat) (ls : zz_L) (st : List Value) (h : zz_H) : Option zz_A := if ¬ n < 0 ∧ n.toNatClampNeg ≤ 65536 then zz_go pc ls (.ref h.1 :: st) (hp_n h n.toNatClampNeg (.inl (ty, c n.toNatClampNeg))) else none
def zz_ac (v w : Option zz_E) (sp dp n : Int32) (a pc : Nat) (ls : zz_L) (st : List Value) (h : zz_H) : Option zz_A := match v, w with
  | some (.inl (.int, n0, .inl f)), some (.inl (.int, n1, .inl g)) => if ¬ sp < 0 ∧ ¬ dp < 0 ∧ ¬ n < 0 ∧ sp.toNatClampNeg + n.toNatClampNeg ≤ n0 ∧ dp.toNatClampNeg + n.toNatClampNeg ≤ n1 then zz_go pc ls st (hp_s h a (.inl (.int, n1, .inl (va_cpy f g sp.toNatClampNeg dp.toNatClampNeg n.toNatClampNeg)))) else none
  | some (.inl (.byte, n0, .inl f)), some (.inl (.byte, n1, .inl g)) => if ¬ sp < 0 ∧ ¬ dp < 0 ∧ ¬ n < 0 ∧ sp.toNatClampNeg + n.toNatClampNeg ≤ n0 ∧ dp.toNatClampNeg + n.toNatClampNeg ≤ n1 then zz_go pc ls st (hp_s h a (.inl (.byte, n1, .inl (va_cpy f g sp.toNatClampNeg dp.toNatClampNeg n.toNatClampNeg)))) else none
  | some (.inl (.long, n0, .inr (.inl f))), some (.inl (.long, n1, .inr (.inl g))) => if ¬ sp < 0 ∧ ¬ dp < 0 ∧ ¬ n < 0 ∧ sp.toNatClampNeg + n.toNatClampNeg ≤ n0 ∧ dp.toNatClampNeg + n.toNatClampNeg ≤ n1 then zz_go pc ls st (hp_s h a (.inl (.long, n1, .inr (.inl (va_cpy f g sp.toNatClampNeg dp.toNatClampNeg n.toNatClampNeg))))) else none
  | _, _ => none
def zz_l4 (st : List Value) : Bool := decide (st.length ≤ 4)
def zz_I (y : Nat) (i : Instr) (pc : Nat) (ls : zz_L) (st : List Value) (h : zz_H) : Option zz_A :=
  match i with
  | .iconst n => zz_go (pc + 1) ls (.int (Int32.ofInt n) :: st) h
  | .bipush n => zz_go (pc + 2) ls (.int (Int8.ofInt n).toInt32 :: st) h
  | .sipush n => zz_go (pc + 3) ls (.int (Int16.ofInt n).toInt32 :: st) h
  | .lconst n => zz_go (pc + 1) ls (.long (Int64.ofNat (n : Nat)) :: st) h
  | .ldc_w k => match zz_kk (zz_co y) k with
    | some v => zz_go (pc + 3) ls (.int v :: st) h
    | none => none
  | .ldc2_w k => match zz_jk (zz_co y) k with
    | some v => zz_go (pc + 3) ls (.long v :: st) h
    | none => none
  | .iload_n k => match zz_ld ls k with
    | some (.int x) => zz_go (pc + 1) ls (.int x :: st) h
    | _ => none
  | .iload k => match zz_ld ls k with
    | some (.int x) => zz_go (pc + 2) ls (.int x :: st) h
    | _ => none
  | .lload_n k => match zz_ld ls k with
    | some (.long x) => zz_go (pc + 1) ls (.long x :: st) h
    | _ => none
  | .aload_n k => match zz_ld ls k with
    | some (.ref x) => zz_go (pc + 1) ls (.ref x :: st) h
    | _ => none
  | .aload k => match zz_ld ls k with
    | some (.ref x) => zz_go (pc + 2) ls (.ref x :: st) h
    | _ => none
  | .istore_n k => match st with
    | .int x :: st => if (k : Nat) < zz_ml y then zz_go (pc + 1) (zz_s1 ls k (.int x)) st h else none
    | _ => none
  | .istore k => match st with
    | .int x :: st => if k < zz_ml y then zz_go (pc + 2) (zz_s1 ls k (.int x)) st h else none
    | _ => none
  | .astore_n k => match st with
    | .ref x :: st => if (k : Nat) < zz_ml y then zz_go (pc + 1) (zz_s1 ls k (.ref x)) st h else none
    | _ => none
  | .astore k => match st with
    | .ref x :: st => if k < zz_ml y then zz_go (pc + 2) (zz_s1 ls k (.ref x)) st h else none
    | _ => none
  | .lstore_n k => match st with
    | .long x :: st => if (k : Nat) + 1 < zz_ml y then zz_go (pc + 1) (zz_s2 ls k (.long x)) st h else none
    | _ => none
  | .iinc k n => match zz_ld ls k with
    | some (.int x) => if k < zz_ml y then zz_go (pc + 3) (zz_s1 ls k (.int (x + Int32.ofInt n))) st h else none
    | _ => none
  | .iadd => match st with
    | .int b :: .int a :: st => zz_go (pc + 1) ls (.int (a + b) :: st) h
    | _ => none
  | .isub => match st with
    | .int b :: .int a :: st => zz_go (pc + 1) ls (.int (a - b) :: st) h
    | _ => none
  | .imul => match st with
    | .int b :: .int a :: st => zz_go (pc + 1) ls (.int (a * b) :: st) h
    | _ => none
  | .iand => match st with
    | .int b :: .int a :: st => zz_go (pc + 1) ls (.int (a &&& b) :: st) h
    | _ => none
  | .ior => match st with
    | .int b :: .int a :: st => zz_go (pc + 1) ls (.int (a ||| b) :: st) h
    | _ => none
  | .ixor => match st with
    | .int b :: .int a :: st => zz_go (pc + 1) ls (.int (a ^^^ b) :: st) h
    | _ => none
  | .idiv => match st with
    | .int b :: .int a :: st => if b = 0 then none else zz_go (pc + 1) ls (.int (a / b) :: st) h
    | _ => none
  | .irem => match st with
    | .int b :: .int a :: st => if b = 0 then none else zz_go (pc + 1) ls (.int (a - a / b * b) :: st) h
    | _ => none
  | .ishl => match st with
    | .int b :: .int a :: st => zz_go (pc + 1) ls (.int (a <<< (b &&& 31)) :: st) h
    | _ => none
  | .ishr => match st with
    | .int b :: .int a :: st => zz_go (pc + 1) ls (.int (a >>> (b &&& 31)) :: st) h
    | _ => none
  | .iushr => match st with
    | .int b :: .int a :: st => zz_go (pc + 1) ls (.int (a.toUInt32 >>> (b.toUInt32 &&& Int32.toUInt32 31)).toInt32 :: st) h
    | _ => none
  | .ladd => match st with
    | .long b :: .long a :: st => zz_go (pc + 1) ls (.long (a + b) :: st) h
    | _ => none
  | .lsub => match st with
    | .long b :: .long a :: st => zz_go (pc + 1) ls (.long (a - b) :: st) h
    | _ => none
  | .lmul => match st with
    | .long b :: .long a :: st => zz_go (pc + 1) ls (.long (a * b) :: st) h
    | _ => none
  | .lor => match st with
    | .long b :: .long a :: st => zz_go (pc + 1) ls (.long (a ||| b) :: st) h
    | _ => none
  | .lshl => match st with
    | .int b :: .long a :: st => zz_go (pc + 1) ls (.long (a <<< (b.toInt64 &&& 63)) :: st) h
    | _ => none
  | .lshr => match st with
    | .int b :: .long a :: st => zz_go (pc + 1) ls (.long (a >>> (b.toInt64 &&& 63)) :: st) h
    | _ => none
  | .lcmp => match st with
    | .long b :: .long a :: st => zz_go (pc + 1) ls (.int (lg_cmp a b) :: st) h
    | _ => none
  | .i2l => match st with
    | .int a :: st => zz_go (pc + 1) ls (.long a.toInt64 :: st) h
    | _ => none
  | .l2i => match st with
    | .long a :: st => zz_go (pc + 1) ls (.int a.toInt32 :: st) h
    | _ => none
  | .i2b => match st with
    | .int a :: st => zz_go (pc + 1) ls (.int a.toInt8.toInt32 :: st) h
    | _ => none
  | .dup => match st with
    | .int a :: st => zz_go (pc + 1) ls (.int a :: .int a :: st) h
    | .ref a :: st => zz_go (pc + 1) ls (.ref a :: .ref a :: st) h
    | _ => none
  | .dup2 => match st with
    | .int b :: .ref a :: st => zz_go (pc + 1) ls (.int b :: .ref a :: .int b :: .ref a :: st) h
    | _ => none
  | .goto off => zz_jp pc off ls st h
  | .ifCond q off => match st with
    | .int a :: st => match zz_to pc off with
      | some t => zz_go (if zz_cd q a 0 = true then t else pc + 3) ls st h
      | none => none
    | _ => none
  | .if_icmp q off => match st with
    | .int b :: .int a :: st => match zz_to pc off with
      | some t => zz_go (if zz_cd q a b = true then t else pc + 3) ls st h
      | none => none
    | _ => none
  | .ifnonnull off => match st with
    | .ref _ :: st => zz_jp pc off ls st h
    | .null :: st => zz_go (pc + 3) ls st h
    | _ => none
  | .lookupswitch dflt ps => match st with
    | .int x :: st => if (ps.toList.zip (ps.toList.drop 1)).all (fun (a, next) => a.1 < next.1) = true then zz_jp pc (Op.lookupswitch.offset ps.toList dflt x.toInt) ls st h else none
    | _ => none
  | .tableswitch dflt lo hi offs => match st with
    | .int x :: st => if x.toInt < lo ∨ hi < x.toInt then zz_jp pc dflt ls st h else (match offs[(x.toInt - lo).toNat]? with
      | some off => zz_jp pc off ls st h
      | none => none)
    | _ => none
  | .getfield k => match st with
    | .ref a :: st => match zz_fk (zz_co y) k with
      | some (ci, j) => zz_gf (hp_g h a) ci j (pc + 3) ls st h
      | none => none
    | _ => none
  | .putfield k => match st with
    | v :: .ref a :: st => match zz_fk (zz_co y) k with
      | some (ci, j) => if zz_fin y ci j then zz_pf (hp_g h a) ci j v a (pc + 3) ls st h else none
      | none => none
    | _ => none
  | .iaload => match st with
    | .int i :: .ref a :: st => zz_ia (hp_g h a) i a (pc + 1) ls st h
    | _ => none
  | .baload => match st with
    | .int i :: .ref a :: st => zz_ba (hp_g h a) i (pc + 1) ls st h
    | _ => none
  | .laload => match st with
    | .int i :: .ref a :: st => zz_la (hp_g h a) i (pc + 1) ls st h
    | _ => none
  | .aaload => match st with
    | .int i :: .ref a :: st => zz_aa (hp_g h a) i (pc + 1) ls st h
    | _ => none
  | .arraylength => match st with
    | .ref a :: st => zz_le (hp_g h a) a (pc + 1) ls st h
    | _ => none
  | .iastore => match st with
    | .int x :: .int i :: .ref a :: st => zz_is (hp_g h a) x i a (pc + 1) ls st h
    | _ => none
  | .bastore => match st with
    | .int x :: .int i :: .ref a :: st => zz_bs (hp_g h a) x i a (pc + 1) ls st h
    | _ => none
  | .lastore => match st with
    | .long x :: .int i :: .ref a :: st => zz_lst (hp_g h a) x i a (pc + 1) ls st h
    | _ => none
  | .aastore => match st with
    | .ref v :: .int i :: .ref a :: st => zz_ast (hp_g h a) (hp_g h v) v i a (pc + 1) ls st h
    | _ => none
  | .new k => match zz_nk (zz_co y) k with
    | some ci => match zz_cls[ci]? with
      | some q => zz_go (pc + 3) ls (.ref h.1 :: st) (hp_n h q.2.2 (.inr (ci, zz_bl ci q.2.2)))
      | none => none
    | none => none
  | .newarray .int => match st with
    | .int n :: st => zz_na .int (fun n => (n, .inl (fun _ => 0))) n (pc + 2) ls st h
    | _ => none
  | .newarray .byte => match st with
    | .int n :: st => zz_na .byte (fun n => (n, .inl (fun _ => 0))) n (pc + 2) ls st h
    | _ => none
  | .newarray .boolean => match st with
    | .int n :: st => zz_na .boolean (fun n => (n, .inl (fun _ => 0))) n (pc + 2) ls st h
    | _ => none
  | .newarray .long => match st with
    | .int n :: st => zz_na .long (fun n => (n, .inr (.inl (fun _ => 0)))) n (pc + 2) ls st h
    | _ => none
  | .anewarray k => match st with
    | .int n :: st => if zz_nk (zz_co y) k = some 1 then zz_na zz_ev (fun n => (n, .inr (.inr (.inr (.inr (fun _ => none)))))) n (pc + 3) ls st h else none
    | _ => none
  | .ireturn => match st with
    | [.int v] => match zz_rt y with
      | some ty => if zz_okv ty (.int v) then some (.inl (some (.int v), h)) else none
      | none => none
    | _ => none
  | .lreturn => match st with
    | [.long v] => if zz_rt y = some .long then some (.inl (some (.long v), h)) else none
    | _ => none
  | .return_ => match st with
    | [] => if zz_rt y = none then some (.inl (none, h)) else none
    | _ => none
  | .invokestatic k => match zz_lk (zz_co y) k with
    | some (0, z) => zz_cl y z (zz_np z) pc ls st
    | some (3, z) => zz_cl y z (zz_np z) pc ls st
    | some (7, _) => match st with
      | .int n :: .int dp :: .ref a :: .int sp :: .ref a0 :: st => if zz_l4 st && decide (1 ≤ zz_fr y) && decide (26 ≤ zz_lo y) then zz_ac (hp_g h a0) (hp_g h a) sp dp n a (pc + 3) ls st h else none
      | _ => none
    | some (8, _) => match st with
      | .int b :: .int a :: st => if zz_l4 st && decide (1 ≤ zz_fr y) && decide (21 ≤ zz_lo y) then zz_go (pc + 3) ls (.int (if a < b then b else a) :: st) h else none
      | _ => none
    | some (9, _) => match st with
      | .int b :: .int a :: st => if zz_l4 st && decide (1 ≤ zz_fr y) && decide (21 ≤ zz_lo y) then zz_go (pc + 3) ls (.int (if b < a then b else a) :: st) h else none
      | _ => none
    | _ => none
  | .invokevirtual k => match zz_lk (zz_co y) k with
    | some (1, z) => zz_cl y z (zz_np z + 1) pc ls st
    | _ => none
  | .invokespecial k => match zz_lk (zz_co y) k with
    | some (2, z) => zz_cl y z (zz_np z + 1) pc ls st
    | some (5, z) => zz_cl y z (zz_np z + 1) pc ls st
    | some (6, _) => match st with
      | .ref _ :: st => if zz_l4 st && decide (1 ≤ zz_fr y) && decide (20 ≤ zz_lo y) then zz_go (pc + 3) ls st h else none
      | _ => none
    | _ => none
  | _ => none
/-- how long an instruction is -/
def zz_len (i : Instr) (n : Nat) : Nat := match i with
  | .lookupswitch .. => n
  | .tableswitch .. => n
  | .bipush _ => 2
  | .sipush _ => 3
  | .ldc_w _ => 3
  | .ldc2_w _ => 3
  | .iload _ => 2
  | .aload _ => 2
  | .istore _ => 2
  | .astore _ => 2
  | .iinc .. => 3
  | .goto _ => 3
  | .ifCond .. => 3
  | .if_icmp .. => 3
  | .ifnonnull _ => 3
  | .getfield _ => 3
  | .putfield _ => 3
  | .new _ => 3
  | .newarray _ => 2
  | .anewarray _ => 3
  | .invokestatic _ => 3
  | .invokevirtual _ => 3
  | .invokespecial _ => 3
  | _ => 1
/-- a method's locals at its entry, if it may be entered so -/
def zz_rc (z : Nat) (vs : List Value) (h : zz_H) : Bool := zz_st z || (match vs with
  | .ref b :: _ => zz_in z || (match hp_g h b with
    | some (.inr (c, _)) => decide (c = zz_co z)
    | _ => false)
  | _ => false)
def zz_ent (z : Nat) (vs : List Value) (h : zz_H) : Option zz_L := if (lg_sl vs).length ≤ zz_ml z ∧ zz_rc z vs h = true then some (zz_e0 vs (zz_ml z)) else none
def zz_act (F : Nat → zz_S → Option zz_O) (y : Nat) (h : zz_H) : Option zz_A → Option zz_O
  | some (.inl o) => some o
  | some (.inr (.inl s)) => F y s
  | some (.inr (.inr (z, vs, pc, ls, rest))) => match zz_ent z vs h with
    | some l0 => match F z (0, l0, [], h) with
      | some (r1, h1) => F y (pc, ls, r1.toList ++ rest, h1)
      | none => none
    | none => none
  | none => none
def zz_B (F : Nat → zz_S → Option zz_O) (y : Nat) (s : zz_S) : Option zz_O := match decode (zz_c y) s.1 with
  | .ok (i, n) => if n = zz_len i n then zz_act F y s.2.2.2 (zz_I y i s.1 s.2.1 s.2.2.1 s.2.2.2) else none
  | .error _ => none
def zz_X : Nat → Nat → zz_S → Option zz_O
  | 0 => fun _ _ => none
  | n + 1 => zz_B (zz_X n)
theorem zz_act_mono {F G : Nat → zz_S → Option zz_O} (hFG : ∀ y s o, F y s = some o → G y s = some o) {y : Nat} {h : zz_H} {a : Option zz_A} {o : zz_O} (ha : zz_act F y h a = some o) : zz_act G y h a = some o := by
  match a, ha with
  | some (.inl _), ha => exact ha
  | some (.inr (.inl s)), ha => exact hFG _ _ _ ha
  | some (.inr (.inr (z, vs, pc, ls, rest))), ha =>
    simp only [zz_act] at ha ⊢
    cases he : zz_ent z vs h with
    | none => rw [he] at ha; simp at ha
    | some l0 =>
      rw [he] at ha
      simp only at ha ⊢
      cases hf : F z (0, l0, [], h) with
      | none => rw [hf] at ha; simp at ha
      | some q =>
        rw [hf] at ha
        rw [hFG _ _ _ hf]
        exact hFG _ _ _ ha
theorem zz_B_mono {F G : Nat → zz_S → Option zz_O} (hFG : ∀ y s o, F y s = some o → G y s = some o) {y : Nat} {s : zz_S} {o : zz_O} (ha : zz_B F y s = some o) : zz_B G y s = some o := by
  unfold zz_B at ha ⊢
  split at ha
  · split at ha
    · rename_i h1 h2
      rw [if_pos h2]
      exact zz_act_mono hFG ha
    · cases ha
  · cases ha
theorem zz_X_succ : ∀ (n y : Nat) (s : zz_S) (o : zz_O), zz_X n y s = some o → zz_X (n + 1) y s = some o
  | 0, _, _, _, h => by cases h
  | n + 1, y, s, o, h => zz_B_mono (F := zz_X n) (G := zz_X (n + 1)) (zz_X_succ n) h
theorem zz_X_le {n k : Nat} (hk : n ≤ k) {y : Nat} {s : zz_S} {o : zz_O} (h : zz_X n y s = some o) : zz_X k y s = some o := by
  induction hk with
  | refl => exact h
  | step _ ih => exact zz_X_succ _ _ _ _ ih
/-- the limit -/
noncomputable def zz_Y (y : Nat) (s : zz_S) : Option zz_O := @dite _ (∃ o, ∃ n, zz_X n y s = some o) (Classical.propDecidable _) (fun h => some (Classical.choose h)) (fun _ => none)
theorem zz_Y_iff {y : Nat} {s : zz_S} {o : zz_O} : zz_Y y s = some o ↔ ∃ n, zz_X n y s = some o := by
  unfold zz_Y
  constructor
  · intro h
    split at h
    · rename_i hx
      cases h
      exact Classical.choose_spec hx
    · cases h
  · rintro ⟨n, hn⟩
    have hx : ∃ o, ∃ n, zz_X n y s = some o := ⟨o, n, hn⟩
    rw [dif_pos hx]
    obtain ⟨k, hk⟩ := Classical.choose_spec hx
    have h1 := zz_X_le (Nat.le_max_left n k) hn
    have h2 := zz_X_le (Nat.le_max_right n k) hk
    rw [h1] at h2
    rw [Option.some.inj h2]
theorem zz_Y_eq (y : Nat) (s : zz_S) : zz_Y y s = zz_B zz_Y y s := by
  have key : ∀ o, zz_Y y s = some o ↔ zz_B zz_Y y s = some o := by
    intro o
    rw [zz_Y_iff]
    constructor
    · rintro ⟨n, hn⟩
      cases n with
      | zero => cases hn
      | succ n => exact zz_B_mono (fun y s o h => zz_Y_iff.mpr ⟨n, h⟩) hn
    · intro h
      unfold zz_B at h
      cases hd : decode (zz_c y) s.1 with
      | error e => rw [hd] at h; cases h
      | ok q =>
        obtain ⟨i, n⟩ := q
        rw [hd] at h
        simp only at h
        by_cases hn : n = zz_len i n
        · rw [if_pos hn] at h
          have go : ∀ k, zz_act (zz_X k) y s.2.2.2 (zz_I y i s.1 s.2.1 s.2.2.1 s.2.2.2) = some o → ∃ n, zz_X n y s = some o := fun k hk => ⟨k + 1, by
            show zz_B (zz_X k) y s = some o
            unfold zz_B
            rw [hd]
            simp only
            rw [if_pos hn]
            exact hk⟩
          cases hI : zz_I y i s.1 s.2.1 s.2.2.1 s.2.2.2 with
          | none => rw [hI] at h; cases h
          | some a =>
            rw [hI] at h go
            match a, h with
            | .inl _, h => exact go 0 h
            | .inr (.inl s'), h =>
              obtain ⟨k, hk⟩ := zz_Y_iff.mp h
              exact go k hk
            | .inr (.inr (z, vs, pc, ls, rest)), h =>
              simp only [zz_act] at h go
              cases he : zz_ent z vs s.2.2.2 with
              | none => rw [he] at h; cases h
              | some l0 =>
                rw [he] at h go
                simp only at h go
                cases hf : zz_Y z (0, l0, [], s.2.2.2) with
                | none => rw [hf] at h; cases h
                | some q =>
                  rw [hf] at h
                  simp only at h
                  obtain ⟨k1, hk1⟩ := zz_Y_iff.mp hf
                  obtain ⟨k2, hk2⟩ := zz_Y_iff.mp h
                  refine go (max k1 k2) ?_
                  rw [zz_X_le (Nat.le_max_left k1 k2) hk1]
                  exact zz_X_le (Nat.le_max_right k1 k2) hk2
        · rw [if_neg hn] at h
          cases h
  cases h1 : zz_Y y s with
  | some o => exact ((key o).mp h1).symm
  | none =>
    cases h2 : zz_B zz_Y y s with
    | none => rfl
    | some o =>
      rw [(key o).mpr h2] at h1
      cases h1
