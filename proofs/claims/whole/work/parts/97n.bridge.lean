/-! from the interpreter's answer of the law to the claim -/
def zz_h0 (n b L : Nat) (xs : Nat → Int32) : zz_H := (n, 0, fun _ => none, (b, L, xs))
/-- THE PURE CLAIM: the law, run by the interpreter, answers 1, within the room -/
def zz_main : Prop := ∀ (n b L : Nat) (xs : Nat → Int32), b < n → L ≤ 3072 → ∃ h' : zz_H, zz_Y 0 (0, [some (.ref b), none, none, none], [], zz_h0 n b L xs) = some (some (.int 1), h') ∧ h'.1 ≤ n + 600000 ∧ h'.2.1 ≤ 7302250
theorem zz_inst {ci : Nat} {q : vw_C} (h : zz_cls[ci]? = some q) : Cond.instantiable q.1 q.2.2 ∈ zz_gw := by
  match ci, h with
  | 0, h => cases h; exact zz_gw_mem (i := 245) (by decide +kernel) rfl
  | 1, h => cases h; exact zz_gw_mem (i := 120) (by decide +kernel) rfl
  | 2, h => cases h; exact zz_gw_mem (i := 308) (by decide +kernel) rfl
  | 3, h => cases h; exact zz_gw_mem (i := 148) (by decide +kernel) rfl
  | 4, h => cases h; exact zz_gw_mem (i := 391) (by decide +kernel) rfl
  | 5, h => cases h; exact zz_gw_mem (i := 334) (by decide +kernel) rfl
  | 6, h => cases h; exact zz_gw_mem (i := 202) (by decide +kernel) rfl
  | 7, h => cases h; exact zz_gw_mem (i := 142) (by decide +kernel) rfl
  | 8, h => cases h; exact zz_gw_mem (i := 126) (by decide +kernel) rfl
  | 9, h => cases h; exact zz_gw_mem (i := 340) (by decide +kernel) rfl
  | 10, h => cases h; exact zz_gw_mem (i := 112) (by decide +kernel) rfl
  | 11, h => cases h; exact zz_gw_mem (i := 1069) (by decide +kernel) rfl
  | _ + 12, h => simp [zz_cls] at h
def R_law : String := "FacetSieveLaw"
def lw_P (b : Addr) (xs : List Int32) (args : Array Value) (s : State) : Prop := args = #[.ref b] ∧ s.IntsAt b xs ∧ xs.length ≤ 3072 ∧ (Jvm.Cond.and given_1 narrow_1).before args s = true
def lw_Q (_ : Array Value) (s : State) (o : Outcome) (t : State) : Prop := o = .returned (some (.int 1)) ∧ Framed s o t [] 600000 7302250
def lw_Z (below : List Frame) (a : Array Value) (s : State) : State → Prop := fun t => ∃ o, t.status = .running ∧ Ended t below o ∧ lw_Q a s o t
/-- what holds at the law's entry: the machine, the code, the tables' words (any of lw_tbl by 'hts w (by decide +kernel)'), the script of L ints xs at the cell b, what the Statement gives of the start (any of its parts by flat_of_before) -/
def lw_At (p : Program) (s : State) (m : MethodId) (meth : Method) (c : Code) (b L : Nat) (xs : Nat → Int32) : Prop :=
  p.tables.exec = Jvm.exec ∧ c.code = code ∧ meth.sig.returnType = ret ∧ c.maxLocals = 4 ∧ s.vm.findClass R_law = some m.cls ∧ (∀ w ∈ lw_tbl, w.before #[Value.ref b] s = true) ∧ va_X b L xs s s.heap ∧ b < s.heap.size ∧ meth.locks = false ∧ (Jvm.Cond.and given_1 narrow_1).before #[Value.ref b] s = true
theorem zz_arr {s : State} {args : Array Value} {ty : FieldType} (h : (Cond.arrayClass ty).before args s = true) : ∃ cA : ClassId, s.vm.findClass ("[" ++ ty.toString) = some cA ∧ ArrOfT s cA ty := by
  obtain ⟨c, k, comp, h1, h2, h3⟩ := Cond.arrayClass_spec h
  exact ⟨c, h1, fun n z => ⟨fun k h => (by cases h), k, h2, comp, h3⟩⟩
theorem zz_gw_tbl : ∀ w ∈ zz_gw, w ∈ lw_tbl := fun _ h => (List.mem_filter.mp h).1
set_option maxHeartbeats 4000000 in
theorem whole_start_of (hmain : zz_main) {p : Program} {e : Env} {s : State} {m : MethodId} {below : List Frame} {meth : Method} {c : Code} (l : Launch) (hflags : l.flags = flags0) {b L : Nat} {xs : Nat → Int32} (hL : L ≤ 3072) (C0 : lw_At p s m meth c b L xs) : W p l e room_1 s m #[Value.ref b] below meth c s.heap [] 0 0 (lw_Z below #[Value.ref b] s) (entryFrame m ([Value.ref b] : List Value).toArray 4) := by
  obtain ⟨hx, hb, hr, hml, hown, hts, hX, hbl, hlocks, hgv⟩ := C0
  have htg : ∀ w ∈ zz_gw, w.before #[Value.ref b] s = true := fun w hw => hts w (zz_gw_tbl w hw)
  have hkn : ∀ (ci : Nat), ∃ (cI : ClassId × (Nat → Nat)), ∀ q : vw_C, zz_cls[ci]? = some q → u_Kn s q.1 q.2.1 q.2.2 cI.1 cI.2 := by
    intro ci
    cases hq : zz_cls[ci]? with
    | none => exact ⟨(0, fun _ => 0), fun q h => by cases h⟩
    | some q =>
      obtain ⟨cC, iS, hk⟩ := u_known (C := q.1) (T := q.2.1) (N := q.2.2) (n := q.2.2) htg (zz_cls_ok hq).1 (htg _ (zz_inst hq))
      exact ⟨(cC, iS), fun q' h => by cases h; exact hk⟩
  obtain ⟨cI, hcI⟩ := Classical.axiomOfChoice hkn
  obtain ⟨c1, a1, b1⟩ := zz_arr (htg _ zz_ac_int)
  obtain ⟨c2, a2, b2⟩ := zz_arr (htg _ zz_ac_byte)
  obtain ⟨c3, a3, b3⟩ := zz_arr (htg _ zz_ac_boolean)
  obtain ⟨c4, a4, b4⟩ := zz_arr (htg _ zz_ac_long)
  have hao := va_AO.of (hts _ zz_ao)
  obtain ⟨comp, c5, k5, d1, d2, d3, d4, d5⟩ := Cond.arrayOver_spec (hts _ zz_ao)
  have b5 : ArrOfT s c5 zz_ev := fun n z => ⟨fun k h => (by cases h), k5, d3, comp, d4⟩
  obtain ⟨dA, e1, e2, e3, e4, e5⟩ : ∃ dA : FieldType → ClassId, dA .int = c1 ∧ dA .byte = c2 ∧ dA .boolean = c3 ∧ dA .long = c4 ∧ dA zz_ev = c5 :=
    ⟨fun ty => match ty with
      | .int => c1
      | .byte => c2
      | .boolean => c3
      | .long => c4
      | _ => c5, rfl, rfl, rfl, rfl, rfl⟩
  have hK : zz_K (fun k => (cI k).1) (fun k => (cI k).2) dA s := by
    refine ⟨⟨fun k q hq => hcI k q hq, fun k q hq => ?_⟩, fun w hw => ?_, hao⟩
    · match k, hq with
      | 0, hq => cases hq; rw [e1]; exact ⟨b1, a1⟩
      | 1, hq => cases hq; rw [e2]; exact ⟨b2, a2⟩
      | 2, hq => cases hq; rw [e3]; exact ⟨b3, a3⟩
      | 3, hq => cases hq; rw [e4]; exact ⟨b4, a4⟩
      | 4, hq => cases hq; rw [e5]; exact ⟨b5, k5, comp, d3, d4, d1, d5⟩
      | k + 5, hq => simp [zz_tys] at hq
    · have h1 := List.mem_filter.mp hw
      have h2 := hts w h1.1
      cases w with
      | methodLinkNest a i x ho => exact va_Nw.of rfl h2
      | _ => simp [zz_isNest] at h1
  obtain ⟨h', hY, hc, hs⟩ := hmain s.heap.size b L xs hbl hL
  have hW := zz_sound (l := l) (dC := fun k => (cI k).1) (dI := fun k => (cI k).2) (dA := dA) (B := s.heap.size) hY
  rw [lg_entry_eq]
  have hl := lv_entry [Value.ref b] (n := 4) (Nat.le_of_ble_eq_true rfl)
  have k := hW.2 p e room_1 s m #[Value.ref b] below meth c s.heap [] 0 0 _ ⟨hx, hb, hml, hown, htg, hr, hlocks, (fun h => by cases h), hK, (by decide), (by decide)⟩ (zz_fewer hl (zz_e0_mem [Value.ref b] 4)) ⟨rfl, Nat.le_refl _, (fun a e h => by cases h), (fun a n f h => by cases h), hbl, hX⟩ va_S.rf (Nat.le_refl _) (by show 0 + h'.1 ≤ 600000 + s.heap.size; omega) (by show 0 + h'.2.1 ≤ 7302250 + 0; omega)
  intro T hT X
  obtain ⟨t, st, o, q1, q2, q3, L', q4, q5⟩ := k T hT X
  refine ⟨t, st, o, q1, q2, q3.1, q4.1, q4.2.1, ?_⟩
  exact q4.2.2.weaken (fun y hy hlt => absurd hlt (Nat.not_lt.mpr (q5 y hy))) (Nat.le_refl _) (Nat.le_refl _)
