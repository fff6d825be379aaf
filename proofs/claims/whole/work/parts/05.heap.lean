/-! the rules of the heap -/
section Heap
variable {l : Launch} {dC : Nat → ClassId} {dI : Nat → Nat → Nat} {dA : FieldType → ClassId} {B : Nat} {y pc : Nat} {ls : zz_L} {st : List Value} {h : zz_H} {r : Option Value} {h' : zz_H}
/-- a step that reads the heap -/
theorem zz_reads {pc' : Nat} {ls' : zz_L} {st' : List Value}
    (hs : ∀ (p : Program) (e : Env) (R : Room) (s : State) (m : MethodId) (args : Array Value) (below : List Frame) (meth : Method) (c : Code) (H : Heap) (locs : List Loc) (cells slots : Nat) (lsR : Array Slot) (Q : State → Prop), zz_Fx dC dI dA p R s m args meth c y → lv_has lsR (zz_ml y) (zz_as ls) → zz_R dC dI dA B s h H → cells ≤ R.cells → slots ≤ R.slots →
      (∀ lsR' : Array Slot, lv_has lsR' (zz_ml y) (zz_as ls') → W p l e R s m args below meth c H locs cells slots Q (F0 m pc' lsR' st')) → W p l e R s m args below meth c H locs cells slots Q (F0 m pc lsR st))
    (k : zz_W l dC dI dA B y pc' ls' st' h r h') : zz_W l dC dI dA B y pc ls st h r h' :=
  ⟨k.1, fun p e R s m args below meth c H locs cells slots lsR hF hl hR hS hB h1 h2 => hs p e R s m args below meth c H locs cells slots lsR _ hF hl hR (by have := k.1.1; omega) (by have := k.1.2; omega) (fun lsR' hl' => k.2 p e R s m args below meth c H locs cells slots lsR' hF hl' hR hS hB h1 h2)⟩
/-- a step that changes one cell -/
theorem zz_writes {pc' : Nat} {st' : List Value} {a : Nat} {e1 : zz_E}
    (hs : ∀ (p : Program) (e : Env) (R : Room) (s : State) (m : MethodId) (args : Array Value) (below : List Frame) (meth : Method) (c : Code) (H : Heap) (locs : List Loc) (cells slots : Nat) (lsR : Array Slot) (Q : State → Prop), zz_Fx dC dI dA p R s m args meth c y → lsR.size = zz_ml y → zz_R dC dI dA B s h H →
      (∀ (H1 : Heap) (L : List Loc), H1.size = H.size → (∀ q : Nat, q ≠ a → H1[q]? = H[q]?) → va_at (dC, dI) zz_cls (a, zz_toE dA e1) H1 → (∀ q ∈ L, q.base = a) → W p l e R s m args below meth c H1 (locs ++ L) cells slots Q (F0 m pc' lsR st')) → W p l e R s m args below meth c H locs cells slots Q (F0 m pc lsR st))
    {e0 : zz_E} (ha : hp_g h a = some e0) (hby : ∀ (n : Nat) (f : Nat → Int32), e1 = .inl (.byte, n, .inl f) → (∀ (a n : Nat) (f : Nat → Int32), hp_g h a = some (.inl (.byte, n, .inl f)) → ∀ j, fits .byte (.int (f j)) = true) → ∀ j, fits .byte (.int (f j)) = true)
    (k : zz_W l dC dI dA B y pc' ls st' (hp_s h a e1) r h') : zz_W l dC dI dA B y pc ls st h r h' := by
  refine ⟨k.1, fun p e R s m args below meth c H locs cells slots lsR hF hl hR hS hB h1 h2 => hs p e R s m args below meth c H locs cells slots lsR _ hF hl.1 hR (fun H1 L z oq he hL => ?_)⟩
  have hBa : B ≤ a := (hR.2.2.1 a e0 ha).1
  refine k.2 p e R s m args below meth c H1 (locs ++ L) cells slots lsR hF hl (hR.set ha he (fun n f hf => hby n f hf hR.2.2.2.1) z oq) ⟨by rw [z]; exact hS.1, fun q g1 g2 => ?_, fun q hq => ?_⟩ hB h1 h2
  · rw [oq q (fun e => g2 (by rw [e]; exact hBa))]
    exact hS.2.1 q g1 g2
  · rcases List.mem_append.mp hq with g | g
    · exact hS.2.2 q g
    · show B ≤ q.base
      rw [hL q g]
      exact hBa
/-- a step that makes a cell -/
theorem zz_makes {pc' : Nat} {st0 : List Value} {n : Nat} {e1 : zz_E}
    (hs : ∀ (p : Program) (e : Env) (R : Room) (s : State) (m : MethodId) (args : Array Value) (below : List Frame) (meth : Method) (c : Code) (H : Heap) (locs : List Loc) (cells slots : Nat) (lsR : Array Slot) (Q : State → Prop), zz_Fx dC dI dA p R s m args meth c y → cells + 1 ≤ R.cells → slots + n ≤ R.slots →
      (∀ (H1 : Heap), H1.size = H.size + 1 → (∀ q : Nat, q < H.size → H1[q]? = H[q]?) → va_at (dC, dI) zz_cls (H.size, zz_toE dA e1) H1 → W p l e R s m args below meth c H1 locs (cells + 1) (slots + n) Q (F0 m pc' lsR (.ref H.size :: st0))) → W p l e R s m args below meth c H locs cells slots Q (F0 m pc lsR st))
    (hby : ∀ (n : Nat) (f : Nat → Int32), e1 = .inl (.byte, n, .inl f) → ∀ j, fits .byte (.int (f j)) = true)
    (k : zz_W l dC dI dA B y pc' ls (.ref h.1 :: st0) (hp_n h n e1) r h') : zz_W l dC dI dA B y pc ls st h r h' := by
  have k1 : h.1 + 1 ≤ h'.1 := k.1.1
  have k2 : h.2.1 + n ≤ h'.2.1 := k.1.2
  refine ⟨⟨by omega, by omega⟩, fun p e R s m args below meth c H locs cells slots lsR hF hl hR hS hB h1 h2 => hs p e R s m args below meth c H locs cells slots lsR _ hF (by omega) (by omega) (fun H1 z oq he => ?_)⟩
  have hz := hR.1
  have k3 := k.2 p e R s m args below meth c H1 locs (cells + 1) (slots + n) lsR hF hl (hR.new (k := n) he hby z oq) ⟨by rw [z]; exact Nat.le_succ_of_le hS.1, fun q g1 g2 => by rw [oq q (Nat.lt_of_lt_of_le g1 hS.1)]; exact hS.2.1 q g1 g2, hS.2.2⟩ hB (by show _ ≤ R.cells + (h.1 + 1); omega) (by show _ ≤ R.slots + (h.2.1 + n); omega)
  rw [hz]
  exact k3
theorem zz_P1 {s : State} {H : Heap} {a : Nat} {e0 : zz_E} (hR : zz_R dC dI dA B s h H) (ha : hp_g h a = some e0) : va_P (dC, dI) zz_cls [(a, zz_toE dA e0)] H := by
  intro k q hk
  match k, hk with
  | 0, hk => cases hk; exact (hR.2.2.1 a e0 ha).2
  | k + 1, hk => simp at hk
theorem zz_getf {index ci k : Nat} {a : Nat} {q : vw_C} {fs : List Value} {v : Value} (d : decode (zz_c y) pc = .ok (.getfield index, 3)) (ha : hp_g h a = some (.inr (ci, fs))) (hq : zz_cls[ci]? = some q) (hk : k < q.2.2) (hl : Cond.fieldLink (zz_cn (zz_co y)) index q.1 (q.2.1 k).2.1 (q.2.1 k).2.2.1 ∈ zz_gw) (hd : (q.2.1 k).1 = q.1) (hv : fs[k]? = some v)
    (kk : zz_W l dC dI dA B y (pc + 3) ls (v :: st) h r h') : zz_W l dC dI dA B y pc ls (.ref a :: st) h r h' := by
  obtain ⟨C, T, N⟩ := q
  refine zz_reads (fun _ _ _ _ _ _ _ _ _ _ _ _ _ lsR _ hF hlv hR _ _ w => ?_) kk
  exact va_get (D := (dC, dI)) (cl := zz_cls) (ws := [(a, .inr (ci, fs))]) (ref := C) hF.1 hF.2.1 hF.2.2.2.2.1 (zz_cls_ok hq).1 hF.2.2.2.1 hF.2.2.2.2.2.2.2.2.1.1 (zz_P1 hR ha) 0 rfl hq k hk (hF.2.2.2.2.1 _ hl) (fun x hx => by rw [show (T k).1 = C from hd] at hx; exact hx) hv d (w lsR hlv)
theorem zz_putf {index ci k : Nat} {a : Nat} {q : vw_C} {fs : List Value} {v : Value} (d : decode (zz_c y) pc = .ok (.putfield index, 3)) (ha : hp_g h a = some (.inr (ci, fs))) (hq : zz_cls[ci]? = some q) (hk : k < q.2.2) (hl : Cond.fieldLink (zz_cn (zz_co y)) index q.1 (q.2.1 k).2.1 (q.2.1 k).2.2.1 ∈ zz_gw) (hd : (q.2.1 k).1 = q.1)
    (hfin : (q.2.1 k).2.2.2 = false ∨ (zz_in y = true ∧ (q.2.1 k).2.2.2 = true ∧ q.1 = zz_cn (zz_co y))) (hn : narrow (zz_ty ci k) v = v) (hfit : fits (zz_ty ci k) v = true) (hlen : k < fs.length)
    (kk : zz_W l dC dI dA B y (pc + 3) ls st (hp_s h a (.inr (ci, fs.set k v))) r h') : zz_W l dC dI dA B y pc ls (v :: .ref a :: st) h r h' := by
  obtain ⟨C, T, N⟩ := q
  obtain ⟨hin, hty, hnm, -⟩ := zz_cls_ok hq
  refine zz_writes (fun p e R s m args below meth c H locs cells slots lsR Q hF _ hR w => ?_) ha (fun _ _ hf => by cases hf) kk
  have hts := hF.2.2.2.2.1
  have hown := hF.2.2.2.1
  have hK := hF.2.2.2.2.2.2.2.2.1.1
  have hap := va_apart (own := zz_cn (zz_co y)) hts hin (zz_ty ci) hty hnm hK hq
  obtain ⟨r', h1, cell, q1, q2, q3, q4⟩ := zz_P1 hR ha 0 _ rfl
  have hr : r' = (C, T, N) := Option.some.inj (h1.symm.trans hq)
  subst hr
  obtain ⟨hS, hfc, kC, hkC, hkind⟩ := hK.1 ci _ hq
  obtain ⟨cf, kf, fi, f, hi, hsl⟩ := hS k hk
  have hsame : s.fieldFound? C (T k).2.1 (T k).2.2.1 = some (cf, kf, fi, f) := by rw [show (T k).1 = C from hd] at hi; exact hi
  have hlay := hts _ (hin _ (u_in_lay hk))
  have hst := (u_facts hfc hkC (u_lays hts hin hk) hi).1
  have hdesc := hty k hk
  have done : ∀ H' : Heap, H'[a]? = some (cell.setSlot f.slot v) → H'.size = H.size → (∀ q, q ≠ a → H'[q]? = H[q]?) → W p l e R s m args below meth c H' (locs ++ [⟨a, f.slot⟩]) cells slots Q (F0 m (pc + 3) lsR st) := by
    intro H' e1 e2 e3
    refine w H' _ e2 e3 ?_ (fun q hq => by rw [List.mem_singleton.mp hq])
    rw [hsl] at e1
    exact ⟨_, hq, t_OB.to (V := updV (vp_V fs) k v) ⟨_, e1, q2, q3, t_set q4 hap hk v⟩ (fun j _ => vp_updV_set hlen v j)⟩
  rcases hfin with hfin | ⟨hi2, hfin, hC⟩
  · unfold u_lay at hlay
    rw [if_neg (by rw [show (T k).2.2.2 = false from hfin]; decide)] at hlay
    have h6 := u_store hfc hkC hkind hlay hi hdesc hn hfit
    exact W.putK hF.1 hF.2.1 (f := f) ⟨hown, hts _ hl, ⟨_, _, _, hsame⟩, hst⟩ (by rw [q2]; exact h6) q1 q3 (by rw [hsl]; exact k2_hasslot (q4 k hk)) rfl rfl d done
  · unfold u_lay at hlay
    rw [if_pos hfin] at hlay
    have hcf : m.cls = cf := by
      obtain ⟨_, _, c', _, _, _, -, -, hf', -, -, -, hown2, -⟩ := Cond.laysFinal_spec hlay
      have e1 : c' = cf := by have := hi.symm.trans hf'; simp at this; exact this.1.symm
      have hd' : (T k).1 = zz_cn (zz_co y) := hd.trans hC
      rw [hd'] at hown2
      rw [← e1]; exact Option.some.inj (hown.symm.trans hown2)
    have h6 := u_fits hfc hkC hkind (Or.inr hlay) hi hdesc hn hfit
    exact W.putFinK hF.1 hF.2.1 hown (hts _ hl) hsame hst hcf (hF.2.2.2.2.2.2.2.1 hi2) (by rw [q2]; exact h6) q1 q3 (by rw [hsl]; exact k2_hasslot (q4 k hk)) rfl rfl d done
theorem zz_ty_at (dA : FieldType → ClassId) : (zz_tys dA)[0]? = some (dA .int, .int) ∧ (zz_tys dA)[1]? = some (dA .byte, .byte) ∧ (zz_tys dA)[2]? = some (dA .boolean, .boolean) ∧ (zz_tys dA)[3]? = some (dA .long, .long) ∧ (zz_tys dA)[4]? = some (dA zz_ev, zz_ev) := ⟨rfl, rfl, rfl, rfl, rfl⟩
theorem zz_iald {a n : Nat} {f : Nat → Int32} {i : Int32} (d : decode (zz_c y) pc = .ok (.iaload, 1)) (ha : hp_g h a = some (.inl (.int, n, .inl f))) (hi : vp_in i n) (kk : zz_W l dC dI dA B y (pc + 1) ls (.int (f i.toNatClampNeg) :: st) h r h') : zz_W l dC dI dA B y pc ls (.int i :: .ref a :: st) h r h' :=
  zz_reads (fun _ _ _ _ _ _ _ _ _ _ _ _ _ lsR _ hF hlv hR _ _ w => va_iald hF.1 hF.2.1 hF.2.2.2.2.2.2.2.2.1.1 (zz_P1 hR ha) 0 0 rfl (zz_ty_at dA).1 hi d (w lsR hlv)) kk
theorem zz_bald {a n : Nat} {f : Nat → Int32} {i : Int32} (d : decode (zz_c y) pc = .ok (.baload, 1)) (ha : hp_g h a = some (.inl (.byte, n, .inl f))) (hi : vp_in i n) (kk : zz_W l dC dI dA B y (pc + 1) ls (.int (f i.toNatClampNeg) :: st) h r h') : zz_W l dC dI dA B y pc ls (.int i :: .ref a :: st) h r h' :=
  zz_reads (fun _ _ _ _ _ _ _ _ _ _ _ _ _ lsR _ hF hlv hR _ _ w => va_bald hF.1 hF.2.1 hF.2.2.2.2.2.2.2.2.1.1 (zz_P1 hR ha) 0 1 rfl (zz_ty_at dA).2.1 hi d (w lsR hlv)) kk
theorem zz_zald {a n : Nat} {f : Nat → Int32} {i : Int32} (d : decode (zz_c y) pc = .ok (.baload, 1)) (ha : hp_g h a = some (.inl (.boolean, n, .inl f))) (hi : vp_in i n) (kk : zz_W l dC dI dA B y (pc + 1) ls (.int (f i.toNatClampNeg) :: st) h r h') : zz_W l dC dI dA B y pc ls (.int i :: .ref a :: st) h r h' :=
  zz_reads (fun _ _ _ _ _ _ _ _ _ _ _ _ _ lsR _ hF hlv hR _ _ w => va_zald hF.1 hF.2.1 hF.2.2.2.2.2.2.2.2.1.1 (zz_P1 hR ha) 0 2 rfl (zz_ty_at dA).2.2.1 hi d (w lsR hlv)) kk
theorem zz_lald {a n : Nat} {f : Nat → Int64} {i : Int32} (d : decode (zz_c y) pc = .ok (.laload, 1)) (ha : hp_g h a = some (.inl (.long, n, .inr (.inl f)))) (hi : vp_in i n) (kk : zz_W l dC dI dA B y (pc + 1) ls (.long (f i.toNatClampNeg) :: st) h r h') : zz_W l dC dI dA B y pc ls (.int i :: .ref a :: st) h r h' :=
  zz_reads (fun _ _ _ _ _ _ _ _ _ _ _ _ _ lsR _ hF hlv hR _ _ w => va_lald hF.1 hF.2.1 hF.2.2.2.2.2.2.2.2.1.1 (zz_P1 hR ha) 0 3 rfl (zz_ty_at dA).2.2.2.1 hi d (w lsR hlv)) kk
theorem zz_aald {a n : Nat} {f : Nat → Option Nat} {i : Int32} (d : decode (zz_c y) pc = .ok (.aaload, 1)) (ha : hp_g h a = some (.inl (zz_ev, n, .inr (.inr (.inr (.inr f)))))) (hi : vp_in i n) (kk : zz_W l dC dI dA B y (pc + 1) ls (va_rf (f i.toNatClampNeg) :: st) h r h') : zz_W l dC dI dA B y pc ls (.int i :: .ref a :: st) h r h' :=
  zz_reads (fun _ _ _ _ _ _ _ _ _ _ _ _ _ lsR _ hF hlv hR _ _ w => va_aldq hF.1 hF.2.1 hF.2.2.2.2.2.2.2.2.1.1 (zz_P1 hR ha) 0 4 rfl (zz_ty_at dA).2.2.2.2 hi d (w lsR hlv)) kk
/-- the script -/
theorem zz_xald {i : Int32} (d : decode (zz_c y) pc = .ok (.iaload, 1)) (hi : vp_in i h.2.2.2.2.1) (kk : zz_W l dC dI dA B y (pc + 1) ls (.int (h.2.2.2.2.2 i.toNatClampNeg) :: st) h r h') : zz_W l dC dI dA B y pc ls (.int i :: .ref h.2.2.2.1 :: st) h r h' := by
  refine zz_reads (fun _ _ _ _ _ _ _ _ _ H _ _ _ lsR _ hF hlv hR _ _ w => ?_) kk
  obtain ⟨scr, g1, g2, g3, g4, g5⟩ := hR.2.2.2.2.2
  have hlt : i.toNatClampNeg < h.2.2.2.2.1 := Nat.not_le.mp fun q => hi (Or.inr q)
  exact W.iald (v := .int (h.2.2.2.2.2 i.toNatClampNeg)) hF.1 hF.2.1 g1 g2 g3 (by rw [g4]; exact hi) (g5 _ hlt) rfl rfl d (w lsR hlv)
theorem zz_xlen (d : decode (zz_c y) pc = .ok (.arraylength, 1)) (kk : zz_W l dC dI dA B y (pc + 1) ls (.int (Int32.ofNat h.2.2.2.2.1) :: st) h r h') : zz_W l dC dI dA B y pc ls (.ref h.2.2.2.1 :: st) h r h' := by
  refine zz_reads (fun _ _ _ _ _ _ _ _ _ H _ _ _ lsR _ hF hlv hR _ _ w => ?_) kk
  obtain ⟨scr, g1, g2, g3, g4, g5⟩ := hR.2.2.2.2.2
  exact W.alen (n := Int32.ofNat h.2.2.2.2.1) hF.1 hF.2.1 g1 g2 (by rw [g4] <;> rfl) rfl rfl d (w lsR hlv)
theorem zz_alen {a n : Nat} {f : Nat → Int32} (d : decode (zz_c y) pc = .ok (.arraylength, 1)) (ha : hp_g h a = some (.inl (.int, n, .inl f))) (kk : zz_W l dC dI dA B y (pc + 1) ls (.int (Int32.ofNat n) :: st) h r h') : zz_W l dC dI dA B y pc ls (.ref a :: st) h r h' :=
  zz_reads (fun _ _ _ _ _ _ _ _ _ _ _ _ _ lsR _ hF hlv hR _ _ w => va_alen hF.1 hF.2.1 hF.2.2.2.2.2.2.2.2.1.1 (zz_P1 hR ha) 0 0 rfl (zz_ty_at dA).1 rfl d (w lsR hlv)) kk
/-- stores into arrays -/
theorem zz_iast {a n : Nat} {f : Nat → Int32} {i x : Int32} (d : decode (zz_c y) pc = .ok (.iastore, 1)) (ha : hp_g h a = some (.inl (.int, n, .inl f))) (hi : vp_in i n) (kk : zz_W l dC dI dA B y (pc + 1) ls st (hp_s h a (.inl (.int, n, .inl (upd f i.toNatClampNeg x)))) r h') : zz_W l dC dI dA B y pc ls (.int x :: .int i :: .ref a :: st) h r h' := by
  refine zz_writes (fun p e R s m args below meth c H locs cells slots lsR Q hF _ hR w => ?_) ha (fun _ _ hf => by cases hf) kk
  refine W.iast hF.1 hF.2.1 (zz_P1 hR ha 0 _ rfl) ((hF.2.2.2.2.2.2.2.2.1.1.2 0 _ (zz_ty_at dA).1).1 n (fun j => .int (f j))) (fun q => by cases q) (by show ¬ (i < 0 ∨ (arrV _ _ _).slots.size ≤ _); rw [arrV_size]; exact hi) rfl rfl d fun H1 e z oq => w H1 _ z oq ?_ (fun q hq => by rw [List.mem_singleton.mp hq])
  show H1[a]? = some (vp_cell _ _)
  rw [e]
  show some (Cell.setSlot (vp_cell _ _) _ _) = _
  rw [vp_cell_i, vp_cell_i, arrV_store]
  congr 2
  funext q
  by_cases hq : q = i.toNatClampNeg
  · subst hq
    simp [updV, upd]
  · simp [updV, upd, hq]
theorem zz_bast {a n : Nat} {f : Nat → Int32} {i x : Int32} (d : decode (zz_c y) pc = .ok (.bastore, 1)) (ha : hp_g h a = some (.inl (.byte, n, .inl f))) (hi : vp_in i n) (kk : zz_W l dC dI dA B y (pc + 1) ls st (hp_s h a (.inl (.byte, n, .inl (upd f i.toNatClampNeg x.toInt8.toInt32)))) r h') : zz_W l dC dI dA B y pc ls (.int x :: .int i :: .ref a :: st) h r h' := by
  refine zz_writes (fun p e R s m args below meth c H locs cells slots lsR Q hF _ hR w => ?_) ha (fun n' f' hf hall j => ?_) kk
  · refine W.bast hF.1 hF.2.1 (zz_P1 hR ha 0 _ rfl) ((hF.2.2.2.2.2.2.2.2.1.1.2 1 _ (zz_ty_at dA).2.1).1 n (fun j => .int (f j))) (fun q => by cases q) (by show ¬ (i < 0 ∨ (arrV _ _ _).slots.size ≤ _); rw [arrV_size]; exact hi) rfl rfl d fun H1 e z oq => w H1 _ z oq ?_ (fun q hq => by rw [List.mem_singleton.mp hq])
    show H1[a]? = some (vp_cell _ _)
    rw [e]
    show some (Cell.setSlot (vp_cell _ _) _ _) = _
    rw [vp_cell_i, vp_cell_i, arrV_store]
    congr 2
    funext q
    by_cases hq : q = i.toNatClampNeg
    · subst hq
      simp [updV, upd, narrow_byte]
    · simp [updV, upd, hq]
  · cases hf
    by_cases hj : j = i.toNatClampNeg
    · simp only [upd, hj, if_true]
      exact pk_fb x
    · simp only [upd, hj, if_false]
      exact hall a n f ha j
theorem zz_zast {a n : Nat} {f : Nat → Int32} {i x : Int32} (d : decode (zz_c y) pc = .ok (.bastore, 1)) (ha : hp_g h a = some (.inl (.boolean, n, .inl f))) (hi : vp_in i n) (hx : narrow .boolean (.int x) = .int x) (kk : zz_W l dC dI dA B y (pc + 1) ls st (hp_s h a (.inl (.boolean, n, .inl (upd f i.toNatClampNeg x)))) r h') : zz_W l dC dI dA B y pc ls (.int x :: .int i :: .ref a :: st) h r h' := by
  refine zz_writes (fun p e R s m args below meth c H locs cells slots lsR Q hF _ hR w => ?_) ha (fun _ _ hf => by cases hf) kk
  refine W.zast hF.1 hF.2.1 (zz_P1 hR ha 0 _ rfl) ((hF.2.2.2.2.2.2.2.2.1.1.2 2 _ (zz_ty_at dA).2.2.1).1 n (fun j => .int (f j))) (fun q => by cases q) (by show ¬ (i < 0 ∨ (arrV _ _ _).slots.size ≤ _); rw [arrV_size]; exact hi) rfl rfl d fun H1 e z oq => w H1 _ z oq ?_ (fun q hq => by rw [List.mem_singleton.mp hq])
  show H1[a]? = some (vp_cell _ _)
  rw [e, hx]
  show some (Cell.setSlot (vp_cell _ _) _ _) = _
  rw [vp_cell_i, vp_cell_i, arrV_store]
  congr 2
  funext q
  by_cases hq : q = i.toNatClampNeg
  · subst hq
    simp [updV, upd]
  · simp [updV, upd, hq]
theorem zz_last {a n : Nat} {f : Nat → Int64} {i : Int32} {x : Int64} (d : decode (zz_c y) pc = .ok (.lastore, 1)) (ha : hp_g h a = some (.inl (.long, n, .inr (.inl f)))) (hi : vp_in i n) (kk : zz_W l dC dI dA B y (pc + 1) ls st (hp_s h a (.inl (.long, n, .inr (.inl (vp_updL f i.toNatClampNeg x))))) r h') : zz_W l dC dI dA B y pc ls (.long x :: .int i :: .ref a :: st) h r h' := by
  refine zz_writes (fun p e R s m args below meth c H locs cells slots lsR Q hF _ hR w => ?_) ha (fun _ _ hf => by cases hf) kk
  refine W.last hF.1 hF.2.1 (zz_P1 hR ha 0 _ rfl) ((hF.2.2.2.2.2.2.2.2.1.1.2 3 _ (zz_ty_at dA).2.2.2.1).1 n (fun j => .long (f j))) (fun q => by cases q) (by show ¬ (i < 0 ∨ (arrV _ _ _).slots.size ≤ _); rw [arrV_size]; exact hi) rfl rfl d fun H1 e z oq => w H1 _ z oq ?_ (fun q hq => by rw [List.mem_singleton.mp hq])
  show H1[a]? = some (vp_cell _ _)
  rw [e]
  show some (Cell.setSlot (vp_cell _ _) _ _) = _
  rw [vp_cell_l, vp_cell_l, arrV_store]
  congr 2
  funext q
  by_cases hq : q = i.toNatClampNeg
  · subst hq
    simp [updV, vp_updL]
  · simp [updV, vp_updL, hq]
theorem zz_aast {a n v : Nat} {fs : List Value} {f : Nat → Option Nat} {i : Int32} (d : decode (zz_c y) pc = .ok (.aastore, 1)) (ha : hp_g h a = some (.inl (zz_ev, n, .inr (.inr (.inr (.inr f)))))) (hv : hp_g h v = some (.inr (1, fs))) (hi : vp_in i n) (kk : zz_W l dC dI dA B y (pc + 1) ls st (hp_s h a (.inl (zz_ev, n, .inr (.inr (.inr (.inr (va_up f i.toNatClampNeg (some v)))))))) r h') : zz_W l dC dI dA B y pc ls (.ref v :: .int i :: .ref a :: st) h r h' := by
  refine zz_writes (fun p e R s m args below meth c H locs cells slots lsR Q hF _ hR w => ?_) ha (fun _ _ hf => by cases hf) kk
  have hlt : i.toNatClampNeg < n := Nat.not_le.mp fun q => hi (Or.inr q)
  have h0 : ¬ i < 0 := fun q => hi (Or.inl q)
  obtain ⟨r', hr', cellV, g1, g2, g3, -⟩ := zz_P1 hR hv 0 _ rfl
  have hK := hF.2.2.2.2.2.2.2.2.1.1
  have hcls := (hK.1 1 _ rfl).2
  obtain ⟨kA, comp, k1, k2, k3, -⟩ := (hK.2 4 _ (zz_ty_at dA).2.2.2.2).2
  have hcomp : comp = dC 1 := Option.some.inj (k3.symm.trans hcls.1)
  subst hcomp
  have hcls2 := hcls
  obtain ⟨-, kC, hkC, -⟩ := hcls2
  refine W.aast hF.1 hF.2.1 (zz_P1 hR ha 0 _ rfl) (fun q h => by cases h) (fun h => by cases h) k1 k2 rfl hkC ⟨h0, by show _ < (arrV _ _ _).slots.size; rw [arrV_size]; exact hlt⟩ g1 (fun q h => by rw [g3] at h; cases h) (by rw [g2]; exact hkC) (by rw [g2]; exact va_assign hcls) rfl rfl d fun H1 e z oq => w H1 _ z oq ?_ (fun q hq => by rw [List.mem_singleton.mp hq])
  show H1[a]? = some (vp_cell _ _)
  rw [e]
  show some (Cell.setSlot (vp_cell _ _) _ _) = _
  rw [vp_cell_q, vp_cell_q, arrV_store]
  congr 2
  funext q
  by_cases hq : q = i.toNatClampNeg
  · subst hq
    simp [updV, va_up, va_rf]
  · simp [updV, va_up, hq]
end Heap
