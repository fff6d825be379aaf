/-! A LIGHT JUDGEMENT OVER 'W': zz_W y pc ls st h r h' says: from method y's pc with locals ls, stack st, heap h the method returns r and leaves the heap h'. -/
abbrev zz_E : Type := (FieldType × vp_A) ⊕ (Nat × List Value)
/-- a heap: how many cells, how many slots made, the cells, and the script (address, length, numbers), which nobody writes -/
abbrev zz_H : Type := Nat × Nat × (Nat → Option zz_E) × (Nat × Nat × (Nat → Int32))
abbrev zz_L : Type := List (Option Value)
def hp_g (h : zz_H) (a : Nat) : Option zz_E := h.2.2.1 a
def hp_s (h : zz_H) (a : Nat) (e : zz_E) : zz_H := (h.1, h.2.1, fun q => if q = a then some e else h.2.2.1 q, h.2.2.2)
def hp_n (h : zz_H) (k : Nat) (e : zz_E) : zz_H := (h.1 + 1, h.2.1 + k, fun q => if q = h.1 then some e else h.2.2.1 q, h.2.2.2)
def zz_toE (dA : FieldType → ClassId) : zz_E → va_E
  | .inl a => .inl (dA a.1, a.2)
  | .inr o => .inr o
def zz_ev : FieldType := .object "FacetSieve$Everything"
def zz_tys (dA : FieldType → ClassId) : List (ClassId × FieldType) := [(dA .int, .int), (dA .byte, .byte), (dA .boolean, .boolean), (dA .long, .long), (dA zz_ev, zz_ev)]
def zz_K (dC : Nat → ClassId) (dI : Nat → Nat → Nat) (dA : FieldType → ClassId) (s : State) : Prop := va_K (dC, dI) zz_cls (zz_tys dA) s ∧ (∀ w ∈ zz_nest, va_Nw w s) ∧ va_AO "FacetSieve$Everything" s
def zz_R (dC : Nat → ClassId) (dI : Nat → Nat → Nat) (dA : FieldType → ClassId) (B : Nat) (s : State) (h : zz_H) (H : Heap) : Prop :=
  H.size = h.1 ∧ B ≤ h.1 ∧ (∀ (a : Nat) (e : zz_E), hp_g h a = some e → B ≤ a ∧ va_at (dC, dI) zz_cls (a, zz_toE dA e) H) ∧
  (∀ (a n : Nat) (f : Nat → Int32), hp_g h a = some (.inl (.byte, n, .inl f)) → ∀ j, fits .byte (.int (f j)) = true) ∧ h.2.2.2.1 < B ∧ va_X h.2.2.2.1 h.2.2.2.2.1 h.2.2.2.2.2 s H
theorem zz_nest_moved {s t : State} (h : ∀ w ∈ zz_nest, va_Nw w s) (hW : s.WarmedH t.vm) : ∀ w ∈ zz_nest, va_Nw w t := by
  intro w hw
  have h1 := (List.mem_filter.mp hw).2
  cases w with
  | methodLinkNest a i x ho => exact va_Nw.warmM hW (h _ hw)
  | _ => simp [zz_isNest] at h1
theorem zz_K.moved {dC : Nat → ClassId} {dI : Nat → Nat → Nat} {dA : FieldType → ClassId} {s t : State} (h : zz_K dC dI dA s) (hW : s.WarmedH t.vm) : zz_K dC dI dA t := ⟨va_K.moved hW.alike h.1, zz_nest_moved h.2.1 hW, va_AO.moved hW.alike h.2.2⟩
theorem zz_K.same {dC : Nat → ClassId} {dI : Nat → Nat → Nat} {dA : FieldType → ClassId} {s t : State} (h : zz_K dC dI dA s) (hv : s.vm = t.vm) : zz_K dC dI dA t := by
  refine ⟨va_K.moved (by rw [← hv]; exact Vm.Alike.refl _) h.1, fun w hw => ?_, va_AO.moved (by rw [← hv]; exact Vm.Alike.refl _) h.2.2⟩
  have h1 := (List.mem_filter.mp hw).2
  have h2 := h.2.1 w hw
  cases w with
  | methodLinkNest a i x ho => exact va_Nw.same rfl hv h2
  | _ => simp [zz_isNest] at h1
theorem zz_R.moved {dC : Nat → ClassId} {dI : Nat → Nat → Nat} {dA : FieldType → ClassId} {B : Nat} {s t : State} {h : zz_H} {H : Heap} (hR : zz_R dC dI dA B s h H) (hvm : s.vm.Alike t.vm) : zz_R dC dI dA B t h H :=
  ⟨hR.1, hR.2.1, hR.2.2.1, hR.2.2.2.1, hR.2.2.2.2.1, hR.2.2.2.2.2.moved hvm⟩
theorem zz_R.set {dC : Nat → ClassId} {dI : Nat → Nat → Nat} {dA : FieldType → ClassId} {B : Nat} {s : State} {h : zz_H} {H H1 : Heap} {a : Nat} {e0 e : zz_E} (hR : zz_R dC dI dA B s h H) (ha : hp_g h a = some e0) (he : va_at (dC, dI) zz_cls (a, zz_toE dA e) H1)
    (hby : ∀ (n : Nat) (f : Nat → Int32), e = .inl (.byte, n, .inl f) → ∀ j, fits .byte (.int (f j)) = true) (z : H1.size = H.size) (oq : ∀ q : Nat, q ≠ a → H1[q]? = H[q]?) : zz_R dC dI dA B s (hp_s h a e) H1 := by
  obtain ⟨h1, h2, h3, h4, h5, h6⟩ := hR
  have hBa := (h3 a e0 ha).1
  refine ⟨z.trans h1, h2, fun q e' hq => ?_, fun q n f hq => ?_, h5, h6.kept (oq _ (by show h.2.2.2.1 ≠ a; omega))⟩
  · by_cases hqa : q = a
    · subst hqa
      simp [hp_g, hp_s] at hq
      subst hq
      exact ⟨hBa, he⟩
    · have hq' : hp_g h q = some e' := by simpa [hp_g, hp_s, hqa] using hq
      exact ⟨(h3 q e' hq').1, (h3 q e' hq').2.kept (oq q hqa)⟩
  · by_cases hqa : q = a
    · subst hqa
      simp [hp_g, hp_s] at hq
      exact hby n f hq
    · have hq' : hp_g h q = some (.inl (.byte, n, .inl f)) := by simpa [hp_g, hp_s, hqa] using hq
      exact h4 q n f hq'
theorem zz_R.new {dC : Nat → ClassId} {dI : Nat → Nat → Nat} {dA : FieldType → ClassId} {B : Nat} {s : State} {h : zz_H} {H H1 : Heap} {k : Nat} {e : zz_E} (hR : zz_R dC dI dA B s h H) (he : va_at (dC, dI) zz_cls (H.size, zz_toE dA e) H1)
    (hby : ∀ (n : Nat) (f : Nat → Int32), e = .inl (.byte, n, .inl f) → ∀ j, fits .byte (.int (f j)) = true) (z : H1.size = H.size + 1) (oq : ∀ q : Nat, q < H.size → H1[q]? = H[q]?) : zz_R dC dI dA B s (hp_n h k e) H1 := by
  obtain ⟨h1, h2, h3, h4, h5, h6⟩ := hR
  refine ⟨by rw [z, h1]; rfl, Nat.le_succ_of_le h2, fun q e' hq => ?_, fun q n f hq => ?_, h5, h6.kept (oq _ (by show h.2.2.2.1 < _; omega))⟩
  · by_cases hqa : q = h.1
    · subst hqa
      simp [hp_g, hp_n] at hq
      subst hq
      exact ⟨h2, by rw [← h1]; exact he⟩
    · have hq' : hp_g h q = some e' := by simpa [hp_g, hp_n, hqa] using hq
      have hv := (h3 q e' hq').2
      exact ⟨(h3 q e' hq').1, hv.kept (oq q hv.lt)⟩
  · by_cases hqa : q = h.1
    · subst hqa
      simp [hp_g, hp_n] at hq
      exact hby n f hq
    · have hq' : hp_g h q = some (.inl (.byte, n, .inl f)) := by simpa [hp_g, hp_n, hqa] using hq
      exact h4 q n f hq'
/-- the locals as a list of places -/
def zz_as (ls : zz_L) : List (Nat × Value) := (List.range ls.length).filterMap (fun i => match ls[i]? with
  | some (some v) => some (i, v)
  | _ => none)
theorem zz_as_mem {ls : zz_L} {i : Nat} {v : Value} : (i, v) ∈ zz_as ls ↔ ls[i]? = some (some v) := by
  unfold zz_as
  rw [List.mem_filterMap]
  constructor
  · rintro ⟨j, hj, h⟩
    split at h
    · rename_i w hw
      cases h
      exact hw
    · cases h
  · intro h
    have hl : i < ls.length := (List.getElem?_eq_some_iff.mp h).1
    exact ⟨i, List.mem_range.mpr hl, by rw [h]⟩
theorem zz_at {lsR : Array Slot} {n : Nat} {ls : zz_L} (h : lv_has lsR n (zz_as ls)) {i : Nat} {v : Value} (hi : ls[i]? = some (some v)) : lsR[i]? = some (.val v) := h.2.2 (i, v) (zz_as_mem.mpr hi)
theorem zz_fewer {lsR : Array Slot} {n : Nat} {l l' : List (Nat × Value)} (h : lv_has lsR n l) (hs : ∀ q ∈ l', q ∈ l) : lv_has lsR n l' := ⟨h.1, h.2.1, fun q hq => h.2.2 q (hs q hq)⟩
/-- is there a long at the place ahead? -/
def zz_pl (ls : zz_L) (i : Nat) : Bool := match i with
  | 0 => false
  | j + 1 => match ls[j]? with
    | some (some (.long _)) => true
    | some (some (.double _)) => true
    | _ => false
/-- a store of one word, of two -/
def zz_s1 (ls : zz_L) (i : Nat) (v : Value) : zz_L := if zz_pl ls i then (ls.set i (some v)).set (i - 1) none else ls.set i (some v)
def zz_s2 (ls : zz_L) (i : Nat) (v : Value) : zz_L := (if zz_pl ls i then (ls.set i (some v)).set (i - 1) none else ls.set i (some v)).set (i + 1) none
theorem zz_pl_of {ls : zz_L} {j : Nat} {w : Value} (h : ls[j]? = some (some w)) (hc : w.category = 2) : zz_pl ls (j + 1) = true := by
  unfold zz_pl
  simp only [h]
  cases w <;> first | rfl | simp [Value.category] at hc
theorem zz_s1_len (ls : zz_L) (i : Nat) (v : Value) : (zz_s1 ls i v).length = ls.length := by unfold zz_s1; split <;> simp
theorem zz_s2_len (ls : zz_L) (i : Nat) (v : Value) : (zz_s2 ls i v).length = ls.length := by unfold zz_s2; split <;> simp
theorem zz_s1_mem {ls : zz_L} {i : Nat} {v : Value} : ∀ q ∈ zz_as (zz_s1 ls i v), q ∈ (i, v) :: (zz_as ls).filter (fun q => !(q.1 == i) && !(q.1 + 1 == i && q.2.category == 2)) := by
  rintro ⟨j, w⟩ hq
  have hq := zz_as_mem.mp hq
  by_cases hj : j = i
  · subst hj
    have hi : j < ls.length := by
      have := (List.getElem?_eq_some_iff.mp hq).1
      rwa [zz_s1_len] at this
    have : w = v := by
      unfold zz_s1 at hq
      split at hq
      · rename_i hp
        rw [List.getElem?_set] at hq
        by_cases h2 : j - 1 = j
        · have : j = 0 := by omega
          subst this
          simp [zz_pl] at hp
        · rw [if_neg h2, List.getElem?_set_self hi] at hq
          simpa using hq.symm
      · rw [List.getElem?_set_self hi] at hq
        simpa using hq.symm
    subst this
    exact List.mem_cons_self
  · refine List.mem_cons_of_mem _ (List.mem_filter.mpr ?_)
    have hold : ls[j]? = some (some w) ∧ ¬ (j + 1 = i ∧ w.category = 2) := by
      unfold zz_s1 at hq
      split at hq
      · rename_i hp
        rw [List.getElem?_set] at hq
        split at hq
        · rename_i h2
          split at hq <;> simp at hq
        · rename_i h2
          rw [List.getElem?_set_ne (Ne.symm hj)] at hq
          exact ⟨hq, fun hh => h2 (by omega)⟩
      · rename_i hp
        rw [List.getElem?_set_ne (Ne.symm hj)] at hq
        refine ⟨hq, fun hh => hp ?_⟩
        rw [← hh.1]
        exact zz_pl_of hq hh.2
    refine ⟨zz_as_mem.mpr hold.1, ?_⟩
    simp only [Bool.and_eq_true, Bool.not_eq_true', beq_eq_false_iff_ne, ne_eq, Bool.and_eq_false_iff]
    refine ⟨hj, ?_⟩
    by_cases h1 : j + 1 = i
    · exact Or.inr (fun h2 => hold.2 ⟨h1, h2⟩)
    · exact Or.inl h1
theorem zz_s2_mem {ls : zz_L} {i : Nat} {v : Value} : ∀ q ∈ zz_as (zz_s2 ls i v), q ∈ (i, v) :: (zz_as ls).filter (fun q => !(q.1 == i) && (!(q.1 == i + 1) && !(q.1 + 1 == i && q.2.category == 2))) := by
  rintro ⟨j, w⟩ hq
  have hq := zz_as_mem.mp hq
  have hq2 : (zz_s1 ls i v)[j]? = some (some w) ∧ j ≠ i + 1 := by
    have e : zz_s2 ls i v = (zz_s1 ls i v).set (i + 1) none := rfl
    rw [e, List.getElem?_set] at hq
    split at hq
    · split at hq <;> simp at hq
    · rename_i h2
      exact ⟨hq, fun hh => h2 hh.symm⟩
  rcases List.mem_cons.mp (zz_s1_mem (j, w) (zz_as_mem.mpr hq2.1)) with h | h
  · rw [h]; exact List.mem_cons_self
  · obtain ⟨h1, h2⟩ := List.mem_filter.mp h
    refine List.mem_cons_of_mem _ (List.mem_filter.mpr ⟨h1, ?_⟩)
    simp only [Bool.and_eq_true, Bool.not_eq_true', beq_eq_false_iff_ne, ne_eq] at h2 ⊢
    exact ⟨h2.1, hq2.2, h2.2⟩
/-- the locals at a method's entry -/
def zz_en (vs : List Value) : zz_L := vs.flatMap fun v => if v.category = 2 then [some v, none] else [some v]
theorem zz_en_len (vs : List Value) : (zz_en vs).length = (lg_sl vs).length := by
  induction vs with
  | nil => rfl
  | cons v vs ih =>
    simp only [zz_en, lg_sl, List.flatMap_cons, List.length_append] at ih ⊢
    rw [ih]
    split <;> rfl
theorem zz_en_mem : ∀ (vs : List Value) (i0 j : Nat) (w : Value), (zz_en vs)[j]? = some (some w) → (i0 + j, w) ∈ lv_args i0 vs := by
  intro vs
  induction vs with
  | nil => intro i0 j w h; simp [zz_en] at h
  | cons v vs ih =>
    intro i0 j w h
    have e : zz_en (v :: vs) = (if v.category = 2 then [some v, none] else [some v]) ++ zz_en vs := rfl
    rw [e] at h
    unfold lv_args
    by_cases hc : v.category = 2
    · rw [if_pos hc] at h
      rw [if_pos hc]
      match j, h with
      | 0, h => simp at h; subst h; exact List.mem_cons_self
      | 1, h => simp at h
      | j + 2, h =>
        have h2 := ih (i0 + 2) j w (by simpa using h)
        rw [show i0 + (j + 2) = i0 + 2 + j by omega]
        exact List.mem_cons_of_mem _ h2
    · rw [if_neg hc] at h
      rw [if_neg hc]
      match j, h with
      | 0, h => simp at h; subst h; exact List.mem_cons_self
      | j + 1, h =>
        have h2 := ih (i0 + 1) j w (by simpa using h)
        rw [show i0 + (j + 1) = i0 + 1 + j by omega]
        exact List.mem_cons_of_mem _ h2
/-- the locals at the entry, n places in all -/
def zz_e0 (vs : List Value) (n : Nat) : zz_L := zz_en vs ++ List.replicate (n - (zz_en vs).length) none
theorem zz_e0_mem (vs : List Value) (n : Nat) : ∀ q ∈ zz_as (zz_e0 vs n), q ∈ lv_args 0 vs := by
  rintro ⟨j, w⟩ hq
  have hq := zz_as_mem.mp hq
  unfold zz_e0 at hq
  by_cases hl : j < (zz_en vs).length
  · rw [List.getElem?_append_left hl] at hq
    have h := zz_en_mem vs 0 j w hq
    rwa [Nat.zero_add] at h
  · rw [List.getElem?_append_right (by omega), List.getElem?_replicate] at hq
    split at hq <;> simp at hq
