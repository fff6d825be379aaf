/-! 8 FacetSieve$Choice.<init>()V -/
theorem d8_0 : decode (zz_c 8) 0 = .ok (.aload_n 0, 1) := by decide +kernel
theorem d8_1 : decode (zz_c 8) 1 = .ok (.invokespecial 3, 3) := by decide +kernel
theorem d8_4 : decode (zz_c 8) 4 = .ok (.aload_n 0, 1) := by decide +kernel
theorem d8_5 : decode (zz_c 8) 5 = .ok (.bipush 20, 2) := by decide +kernel
theorem d8_7 : decode (zz_c 8) 7 = .ok (.newarray .int, 2) := by decide +kernel
theorem d8_9 : decode (zz_c 8) 9 = .ok (.putfield 9, 3) := by decide +kernel
theorem d8_12 : decode (zz_c 8) 12 = .ok (.aload_n 0, 1) := by decide +kernel
theorem d8_13 : decode (zz_c 8) 13 = .ok (.iconst 4, 1) := by decide +kernel
theorem d8_14 : decode (zz_c 8) 14 = .ok (.newarray .int, 2) := by decide +kernel
theorem d8_16 : decode (zz_c 8) 16 = .ok (.putfield 15, 3) := by decide +kernel
theorem d8_19 : decode (zz_c 8) 19 = .ok (.return_, 1) := by decide +kernel
theorem x8 : (∀ x st h, zz_Y 8 (0, [some (.ref x)], st, h) = zz_Y 8 (1, [some (.ref x)], .ref x :: st, h)) ∧ (∀ ls a h, zz_Y 8 (1, ls, [.ref a], h) = zz_Y 8 (4, ls, [], h)) ∧ (∀ x st h, zz_Y 8 (4, [some (.ref x)], st, h) = zz_Y 8 (5, [some (.ref x)], .ref x :: st, h)) ∧ (∀ ls st h, zz_Y 8 (5, ls, st, h) = zz_Y 8 (7, ls, .int (nI 20) :: st, h)) ∧ (∀ ls n st h, zz_Y 8 (7, ls, .int n :: st, h) = mo_na .int (fun n => (n, .inl (fun _ => 0))) n 8 9 ls st h) ∧ (∀ ls a v st h, zz_Y 8 (9, ls, v :: .ref a :: st, h) = mo_pf (hp_g h a) 0 0 (.array .int) v a 8 12 ls st h) ∧ (∀ x st h, zz_Y 8 (12, [some (.ref x)], st, h) = zz_Y 8 (13, [some (.ref x)], .ref x :: st, h)) ∧ (∀ ls st h, zz_Y 8 (13, ls, st, h) = zz_Y 8 (14, ls, .int (nI 4) :: st, h)) ∧ (∀ ls n st h, zz_Y 8 (14, ls, .int n :: st, h) = mo_na .int (fun n => (n, .inl (fun _ => 0))) n 8 16 ls st h) ∧ (∀ ls a v st h, zz_Y 8 (16, ls, v :: .ref a :: st, h) = mo_pf (hp_g h a) 0 1 (.array .int) v a 8 19 ls st h) ∧ (∀ ls h, zz_Y 8 (19, ls, [], h) = some (none, h)) :=
  ⟨fun _ _ _ => xl_aln d8_0 rfl,
   fun _ _ _ => xl_oi d8_1 xco8 xm_0_3 (by decide +kernel) (by decide +kernel) rfl,
   fun _ _ _ => xl_aln d8_4 rfl,
   fun _ _ _ => xl_bi d8_5 (by decide +kernel),
   fun _ _ _ _ => xl_nai d8_7,
   fun _ _ _ _ _ => xl_pf d8_9 xco8 xf_0_9 (by decide +kernel) rfl,
   fun _ _ _ => xl_aln d8_12 rfl,
   fun _ _ _ => xl_ic d8_13 (by decide +kernel),
   fun _ _ _ _ => xl_nai d8_14,
   fun _ _ _ _ _ => xl_pf d8_16 xco8 xf_0_15 (by decide +kernel) rfl,
   fun _ _ => xl_r d8_19 xrt8⟩
/-! 9 FacetSieve$Journal.<init>()V -/
theorem d9_0 : decode (zz_c 9) 0 = .ok (.aload_n 0, 1) := by decide +kernel
theorem d9_1 : decode (zz_c 9) 1 = .ok (.invokespecial 1, 3) := by decide +kernel
theorem d9_4 : decode (zz_c 9) 4 = .ok (.aload_n 0, 1) := by decide +kernel
theorem d9_5 : decode (zz_c 9) 5 = .ok (.bipush 10, 2) := by decide +kernel
theorem d9_7 : decode (zz_c 9) 7 = .ok (.newarray .int, 2) := by decide +kernel
theorem d9_9 : decode (zz_c 9) 9 = .ok (.putfield 9, 3) := by decide +kernel
theorem d9_12 : decode (zz_c 9) 12 = .ok (.aload_n 0, 1) := by decide +kernel
theorem d9_13 : decode (zz_c 9) 13 = .ok (.bipush 10, 2) := by decide +kernel
theorem d9_15 : decode (zz_c 9) 15 = .ok (.newarray .int, 2) := by decide +kernel
theorem d9_17 : decode (zz_c 9) 17 = .ok (.putfield 13, 3) := by decide +kernel
theorem d9_20 : decode (zz_c 9) 20 = .ok (.aload_n 0, 1) := by decide +kernel
theorem d9_21 : decode (zz_c 9) 21 = .ok (.bipush 10, 2) := by decide +kernel
theorem d9_23 : decode (zz_c 9) 23 = .ok (.newarray .int, 2) := by decide +kernel
theorem d9_25 : decode (zz_c 9) 25 = .ok (.putfield 16, 3) := by decide +kernel
theorem d9_28 : decode (zz_c 9) 28 = .ok (.aload_n 0, 1) := by decide +kernel
theorem d9_29 : decode (zz_c 9) 29 = .ok (.bipush 10, 2) := by decide +kernel
theorem d9_31 : decode (zz_c 9) 31 = .ok (.newarray .int, 2) := by decide +kernel
theorem d9_33 : decode (zz_c 9) 33 = .ok (.putfield 19, 3) := by decide +kernel
theorem d9_36 : decode (zz_c 9) 36 = .ok (.return_, 1) := by decide +kernel
theorem x9 : (∀ x st h, zz_Y 9 (0, [some (.ref x)], st, h) = zz_Y 9 (1, [some (.ref x)], .ref x :: st, h)) ∧ (∀ ls a h, zz_Y 9 (1, ls, [.ref a], h) = zz_Y 9 (4, ls, [], h)) ∧ (∀ x st h, zz_Y 9 (4, [some (.ref x)], st, h) = zz_Y 9 (5, [some (.ref x)], .ref x :: st, h)) ∧ (∀ ls st h, zz_Y 9 (5, ls, st, h) = zz_Y 9 (7, ls, .int (nI 10) :: st, h)) ∧ (∀ ls n st h, zz_Y 9 (7, ls, .int n :: st, h) = mo_na .int (fun n => (n, .inl (fun _ => 0))) n 9 9 ls st h) ∧ (∀ ls a v st h, zz_Y 9 (9, ls, v :: .ref a :: st, h) = mo_pf (hp_g h a) 2 0 (.array .int) v a 9 12 ls st h) ∧ (∀ x st h, zz_Y 9 (12, [some (.ref x)], st, h) = zz_Y 9 (13, [some (.ref x)], .ref x :: st, h)) ∧ (∀ ls st h, zz_Y 9 (13, ls, st, h) = zz_Y 9 (15, ls, .int (nI 10) :: st, h)) ∧ (∀ ls n st h, zz_Y 9 (15, ls, .int n :: st, h) = mo_na .int (fun n => (n, .inl (fun _ => 0))) n 9 17 ls st h) ∧ (∀ ls a v st h, zz_Y 9 (17, ls, v :: .ref a :: st, h) = mo_pf (hp_g h a) 2 1 (.array .int) v a 9 20 ls st h) ∧ (∀ x st h, zz_Y 9 (20, [some (.ref x)], st, h) = zz_Y 9 (21, [some (.ref x)], .ref x :: st, h)) ∧ (∀ ls st h, zz_Y 9 (21, ls, st, h) = zz_Y 9 (23, ls, .int (nI 10) :: st, h)) ∧ (∀ ls n st h, zz_Y 9 (23, ls, .int n :: st, h) = mo_na .int (fun n => (n, .inl (fun _ => 0))) n 9 25 ls st h) ∧ (∀ ls a v st h, zz_Y 9 (25, ls, v :: .ref a :: st, h) = mo_pf (hp_g h a) 2 2 (.array .int) v a 9 28 ls st h) ∧ (∀ x st h, zz_Y 9 (28, [some (.ref x)], st, h) = zz_Y 9 (29, [some (.ref x)], .ref x :: st, h)) ∧ (∀ ls st h, zz_Y 9 (29, ls, st, h) = zz_Y 9 (31, ls, .int (nI 10) :: st, h)) ∧ (∀ ls n st h, zz_Y 9 (31, ls, .int n :: st, h) = mo_na .int (fun n => (n, .inl (fun _ => 0))) n 9 33 ls st h) ∧ (∀ ls a v st h, zz_Y 9 (33, ls, v :: .ref a :: st, h) = mo_pf (hp_g h a) 2 3 (.array .int) v a 9 36 ls st h) ∧ (∀ ls h, zz_Y 9 (36, ls, [], h) = some (none, h)) :=
  ⟨fun _ _ _ => xl_aln d9_0 rfl,
   fun _ _ _ => xl_oi d9_1 xco9 xm_2_1 (by decide +kernel) (by decide +kernel) rfl,
   fun _ _ _ => xl_aln d9_4 rfl,
   fun _ _ _ => xl_bi d9_5 (by decide +kernel),
   fun _ _ _ _ => xl_nai d9_7,
   fun _ _ _ _ _ => xl_pf d9_9 xco9 xf_2_9 (by decide +kernel) rfl,
   fun _ _ _ => xl_aln d9_12 rfl,
   fun _ _ _ => xl_bi d9_13 (by decide +kernel),
   fun _ _ _ _ => xl_nai d9_15,
   fun _ _ _ _ _ => xl_pf d9_17 xco9 xf_2_13 (by decide +kernel) rfl,
   fun _ _ _ => xl_aln d9_20 rfl,
   fun _ _ _ => xl_bi d9_21 (by decide +kernel),
   fun _ _ _ _ => xl_nai d9_23,
   fun _ _ _ _ _ => xl_pf d9_25 xco9 xf_2_16 (by decide +kernel) rfl,
   fun _ _ _ => xl_aln d9_28 rfl,
   fun _ _ _ => xl_bi d9_29 (by decide +kernel),
   fun _ _ _ _ => xl_nai d9_31,
   fun _ _ _ _ _ => xl_pf d9_33 xco9 xf_2_19 (by decide +kernel) rfl,
   fun _ _ => xl_r d9_36 xrt9⟩
/-! 10 FacetSieve$Tokens.<init>()V -/
theorem d10_0 : decode (zz_c 10) 0 = .ok (.aload_n 0, 1) := by decide +kernel
theorem d10_1 : decode (zz_c 10) 1 = .ok (.invokespecial 3, 3) := by decide +kernel
theorem d10_4 : decode (zz_c 10) 4 = .ok (.aload_n 0, 1) := by decide +kernel
theorem d10_5 : decode (zz_c 10) 5 = .ok (.new 9, 3) := by decide +kernel
theorem d10_8 : decode (zz_c 10) 8 = .ok (.dup, 1) := by decide +kernel
theorem d10_9 : decode (zz_c 10) 9 = .ok (.invokespecial 11, 3) := by decide +kernel
theorem d10_12 : decode (zz_c 10) 12 = .ok (.putfield 12, 3) := by decide +kernel
theorem d10_15 : decode (zz_c 10) 15 = .ok (.return_, 1) := by decide +kernel
theorem x10 : (∀ x st h, zz_Y 10 (0, [some (.ref x)], st, h) = zz_Y 10 (1, [some (.ref x)], .ref x :: st, h)) ∧ (∀ ls a h, zz_Y 10 (1, ls, [.ref a], h) = zz_Y 10 (4, ls, [], h)) ∧ (∀ x st h, zz_Y 10 (4, [some (.ref x)], st, h) = zz_Y 10 (5, [some (.ref x)], .ref x :: st, h)) ∧ (∀ ls st h, zz_Y 10 (5, ls, st, h) = zz_Y 10 (8, ls, .ref h.1 :: st, hp_n h 2 (.inr (8, [.null, .int 0])))) ∧ (∀ ls a st h, zz_Y 10 (8, ls, .ref a :: st, h) = zz_Y 10 (9, ls, .ref a :: .ref a :: st, h)) ∧ (∀ ls a0 s0 s1 h, zz_Y 10 (9, ls, [a0, s0, s1], h) = mo_k 10 12 ls [s0, s1] (zz_run 3 [a0] h)) ∧ (∀ ls a v st h, zz_Y 10 (12, ls, v :: .ref a :: st, h) = mo_pf (hp_g h a) 9 0 (.object "FacetSieve$Tape") v a 10 15 ls st h) ∧ (∀ ls h, zz_Y 10 (15, ls, [], h) = some (none, h)) :=
  ⟨fun _ _ _ => xl_aln d10_0 rfl,
   fun _ _ _ => xl_oi d10_1 xco10 xm_9_3 (by decide +kernel) (by decide +kernel) rfl,
   fun _ _ _ => xl_aln d10_4 rfl,
   fun _ _ _ => xl_new d10_5 xco10 (by decide +kernel) rfl rfl (by decide +kernel),
   fun _ _ _ _ => xl_dupr d10_8,
   fun ls a0 s0 s1 h => xl_cin (As := [a0]) (st := [s0, s1]) d10_9 xco10 xm_9_11 (congrArg Nat.succ xnp3) (by decide +kernel) rfl,
   fun _ _ _ _ _ => xl_pf d10_12 xco10 xf_9_12 (by decide +kernel) rfl,
   fun _ _ => xl_r d10_15 xrt10⟩
/-! 11 FacetSieve$SchemeReader.<init>()V -/
theorem d11_0 : decode (zz_c 11) 0 = .ok (.aload_n 0, 1) := by decide +kernel
theorem d11_1 : decode (zz_c 11) 1 = .ok (.invokespecial 3, 3) := by decide +kernel
theorem d11_4 : decode (zz_c 11) 4 = .ok (.aload_n 0, 1) := by decide +kernel
theorem d11_5 : decode (zz_c 11) 5 = .ok (.new 9, 3) := by decide +kernel
theorem d11_8 : decode (zz_c 11) 8 = .ok (.dup, 1) := by decide +kernel
theorem d11_9 : decode (zz_c 11) 9 = .ok (.invokespecial 11, 3) := by decide +kernel
theorem d11_12 : decode (zz_c 11) 12 = .ok (.putfield 12, 3) := by decide +kernel
theorem d11_15 : decode (zz_c 11) 15 = .ok (.aload_n 0, 1) := by decide +kernel
theorem d11_16 : decode (zz_c 11) 16 = .ok (.new 18, 3) := by decide +kernel
theorem d11_19 : decode (zz_c 11) 19 = .ok (.dup, 1) := by decide +kernel
theorem d11_20 : decode (zz_c 11) 20 = .ok (.invokespecial 20, 3) := by decide +kernel
theorem d11_23 : decode (zz_c 11) 23 = .ok (.putfield 21, 3) := by decide +kernel
theorem d11_26 : decode (zz_c 11) 26 = .ok (.return_, 1) := by decide +kernel
theorem x11 : (∀ x st h, zz_Y 11 (0, [some (.ref x)], st, h) = zz_Y 11 (1, [some (.ref x)], .ref x :: st, h)) ∧ (∀ ls a h, zz_Y 11 (1, ls, [.ref a], h) = zz_Y 11 (4, ls, [], h)) ∧ (∀ x st h, zz_Y 11 (4, [some (.ref x)], st, h) = zz_Y 11 (5, [some (.ref x)], .ref x :: st, h)) ∧ (∀ ls st h, zz_Y 11 (5, ls, st, h) = zz_Y 11 (8, ls, .ref h.1 :: st, hp_n h 8 (.inr (9, [.null, .int 0, .int 0, .int 0, .int 0, .long 0, .int 0, .int 0])))) ∧ (∀ ls a st h, zz_Y 11 (8, ls, .ref a :: st, h) = zz_Y 11 (9, ls, .ref a :: .ref a :: st, h)) ∧ (∀ ls a0 s0 s1 h, zz_Y 11 (9, ls, [a0, s0, s1], h) = mo_k 11 12 ls [s0, s1] (zz_run 10 [a0] h)) ∧ (∀ ls a v st h, zz_Y 11 (12, ls, v :: .ref a :: st, h) = mo_pf (hp_g h a) 5 0 (.object "FacetSieve$Tokens") v a 11 15 ls st h) ∧ (∀ x st h, zz_Y 11 (15, [some (.ref x)], st, h) = zz_Y 11 (16, [some (.ref x)], .ref x :: st, h)) ∧ (∀ ls st h, zz_Y 11 (16, ls, st, h) = zz_Y 11 (19, ls, .ref h.1 :: st, hp_n h 4 (.inr (7, [.null, .null, .null, .null])))) ∧ (∀ ls a st h, zz_Y 11 (19, ls, .ref a :: st, h) = zz_Y 11 (20, ls, .ref a :: .ref a :: st, h)) ∧ (∀ ls a0 s0 s1 h, zz_Y 11 (20, ls, [a0, s0, s1], h) = mo_k 11 23 ls [s0, s1] (zz_run 4 [a0] h)) ∧ (∀ ls a v st h, zz_Y 11 (23, ls, v :: .ref a :: st, h) = mo_pf (hp_g h a) 5 1 (.object "FacetSieve$Stock") v a 11 26 ls st h) ∧ (∀ ls h, zz_Y 11 (26, ls, [], h) = some (none, h)) :=
  ⟨fun _ _ _ => xl_aln d11_0 rfl,
   fun _ _ _ => xl_oi d11_1 xco11 xm_5_3 (by decide +kernel) (by decide +kernel) rfl,
   fun _ _ _ => xl_aln d11_4 rfl,
   fun _ _ _ => xl_new d11_5 xco11 (by decide +kernel) rfl rfl (by decide +kernel),
   fun _ _ _ _ => xl_dupr d11_8,
   fun ls a0 s0 s1 h => xl_cin (As := [a0]) (st := [s0, s1]) d11_9 xco11 xm_5_11 (congrArg Nat.succ xnp10) (by decide +kernel) rfl,
   fun _ _ _ _ _ => xl_pf d11_12 xco11 xf_5_12 (by decide +kernel) rfl,
   fun _ _ _ => xl_aln d11_15 rfl,
   fun _ _ _ => xl_new d11_16 xco11 (by decide +kernel) rfl rfl (by decide +kernel),
   fun _ _ _ _ => xl_dupr d11_19,
   fun ls a0 s0 s1 h => xl_ci (As := [a0]) (st := [s0, s1]) d11_20 xco11 xm_5_20 (congrArg Nat.succ xnp4) (by decide +kernel) rfl,
   fun _ _ _ _ _ => xl_pf d11_23 xco11 xf_5_21 (by decide +kernel) rfl,
   fun _ _ => xl_r d11_26 xrt11⟩
/-! 12 FacetSieve$QuestionReader.<init>()V -/
theorem d12_0 : decode (zz_c 12) 0 = .ok (.aload_n 0, 1) := by decide +kernel
theorem d12_1 : decode (zz_c 12) 1 = .ok (.invokespecial 5, 3) := by decide +kernel
theorem d12_4 : decode (zz_c 12) 4 = .ok (.aload_n 0, 1) := by decide +kernel
theorem d12_5 : decode (zz_c 12) 5 = .ok (.new 11, 3) := by decide +kernel
theorem d12_8 : decode (zz_c 12) 8 = .ok (.dup, 1) := by decide +kernel
theorem d12_9 : decode (zz_c 12) 9 = .ok (.invokespecial 13, 3) := by decide +kernel
theorem d12_12 : decode (zz_c 12) 12 = .ok (.putfield 14, 3) := by decide +kernel
theorem d12_15 : decode (zz_c 12) 15 = .ok (.aload_n 0, 1) := by decide +kernel
theorem d12_16 : decode (zz_c 12) 16 = .ok (.new 18, 3) := by decide +kernel
theorem d12_19 : decode (zz_c 12) 19 = .ok (.dup, 1) := by decide +kernel
theorem d12_20 : decode (zz_c 12) 20 = .ok (.bipush 15, 2) := by decide +kernel
theorem d12_22 : decode (zz_c 12) 22 = .ok (.invokespecial 20, 3) := by decide +kernel
theorem d12_25 : decode (zz_c 12) 25 = .ok (.putfield 23, 3) := by decide +kernel
theorem d12_28 : decode (zz_c 12) 28 = .ok (.aload_n 0, 1) := by decide +kernel
theorem d12_29 : decode (zz_c 12) 29 = .ok (.bipush 7, 2) := by decide +kernel
theorem d12_31 : decode (zz_c 12) 31 = .ok (.newarray .int, 2) := by decide +kernel
theorem d12_33 : decode (zz_c 12) 33 = .ok (.putfield 27, 3) := by decide +kernel
theorem d12_36 : decode (zz_c 12) 36 = .ok (.aload_n 0, 1) := by decide +kernel
theorem d12_37 : decode (zz_c 12) 37 = .ok (.bipush 7, 2) := by decide +kernel
theorem d12_39 : decode (zz_c 12) 39 = .ok (.newarray .int, 2) := by decide +kernel
theorem d12_41 : decode (zz_c 12) 41 = .ok (.putfield 31, 3) := by decide +kernel
theorem d12_44 : decode (zz_c 12) 44 = .ok (.return_, 1) := by decide +kernel
theorem x12 : (∀ x st h, zz_Y 12 (0, [some (.ref x)], st, h) = zz_Y 12 (1, [some (.ref x)], .ref x :: st, h)) ∧ (∀ ls a h, zz_Y 12 (1, ls, [.ref a], h) = zz_Y 12 (4, ls, [], h)) ∧ (∀ x st h, zz_Y 12 (4, [some (.ref x)], st, h) = zz_Y 12 (5, [some (.ref x)], .ref x :: st, h)) ∧ (∀ ls st h, zz_Y 12 (5, ls, st, h) = zz_Y 12 (8, ls, .ref h.1 :: st, hp_n h 8 (.inr (9, [.null, .int 0, .int 0, .int 0, .int 0, .long 0, .int 0, .int 0])))) ∧ (∀ ls a st h, zz_Y 12 (8, ls, .ref a :: st, h) = zz_Y 12 (9, ls, .ref a :: .ref a :: st, h)) ∧ (∀ ls a0 s0 s1 h, zz_Y 12 (9, ls, [a0, s0, s1], h) = mo_k 12 12 ls [s0, s1] (zz_run 10 [a0] h)) ∧ (∀ ls a v st h, zz_Y 12 (12, ls, v :: .ref a :: st, h) = mo_pf (hp_g h a) 4 0 (.object "FacetSieve$Tokens") v a 12 15 ls st h) ∧ (∀ x st h, zz_Y 12 (15, [some (.ref x)], st, h) = zz_Y 12 (16, [some (.ref x)], .ref x :: st, h)) ∧ (∀ ls st h, zz_Y 12 (16, ls, st, h) = zz_Y 12 (19, ls, .ref h.1 :: st, hp_n h 2 (.inr (6, [.int 0, .null])))) ∧ (∀ ls a st h, zz_Y 12 (19, ls, .ref a :: st, h) = zz_Y 12 (20, ls, .ref a :: .ref a :: st, h)) ∧ (∀ ls st h, zz_Y 12 (20, ls, st, h) = zz_Y 12 (22, ls, .int (nI 15) :: st, h)) ∧ (∀ ls a0 a1 s0 s1 h, zz_Y 12 (22, ls, [a1, a0, s0, s1], h) = mo_k 12 25 ls [s0, s1] (zz_run 6 [a0, a1] h)) ∧ (∀ ls a v st h, zz_Y 12 (25, ls, v :: .ref a :: st, h) = mo_pf (hp_g h a) 4 1 (.object "FacetSieve$Sets") v a 12 28 ls st h) ∧ (∀ x st h, zz_Y 12 (28, [some (.ref x)], st, h) = zz_Y 12 (29, [some (.ref x)], .ref x :: st, h)) ∧ (∀ ls st h, zz_Y 12 (29, ls, st, h) = zz_Y 12 (31, ls, .int (nI 7) :: st, h)) ∧ (∀ ls n st h, zz_Y 12 (31, ls, .int n :: st, h) = mo_na .int (fun n => (n, .inl (fun _ => 0))) n 12 33 ls st h) ∧ (∀ ls a v st h, zz_Y 12 (33, ls, v :: .ref a :: st, h) = mo_pf (hp_g h a) 4 2 (.array .int) v a 12 36 ls st h) ∧ (∀ x st h, zz_Y 12 (36, [some (.ref x)], st, h) = zz_Y 12 (37, [some (.ref x)], .ref x :: st, h)) ∧ (∀ ls st h, zz_Y 12 (37, ls, st, h) = zz_Y 12 (39, ls, .int (nI 7) :: st, h)) ∧ (∀ ls n st h, zz_Y 12 (39, ls, .int n :: st, h) = mo_na .int (fun n => (n, .inl (fun _ => 0))) n 12 41 ls st h) ∧ (∀ ls a v st h, zz_Y 12 (41, ls, v :: .ref a :: st, h) = mo_pf (hp_g h a) 4 3 (.array .int) v a 12 44 ls st h) ∧ (∀ ls h, zz_Y 12 (44, ls, [], h) = some (none, h)) :=
  ⟨fun _ _ _ => xl_aln d12_0 rfl,
   fun _ _ _ => xl_oi d12_1 xco12 xm_4_5 (by decide +kernel) (by decide +kernel) rfl,
   fun _ _ _ => xl_aln d12_4 rfl,
   fun _ _ _ => xl_new d12_5 xco12 (by decide +kernel) rfl rfl (by decide +kernel),
   fun _ _ _ _ => xl_dupr d12_8,
   fun ls a0 s0 s1 h => xl_cin (As := [a0]) (st := [s0, s1]) d12_9 xco12 xm_4_13 (congrArg Nat.succ xnp10) (by decide +kernel) rfl,
   fun _ _ _ _ _ => xl_pf d12_12 xco12 xf_4_14 (by decide +kernel) rfl,
   fun _ _ _ => xl_aln d12_15 rfl,
   fun _ _ _ => xl_new d12_16 xco12 (by decide +kernel) rfl rfl (by decide +kernel),
   fun _ _ _ _ => xl_dupr d12_19,
   fun _ _ _ => xl_bi d12_20 (by decide +kernel),
   fun ls a0 a1 s0 s1 h => xl_ci (As := [a0, a1]) (st := [s0, s1]) d12_22 xco12 xm_4_20 (congrArg Nat.succ xnp6) (by decide +kernel) rfl,
   fun _ _ _ _ _ => xl_pf d12_25 xco12 xf_4_23 (by decide +kernel) rfl,
   fun _ _ _ => xl_aln d12_28 rfl,
   fun _ _ _ => xl_bi d12_29 (by decide +kernel),
   fun _ _ _ _ => xl_nai d12_31,
   fun _ _ _ _ _ => xl_pf d12_33 xco12 xf_4_27 (by decide +kernel) rfl,
   fun _ _ _ => xl_aln d12_36 rfl,
   fun _ _ _ => xl_bi d12_37 (by decide +kernel),
   fun _ _ _ _ => xl_nai d12_39,
   fun _ _ _ _ _ => xl_pf d12_41 xco12 xf_4_31 (by decide +kernel) rfl,
   fun _ _ => xl_r d12_44 xrt12⟩
/-! 13 FacetSieve.feed(IIIII)I -/
theorem d13_0 : decode (zz_c 13) 0 = .ok (.aload_n 0, 1) := by decide +kernel
theorem d13_1 : decode (zz_c 13) 1 = .ok (.getfield 12, 3) := by decide +kernel
theorem d13_4 : decode (zz_c 13) 4 = .ok (.getfield 50, 3) := by decide +kernel
theorem d13_7 : decode (zz_c 13) 7 = .ok (.astore 6, 2) := by decide +kernel
theorem d13_9 : decode (zz_c 13) 9 = .ok (.aload 6, 2) := by decide +kernel
theorem d13_11 : decode (zz_c 13) 11 = .ok (.iconst 5, 1) := by decide +kernel
theorem d13_12 : decode (zz_c 13) 12 = .ok (.invokevirtual 54, 3) := by decide +kernel
theorem d13_15 : decode (zz_c 13) 15 = .ok (.ifCond .ne 5, 3) := by decide +kernel
theorem d13_18 : decode (zz_c 13) 18 = .ok (.iconst (-1), 1) := by decide +kernel
theorem d13_19 : decode (zz_c 13) 19 = .ok (.ireturn, 1) := by decide +kernel
theorem d13_20 : decode (zz_c 13) 20 = .ok (.aload 6, 2) := by decide +kernel
theorem d13_22 : decode (zz_c 13) 22 = .ok (.iload_n 1, 1) := by decide +kernel
theorem d13_23 : decode (zz_c 13) 23 = .ok (.invokevirtual 60, 3) := by decide +kernel
theorem d13_26 : decode (zz_c 13) 26 = .ok (.aload 6, 2) := by decide +kernel
theorem d13_28 : decode (zz_c 13) 28 = .ok (.iload_n 2, 1) := by decide +kernel
theorem d13_29 : decode (zz_c 13) 29 = .ok (.invokevirtual 60, 3) := by decide +kernel
theorem d13_32 : decode (zz_c 13) 32 = .ok (.aload 6, 2) := by decide +kernel
theorem d13_34 : decode (zz_c 13) 34 = .ok (.iload_n 3, 1) := by decide +kernel
theorem d13_35 : decode (zz_c 13) 35 = .ok (.invokevirtual 60, 3) := by decide +kernel
theorem d13_38 : decode (zz_c 13) 38 = .ok (.aload 6, 2) := by decide +kernel
theorem d13_40 : decode (zz_c 13) 40 = .ok (.iload 4, 2) := by decide +kernel
theorem d13_42 : decode (zz_c 13) 42 = .ok (.invokevirtual 60, 3) := by decide +kernel
theorem d13_45 : decode (zz_c 13) 45 = .ok (.aload 6, 2) := by decide +kernel
theorem d13_47 : decode (zz_c 13) 47 = .ok (.iload 5, 2) := by decide +kernel
theorem d13_49 : decode (zz_c 13) 49 = .ok (.invokevirtual 60, 3) := by decide +kernel
theorem d13_52 : decode (zz_c 13) 52 = .ok (.aload 6, 2) := by decide +kernel
theorem d13_54 : decode (zz_c 13) 54 = .ok (.getfield 63, 3) := by decide +kernel
theorem d13_57 : decode (zz_c 13) 57 = .ok (.ireturn, 1) := by decide +kernel
theorem x13 : (∀ l1 l2 l3 l4 l5 l6 x st h, zz_Y 13 (0, [some (.ref x), l1, l2, l3, l4, l5, l6], st, h) = zz_Y 13 (1, [some (.ref x), l1, l2, l3, l4, l5, l6], .ref x :: st, h)) ∧ (∀ ls a st h, zz_Y 13 (1, ls, .ref a :: st, h) = mo_gf (hp_g h a) 10 0 13 4 ls st h) ∧ (∀ ls a st h, zz_Y 13 (4, ls, .ref a :: st, h) = mo_gf (hp_g h a) 1 0 13 7 ls st h) ∧ (∀ l0 l1 l2 l3 l4 l5 l6 x st h, zz_nl l5 = true → zz_Y 13 (7, [l0, l1, l2, l3, l4, l5, l6], .ref x :: st, h) = zz_Y 13 (9, [l0, l1, l2, l3, l4, l5, some (.ref x)], st, h)) ∧ (∀ l0 l1 l2 l3 l4 l5 x st h, zz_Y 13 (9, [l0, l1, l2, l3, l4, l5, some (.ref x)], st, h) = zz_Y 13 (11, [l0, l1, l2, l3, l4, l5, some (.ref x)], .ref x :: st, h)) ∧ (∀ ls st h, zz_Y 13 (11, ls, st, h) = zz_Y 13 (12, ls, .int (nI 5) :: st, h)) ∧ (∀ ls a0 a1 h, zz_Y 13 (12, ls, [a1, a0], h) = mo_k 13 15 ls [] (zz_run 14 [a0, a1] h)) ∧ (∀ ls a st h, zz_Y 13 (15, ls, .int a :: st, h) = if a = nI 0 then zz_Y 13 (18, ls, st, h) else zz_Y 13 (20, ls, st, h)) ∧ (∀ ls st h, zz_Y 13 (18, ls, st, h) = zz_Y 13 (19, ls, .int (-1) :: st, h)) ∧ (∀ ls v h, zz_Y 13 (19, ls, [.int v], h) = some (some (.int v), h)) ∧ (∀ l0 l1 l2 l3 l4 l5 x st h, zz_Y 13 (20, [l0, l1, l2, l3, l4, l5, some (.ref x)], st, h) = zz_Y 13 (22, [l0, l1, l2, l3, l4, l5, some (.ref x)], .ref x :: st, h)) ∧ (∀ l0 l2 l3 l4 l5 l6 x st h, zz_Y 13 (22, [l0, some (.int x), l2, l3, l4, l5, l6], st, h) = zz_Y 13 (23, [l0, some (.int x), l2, l3, l4, l5, l6], .int x :: st, h)) ∧ (∀ ls a0 a1 h, zz_Y 13 (23, ls, [a1, a0], h) = mo_k 13 26 ls [] (zz_run 15 [a0, a1] h)) ∧ (∀ l0 l1 l2 l3 l4 l5 x st h, zz_Y 13 (26, [l0, l1, l2, l3, l4, l5, some (.ref x)], st, h) = zz_Y 13 (28, [l0, l1, l2, l3, l4, l5, some (.ref x)], .ref x :: st, h)) ∧ (∀ l0 l1 l3 l4 l5 l6 x st h, zz_Y 13 (28, [l0, l1, some (.int x), l3, l4, l5, l6], st, h) = zz_Y 13 (29, [l0, l1, some (.int x), l3, l4, l5, l6], .int x :: st, h)) ∧ (∀ ls a0 a1 h, zz_Y 13 (29, ls, [a1, a0], h) = mo_k 13 32 ls [] (zz_run 15 [a0, a1] h)) ∧ (∀ l0 l1 l2 l3 l4 l5 x st h, zz_Y 13 (32, [l0, l1, l2, l3, l4, l5, some (.ref x)], st, h) = zz_Y 13 (34, [l0, l1, l2, l3, l4, l5, some (.ref x)], .ref x :: st, h)) ∧ (∀ l0 l1 l2 l4 l5 l6 x st h, zz_Y 13 (34, [l0, l1, l2, some (.int x), l4, l5, l6], st, h) = zz_Y 13 (35, [l0, l1, l2, some (.int x), l4, l5, l6], .int x :: st, h)) ∧ (∀ ls a0 a1 h, zz_Y 13 (35, ls, [a1, a0], h) = mo_k 13 38 ls [] (zz_run 15 [a0, a1] h)) ∧ (∀ l0 l1 l2 l3 l4 l5 x st h, zz_Y 13 (38, [l0, l1, l2, l3, l4, l5, some (.ref x)], st, h) = zz_Y 13 (40, [l0, l1, l2, l3, l4, l5, some (.ref x)], .ref x :: st, h)) ∧ (∀ l0 l1 l2 l3 l5 l6 x st h, zz_Y 13 (40, [l0, l1, l2, l3, some (.int x), l5, l6], st, h) = zz_Y 13 (42, [l0, l1, l2, l3, some (.int x), l5, l6], .int x :: st, h)) ∧ (∀ ls a0 a1 h, zz_Y 13 (42, ls, [a1, a0], h) = mo_k 13 45 ls [] (zz_run 15 [a0, a1] h)) ∧ (∀ l0 l1 l2 l3 l4 l5 x st h, zz_Y 13 (45, [l0, l1, l2, l3, l4, l5, some (.ref x)], st, h) = zz_Y 13 (47, [l0, l1, l2, l3, l4, l5, some (.ref x)], .ref x :: st, h)) ∧ (∀ l0 l1 l2 l3 l4 l6 x st h, zz_Y 13 (47, [l0, l1, l2, l3, l4, some (.int x), l6], st, h) = zz_Y 13 (49, [l0, l1, l2, l3, l4, some (.int x), l6], .int x :: st, h)) ∧ (∀ ls a0 a1 h, zz_Y 13 (49, ls, [a1, a0], h) = mo_k 13 52 ls [] (zz_run 15 [a0, a1] h)) ∧ (∀ l0 l1 l2 l3 l4 l5 x st h, zz_Y 13 (52, [l0, l1, l2, l3, l4, l5, some (.ref x)], st, h) = zz_Y 13 (54, [l0, l1, l2, l3, l4, l5, some (.ref x)], .ref x :: st, h)) ∧ (∀ ls a st h, zz_Y 13 (54, ls, .ref a :: st, h) = mo_gf (hp_g h a) 8 1 13 57 ls st h) ∧ (∀ ls v h, zz_Y 13 (57, ls, [.int v], h) = some (some (.int v), h)) :=
  ⟨fun _ _ _ _ _ _ _ _ _ => xl_aln d13_0 rfl,
   fun _ _ _ _ => xl_gf d13_1 xco13 xf_10_12,
   fun _ _ _ _ => xl_gf d13_4 xco13 xf_10_50,
   fun _ _ _ _ _ _ _ _ _ _ hc => xl_as d13_7 xml13 (by decide) (zz_nl_s1 hc),
   fun _ _ _ _ _ _ _ _ _ => xl_al d13_9 rfl,
   fun _ _ _ => xl_ic d13_11 (by decide +kernel),
   fun ls a0 a1 h => xl_cv (As := [a0, a1]) (st := []) d13_12 xco13 xm_10_54 (congrArg Nat.succ xnp14) (by decide +kernel) rfl,
   fun _ _ _ _ => xl_ifne d13_15 rfl,
   fun _ _ _ => xl_ic d13_18 (by decide +kernel),
   fun _ _ _ => xl_iri d13_19 xrt13,
   fun _ _ _ _ _ _ _ _ _ => xl_al d13_20 rfl,
   fun _ _ _ _ _ _ _ _ _ => xl_iln d13_22 rfl,
   fun ls a0 a1 h => xl_cv (As := [a0, a1]) (st := []) d13_23 xco13 xm_10_60 (congrArg Nat.succ xnp15) (by decide +kernel) rfl,
   fun _ _ _ _ _ _ _ _ _ => xl_al d13_26 rfl,
   fun _ _ _ _ _ _ _ _ _ => xl_iln d13_28 rfl,
   fun ls a0 a1 h => xl_cv (As := [a0, a1]) (st := []) d13_29 xco13 xm_10_60 (congrArg Nat.succ xnp15) (by decide +kernel) rfl,
   fun _ _ _ _ _ _ _ _ _ => xl_al d13_32 rfl,
   fun _ _ _ _ _ _ _ _ _ => xl_iln d13_34 rfl,
   fun ls a0 a1 h => xl_cv (As := [a0, a1]) (st := []) d13_35 xco13 xm_10_60 (congrArg Nat.succ xnp15) (by decide +kernel) rfl,
   fun _ _ _ _ _ _ _ _ _ => xl_al d13_38 rfl,
   fun _ _ _ _ _ _ _ _ _ => xl_il d13_40 rfl,
   fun ls a0 a1 h => xl_cv (As := [a0, a1]) (st := []) d13_42 xco13 xm_10_60 (congrArg Nat.succ xnp15) (by decide +kernel) rfl,
   fun _ _ _ _ _ _ _ _ _ => xl_al d13_45 rfl,
   fun _ _ _ _ _ _ _ _ _ => xl_il d13_47 rfl,
   fun ls a0 a1 h => xl_cv (As := [a0, a1]) (st := []) d13_49 xco13 xm_10_60 (congrArg Nat.succ xnp15) (by decide +kernel) rfl,
   fun _ _ _ _ _ _ _ _ _ => xl_al d13_52 rfl,
   fun _ _ _ _ => xl_gf d13_54 xco13 xf_10_63,
   fun _ _ _ => xl_iri d13_57 xrt13⟩
/-! 14 FacetSieve$Tape.hasRoom(I)Z -/
theorem d14_0 : decode (zz_c 14) 0 = .ok (.aload_n 0, 1) := by decide +kernel
theorem d14_1 : decode (zz_c 14) 1 = .ok (.getfield 15, 3) := by decide +kernel
theorem d14_4 : decode (zz_c 14) 4 = .ok (.iconst 4, 1) := by decide +kernel
theorem d14_5 : decode (zz_c 14) 5 = .ok (.iload_n 1, 1) := by decide +kernel
theorem d14_6 : decode (zz_c 14) 6 = .ok (.imul, 1) := by decide +kernel
theorem d14_7 : decode (zz_c 14) 7 = .ok (.iadd, 1) := by decide +kernel
theorem d14_8 : decode (zz_c 14) 8 = .ok (.sipush 600, 3) := by decide +kernel
theorem d14_11 : decode (zz_c 14) 11 = .ok (.if_icmp .gt 7, 3) := by decide +kernel
theorem d14_14 : decode (zz_c 14) 14 = .ok (.iconst 1, 1) := by decide +kernel
theorem d14_15 : decode (zz_c 14) 15 = .ok (.goto 4, 3) := by decide +kernel
theorem d14_18 : decode (zz_c 14) 18 = .ok (.iconst 0, 1) := by decide +kernel
theorem d14_19 : decode (zz_c 14) 19 = .ok (.ireturn, 1) := by decide +kernel
theorem x14 : (∀ l1 x st h, zz_Y 14 (0, [some (.ref x), l1], st, h) = zz_Y 14 (1, [some (.ref x), l1], .ref x :: st, h)) ∧ (∀ ls a st h, zz_Y 14 (1, ls, .ref a :: st, h) = mo_gf (hp_g h a) 8 1 14 4 ls st h) ∧ (∀ ls st h, zz_Y 14 (4, ls, st, h) = zz_Y 14 (5, ls, .int (nI 4) :: st, h)) ∧ (∀ l0 x st h, zz_Y 14 (5, [l0, some (.int x)], st, h) = zz_Y 14 (6, [l0, some (.int x)], .int x :: st, h)) ∧ (∀ ls a b st h, zz_Y 14 (6, ls, .int b :: .int a :: st, h) = zz_Y 14 (7, ls, .int (a * b) :: st, h)) ∧ (∀ ls a b st h, zz_Y 14 (7, ls, .int b :: .int a :: st, h) = zz_Y 14 (8, ls, .int (a + b) :: st, h)) ∧ (∀ ls st h, zz_Y 14 (8, ls, st, h) = zz_Y 14 (11, ls, .int (nI 600) :: st, h)) ∧ (∀ ls a b st h, zz_Y 14 (11, ls, .int b :: .int a :: st, h) = if b < a then zz_Y 14 (18, ls, st, h) else zz_Y 14 (14, ls, st, h)) ∧ (∀ ls st h, zz_Y 14 (14, ls, st, h) = zz_Y 14 (15, ls, .int (nI 1) :: st, h)) ∧ (∀ ls st h, zz_Y 14 (15, ls, st, h) = zz_Y 14 (19, ls, st, h)) ∧ (∀ ls st h, zz_Y 14 (18, ls, st, h) = zz_Y 14 (19, ls, .int (nI 0) :: st, h)) ∧ (∀ ls v h, v = nI 0 ∨ v = nI 1 → zz_Y 14 (19, ls, [.int v], h) = some (some (.int v), h)) :=
  ⟨fun _ _ _ _ => xl_aln d14_0 rfl,
   fun _ _ _ _ => xl_gf d14_1 xco14 xf_8_15,
   fun _ _ _ => xl_ic d14_4 (by decide +kernel),
   fun _ _ _ _ => xl_iln d14_5 rfl,
   fun _ _ _ _ _ => xl_imul d14_6,
   fun _ _ _ _ _ => xl_iadd d14_7,
   fun _ _ _ => xl_si d14_8 (by decide +kernel),
   fun _ _ _ _ _ => xl_icgt d14_11 rfl,
   fun _ _ _ => xl_ic d14_14 (by decide +kernel),
   fun _ _ _ => xl_goto d14_15 rfl,
   fun _ _ _ => xl_ic d14_18 (by decide +kernel),
   fun _ _ _ hc => xl_irz d14_19 xrt14 hc⟩
/-! 15 FacetSieve$Tape.takeNumber(I)V -/
theorem d15_0 : decode (zz_c 15) 0 = .ok (.aload_n 0, 1) := by decide +kernel
theorem d15_1 : decode (zz_c 15) 1 = .ok (.iconst 1, 1) := by decide +kernel
theorem d15_2 : decode (zz_c 15) 2 = .ok (.invokevirtual 19, 3) := by decide +kernel
theorem d15_5 : decode (zz_c 15) 5 = .ok (.ifCond .ne 4, 3) := by decide +kernel
theorem d15_8 : decode (zz_c 15) 8 = .ok (.return_, 1) := by decide +kernel
theorem d15_9 : decode (zz_c 15) 9 = .ok (.bipush 24, 2) := by decide +kernel
theorem d15_11 : decode (zz_c 15) 11 = .ok (.istore_n 2, 1) := by decide +kernel
theorem d15_12 : decode (zz_c 15) 12 = .ok (.iload_n 2, 1) := by decide +kernel
theorem d15_13 : decode (zz_c 15) 13 = .ok (.ifCond .lt 32, 3) := by decide +kernel
theorem d15_16 : decode (zz_c 15) 16 = .ok (.aload_n 0, 1) := by decide +kernel
theorem d15_17 : decode (zz_c 15) 17 = .ok (.getfield 9, 3) := by decide +kernel
theorem d15_20 : decode (zz_c 15) 20 = .ok (.aload_n 0, 1) := by decide +kernel
theorem d15_21 : decode (zz_c 15) 21 = .ok (.getfield 15, 3) := by decide +kernel
theorem d15_24 : decode (zz_c 15) 24 = .ok (.iload_n 1, 1) := by decide +kernel
theorem d15_25 : decode (zz_c 15) 25 = .ok (.iload_n 2, 1) := by decide +kernel
theorem d15_26 : decode (zz_c 15) 26 = .ok (.ishr, 1) := by decide +kernel
theorem d15_27 : decode (zz_c 15) 27 = .ok (.i2b, 1) := by decide +kernel
theorem d15_28 : decode (zz_c 15) 28 = .ok (.bastore, 1) := by decide +kernel
theorem d15_29 : decode (zz_c 15) 29 = .ok (.aload_n 0, 1) := by decide +kernel
theorem d15_30 : decode (zz_c 15) 30 = .ok (.dup, 1) := by decide +kernel
theorem d15_31 : decode (zz_c 15) 31 = .ok (.getfield 15, 3) := by decide +kernel
theorem d15_34 : decode (zz_c 15) 34 = .ok (.iconst 1, 1) := by decide +kernel
theorem d15_35 : decode (zz_c 15) 35 = .ok (.iadd, 1) := by decide +kernel
theorem d15_36 : decode (zz_c 15) 36 = .ok (.putfield 15, 3) := by decide +kernel
theorem d15_39 : decode (zz_c 15) 39 = .ok (.iinc 2 (-8), 3) := by decide +kernel
theorem d15_42 : decode (zz_c 15) 42 = .ok (.goto (-30), 3) := by decide +kernel
theorem d15_45 : decode (zz_c 15) 45 = .ok (.return_, 1) := by decide +kernel
theorem x15 : (∀ l1 l2 x st h, zz_Y 15 (0, [some (.ref x), l1, l2], st, h) = zz_Y 15 (1, [some (.ref x), l1, l2], .ref x :: st, h)) ∧ (∀ ls st h, zz_Y 15 (1, ls, st, h) = zz_Y 15 (2, ls, .int (nI 1) :: st, h)) ∧ (∀ ls a0 a1 h, zz_Y 15 (2, ls, [a1, a0], h) = mo_k 15 5 ls [] (zz_run 14 [a0, a1] h)) ∧ (∀ ls a st h, zz_Y 15 (5, ls, .int a :: st, h) = if a = nI 0 then zz_Y 15 (8, ls, st, h) else zz_Y 15 (9, ls, st, h)) ∧ (∀ ls h, zz_Y 15 (8, ls, [], h) = some (none, h)) ∧ (∀ ls st h, zz_Y 15 (9, ls, st, h) = zz_Y 15 (11, ls, .int (nI 24) :: st, h)) ∧ (∀ l0 l1 l2 x st h, zz_nl l1 = true → zz_Y 15 (11, [l0, l1, l2], .int x :: st, h) = zz_Y 15 (12, [l0, l1, some (.int x)], st, h)) ∧ (∀ ls a st h, zz_Y 15 (13, ls, .int a :: st, h) = if a < nI 0 then zz_Y 15 (45, ls, st, h) else zz_Y 15 (16, ls, st, h)) ∧ (∀ l1 l2 x st h, zz_Y 15 (16, [some (.ref x), l1, l2], st, h) = zz_Y 15 (17, [some (.ref x), l1, l2], .ref x :: st, h)) ∧ (∀ ls a st h, zz_Y 15 (17, ls, .ref a :: st, h) = mo_gf (hp_g h a) 8 0 15 20 ls st h) ∧ (∀ l1 l2 x st h, zz_Y 15 (20, [some (.ref x), l1, l2], st, h) = zz_Y 15 (21, [some (.ref x), l1, l2], .ref x :: st, h)) ∧ (∀ ls a st h, zz_Y 15 (21, ls, .ref a :: st, h) = mo_gf (hp_g h a) 8 1 15 24 ls st h) ∧ (∀ l0 l2 x st h, zz_Y 15 (24, [l0, some (.int x), l2], st, h) = zz_Y 15 (25, [l0, some (.int x), l2], .int x :: st, h)) ∧ (∀ l0 l1 x st h, zz_Y 15 (25, [l0, l1, some (.int x)], st, h) = zz_Y 15 (26, [l0, l1, some (.int x)], .int x :: st, h)) ∧ (∀ ls a b st h, zz_Y 15 (26, ls, .int b :: .int a :: st, h) = zz_Y 15 (27, ls, .int (a >>> (b &&& 31)) :: st, h)) ∧ (∀ ls a st h, zz_Y 15 (27, ls, .int a :: st, h) = zz_Y 15 (28, ls, .int a.toInt8.toInt32 :: st, h)) ∧ (∀ ls a i x st h, zz_Y 15 (28, ls, .int x :: .int i :: .ref a :: st, h) = mo_bs (hp_g h a) x i a 15 29 ls st h) ∧ (∀ l1 l2 x st h, zz_Y 15 (29, [some (.ref x), l1, l2], st, h) = zz_Y 15 (30, [some (.ref x), l1, l2], .ref x :: st, h)) ∧ (∀ ls a st h, zz_Y 15 (30, ls, .ref a :: st, h) = zz_Y 15 (31, ls, .ref a :: .ref a :: st, h)) ∧ (∀ ls a st h, zz_Y 15 (31, ls, .ref a :: st, h) = mo_gf (hp_g h a) 8 1 15 34 ls st h) ∧ (∀ ls st h, zz_Y 15 (34, ls, st, h) = zz_Y 15 (35, ls, .int (nI 1) :: st, h)) ∧ (∀ ls a b st h, zz_Y 15 (35, ls, .int b :: .int a :: st, h) = zz_Y 15 (36, ls, .int (a + b) :: st, h)) ∧ (∀ ls a v st h, zz_Y 15 (36, ls, v :: .ref a :: st, h) = mo_pf (hp_g h a) 8 1 .int v a 15 39 ls st h) ∧ (∀ l0 l1 x st h, zz_nl l1 = true → zz_Y 15 (39, [l0, l1, some (.int x)], st, h) = zz_Y 15 (42, [l0, l1, some (.int (x + (-8)))], st, h)) ∧ (∀ ls st h, zz_Y 15 (42, ls, st, h) = zz_Y 15 (12, ls, st, h)) ∧ (∀ ls h, zz_Y 15 (45, ls, [], h) = some (none, h)) :=
  ⟨fun _ _ _ _ _ => xl_aln d15_0 rfl,
   fun _ _ _ => xl_ic d15_1 (by decide +kernel),
   fun ls a0 a1 h => xl_cv (As := [a0, a1]) (st := []) d15_2 xco15 xm_8_19 (congrArg Nat.succ xnp14) (by decide +kernel) rfl,
   fun _ _ _ _ => xl_ifne d15_5 rfl,
   fun _ _ => xl_r d15_8 xrt15,
   fun _ _ _ => xl_bi d15_9 (by decide +kernel),
   fun _ _ _ _ _ _ hc => xl_isn d15_11 xml15 (by decide) (zz_nl_s1 hc),
   fun _ _ _ _ => xl_iflt d15_13 rfl,
   fun _ _ _ _ _ => xl_aln d15_16 rfl,
   fun _ _ _ _ => xl_gf d15_17 xco15 xf_8_9,
   fun _ _ _ _ _ => xl_aln d15_20 rfl,
   fun _ _ _ _ => xl_gf d15_21 xco15 xf_8_15,
   fun _ _ _ _ _ => xl_iln d15_24 rfl,
   fun _ _ _ _ _ => xl_iln d15_25 rfl,
   fun _ _ _ _ _ => xl_ishr d15_26,
   fun _ _ _ _ => xl_i2b d15_27,
   fun _ _ _ _ _ _ => xl_bst d15_28,
   fun _ _ _ _ _ => xl_aln d15_29 rfl,
   fun _ _ _ _ => xl_dupr d15_30,
   fun _ _ _ _ => xl_gf d15_31 xco15 xf_8_15,
   fun _ _ _ => xl_ic d15_34 (by decide +kernel),
   fun _ _ _ _ _ => xl_iadd d15_35,
   fun _ _ _ _ _ => xl_pf d15_36 xco15 xf_8_15 (by decide +kernel) rfl,
   fun _ _ _ _ _ hc => xl_inc d15_39 xml15 (by decide) rfl (by decide +kernel) (zz_nl_s1 hc),
   fun _ _ _ => xl_goto d15_42 rfl,
   fun _ _ => xl_r d15_45 xrt15⟩
theorem x15_c12 : ∀ l0 l1 x st h, zz_Y 15 (12, [l0, l1, some (.int x)], st, h) = zz_Y 15 (13, [l0, l1, some (.int x)], .int x :: st, h) := fun _ _ _ _ _ => xl_iln d15_12 rfl
/-! 16 FacetSieve.end(I)I -/
theorem d16_0 : decode (zz_c 16) 0 = .ok (.iload_n 1, 1) := by decide +kernel
theorem d16_1 : decode (zz_c 16) 1 = .ok (.ifCond .lt 17, 3) := by decide +kernel
theorem d16_4 : decode (zz_c 16) 4 = .ok (.iload_n 1, 1) := by decide +kernel
theorem d16_5 : decode (zz_c 16) 5 = .ok (.aload_n 0, 1) := by decide +kernel
theorem d16_6 : decode (zz_c 16) 6 = .ok (.getfield 12, 3) := by decide +kernel
theorem d16_9 : decode (zz_c 16) 9 = .ok (.getfield 50, 3) := by decide +kernel
theorem d16_12 : decode (zz_c 16) 12 = .ok (.getfield 63, 3) := by decide +kernel
theorem d16_15 : decode (zz_c 16) 15 = .ok (.if_icmp .le 5, 3) := by decide +kernel
theorem d16_18 : decode (zz_c 16) 18 = .ok (.iconst (-1), 1) := by decide +kernel
theorem d16_19 : decode (zz_c 16) 19 = .ok (.ireturn, 1) := by decide +kernel
theorem d16_20 : decode (zz_c 16) 20 = .ok (.aload_n 0, 1) := by decide +kernel
theorem d16_21 : decode (zz_c 16) 21 = .ok (.getfield 12, 3) := by decide +kernel
theorem d16_24 : decode (zz_c 16) 24 = .ok (.getfield 50, 3) := by decide +kernel
theorem d16_27 : decode (zz_c 16) 27 = .ok (.iload_n 1, 1) := by decide +kernel
theorem d16_28 : decode (zz_c 16) 28 = .ok (.putfield 63, 3) := by decide +kernel
theorem d16_31 : decode (zz_c 16) 31 = .ok (.iload_n 1, 1) := by decide +kernel
theorem d16_32 : decode (zz_c 16) 32 = .ok (.ireturn, 1) := by decide +kernel
theorem x16 : (∀ l0 x st h, zz_Y 16 (0, [l0, some (.int x)], st, h) = zz_Y 16 (1, [l0, some (.int x)], .int x :: st, h)) ∧ (∀ ls a st h, zz_Y 16 (1, ls, .int a :: st, h) = if a < nI 0 then zz_Y 16 (18, ls, st, h) else zz_Y 16 (4, ls, st, h)) ∧ (∀ l0 x st h, zz_Y 16 (4, [l0, some (.int x)], st, h) = zz_Y 16 (5, [l0, some (.int x)], .int x :: st, h)) ∧ (∀ l1 x st h, zz_Y 16 (5, [some (.ref x), l1], st, h) = zz_Y 16 (6, [some (.ref x), l1], .ref x :: st, h)) ∧ (∀ ls a st h, zz_Y 16 (6, ls, .ref a :: st, h) = mo_gf (hp_g h a) 10 0 16 9 ls st h) ∧ (∀ ls a st h, zz_Y 16 (9, ls, .ref a :: st, h) = mo_gf (hp_g h a) 1 0 16 12 ls st h) ∧ (∀ ls a st h, zz_Y 16 (12, ls, .ref a :: st, h) = mo_gf (hp_g h a) 8 1 16 15 ls st h) ∧ (∀ ls a b st h, zz_Y 16 (15, ls, .int b :: .int a :: st, h) = if b < a then zz_Y 16 (18, ls, st, h) else zz_Y 16 (20, ls, st, h)) ∧ (∀ ls st h, zz_Y 16 (18, ls, st, h) = zz_Y 16 (19, ls, .int (-1) :: st, h)) ∧ (∀ ls v h, zz_Y 16 (19, ls, [.int v], h) = some (some (.int v), h)) ∧ (∀ l1 x st h, zz_Y 16 (20, [some (.ref x), l1], st, h) = zz_Y 16 (21, [some (.ref x), l1], .ref x :: st, h)) ∧ (∀ ls a st h, zz_Y 16 (21, ls, .ref a :: st, h) = mo_gf (hp_g h a) 10 0 16 24 ls st h) ∧ (∀ ls a st h, zz_Y 16 (24, ls, .ref a :: st, h) = mo_gf (hp_g h a) 1 0 16 27 ls st h) ∧ (∀ l0 x st h, zz_Y 16 (27, [l0, some (.int x)], st, h) = zz_Y 16 (28, [l0, some (.int x)], .int x :: st, h)) ∧ (∀ ls a v st h, zz_Y 16 (28, ls, v :: .ref a :: st, h) = mo_pf (hp_g h a) 8 1 .int v a 16 31 ls st h) ∧ (∀ l0 x st h, zz_Y 16 (31, [l0, some (.int x)], st, h) = zz_Y 16 (32, [l0, some (.int x)], .int x :: st, h)) ∧ (∀ ls v h, zz_Y 16 (32, ls, [.int v], h) = some (some (.int v), h)) :=
  ⟨fun _ _ _ _ => xl_iln d16_0 rfl,
   fun _ _ _ _ => xl_iflt d16_1 rfl,
   fun _ _ _ _ => xl_iln d16_4 rfl,
   fun _ _ _ _ => xl_aln d16_5 rfl,
   fun _ _ _ _ => xl_gf d16_6 xco16 xf_10_12,
   fun _ _ _ _ => xl_gf d16_9 xco16 xf_10_50,
   fun _ _ _ _ => xl_gf d16_12 xco16 xf_10_63,
   fun _ _ _ _ _ => xl_icle d16_15 rfl,
   fun _ _ _ => xl_ic d16_18 (by decide +kernel),
   fun _ _ _ => xl_iri d16_19 xrt16,
   fun _ _ _ _ => xl_aln d16_20 rfl,
   fun _ _ _ _ => xl_gf d16_21 xco16 xf_10_12,
   fun _ _ _ _ => xl_gf d16_24 xco16 xf_10_50,
   fun _ _ _ _ => xl_iln d16_27 rfl,
   fun _ _ _ _ _ => xl_pf d16_28 xco16 xf_10_63 (by decide +kernel) rfl,
   fun _ _ _ _ => xl_iln d16_31 rfl,
   fun _ _ _ => xl_iri d16_32 xrt16⟩
/-! 17 FacetSieve.scheme()I -/
theorem d17_0 : decode (zz_c 17) 0 = .ok (.aload_n 0, 1) := by decide +kernel
theorem d17_1 : decode (zz_c 17) 1 = .ok (.getfield 30, 3) := by decide +kernel
theorem d17_4 : decode (zz_c 17) 4 = .ok (.aload_n 0, 1) := by decide +kernel
theorem d17_5 : decode (zz_c 17) 5 = .ok (.getfield 12, 3) := by decide +kernel
theorem d17_8 : decode (zz_c 17) 8 = .ok (.getfield 50, 3) := by decide +kernel
theorem d17_11 : decode (zz_c 17) 11 = .ok (.invokevirtual 67, 3) := by decide +kernel
theorem d17_14 : decode (zz_c 17) 14 = .ok (.istore_n 1, 1) := by decide +kernel
theorem d17_15 : decode (zz_c 17) 15 = .ok (.aload_n 0, 1) := by decide +kernel
theorem d17_16 : decode (zz_c 17) 16 = .ok (.getfield 12, 3) := by decide +kernel
theorem d17_19 : decode (zz_c 17) 19 = .ok (.aload_n 0, 1) := by decide +kernel
theorem d17_20 : decode (zz_c 17) 20 = .ok (.getfield 30, 3) := by decide +kernel
theorem d17_23 : decode (zz_c 17) 23 = .ok (.getfield 71, 3) := by decide +kernel
theorem d17_26 : decode (zz_c 17) 26 = .ok (.invokevirtual 75, 3) := by decide +kernel
theorem d17_29 : decode (zz_c 17) 29 = .ok (.iload_n 1, 1) := by decide +kernel
theorem d17_30 : decode (zz_c 17) 30 = .ok (.ifCond .ne 5, 3) := by decide +kernel
theorem d17_33 : decode (zz_c 17) 33 = .ok (.iconst (-1), 1) := by decide +kernel
theorem d17_34 : decode (zz_c 17) 34 = .ok (.ireturn, 1) := by decide +kernel
theorem d17_35 : decode (zz_c 17) 35 = .ok (.aload_n 0, 1) := by decide +kernel
theorem d17_36 : decode (zz_c 17) 36 = .ok (.getfield 12, 3) := by decide +kernel
theorem d17_39 : decode (zz_c 17) 39 = .ok (.getfield 79, 3) := by decide +kernel
theorem d17_42 : decode (zz_c 17) 42 = .ok (.aload_n 0, 1) := by decide +kernel
theorem d17_43 : decode (zz_c 17) 43 = .ok (.getfield 30, 3) := by decide +kernel
theorem d17_46 : decode (zz_c 17) 46 = .ok (.getfield 83, 3) := by decide +kernel
theorem d17_49 : decode (zz_c 17) 49 = .ok (.invokevirtual 86, 3) := by decide +kernel
theorem d17_52 : decode (zz_c 17) 52 = .ok (.aload_n 0, 1) := by decide +kernel
theorem d17_53 : decode (zz_c 17) 53 = .ok (.getfield 12, 3) := by decide +kernel
theorem d17_56 : decode (zz_c 17) 56 = .ok (.getfield 92, 3) := by decide +kernel
theorem d17_59 : decode (zz_c 17) 59 = .ok (.invokevirtual 96, 3) := by decide +kernel
theorem d17_62 : decode (zz_c 17) 62 = .ok (.aload_n 0, 1) := by decide +kernel
theorem d17_63 : decode (zz_c 17) 63 = .ok (.getfield 23, 3) := by decide +kernel
theorem d17_66 : decode (zz_c 17) 66 = .ok (.invokevirtual 101, 3) := by decide +kernel
theorem d17_69 : decode (zz_c 17) 69 = .ok (.aload_n 0, 1) := by decide +kernel
theorem d17_70 : decode (zz_c 17) 70 = .ok (.getfield 12, 3) := by decide +kernel
theorem d17_73 : decode (zz_c 17) 73 = .ok (.getfield 79, 3) := by decide +kernel
theorem d17_76 : decode (zz_c 17) 76 = .ok (.getfield 102, 3) := by decide +kernel
theorem d17_79 : decode (zz_c 17) 79 = .ok (.bipush 20, 2) := by decide +kernel
theorem d17_81 : decode (zz_c 17) 81 = .ok (.invokevirtual 105, 3) := by decide +kernel
theorem d17_84 : decode (zz_c 17) 84 = .ok (.ireturn, 1) := by decide +kernel
theorem x17 : (∀ l1 x st h, zz_Y 17 (0, [some (.ref x), l1], st, h) = zz_Y 17 (1, [some (.ref x), l1], .ref x :: st, h)) ∧ (∀ ls a st h, zz_Y 17 (1, ls, .ref a :: st, h) = mo_gf (hp_g h a) 10 3 17 4 ls st h) ∧ (∀ l1 x st h, zz_Y 17 (4, [some (.ref x), l1], st, h) = zz_Y 17 (5, [some (.ref x), l1], .ref x :: st, h)) ∧ (∀ ls a st h, zz_Y 17 (5, ls, .ref a :: st, h) = mo_gf (hp_g h a) 10 0 17 8 ls st h) ∧ (∀ ls a st h, zz_Y 17 (8, ls, .ref a :: st, h) = mo_gf (hp_g h a) 1 0 17 11 ls st h) ∧ (∀ ls a0 a1 h, zz_Y 17 (11, ls, [a1, a0], h) = mo_k 17 14 ls [] (zz_run 18 [a0, a1] h)) ∧ (∀ l0 l1 x st h, zz_nl l0 = true → zz_Y 17 (14, [l0, l1], .int x :: st, h) = zz_Y 17 (15, [l0, some (.int x)], st, h)) ∧ (∀ l1 x st h, zz_Y 17 (15, [some (.ref x), l1], st, h) = zz_Y 17 (16, [some (.ref x), l1], .ref x :: st, h)) ∧ (∀ ls a st h, zz_Y 17 (16, ls, .ref a :: st, h) = mo_gf (hp_g h a) 10 0 17 19 ls st h) ∧ (∀ l1 x st h, zz_Y 17 (19, [some (.ref x), l1], st, h) = zz_Y 17 (20, [some (.ref x), l1], .ref x :: st, h)) ∧ (∀ ls a st h, zz_Y 17 (20, ls, .ref a :: st, h) = mo_gf (hp_g h a) 10 3 17 23 ls st h) ∧ (∀ ls a st h, zz_Y 17 (23, ls, .ref a :: st, h) = mo_gf (hp_g h a) 5 0 17 26 ls st h) ∧ (∀ ls a0 a1 h, zz_Y 17 (26, ls, [a1, a0], h) = mo_k 17 29 ls [] (zz_run 56 [a0, a1] h)) ∧ (∀ l0 x st h, zz_Y 17 (29, [l0, some (.int x)], st, h) = zz_Y 17 (30, [l0, some (.int x)], .int x :: st, h)) ∧ (∀ ls a st h, zz_Y 17 (30, ls, .int a :: st, h) = if a = nI 0 then zz_Y 17 (33, ls, st, h) else zz_Y 17 (35, ls, st, h)) ∧ (∀ ls st h, zz_Y 17 (33, ls, st, h) = zz_Y 17 (34, ls, .int (-1) :: st, h)) ∧ (∀ ls v h, zz_Y 17 (34, ls, [.int v], h) = some (some (.int v), h)) ∧ (∀ l1 x st h, zz_Y 17 (35, [some (.ref x), l1], st, h) = zz_Y 17 (36, [some (.ref x), l1], .ref x :: st, h)) ∧ (∀ ls a st h, zz_Y 17 (36, ls, .ref a :: st, h) = mo_gf (hp_g h a) 10 0 17 39 ls st h) ∧ (∀ ls a st h, zz_Y 17 (39, ls, .ref a :: st, h) = mo_gf (hp_g h a) 1 1 17 42 ls st h) ∧ (∀ l1 x st h, zz_Y 17 (42, [some (.ref x), l1], st, h) = zz_Y 17 (43, [some (.ref x), l1], .ref x :: st, h)) ∧ (∀ ls a st h, zz_Y 17 (43, ls, .ref a :: st, h) = mo_gf (hp_g h a) 10 3 17 46 ls st h) ∧ (∀ ls a st h, zz_Y 17 (46, ls, .ref a :: st, h) = mo_gf (hp_g h a) 5 1 17 49 ls st h) ∧ (∀ ls a0 a1 h, zz_Y 17 (49, ls, [a1, a0], h) = mo_k 17 52 ls [] (zz_run 57 [a0, a1] h)) ∧ (∀ l1 x st h, zz_Y 17 (52, [some (.ref x), l1], st, h) = zz_Y 17 (53, [some (.ref x), l1], .ref x :: st, h)) ∧ (∀ ls a st h, zz_Y 17 (53, ls, .ref a :: st, h) = mo_gf (hp_g h a) 10 0 17 56 ls st h) ∧ (∀ ls a st h, zz_Y 17 (56, ls, .ref a :: st, h) = mo_gf (hp_g h a) 1 2 17 59 ls st h) ∧ (∀ ls a0 h, zz_Y 17 (59, ls, [a0], h) = mo_k 17 62 ls [] (zz_run 60 [a0] h)) ∧ (∀ l1 x st h, zz_Y 17 (62, [some (.ref x), l1], st, h) = zz_Y 17 (63, [some (.ref x), l1], .ref x :: st, h)) ∧ (∀ ls a st h, zz_Y 17 (63, ls, .ref a :: st, h) = mo_gf (hp_g h a) 10 2 17 66 ls st h) ∧ (∀ ls a0 h, zz_Y 17 (66, ls, [a0], h) = mo_k 17 69 ls [] (zz_run 61 [a0] h)) ∧ (∀ l1 x st h, zz_Y 17 (69, [some (.ref x), l1], st, h) = zz_Y 17 (70, [some (.ref x), l1], .ref x :: st, h)) ∧ (∀ ls a st h, zz_Y 17 (70, ls, .ref a :: st, h) = mo_gf (hp_g h a) 10 0 17 73 ls st h) ∧ (∀ ls a st h, zz_Y 17 (73, ls, .ref a :: st, h) = mo_gf (hp_g h a) 1 1 17 76 ls st h) ∧ (∀ ls a st h, zz_Y 17 (76, ls, .ref a :: st, h) = mo_gf (hp_g h a) 7 3 17 79 ls st h) ∧ (∀ ls st h, zz_Y 17 (79, ls, st, h) = zz_Y 17 (81, ls, .int (nI 20) :: st, h)) ∧ (∀ ls a0 a1 h, zz_Y 17 (81, ls, [a1, a0], h) = mo_k 17 84 ls [] (zz_run 62 [a0, a1] h)) ∧ (∀ ls v h, zz_Y 17 (84, ls, [.int v], h) = some (some (.int v), h)) :=
  ⟨fun _ _ _ _ => xl_aln d17_0 rfl,
   fun _ _ _ _ => xl_gf d17_1 xco17 xf_10_30,
   fun _ _ _ _ => xl_aln d17_4 rfl,
   fun _ _ _ _ => xl_gf d17_5 xco17 xf_10_12,
   fun _ _ _ _ => xl_gf d17_8 xco17 xf_10_50,
   fun ls a0 a1 h => xl_cv (As := [a0, a1]) (st := []) d17_11 xco17 xm_10_67 (congrArg Nat.succ xnp18) (by decide +kernel) rfl,
   fun _ _ _ _ _ hc => xl_isn d17_14 xml17 (by decide) (zz_nl_s1 hc),
   fun _ _ _ _ => xl_aln d17_15 rfl,
   fun _ _ _ _ => xl_gf d17_16 xco17 xf_10_12,
   fun _ _ _ _ => xl_aln d17_19 rfl,
   fun _ _ _ _ => xl_gf d17_20 xco17 xf_10_30,
   fun _ _ _ _ => xl_gf d17_23 xco17 xf_10_71,
   fun ls a0 a1 h => xl_cv (As := [a0, a1]) (st := []) d17_26 xco17 xm_10_75 (congrArg Nat.succ xnp56) (by decide +kernel) rfl,
   fun _ _ _ _ => xl_iln d17_29 rfl,
   fun _ _ _ _ => xl_ifne d17_30 rfl,
   fun _ _ _ => xl_ic d17_33 (by decide +kernel),
   fun _ _ _ => xl_iri d17_34 xrt17,
   fun _ _ _ _ => xl_aln d17_35 rfl,
   fun _ _ _ _ => xl_gf d17_36 xco17 xf_10_12,
   fun _ _ _ _ => xl_gf d17_39 xco17 xf_10_79,
   fun _ _ _ _ => xl_aln d17_42 rfl,
   fun _ _ _ _ => xl_gf d17_43 xco17 xf_10_30,
   fun _ _ _ _ => xl_gf d17_46 xco17 xf_10_83,
   fun ls a0 a1 h => xl_cv (As := [a0, a1]) (st := []) d17_49 xco17 xm_10_86 (congrArg Nat.succ xnp57) (by decide +kernel) rfl,
   fun _ _ _ _ => xl_aln d17_52 rfl,
   fun _ _ _ _ => xl_gf d17_53 xco17 xf_10_12,
   fun _ _ _ _ => xl_gf d17_56 xco17 xf_10_92,
   fun ls a0 h => xl_cv (As := [a0]) (st := []) d17_59 xco17 xm_10_96 (congrArg Nat.succ xnp60) (by decide +kernel) rfl,
   fun _ _ _ _ => xl_aln d17_62 rfl,
   fun _ _ _ _ => xl_gf d17_63 xco17 xf_10_23,
   fun ls a0 h => xl_cv (As := [a0]) (st := []) d17_66 xco17 xm_10_101 (congrArg Nat.succ xnp61) (by decide +kernel) rfl,
   fun _ _ _ _ => xl_aln d17_69 rfl,
   fun _ _ _ _ => xl_gf d17_70 xco17 xf_10_12,
   fun _ _ _ _ => xl_gf d17_73 xco17 xf_10_79,
   fun _ _ _ _ => xl_gf d17_76 xco17 xf_10_102,
   fun _ _ _ => xl_bi d17_79 (by decide +kernel),
   fun ls a0 a1 h => xl_cv (As := [a0, a1]) (st := []) d17_81 xco17 xm_10_105 (congrArg Nat.succ xnp62) (by decide +kernel) rfl,
   fun _ _ _ => xl_iri d17_84 xrt17⟩
/-! 18 FacetSieve$SchemeReader.readScheme(LFacetSieve$Tape;)Z -/
theorem d18_0 : decode (zz_c 18) 0 = .ok (.aload_n 0, 1) := by decide +kernel
theorem d18_1 : decode (zz_c 18) 1 = .ok (.getfield 21, 3) := by decide +kernel
theorem d18_4 : decode (zz_c 18) 4 = .ok (.invokevirtual 25, 3) := by decide +kernel
theorem d18_7 : decode (zz_c 18) 7 = .ok (.aload_n 0, 1) := by decide +kernel
theorem d18_8 : decode (zz_c 18) 8 = .ok (.getfield 12, 3) := by decide +kernel
theorem d18_11 : decode (zz_c 18) 11 = .ok (.aload_n 1, 1) := by decide +kernel
theorem d18_12 : decode (zz_c 18) 12 = .ok (.invokevirtual 28, 3) := by decide +kernel
theorem d18_15 : decode (zz_c 18) 15 = .ok (.iconst 1, 1) := by decide +kernel
theorem d18_16 : decode (zz_c 18) 16 = .ok (.istore_n 2, 1) := by decide +kernel
theorem d18_17 : decode (zz_c 18) 17 = .ok (.iconst 0, 1) := by decide +kernel
theorem d18_18 : decode (zz_c 18) 18 = .ok (.istore_n 3, 1) := by decide +kernel
theorem d18_19 : decode (zz_c 18) 19 = .ok (.iload_n 2, 1) := by decide +kernel
theorem d18_20 : decode (zz_c 18) 20 = .ok (.ifCond .eq 31, 3) := by decide +kernel
theorem d18_23 : decode (zz_c 18) 23 = .ok (.aload_n 0, 1) := by decide +kernel
theorem d18_24 : decode (zz_c 18) 24 = .ok (.getfield 12, 3) := by decide +kernel
theorem d18_27 : decode (zz_c 18) 27 = .ok (.getfield 32, 3) := by decide +kernel
theorem d18_30 : decode (zz_c 18) 30 = .ok (.ifCond .eq 21, 3) := by decide +kernel
theorem d18_33 : decode (zz_c 18) 33 = .ok (.iload_n 3, 1) := by decide +kernel
theorem d18_34 : decode (zz_c 18) 34 = .ok (.sipush 600, 3) := by decide +kernel
theorem d18_37 : decode (zz_c 18) 37 = .ok (.if_icmp .ge 14, 3) := by decide +kernel
theorem d18_40 : decode (zz_c 18) 40 = .ok (.aload_n 0, 1) := by decide +kernel
theorem d18_41 : decode (zz_c 18) 41 = .ok (.invokevirtual 36, 3) := by decide +kernel
theorem d18_44 : decode (zz_c 18) 44 = .ok (.istore_n 2, 1) := by decide +kernel
theorem d18_45 : decode (zz_c 18) 45 = .ok (.iinc 3 1, 3) := by decide +kernel
theorem d18_48 : decode (zz_c 18) 48 = .ok (.goto (-29), 3) := by decide +kernel
theorem d18_51 : decode (zz_c 18) 51 = .ok (.iload_n 2, 1) := by decide +kernel
theorem d18_52 : decode (zz_c 18) 52 = .ok (.ireturn, 1) := by decide +kernel
theorem x18 : (∀ l1 l2 l3 x st h, zz_Y 18 (0, [some (.ref x), l1, l2, l3], st, h) = zz_Y 18 (1, [some (.ref x), l1, l2, l3], .ref x :: st, h)) ∧ (∀ ls a st h, zz_Y 18 (1, ls, .ref a :: st, h) = mo_gf (hp_g h a) 5 1 18 4 ls st h) ∧ (∀ ls a0 h, zz_Y 18 (4, ls, [a0], h) = mo_k 18 7 ls [] (zz_run 19 [a0] h)) ∧ (∀ l1 l2 l3 x st h, zz_Y 18 (7, [some (.ref x), l1, l2, l3], st, h) = zz_Y 18 (8, [some (.ref x), l1, l2, l3], .ref x :: st, h)) ∧ (∀ ls a st h, zz_Y 18 (8, ls, .ref a :: st, h) = mo_gf (hp_g h a) 5 0 18 11 ls st h) ∧ (∀ l0 l2 l3 x st h, zz_Y 18 (11, [l0, some (.ref x), l2, l3], st, h) = zz_Y 18 (12, [l0, some (.ref x), l2, l3], .ref x :: st, h)) ∧ (∀ ls a0 a1 h, zz_Y 18 (12, ls, [a1, a0], h) = mo_k 18 15 ls [] (zz_run 22 [a0, a1] h)) ∧ (∀ ls st h, zz_Y 18 (15, ls, st, h) = zz_Y 18 (16, ls, .int (nI 1) :: st, h)) ∧ (∀ l0 l1 l2 l3 x st h, zz_nl l1 = true → zz_Y 18 (16, [l0, l1, l2, l3], .int x :: st, h) = zz_Y 18 (17, [l0, l1, some (.int x), l3], st, h)) ∧ (∀ ls st h, zz_Y 18 (17, ls, st, h) = zz_Y 18 (18, ls, .int (nI 0) :: st, h)) ∧ (∀ l0 l1 l2 l3 x st h, zz_nl l2 = true → zz_Y 18 (18, [l0, l1, l2, l3], .int x :: st, h) = zz_Y 18 (19, [l0, l1, l2, some (.int x)], st, h)) ∧ (∀ ls a st h, zz_Y 18 (20, ls, .int a :: st, h) = if a = nI 0 then zz_Y 18 (51, ls, st, h) else zz_Y 18 (23, ls, st, h)) ∧ (∀ l1 l2 l3 x st h, zz_Y 18 (23, [some (.ref x), l1, l2, l3], st, h) = zz_Y 18 (24, [some (.ref x), l1, l2, l3], .ref x :: st, h)) ∧ (∀ ls a st h, zz_Y 18 (24, ls, .ref a :: st, h) = mo_gf (hp_g h a) 5 0 18 27 ls st h) ∧ (∀ ls a st h, zz_Y 18 (27, ls, .ref a :: st, h) = mo_gf (hp_g h a) 9 2 18 30 ls st h) ∧ (∀ ls a st h, zz_Y 18 (30, ls, .int a :: st, h) = if a = nI 0 then zz_Y 18 (51, ls, st, h) else zz_Y 18 (33, ls, st, h)) ∧ (∀ l0 l1 l2 x st h, zz_Y 18 (33, [l0, l1, l2, some (.int x)], st, h) = zz_Y 18 (34, [l0, l1, l2, some (.int x)], .int x :: st, h)) ∧ (∀ ls st h, zz_Y 18 (34, ls, st, h) = zz_Y 18 (37, ls, .int (nI 600) :: st, h)) ∧ (∀ ls a b st h, zz_Y 18 (37, ls, .int b :: .int a :: st, h) = if a < b then zz_Y 18 (40, ls, st, h) else zz_Y 18 (51, ls, st, h)) ∧ (∀ l1 l2 l3 x st h, zz_Y 18 (40, [some (.ref x), l1, l2, l3], st, h) = zz_Y 18 (41, [some (.ref x), l1, l2, l3], .ref x :: st, h)) ∧ (∀ ls a0 h, zz_Y 18 (41, ls, [a0], h) = mo_k 18 44 ls [] (zz_run 32 [a0] h)) ∧ (∀ l0 l1 l2 l3 x st h, zz_nl l1 = true → zz_Y 18 (44, [l0, l1, l2, l3], .int x :: st, h) = zz_Y 18 (45, [l0, l1, some (.int x), l3], st, h)) ∧ (∀ l0 l1 l2 x st h, zz_nl l2 = true → zz_Y 18 (45, [l0, l1, l2, some (.int x)], st, h) = zz_Y 18 (48, [l0, l1, l2, some (.int (x + nI 1))], st, h)) ∧ (∀ ls st h, zz_Y 18 (48, ls, st, h) = zz_Y 18 (19, ls, st, h)) ∧ (∀ l0 l1 l3 x st h, zz_Y 18 (51, [l0, l1, some (.int x), l3], st, h) = zz_Y 18 (52, [l0, l1, some (.int x), l3], .int x :: st, h)) ∧ (∀ ls v h, v = nI 0 ∨ v = nI 1 → zz_Y 18 (52, ls, [.int v], h) = some (some (.int v), h)) :=
  ⟨fun _ _ _ _ _ _ => xl_aln d18_0 rfl,
   fun _ _ _ _ => xl_gf d18_1 xco18 xf_5_21,
   fun ls a0 h => xl_cv (As := [a0]) (st := []) d18_4 xco18 xm_5_25 (congrArg Nat.succ xnp19) (by decide +kernel) rfl,
   fun _ _ _ _ _ _ => xl_aln d18_7 rfl,
   fun _ _ _ _ => xl_gf d18_8 xco18 xf_5_12,
   fun _ _ _ _ _ _ => xl_aln d18_11 rfl,
   fun ls a0 a1 h => xl_cv (As := [a0, a1]) (st := []) d18_12 xco18 xm_5_28 (congrArg Nat.succ xnp22) (by decide +kernel) rfl,
   fun _ _ _ => xl_ic d18_15 (by decide +kernel),
   fun _ _ _ _ _ _ _ hc => xl_isn d18_16 xml18 (by decide) (zz_nl_s1 hc),
   fun _ _ _ => xl_ic d18_17 (by decide +kernel),
   fun _ _ _ _ _ _ _ hc => xl_isn d18_18 xml18 (by decide) (zz_nl_s1 hc),
   fun _ _ _ _ => xl_ifeq d18_20 rfl,
   fun _ _ _ _ _ _ => xl_aln d18_23 rfl,
   fun _ _ _ _ => xl_gf d18_24 xco18 xf_5_12,
   fun _ _ _ _ => xl_gf d18_27 xco18 xf_5_32,
   fun _ _ _ _ => xl_ifeq d18_30 rfl,
   fun _ _ _ _ _ _ => xl_iln d18_33 rfl,
   fun _ _ _ => xl_si d18_34 (by decide +kernel),
   fun _ _ _ _ _ => xl_icge d18_37 rfl,
   fun _ _ _ _ _ _ => xl_aln d18_40 rfl,
   fun ls a0 h => xl_cv (As := [a0]) (st := []) d18_41 xco18 xm_5_36 (congrArg Nat.succ xnp32) (by decide +kernel) rfl,
   fun _ _ _ _ _ _ _ hc => xl_isn d18_44 xml18 (by decide) (zz_nl_s1 hc),
   fun _ _ _ _ _ _ hc => xl_inc d18_45 xml18 (by decide) rfl (by decide +kernel) (zz_nl_s1 hc),
   fun _ _ _ => xl_goto d18_48 rfl,
   fun _ _ _ _ _ _ => xl_iln d18_51 rfl,
   fun _ _ _ hc => xl_irz d18_52 xrt18 hc⟩
theorem x18_c19 : ∀ l0 l1 l3 x st h, zz_Y 18 (19, [l0, l1, some (.int x), l3], st, h) = zz_Y 18 (20, [l0, l1, some (.int x), l3], .int x :: st, h) := fun _ _ _ _ _ _ => xl_iln d18_19 rfl
/-! 19 FacetSieve$Stock.clear()V -/
theorem d19_0 : decode (zz_c 19) 0 = .ok (.aload_n 0, 1) := by decide +kernel
theorem d19_1 : decode (zz_c 19) 1 = .ok (.getfield 12, 3) := by decide +kernel
theorem d19_4 : decode (zz_c 19) 4 = .ok (.invokevirtual 40, 3) := by decide +kernel
theorem d19_7 : decode (zz_c 19) 7 = .ok (.aload_n 0, 1) := by decide +kernel
theorem d19_8 : decode (zz_c 19) 8 = .ok (.getfield 18, 3) := by decide +kernel
theorem d19_11 : decode (zz_c 19) 11 = .ok (.iconst (-1), 1) := by decide +kernel
theorem d19_12 : decode (zz_c 19) 12 = .ok (.invokestatic 34, 3) := by decide +kernel
theorem d19_15 : decode (zz_c 19) 15 = .ok (.aload_n 0, 1) := by decide +kernel
theorem d19_16 : decode (zz_c 19) 16 = .ok (.getfield 22, 3) := by decide +kernel
theorem d19_19 : decode (zz_c 19) 19 = .ok (.iconst 0, 1) := by decide +kernel
theorem d19_20 : decode (zz_c 19) 20 = .ok (.invokestatic 34, 3) := by decide +kernel
theorem d19_23 : decode (zz_c 19) 23 = .ok (.aload_n 0, 1) := by decide +kernel
theorem d19_24 : decode (zz_c 19) 24 = .ok (.getfield 30, 3) := by decide +kernel
theorem d19_27 : decode (zz_c 19) 27 = .ok (.invokevirtual 43, 3) := by decide +kernel
theorem d19_30 : decode (zz_c 19) 30 = .ok (.return_, 1) := by decide +kernel
theorem x19 : (∀ x st h, zz_Y 19 (0, [some (.ref x)], st, h) = zz_Y 19 (1, [some (.ref x)], .ref x :: st, h)) ∧ (∀ ls a st h, zz_Y 19 (1, ls, .ref a :: st, h) = mo_gf (hp_g h a) 7 0 19 4 ls st h) ∧ (∀ ls a0 h, zz_Y 19 (4, ls, [a0], h) = mo_k 19 7 ls [] (zz_run 20 [a0] h)) ∧ (∀ x st h, zz_Y 19 (7, [some (.ref x)], st, h) = zz_Y 19 (8, [some (.ref x)], .ref x :: st, h)) ∧ (∀ ls a st h, zz_Y 19 (8, ls, .ref a :: st, h) = mo_gf (hp_g h a) 7 1 19 11 ls st h) ∧ (∀ ls st h, zz_Y 19 (11, ls, st, h) = zz_Y 19 (12, ls, .int (-1) :: st, h)) ∧ (∀ ls a0 a1 h, zz_Y 19 (12, ls, [a1, a0], h) = mo_k 19 15 ls [] (zz_run 7 [a0, a1] h)) ∧ (∀ x st h, zz_Y 19 (15, [some (.ref x)], st, h) = zz_Y 19 (16, [some (.ref x)], .ref x :: st, h)) ∧ (∀ ls a st h, zz_Y 19 (16, ls, .ref a :: st, h) = mo_gf (hp_g h a) 7 2 19 19 ls st h) ∧ (∀ ls st h, zz_Y 19 (19, ls, st, h) = zz_Y 19 (20, ls, .int (nI 0) :: st, h)) ∧ (∀ ls a0 a1 h, zz_Y 19 (20, ls, [a1, a0], h) = mo_k 19 23 ls [] (zz_run 7 [a0, a1] h)) ∧ (∀ x st h, zz_Y 19 (23, [some (.ref x)], st, h) = zz_Y 19 (24, [some (.ref x)], .ref x :: st, h)) ∧ (∀ ls a st h, zz_Y 19 (24, ls, .ref a :: st, h) = mo_gf (hp_g h a) 7 3 19 27 ls st h) ∧ (∀ ls a0 h, zz_Y 19 (27, ls, [a0], h) = mo_k 19 30 ls [] (zz_run 21 [a0] h)) ∧ (∀ ls h, zz_Y 19 (30, ls, [], h) = some (none, h)) :=
  ⟨fun _ _ _ => xl_aln d19_0 rfl,
   fun _ _ _ _ => xl_gf d19_1 xco19 xf_7_12,
   fun ls a0 h => xl_cv (As := [a0]) (st := []) d19_4 xco19 xm_7_40 (congrArg Nat.succ xnp20) (by decide +kernel) rfl,
   fun _ _ _ => xl_aln d19_7 rfl,
   fun _ _ _ _ => xl_gf d19_8 xco19 xf_7_18,
   fun _ _ _ => xl_ic d19_11 (by decide +kernel),
   fun ls a0 a1 h => xl_cs (As := [a0, a1]) (st := []) d19_12 xco19 xm_7_34 xnp7 (by decide +kernel) rfl,
   fun _ _ _ => xl_aln d19_15 rfl,
   fun _ _ _ _ => xl_gf d19_16 xco19 xf_7_22,
   fun _ _ _ => xl_ic d19_19 (by decide +kernel),
   fun ls a0 a1 h => xl_cs (As := [a0, a1]) (st := []) d19_20 xco19 xm_7_34 xnp7 (by decide +kernel) rfl,
   fun _ _ _ => xl_aln d19_23 rfl,
   fun _ _ _ _ => xl_gf d19_24 xco19 xf_7_30,
   fun ls a0 h => xl_cv (As := [a0]) (st := []) d19_27 xco19 xm_7_43 (congrArg Nat.succ xnp21) (by decide +kernel) rfl,
   fun _ _ => xl_r d19_30 xrt19⟩
/-! 20 FacetSieve$Plan.clear()V -/
theorem d20_0 : decode (zz_c 20) 0 = .ok (.aload_n 0, 1) := by decide +kernel
theorem d20_1 : decode (zz_c 20) 1 = .ok (.iconst 0, 1) := by decide +kernel
theorem d20_2 : decode (zz_c 20) 2 = .ok (.putfield 37, 3) := by decide +kernel
theorem d20_5 : decode (zz_c 20) 5 = .ok (.aload_n 0, 1) := by decide +kernel
theorem d20_6 : decode (zz_c 20) 6 = .ok (.iconst 0, 1) := by decide +kernel
theorem d20_7 : decode (zz_c 20) 7 = .ok (.putfield 41, 3) := by decide +kernel
theorem d20_10 : decode (zz_c 20) 10 = .ok (.return_, 1) := by decide +kernel
theorem x20 : (∀ x st h, zz_Y 20 (0, [some (.ref x)], st, h) = zz_Y 20 (1, [some (.ref x)], .ref x :: st, h)) ∧ (∀ ls st h, zz_Y 20 (1, ls, st, h) = zz_Y 20 (2, ls, .int (nI 0) :: st, h)) ∧ (∀ ls a v st h, zz_Y 20 (2, ls, v :: .ref a :: st, h) = mo_pf (hp_g h a) 3 0 .int v a 20 5 ls st h) ∧ (∀ x st h, zz_Y 20 (5, [some (.ref x)], st, h) = zz_Y 20 (6, [some (.ref x)], .ref x :: st, h)) ∧ (∀ ls st h, zz_Y 20 (6, ls, st, h) = zz_Y 20 (7, ls, .int (nI 0) :: st, h)) ∧ (∀ ls a v st h, zz_Y 20 (7, ls, v :: .ref a :: st, h) = mo_pf (hp_g h a) 3 5 .int v a 20 10 ls st h) ∧ (∀ ls h, zz_Y 20 (10, ls, [], h) = some (none, h)) :=
  ⟨fun _ _ _ => xl_aln d20_0 rfl,
   fun _ _ _ => xl_ic d20_1 (by decide +kernel),
   fun _ _ _ _ _ => xl_pf d20_2 xco20 xf_3_37 (by decide +kernel) rfl,
   fun _ _ _ => xl_aln d20_5 rfl,
   fun _ _ _ => xl_ic d20_6 (by decide +kernel),
   fun _ _ _ _ _ => xl_pf d20_7 xco20 xf_3_41 (by decide +kernel) rfl,
   fun _ _ => xl_r d20_10 xrt20⟩
/-! 21 FacetSieve$Sets.clear()V -/
theorem d21_0 : decode (zz_c 21) 0 = .ok (.aload_n 0, 1) := by decide +kernel
theorem d21_1 : decode (zz_c 21) 1 = .ok (.getfield 21, 3) := by decide +kernel
theorem d21_4 : decode (zz_c 21) 4 = .ok (.iconst 0, 1) := by decide +kernel
theorem d21_5 : decode (zz_c 21) 5 = .ok (.invokestatic 35, 3) := by decide +kernel
theorem d21_8 : decode (zz_c 21) 8 = .ok (.return_, 1) := by decide +kernel
theorem x21 : (∀ x st h, zz_Y 21 (0, [some (.ref x)], st, h) = zz_Y 21 (1, [some (.ref x)], .ref x :: st, h)) ∧ (∀ ls a st h, zz_Y 21 (1, ls, .ref a :: st, h) = mo_gf (hp_g h a) 6 1 21 4 ls st h) ∧ (∀ ls st h, zz_Y 21 (4, ls, st, h) = zz_Y 21 (5, ls, .int (nI 0) :: st, h)) ∧ (∀ ls a0 a1 h, zz_Y 21 (5, ls, [a1, a0], h) = mo_k 21 8 ls [] (zz_run 7 [a0, a1] h)) ∧ (∀ ls h, zz_Y 21 (8, ls, [], h) = some (none, h)) :=
  ⟨fun _ _ _ => xl_aln d21_0 rfl,
   fun _ _ _ _ => xl_gf d21_1 xco21 xf_6_21,
   fun _ _ _ => xl_ic d21_4 (by decide +kernel),
   fun ls a0 a1 h => xl_cs (As := [a0, a1]) (st := []) d21_5 xco21 xm_6_35 xnp7 (by decide +kernel) rfl,
   fun _ _ => xl_r d21_8 xrt21⟩
/-! 22 FacetSieve$Tokens.take(LFacetSieve$Tape;)V -/
theorem d22_0 : decode (zz_c 22) 0 = .ok (.aload_n 0, 1) := by decide +kernel
theorem d22_1 : decode (zz_c 22) 1 = .ok (.getfield 12, 3) := by decide +kernel
theorem d22_4 : decode (zz_c 22) 4 = .ok (.aload_n 1, 1) := by decide +kernel
theorem d22_5 : decode (zz_c 22) 5 = .ok (.invokevirtual 18, 3) := by decide +kernel
theorem d22_8 : decode (zz_c 22) 8 = .ok (.aload_n 1, 1) := by decide +kernel
theorem d22_9 : decode (zz_c 22) 9 = .ok (.iconst 0, 1) := by decide +kernel
theorem d22_10 : decode (zz_c 22) 10 = .ok (.putfield 22, 3) := by decide +kernel
theorem d22_13 : decode (zz_c 22) 13 = .ok (.aload_n 0, 1) := by decide +kernel
theorem d22_14 : decode (zz_c 22) 14 = .ok (.iconst 0, 1) := by decide +kernel
theorem d22_15 : decode (zz_c 22) 15 = .ok (.putfield 26, 3) := by decide +kernel
theorem d22_18 : decode (zz_c 22) 18 = .ok (.aload_n 0, 1) := by decide +kernel
theorem d22_19 : decode (zz_c 22) 19 = .ok (.iconst 0, 1) := by decide +kernel
theorem d22_20 : decode (zz_c 22) 20 = .ok (.putfield 29, 3) := by decide +kernel
theorem d22_23 : decode (zz_c 22) 23 = .ok (.aload_n 0, 1) := by decide +kernel
theorem d22_24 : decode (zz_c 22) 24 = .ok (.iconst (-1), 1) := by decide +kernel
theorem d22_25 : decode (zz_c 22) 25 = .ok (.putfield 32, 3) := by decide +kernel
theorem d22_28 : decode (zz_c 22) 28 = .ok (.aload_n 0, 1) := by decide +kernel
theorem d22_29 : decode (zz_c 22) 29 = .ok (.invokevirtual 35, 3) := by decide +kernel
theorem d22_32 : decode (zz_c 22) 32 = .ok (.return_, 1) := by decide +kernel
theorem x22 : (∀ l1 x st h, zz_Y 22 (0, [some (.ref x), l1], st, h) = zz_Y 22 (1, [some (.ref x), l1], .ref x :: st, h)) ∧ (∀ ls a st h, zz_Y 22 (1, ls, .ref a :: st, h) = mo_gf (hp_g h a) 9 0 22 4 ls st h) ∧ (∀ l0 x st h, zz_Y 22 (4, [l0, some (.ref x)], st, h) = zz_Y 22 (5, [l0, some (.ref x)], .ref x :: st, h)) ∧ (∀ ls a0 a1 h, zz_Y 22 (5, ls, [a1, a0], h) = mo_k 22 8 ls [] (zz_run 149 [a0, a1] h)) ∧ (∀ l0 x st h, zz_Y 22 (8, [l0, some (.ref x)], st, h) = zz_Y 22 (9, [l0, some (.ref x)], .ref x :: st, h)) ∧ (∀ ls st h, zz_Y 22 (9, ls, st, h) = zz_Y 22 (10, ls, .int (nI 0) :: st, h)) ∧ (∀ ls a v st h, zz_Y 22 (10, ls, v :: .ref a :: st, h) = mo_pf (hp_g h a) 8 1 .int v a 22 13 ls st h) ∧ (∀ l1 x st h, zz_Y 22 (13, [some (.ref x), l1], st, h) = zz_Y 22 (14, [some (.ref x), l1], .ref x :: st, h)) ∧ (∀ ls st h, zz_Y 22 (14, ls, st, h) = zz_Y 22 (15, ls, .int (nI 0) :: st, h)) ∧ (∀ ls a v st h, zz_Y 22 (15, ls, v :: .ref a :: st, h) = mo_pf (hp_g h a) 9 1 .int v a 22 18 ls st h) ∧ (∀ l1 x st h, zz_Y 22 (18, [some (.ref x), l1], st, h) = zz_Y 22 (19, [some (.ref x), l1], .ref x :: st, h)) ∧ (∀ ls st h, zz_Y 22 (19, ls, st, h) = zz_Y 22 (20, ls, .int (nI 0) :: st, h)) ∧ (∀ ls a v st h, zz_Y 22 (20, ls, v :: .ref a :: st, h) = mo_pf (hp_g h a) 9 6 .int v a 22 23 ls st h) ∧ (∀ l1 x st h, zz_Y 22 (23, [some (.ref x), l1], st, h) = zz_Y 22 (24, [some (.ref x), l1], .ref x :: st, h)) ∧ (∀ ls st h, zz_Y 22 (24, ls, st, h) = zz_Y 22 (25, ls, .int (-1) :: st, h)) ∧ (∀ ls a v st h, zz_Y 22 (25, ls, v :: .ref a :: st, h) = mo_pf (hp_g h a) 9 7 .int v a 22 28 ls st h) ∧ (∀ l1 x st h, zz_Y 22 (28, [some (.ref x), l1], st, h) = zz_Y 22 (29, [some (.ref x), l1], .ref x :: st, h)) ∧ (∀ ls a0 h, zz_Y 22 (29, ls, [a0], h) = mo_k 22 32 ls [] (zz_run 23 [a0] h)) ∧ (∀ ls h, zz_Y 22 (32, ls, [], h) = some (none, h)) :=
  ⟨fun _ _ _ _ => xl_aln d22_0 rfl,
   fun _ _ _ _ => xl_gf d22_1 xco22 xf_9_12,
   fun _ _ _ _ => xl_aln d22_4 rfl,
   fun ls a0 a1 h => xl_cv (As := [a0, a1]) (st := []) d22_5 xco22 xm_9_18 (congrArg Nat.succ xnp149) (by decide +kernel) rfl,
   fun _ _ _ _ => xl_aln d22_8 rfl,
   fun _ _ _ => xl_ic d22_9 (by decide +kernel),
   fun _ _ _ _ _ => xl_pf d22_10 xco22 xf_9_22 (by decide +kernel) rfl,
   fun _ _ _ _ => xl_aln d22_13 rfl,
   fun _ _ _ => xl_ic d22_14 (by decide +kernel),
   fun _ _ _ _ _ => xl_pf d22_15 xco22 xf_9_26 (by decide +kernel) rfl,
   fun _ _ _ _ => xl_aln d22_18 rfl,
   fun _ _ _ => xl_ic d22_19 (by decide +kernel),
   fun _ _ _ _ _ => xl_pf d22_20 xco22 xf_9_29 (by decide +kernel) rfl,
   fun _ _ _ _ => xl_aln d22_23 rfl,
   fun _ _ _ => xl_ic d22_24 (by decide +kernel),
   fun _ _ _ _ _ => xl_pf d22_25 xco22 xf_9_32 (by decide +kernel) rfl,
   fun _ _ _ _ => xl_aln d22_28 rfl,
   fun ls a0 h => xl_cv (As := [a0]) (st := []) d22_29 xco22 xm_9_35 (congrArg Nat.succ xnp23) (by decide +kernel) rfl,
   fun _ _ => xl_r d22_32 xrt22⟩
/-! 23 FacetSieve$Tokens.step()V -/
theorem d23_0 : decode (zz_c 23) 0 = .ok (.aload_n 0, 1) := by decide +kernel
theorem d23_1 : decode (zz_c 23) 1 = .ok (.getfield 26, 3) := by decide +kernel
theorem d23_4 : decode (zz_c 23) 4 = .ok (.aload_n 0, 1) := by decide +kernel
theorem d23_5 : decode (zz_c 23) 5 = .ok (.getfield 12, 3) := by decide +kernel
theorem d23_8 : decode (zz_c 23) 8 = .ok (.getfield 22, 3) := by decide +kernel
theorem d23_11 : decode (zz_c 23) 11 = .ok (.if_icmp .ge 33, 3) := by decide +kernel
theorem d23_14 : decode (zz_c 23) 14 = .ok (.aload_n 0, 1) := by decide +kernel
theorem d23_15 : decode (zz_c 23) 15 = .ok (.getfield 12, 3) := by decide +kernel
theorem d23_18 : decode (zz_c 23) 18 = .ok (.aload_n 0, 1) := by decide +kernel
theorem d23_19 : decode (zz_c 23) 19 = .ok (.getfield 26, 3) := by decide +kernel
theorem d23_22 : decode (zz_c 23) 22 = .ok (.invokevirtual 41, 3) := by decide +kernel
theorem d23_25 : decode (zz_c 23) 25 = .ok (.invokestatic 45, 3) := by decide +kernel
theorem d23_28 : decode (zz_c 23) 28 = .ok (.ifCond .eq 16, 3) := by decide +kernel
theorem d23_31 : decode (zz_c 23) 31 = .ok (.aload_n 0, 1) := by decide +kernel
theorem d23_32 : decode (zz_c 23) 32 = .ok (.dup, 1) := by decide +kernel
theorem d23_33 : decode (zz_c 23) 33 = .ok (.getfield 26, 3) := by decide +kernel
theorem d23_36 : decode (zz_c 23) 36 = .ok (.iconst 1, 1) := by decide +kernel
theorem d23_37 : decode (zz_c 23) 37 = .ok (.iadd, 1) := by decide +kernel
theorem d23_38 : decode (zz_c 23) 38 = .ok (.putfield 26, 3) := by decide +kernel
theorem d23_41 : decode (zz_c 23) 41 = .ok (.goto (-41), 3) := by decide +kernel
theorem d23_44 : decode (zz_c 23) 44 = .ok (.aload_n 0, 1) := by decide +kernel
theorem d23_45 : decode (zz_c 23) 45 = .ok (.aload_n 0, 1) := by decide +kernel
theorem d23_46 : decode (zz_c 23) 46 = .ok (.getfield 26, 3) := by decide +kernel
theorem d23_49 : decode (zz_c 23) 49 = .ok (.putfield 38, 3) := by decide +kernel
theorem d23_52 : decode (zz_c 23) 52 = .ok (.aload_n 0, 1) := by decide +kernel
theorem d23_53 : decode (zz_c 23) 53 = .ok (.getfield 12, 3) := by decide +kernel
theorem d23_56 : decode (zz_c 23) 56 = .ok (.aload_n 0, 1) := by decide +kernel
theorem d23_57 : decode (zz_c 23) 57 = .ok (.getfield 26, 3) := by decide +kernel
theorem d23_60 : decode (zz_c 23) 60 = .ok (.invokevirtual 41, 3) := by decide +kernel
theorem d23_63 : decode (zz_c 23) 63 = .ok (.istore_n 1, 1) := by decide +kernel
theorem d23_64 : decode (zz_c 23) 64 = .ok (.iload_n 1, 1) := by decide +kernel
theorem d23_65 : decode (zz_c 23) 65 = .ok (.iconst (-1), 1) := by decide +kernel
theorem d23_66 : decode (zz_c 23) 66 = .ok (.if_icmp .ne 11, 3) := by decide +kernel
theorem d23_69 : decode (zz_c 23) 69 = .ok (.aload_n 0, 1) := by decide +kernel
theorem d23_70 : decode (zz_c 23) 70 = .ok (.iconst 0, 1) := by decide +kernel
theorem d23_71 : decode (zz_c 23) 71 = .ok (.putfield 49, 3) := by decide +kernel
theorem d23_74 : decode (zz_c 23) 74 = .ok (.goto 49, 3) := by decide +kernel
theorem d23_77 : decode (zz_c 23) 77 = .ok (.iload_n 1, 1) := by decide +kernel
theorem d23_78 : decode (zz_c 23) 78 = .ok (.invokestatic 52, 3) := by decide +kernel
theorem d23_81 : decode (zz_c 23) 81 = .ok (.ifCond .eq 10, 3) := by decide +kernel
theorem d23_84 : decode (zz_c 23) 84 = .ok (.aload_n 0, 1) := by decide +kernel
theorem d23_85 : decode (zz_c 23) 85 = .ok (.invokevirtual 55, 3) := by decide +kernel
theorem d23_88 : decode (zz_c 23) 88 = .ok (.goto 35, 3) := by decide +kernel
theorem d23_91 : decode (zz_c 23) 91 = .ok (.iload_n 1, 1) := by decide +kernel
theorem d23_92 : decode (zz_c 23) 92 = .ok (.invokestatic 58, 3) := by decide +kernel
theorem d23_95 : decode (zz_c 23) 95 = .ok (.ifCond .eq 10, 3) := by decide +kernel
theorem d23_98 : decode (zz_c 23) 98 = .ok (.aload_n 0, 1) := by decide +kernel
theorem d23_99 : decode (zz_c 23) 99 = .ok (.invokevirtual 61, 3) := by decide +kernel
theorem d23_102 : decode (zz_c 23) 102 = .ok (.goto 21, 3) := by decide +kernel
theorem d23_105 : decode (zz_c 23) 105 = .ok (.aload_n 0, 1) := by decide +kernel
theorem d23_106 : decode (zz_c 23) 106 = .ok (.iload_n 1, 1) := by decide +kernel
theorem d23_107 : decode (zz_c 23) 107 = .ok (.invokestatic 64, 3) := by decide +kernel
theorem d23_110 : decode (zz_c 23) 110 = .ok (.putfield 49, 3) := by decide +kernel
theorem d23_113 : decode (zz_c 23) 113 = .ok (.aload_n 0, 1) := by decide +kernel
theorem d23_114 : decode (zz_c 23) 114 = .ok (.dup, 1) := by decide +kernel
theorem d23_115 : decode (zz_c 23) 115 = .ok (.getfield 26, 3) := by decide +kernel
theorem d23_118 : decode (zz_c 23) 118 = .ok (.iconst 1, 1) := by decide +kernel
theorem d23_119 : decode (zz_c 23) 119 = .ok (.iadd, 1) := by decide +kernel
theorem d23_120 : decode (zz_c 23) 120 = .ok (.putfield 26, 3) := by decide +kernel
theorem d23_123 : decode (zz_c 23) 123 = .ok (.return_, 1) := by decide +kernel
theorem x23 : (∀ ls a st h, zz_Y 23 (1, ls, .ref a :: st, h) = mo_gf (hp_g h a) 9 1 23 4 ls st h) ∧ (∀ l1 x st h, zz_Y 23 (4, [some (.ref x), l1], st, h) = zz_Y 23 (5, [some (.ref x), l1], .ref x :: st, h)) ∧ (∀ ls a st h, zz_Y 23 (5, ls, .ref a :: st, h) = mo_gf (hp_g h a) 9 0 23 8 ls st h) ∧ (∀ ls a st h, zz_Y 23 (8, ls, .ref a :: st, h) = mo_gf (hp_g h a) 8 1 23 11 ls st h) ∧ (∀ ls a b st h, zz_Y 23 (11, ls, .int b :: .int a :: st, h) = if a < b then zz_Y 23 (14, ls, st, h) else zz_Y 23 (44, ls, st, h)) ∧ (∀ l1 x st h, zz_Y 23 (14, [some (.ref x), l1], st, h) = zz_Y 23 (15, [some (.ref x), l1], .ref x :: st, h)) ∧ (∀ ls a st h, zz_Y 23 (15, ls, .ref a :: st, h) = mo_gf (hp_g h a) 9 0 23 18 ls st h) ∧ (∀ l1 x st h, zz_Y 23 (18, [some (.ref x), l1], st, h) = zz_Y 23 (19, [some (.ref x), l1], .ref x :: st, h)) ∧ (∀ ls a st h, zz_Y 23 (19, ls, .ref a :: st, h) = mo_gf (hp_g h a) 9 1 23 22 ls st h) ∧ (∀ ls a0 a1 h, zz_Y 23 (22, ls, [a1, a0], h) = mo_k 23 25 ls [] (zz_run 24 [a0, a1] h)) ∧ (∀ ls a0 h, zz_Y 23 (25, ls, [a0], h) = mo_k 23 28 ls [] (zz_run 25 [a0] h)) ∧ (∀ ls a st h, zz_Y 23 (28, ls, .int a :: st, h) = if a = nI 0 then zz_Y 23 (44, ls, st, h) else zz_Y 23 (31, ls, st, h)) ∧ (∀ l1 x st h, zz_Y 23 (31, [some (.ref x), l1], st, h) = zz_Y 23 (32, [some (.ref x), l1], .ref x :: st, h)) ∧ (∀ ls a st h, zz_Y 23 (32, ls, .ref a :: st, h) = zz_Y 23 (33, ls, .ref a :: .ref a :: st, h)) ∧ (∀ ls a st h, zz_Y 23 (33, ls, .ref a :: st, h) = mo_gf (hp_g h a) 9 1 23 36 ls st h) ∧ (∀ ls st h, zz_Y 23 (36, ls, st, h) = zz_Y 23 (37, ls, .int (nI 1) :: st, h)) ∧ (∀ ls a b st h, zz_Y 23 (37, ls, .int b :: .int a :: st, h) = zz_Y 23 (38, ls, .int (a + b) :: st, h)) ∧ (∀ ls a v st h, zz_Y 23 (38, ls, v :: .ref a :: st, h) = mo_pf (hp_g h a) 9 1 .int v a 23 41 ls st h) ∧ (∀ ls st h, zz_Y 23 (41, ls, st, h) = zz_Y 23 (0, ls, st, h)) ∧ (∀ l1 x st h, zz_Y 23 (44, [some (.ref x), l1], st, h) = zz_Y 23 (45, [some (.ref x), l1], .ref x :: st, h)) ∧ (∀ l1 x st h, zz_Y 23 (45, [some (.ref x), l1], st, h) = zz_Y 23 (46, [some (.ref x), l1], .ref x :: st, h)) ∧ (∀ ls a st h, zz_Y 23 (46, ls, .ref a :: st, h) = mo_gf (hp_g h a) 9 1 23 49 ls st h) ∧ (∀ ls a v st h, zz_Y 23 (49, ls, v :: .ref a :: st, h) = mo_pf (hp_g h a) 9 3 .int v a 23 52 ls st h) ∧ (∀ l1 x st h, zz_Y 23 (52, [some (.ref x), l1], st, h) = zz_Y 23 (53, [some (.ref x), l1], .ref x :: st, h)) ∧ (∀ ls a st h, zz_Y 23 (53, ls, .ref a :: st, h) = mo_gf (hp_g h a) 9 0 23 56 ls st h) ∧ (∀ l1 x st h, zz_Y 23 (56, [some (.ref x), l1], st, h) = zz_Y 23 (57, [some (.ref x), l1], .ref x :: st, h)) ∧ (∀ ls a st h, zz_Y 23 (57, ls, .ref a :: st, h) = mo_gf (hp_g h a) 9 1 23 60 ls st h) ∧ (∀ ls a0 a1 h, zz_Y 23 (60, ls, [a1, a0], h) = mo_k 23 63 ls [] (zz_run 24 [a0, a1] h)) ∧ (∀ l0 l1 x st h, zz_nl l0 = true → zz_Y 23 (63, [l0, l1], .int x :: st, h) = zz_Y 23 (64, [l0, some (.int x)], st, h)) ∧ (∀ l0 x st h, zz_Y 23 (64, [l0, some (.int x)], st, h) = zz_Y 23 (65, [l0, some (.int x)], .int x :: st, h)) ∧ (∀ ls st h, zz_Y 23 (65, ls, st, h) = zz_Y 23 (66, ls, .int (-1) :: st, h)) ∧ (∀ ls a b st h, zz_Y 23 (66, ls, .int b :: .int a :: st, h) = if a = b then zz_Y 23 (69, ls, st, h) else zz_Y 23 (77, ls, st, h)) ∧ (∀ l1 x st h, zz_Y 23 (69, [some (.ref x), l1], st, h) = zz_Y 23 (70, [some (.ref x), l1], .ref x :: st, h)) ∧ (∀ ls st h, zz_Y 23 (70, ls, st, h) = zz_Y 23 (71, ls, .int (nI 0) :: st, h)) ∧ (∀ ls a v st h, zz_Y 23 (71, ls, v :: .ref a :: st, h) = mo_pf (hp_g h a) 9 2 .int v a 23 74 ls st h) ∧ (∀ ls st h, zz_Y 23 (74, ls, st, h) = zz_Y 23 (123, ls, st, h)) ∧ (∀ l0 x st h, zz_Y 23 (77, [l0, some (.int x)], st, h) = zz_Y 23 (78, [l0, some (.int x)], .int x :: st, h)) ∧ (∀ ls a0 h, zz_Y 23 (78, ls, [a0], h) = mo_k 23 81 ls [] (zz_run 26 [a0] h)) ∧ (∀ ls a st h, zz_Y 23 (81, ls, .int a :: st, h) = if a = nI 0 then zz_Y 23 (91, ls, st, h) else zz_Y 23 (84, ls, st, h)) ∧ (∀ l1 x st h, zz_Y 23 (84, [some (.ref x), l1], st, h) = zz_Y 23 (85, [some (.ref x), l1], .ref x :: st, h)) ∧ (∀ ls a0 h, zz_Y 23 (85, ls, [a0], h) = mo_k 23 88 ls [] (zz_run 27 [a0] h)) ∧ (∀ ls st h, zz_Y 23 (88, ls, st, h) = zz_Y 23 (123, ls, st, h)) ∧ (∀ l0 x st h, zz_Y 23 (91, [l0, some (.int x)], st, h) = zz_Y 23 (92, [l0, some (.int x)], .int x :: st, h)) ∧ (∀ ls a0 h, zz_Y 23 (92, ls, [a0], h) = mo_k 23 95 ls [] (zz_run 29 [a0] h)) ∧ (∀ ls a st h, zz_Y 23 (95, ls, .int a :: st, h) = if a = nI 0 then zz_Y 23 (105, ls, st, h) else zz_Y 23 (98, ls, st, h)) ∧ (∀ l1 x st h, zz_Y 23 (98, [some (.ref x), l1], st, h) = zz_Y 23 (99, [some (.ref x), l1], .ref x :: st, h)) ∧ (∀ ls a0 h, zz_Y 23 (99, ls, [a0], h) = mo_k 23 102 ls [] (zz_run 30 [a0] h)) ∧ (∀ ls st h, zz_Y 23 (102, ls, st, h) = zz_Y 23 (123, ls, st, h)) ∧ (∀ l1 x st h, zz_Y 23 (105, [some (.ref x), l1], st, h) = zz_Y 23 (106, [some (.ref x), l1], .ref x :: st, h)) ∧ (∀ l0 x st h, zz_Y 23 (106, [l0, some (.int x)], st, h) = zz_Y 23 (107, [l0, some (.int x)], .int x :: st, h)) ∧ (∀ ls a0 s0 h, zz_Y 23 (107, ls, [a0, s0], h) = mo_k 23 110 ls [s0] (zz_run 31 [a0] h)) ∧ (∀ ls a v st h, zz_Y 23 (110, ls, v :: .ref a :: st, h) = mo_pf (hp_g h a) 9 2 .int v a 23 113 ls st h) ∧ (∀ l1 x st h, zz_Y 23 (113, [some (.ref x), l1], st, h) = zz_Y 23 (114, [some (.ref x), l1], .ref x :: st, h)) ∧ (∀ ls a st h, zz_Y 23 (114, ls, .ref a :: st, h) = zz_Y 23 (115, ls, .ref a :: .ref a :: st, h)) ∧ (∀ ls a st h, zz_Y 23 (115, ls, .ref a :: st, h) = mo_gf (hp_g h a) 9 1 23 118 ls st h) ∧ (∀ ls st h, zz_Y 23 (118, ls, st, h) = zz_Y 23 (119, ls, .int (nI 1) :: st, h)) ∧ (∀ ls a b st h, zz_Y 23 (119, ls, .int b :: .int a :: st, h) = zz_Y 23 (120, ls, .int (a + b) :: st, h)) ∧ (∀ ls a v st h, zz_Y 23 (120, ls, v :: .ref a :: st, h) = mo_pf (hp_g h a) 9 1 .int v a 23 123 ls st h) ∧ (∀ ls h, zz_Y 23 (123, ls, [], h) = some (none, h)) :=
  ⟨fun _ _ _ _ => xl_gf d23_1 xco23 xf_9_26,
   fun _ _ _ _ => xl_aln d23_4 rfl,
   fun _ _ _ _ => xl_gf d23_5 xco23 xf_9_12,
   fun _ _ _ _ => xl_gf d23_8 xco23 xf_9_22,
   fun _ _ _ _ _ => xl_icge d23_11 rfl,
   fun _ _ _ _ => xl_aln d23_14 rfl,
   fun _ _ _ _ => xl_gf d23_15 xco23 xf_9_12,
   fun _ _ _ _ => xl_aln d23_18 rfl,
   fun _ _ _ _ => xl_gf d23_19 xco23 xf_9_26,
   fun ls a0 a1 h => xl_cv (As := [a0, a1]) (st := []) d23_22 xco23 xm_9_41 (congrArg Nat.succ xnp24) (by decide +kernel) rfl,
   fun ls a0 h => xl_cs (As := [a0]) (st := []) d23_25 xco23 xm_9_45 xnp25 (by decide +kernel) rfl,
   fun _ _ _ _ => xl_ifeq d23_28 rfl,
   fun _ _ _ _ => xl_aln d23_31 rfl,
   fun _ _ _ _ => xl_dupr d23_32,
   fun _ _ _ _ => xl_gf d23_33 xco23 xf_9_26,
   fun _ _ _ => xl_ic d23_36 (by decide +kernel),
   fun _ _ _ _ _ => xl_iadd d23_37,
   fun _ _ _ _ _ => xl_pf d23_38 xco23 xf_9_26 (by decide +kernel) rfl,
   fun _ _ _ => xl_goto d23_41 rfl,
   fun _ _ _ _ => xl_aln d23_44 rfl,
   fun _ _ _ _ => xl_aln d23_45 rfl,
   fun _ _ _ _ => xl_gf d23_46 xco23 xf_9_26,
   fun _ _ _ _ _ => xl_pf d23_49 xco23 xf_9_38 (by decide +kernel) rfl,
   fun _ _ _ _ => xl_aln d23_52 rfl,
   fun _ _ _ _ => xl_gf d23_53 xco23 xf_9_12,
   fun _ _ _ _ => xl_aln d23_56 rfl,
   fun _ _ _ _ => xl_gf d23_57 xco23 xf_9_26,
   fun ls a0 a1 h => xl_cv (As := [a0, a1]) (st := []) d23_60 xco23 xm_9_41 (congrArg Nat.succ xnp24) (by decide +kernel) rfl,
   fun _ _ _ _ _ hc => xl_isn d23_63 xml23 (by decide) (zz_nl_s1 hc),
   fun _ _ _ _ => xl_iln d23_64 rfl,
   fun _ _ _ => xl_ic d23_65 (by decide +kernel),
   fun _ _ _ _ _ => xl_icne d23_66 rfl,
   fun _ _ _ _ => xl_aln d23_69 rfl,
   fun _ _ _ => xl_ic d23_70 (by decide +kernel),
   fun _ _ _ _ _ => xl_pf d23_71 xco23 xf_9_49 (by decide +kernel) rfl,
   fun _ _ _ => xl_goto d23_74 rfl,
   fun _ _ _ _ => xl_iln d23_77 rfl,
   fun ls a0 h => xl_cs (As := [a0]) (st := []) d23_78 xco23 xm_9_52 xnp26 (by decide +kernel) rfl,
   fun _ _ _ _ => xl_ifeq d23_81 rfl,
   fun _ _ _ _ => xl_aln d23_84 rfl,
   fun ls a0 h => xl_cv (As := [a0]) (st := []) d23_85 xco23 xm_9_55 (congrArg Nat.succ xnp27) (by decide +kernel) rfl,
   fun _ _ _ => xl_goto d23_88 rfl,
   fun _ _ _ _ => xl_iln d23_91 rfl,
   fun ls a0 h => xl_cs (As := [a0]) (st := []) d23_92 xco23 xm_9_58 xnp29 (by decide +kernel) rfl,
   fun _ _ _ _ => xl_ifeq d23_95 rfl,
   fun _ _ _ _ => xl_aln d23_98 rfl,
   fun ls a0 h => xl_cv (As := [a0]) (st := []) d23_99 xco23 xm_9_61 (congrArg Nat.succ xnp30) (by decide +kernel) rfl,
   fun _ _ _ => xl_goto d23_102 rfl,
   fun _ _ _ _ => xl_aln d23_105 rfl,
   fun _ _ _ _ => xl_iln d23_106 rfl,
   fun ls a0 s0 h => xl_cs (As := [a0]) (st := [s0]) d23_107 xco23 xm_9_64 xnp31 (by decide +kernel) rfl,
   fun _ _ _ _ _ => xl_pf d23_110 xco23 xf_9_49 (by decide +kernel) rfl,
   fun _ _ _ _ => xl_aln d23_113 rfl,
   fun _ _ _ _ => xl_dupr d23_114,
   fun _ _ _ _ => xl_gf d23_115 xco23 xf_9_26,
   fun _ _ _ => xl_ic d23_118 (by decide +kernel),
   fun _ _ _ _ _ => xl_iadd d23_119,
   fun _ _ _ _ _ => xl_pf d23_120 xco23 xf_9_26 (by decide +kernel) rfl,
   fun _ _ => xl_r d23_123 xrt23⟩
theorem x23_c0 : ∀ l1 x st h, zz_Y 23 (0, [some (.ref x), l1], st, h) = zz_Y 23 (1, [some (.ref x), l1], .ref x :: st, h) := fun _ _ _ _ => xl_aln d23_0 rfl
/-! 24 FacetSieve$Tape.byteAt(I)I -/
theorem d24_0 : decode (zz_c 24) 0 = .ok (.iload_n 1, 1) := by decide +kernel
theorem d24_1 : decode (zz_c 24) 1 = .ok (.ifCond .lt 24, 3) := by decide +kernel
theorem d24_4 : decode (zz_c 24) 4 = .ok (.iload_n 1, 1) := by decide +kernel
theorem d24_5 : decode (zz_c 24) 5 = .ok (.aload_n 0, 1) := by decide +kernel
theorem d24_6 : decode (zz_c 24) 6 = .ok (.getfield 15, 3) := by decide +kernel
theorem d24_9 : decode (zz_c 24) 9 = .ok (.if_icmp .ge 16, 3) := by decide +kernel
theorem d24_12 : decode (zz_c 24) 12 = .ok (.aload_n 0, 1) := by decide +kernel
theorem d24_13 : decode (zz_c 24) 13 = .ok (.getfield 9, 3) := by decide +kernel
theorem d24_16 : decode (zz_c 24) 16 = .ok (.iload_n 1, 1) := by decide +kernel
theorem d24_17 : decode (zz_c 24) 17 = .ok (.baload, 1) := by decide +kernel
theorem d24_18 : decode (zz_c 24) 18 = .ok (.sipush 255, 3) := by decide +kernel
theorem d24_21 : decode (zz_c 24) 21 = .ok (.iand, 1) := by decide +kernel
theorem d24_22 : decode (zz_c 24) 22 = .ok (.goto 4, 3) := by decide +kernel
theorem d24_25 : decode (zz_c 24) 25 = .ok (.iconst (-1), 1) := by decide +kernel
theorem d24_26 : decode (zz_c 24) 26 = .ok (.ireturn, 1) := by decide +kernel
theorem x24 : (∀ l0 x st h, zz_Y 24 (0, [l0, some (.int x)], st, h) = zz_Y 24 (1, [l0, some (.int x)], .int x :: st, h)) ∧ (∀ ls a st h, zz_Y 24 (1, ls, .int a :: st, h) = if a < nI 0 then zz_Y 24 (25, ls, st, h) else zz_Y 24 (4, ls, st, h)) ∧ (∀ l0 x st h, zz_Y 24 (4, [l0, some (.int x)], st, h) = zz_Y 24 (5, [l0, some (.int x)], .int x :: st, h)) ∧ (∀ l1 x st h, zz_Y 24 (5, [some (.ref x), l1], st, h) = zz_Y 24 (6, [some (.ref x), l1], .ref x :: st, h)) ∧ (∀ ls a st h, zz_Y 24 (6, ls, .ref a :: st, h) = mo_gf (hp_g h a) 8 1 24 9 ls st h) ∧ (∀ ls a b st h, zz_Y 24 (9, ls, .int b :: .int a :: st, h) = if a < b then zz_Y 24 (12, ls, st, h) else zz_Y 24 (25, ls, st, h)) ∧ (∀ l1 x st h, zz_Y 24 (12, [some (.ref x), l1], st, h) = zz_Y 24 (13, [some (.ref x), l1], .ref x :: st, h)) ∧ (∀ ls a st h, zz_Y 24 (13, ls, .ref a :: st, h) = mo_gf (hp_g h a) 8 0 24 16 ls st h) ∧ (∀ l0 x st h, zz_Y 24 (16, [l0, some (.int x)], st, h) = zz_Y 24 (17, [l0, some (.int x)], .int x :: st, h)) ∧ (∀ ls a i st h, zz_Y 24 (17, ls, .int i :: .ref a :: st, h) = mo_ba (hp_g h a) i 24 18 ls st h) ∧ (∀ ls st h, zz_Y 24 (18, ls, st, h) = zz_Y 24 (21, ls, .int (nI 255) :: st, h)) ∧ (∀ ls a b st h, zz_Y 24 (21, ls, .int b :: .int a :: st, h) = zz_Y 24 (22, ls, .int (a &&& b) :: st, h)) ∧ (∀ ls st h, zz_Y 24 (22, ls, st, h) = zz_Y 24 (26, ls, st, h)) ∧ (∀ ls st h, zz_Y 24 (25, ls, st, h) = zz_Y 24 (26, ls, .int (-1) :: st, h)) ∧ (∀ ls v h, zz_Y 24 (26, ls, [.int v], h) = some (some (.int v), h)) :=
  ⟨fun _ _ _ _ => xl_iln d24_0 rfl,
   fun _ _ _ _ => xl_iflt d24_1 rfl,
   fun _ _ _ _ => xl_iln d24_4 rfl,
   fun _ _ _ _ => xl_aln d24_5 rfl,
   fun _ _ _ _ => xl_gf d24_6 xco24 xf_8_15,
   fun _ _ _ _ _ => xl_icge d24_9 rfl,
   fun _ _ _ _ => xl_aln d24_12 rfl,
   fun _ _ _ _ => xl_gf d24_13 xco24 xf_8_9,
   fun _ _ _ _ => xl_iln d24_16 rfl,
   fun _ _ _ _ _ => xl_ba d24_17,
   fun _ _ _ => xl_si d24_18 (by decide +kernel),
   fun _ _ _ _ _ => xl_iand d24_21,
   fun _ _ _ => xl_goto d24_22 rfl,
   fun _ _ _ => xl_ic d24_25 (by decide +kernel),
   fun _ _ _ => xl_iri d24_26 xrt24⟩
/-! 25 FacetSieve$Tokens.isBlank(I)Z -/
theorem d25_0 : decode (zz_c 25) 0 = .ok (.iload_n 0, 1) := by decide +kernel
theorem d25_1 : decode (zz_c 25) 1 = .ok (.bipush 10, 2) := by decide +kernel
theorem d25_3 : decode (zz_c 25) 3 = .ok (.if_icmp .eq 9, 3) := by decide +kernel
theorem d25_6 : decode (zz_c 25) 6 = .ok (.iload_n 0, 1) := by decide +kernel
theorem d25_7 : decode (zz_c 25) 7 = .ok (.bipush 32, 2) := by decide +kernel
theorem d25_9 : decode (zz_c 25) 9 = .ok (.if_icmp .ne 7, 3) := by decide +kernel
theorem d25_12 : decode (zz_c 25) 12 = .ok (.iconst 1, 1) := by decide +kernel
theorem d25_13 : decode (zz_c 25) 13 = .ok (.goto 4, 3) := by decide +kernel
theorem d25_16 : decode (zz_c 25) 16 = .ok (.iconst 0, 1) := by decide +kernel
theorem d25_17 : decode (zz_c 25) 17 = .ok (.ireturn, 1) := by decide +kernel
theorem x25 : (∀ x st h, zz_Y 25 (0, [some (.int x)], st, h) = zz_Y 25 (1, [some (.int x)], .int x :: st, h)) ∧ (∀ ls st h, zz_Y 25 (1, ls, st, h) = zz_Y 25 (3, ls, .int (nI 10) :: st, h)) ∧ (∀ ls a b st h, zz_Y 25 (3, ls, .int b :: .int a :: st, h) = if a = b then zz_Y 25 (12, ls, st, h) else zz_Y 25 (6, ls, st, h)) ∧ (∀ x st h, zz_Y 25 (6, [some (.int x)], st, h) = zz_Y 25 (7, [some (.int x)], .int x :: st, h)) ∧ (∀ ls st h, zz_Y 25 (7, ls, st, h) = zz_Y 25 (9, ls, .int (nI 32) :: st, h)) ∧ (∀ ls a b st h, zz_Y 25 (9, ls, .int b :: .int a :: st, h) = if a = b then zz_Y 25 (12, ls, st, h) else zz_Y 25 (16, ls, st, h)) ∧ (∀ ls st h, zz_Y 25 (12, ls, st, h) = zz_Y 25 (13, ls, .int (nI 1) :: st, h)) ∧ (∀ ls st h, zz_Y 25 (13, ls, st, h) = zz_Y 25 (17, ls, st, h)) ∧ (∀ ls st h, zz_Y 25 (16, ls, st, h) = zz_Y 25 (17, ls, .int (nI 0) :: st, h)) ∧ (∀ ls v h, v = nI 0 ∨ v = nI 1 → zz_Y 25 (17, ls, [.int v], h) = some (some (.int v), h)) :=
  ⟨fun _ _ _ => xl_iln d25_0 rfl,
   fun _ _ _ => xl_bi d25_1 (by decide +kernel),
   fun _ _ _ _ _ => xl_iceq d25_3 rfl,
   fun _ _ _ => xl_iln d25_6 rfl,
   fun _ _ _ => xl_bi d25_7 (by decide +kernel),
   fun _ _ _ _ _ => xl_icne d25_9 rfl,
   fun _ _ _ => xl_ic d25_12 (by decide +kernel),
   fun _ _ _ => xl_goto d25_13 rfl,
   fun _ _ _ => xl_ic d25_16 (by decide +kernel),
   fun _ _ _ hc => xl_irz d25_17 xrt25 hc⟩
/-! 26 FacetSieve$Tokens.isLetter(I)Z -/
theorem d26_0 : decode (zz_c 26) 0 = .ok (.iload_n 0, 1) := by decide +kernel
theorem d26_1 : decode (zz_c 26) 1 = .ok (.bipush 97, 2) := by decide +kernel
theorem d26_3 : decode (zz_c 26) 3 = .ok (.if_icmp .lt 13, 3) := by decide +kernel
theorem d26_6 : decode (zz_c 26) 6 = .ok (.iload_n 0, 1) := by decide +kernel
theorem d26_7 : decode (zz_c 26) 7 = .ok (.bipush 122, 2) := by decide +kernel
theorem d26_9 : decode (zz_c 26) 9 = .ok (.if_icmp .gt 7, 3) := by decide +kernel
theorem d26_12 : decode (zz_c 26) 12 = .ok (.iconst 1, 1) := by decide +kernel
theorem d26_13 : decode (zz_c 26) 13 = .ok (.goto 4, 3) := by decide +kernel
theorem d26_16 : decode (zz_c 26) 16 = .ok (.iconst 0, 1) := by decide +kernel
theorem d26_17 : decode (zz_c 26) 17 = .ok (.ireturn, 1) := by decide +kernel
theorem x26 : (∀ x st h, zz_Y 26 (0, [some (.int x)], st, h) = zz_Y 26 (1, [some (.int x)], .int x :: st, h)) ∧ (∀ ls st h, zz_Y 26 (1, ls, st, h) = zz_Y 26 (3, ls, .int (nI 97) :: st, h)) ∧ (∀ ls a b st h, zz_Y 26 (3, ls, .int b :: .int a :: st, h) = if a < b then zz_Y 26 (16, ls, st, h) else zz_Y 26 (6, ls, st, h)) ∧ (∀ x st h, zz_Y 26 (6, [some (.int x)], st, h) = zz_Y 26 (7, [some (.int x)], .int x :: st, h)) ∧ (∀ ls st h, zz_Y 26 (7, ls, st, h) = zz_Y 26 (9, ls, .int (nI 122) :: st, h)) ∧ (∀ ls a b st h, zz_Y 26 (9, ls, .int b :: .int a :: st, h) = if b < a then zz_Y 26 (16, ls, st, h) else zz_Y 26 (12, ls, st, h)) ∧ (∀ ls st h, zz_Y 26 (12, ls, st, h) = zz_Y 26 (13, ls, .int (nI 1) :: st, h)) ∧ (∀ ls st h, zz_Y 26 (13, ls, st, h) = zz_Y 26 (17, ls, st, h)) ∧ (∀ ls st h, zz_Y 26 (16, ls, st, h) = zz_Y 26 (17, ls, .int (nI 0) :: st, h)) ∧ (∀ ls v h, v = nI 0 ∨ v = nI 1 → zz_Y 26 (17, ls, [.int v], h) = some (some (.int v), h)) :=
  ⟨fun _ _ _ => xl_iln d26_0 rfl,
   fun _ _ _ => xl_bi d26_1 (by decide +kernel),
   fun _ _ _ _ _ => xl_iclt d26_3 rfl,
   fun _ _ _ => xl_iln d26_6 rfl,
   fun _ _ _ => xl_bi d26_7 (by decide +kernel),
   fun _ _ _ _ _ => xl_icgt d26_9 rfl,
   fun _ _ _ => xl_ic d26_12 (by decide +kernel),
   fun _ _ _ => xl_goto d26_13 rfl,
   fun _ _ _ => xl_ic d26_16 (by decide +kernel),
   fun _ _ _ hc => xl_irz d26_17 xrt26 hc⟩
/-! 27 FacetSieve$Tokens.readWord()V -/
theorem d27_0 : decode (zz_c 27) 0 = .ok (.iconst 0, 1) := by decide +kernel
theorem d27_1 : decode (zz_c 27) 1 = .ok (.istore_n 1, 1) := by decide +kernel
theorem d27_2 : decode (zz_c 27) 2 = .ok (.aload_n 0, 1) := by decide +kernel
theorem d27_3 : decode (zz_c 27) 3 = .ok (.lconst 0, 1) := by decide +kernel
theorem d27_4 : decode (zz_c 27) 4 = .ok (.putfield 67, 3) := by decide +kernel
theorem d27_7 : decode (zz_c 27) 7 = .ok (.aload_n 0, 1) := by decide +kernel
theorem d27_8 : decode (zz_c 27) 8 = .ok (.getfield 26, 3) := by decide +kernel
theorem d27_11 : decode (zz_c 27) 11 = .ok (.aload_n 0, 1) := by decide +kernel
theorem d27_12 : decode (zz_c 27) 12 = .ok (.getfield 12, 3) := by decide +kernel
theorem d27_15 : decode (zz_c 27) 15 = .ok (.getfield 22, 3) := by decide +kernel
theorem d27_18 : decode (zz_c 27) 18 = .ok (.if_icmp .ge 70, 3) := by decide +kernel
theorem d27_21 : decode (zz_c 27) 21 = .ok (.aload_n 0, 1) := by decide +kernel
theorem d27_22 : decode (zz_c 27) 22 = .ok (.getfield 12, 3) := by decide +kernel
theorem d27_25 : decode (zz_c 27) 25 = .ok (.aload_n 0, 1) := by decide +kernel
theorem d27_26 : decode (zz_c 27) 26 = .ok (.getfield 26, 3) := by decide +kernel
theorem d27_29 : decode (zz_c 27) 29 = .ok (.invokevirtual 41, 3) := by decide +kernel
theorem d27_32 : decode (zz_c 27) 32 = .ok (.invokestatic 52, 3) := by decide +kernel
theorem d27_35 : decode (zz_c 27) 35 = .ok (.ifCond .eq 53, 3) := by decide +kernel
theorem d27_38 : decode (zz_c 27) 38 = .ok (.iload_n 1, 1) := by decide +kernel
theorem d27_39 : decode (zz_c 27) 39 = .ok (.bipush 8, 2) := by decide +kernel
theorem d27_41 : decode (zz_c 27) 41 = .ok (.if_icmp .ge 31, 3) := by decide +kernel
theorem d27_44 : decode (zz_c 27) 44 = .ok (.aload_n 0, 1) := by decide +kernel
theorem d27_45 : decode (zz_c 27) 45 = .ok (.dup, 1) := by decide +kernel
theorem d27_46 : decode (zz_c 27) 46 = .ok (.getfield 67, 3) := by decide +kernel
theorem d27_49 : decode (zz_c 27) 49 = .ok (.aload_n 0, 1) := by decide +kernel
theorem d27_50 : decode (zz_c 27) 50 = .ok (.getfield 12, 3) := by decide +kernel
theorem d27_53 : decode (zz_c 27) 53 = .ok (.aload_n 0, 1) := by decide +kernel
theorem d27_54 : decode (zz_c 27) 54 = .ok (.getfield 26, 3) := by decide +kernel
theorem d27_57 : decode (zz_c 27) 57 = .ok (.invokevirtual 41, 3) := by decide +kernel
theorem d27_60 : decode (zz_c 27) 60 = .ok (.bipush 31, 2) := by decide +kernel
theorem d27_62 : decode (zz_c 27) 62 = .ok (.iand, 1) := by decide +kernel
theorem d27_63 : decode (zz_c 27) 63 = .ok (.i2l, 1) := by decide +kernel
theorem d27_64 : decode (zz_c 27) 64 = .ok (.iconst 5, 1) := by decide +kernel
theorem d27_65 : decode (zz_c 27) 65 = .ok (.iload_n 1, 1) := by decide +kernel
theorem d27_66 : decode (zz_c 27) 66 = .ok (.imul, 1) := by decide +kernel
theorem d27_67 : decode (zz_c 27) 67 = .ok (.lshl, 1) := by decide +kernel
theorem d27_68 : decode (zz_c 27) 68 = .ok (.lor, 1) := by decide +kernel
theorem d27_69 : decode (zz_c 27) 69 = .ok (.putfield 67, 3) := by decide +kernel
theorem d27_72 : decode (zz_c 27) 72 = .ok (.iinc 1 1, 3) := by decide +kernel
theorem d27_75 : decode (zz_c 27) 75 = .ok (.aload_n 0, 1) := by decide +kernel
theorem d27_76 : decode (zz_c 27) 76 = .ok (.dup, 1) := by decide +kernel
theorem d27_77 : decode (zz_c 27) 77 = .ok (.getfield 26, 3) := by decide +kernel
theorem d27_80 : decode (zz_c 27) 80 = .ok (.iconst 1, 1) := by decide +kernel
theorem d27_81 : decode (zz_c 27) 81 = .ok (.iadd, 1) := by decide +kernel
theorem d27_82 : decode (zz_c 27) 82 = .ok (.putfield 26, 3) := by decide +kernel
theorem d27_85 : decode (zz_c 27) 85 = .ok (.goto (-78), 3) := by decide +kernel
theorem d27_88 : decode (zz_c 27) 88 = .ok (.aload_n 0, 1) := by decide +kernel
theorem d27_89 : decode (zz_c 27) 89 = .ok (.iload_n 1, 1) := by decide +kernel
theorem d27_90 : decode (zz_c 27) 90 = .ok (.iconst 2, 1) := by decide +kernel
theorem d27_91 : decode (zz_c 27) 91 = .ok (.if_icmp .lt 9, 3) := by decide +kernel
theorem d27_94 : decode (zz_c 27) 94 = .ok (.iload_n 1, 1) := by decide +kernel
theorem d27_95 : decode (zz_c 27) 95 = .ok (.bipush 8, 2) := by decide +kernel
theorem d27_97 : decode (zz_c 27) 97 = .ok (.if_icmp .le 7, 3) := by decide +kernel
theorem d27_100 : decode (zz_c 27) 100 = .ok (.iconst 1, 1) := by decide +kernel
theorem d27_101 : decode (zz_c 27) 101 = .ok (.goto 7, 3) := by decide +kernel
theorem d27_104 : decode (zz_c 27) 104 = .ok (.aload_n 0, 1) := by decide +kernel
theorem d27_105 : decode (zz_c 27) 105 = .ok (.invokevirtual 71, 3) := by decide +kernel
theorem d27_108 : decode (zz_c 27) 108 = .ok (.putfield 49, 3) := by decide +kernel
theorem d27_111 : decode (zz_c 27) 111 = .ok (.return_, 1) := by decide +kernel
theorem x27 : (∀ ls st h, zz_Y 27 (0, ls, st, h) = zz_Y 27 (1, ls, .int (nI 0) :: st, h)) ∧ (∀ l0 l1 x st h, zz_nl l0 = true → zz_Y 27 (1, [l0, l1], .int x :: st, h) = zz_Y 27 (2, [l0, some (.int x)], st, h)) ∧ (∀ l1 x st h, zz_Y 27 (2, [some (.ref x), l1], st, h) = zz_Y 27 (3, [some (.ref x), l1], .ref x :: st, h)) ∧ (∀ ls st h, zz_Y 27 (3, ls, st, h) = zz_Y 27 (4, ls, .long (lN 0) :: st, h)) ∧ (∀ ls a v st h, zz_Y 27 (4, ls, v :: .ref a :: st, h) = mo_pf (hp_g h a) 9 5 .long v a 27 7 ls st h) ∧ (∀ ls a st h, zz_Y 27 (8, ls, .ref a :: st, h) = mo_gf (hp_g h a) 9 1 27 11 ls st h) ∧ (∀ l1 x st h, zz_Y 27 (11, [some (.ref x), l1], st, h) = zz_Y 27 (12, [some (.ref x), l1], .ref x :: st, h)) ∧ (∀ ls a st h, zz_Y 27 (12, ls, .ref a :: st, h) = mo_gf (hp_g h a) 9 0 27 15 ls st h) ∧ (∀ ls a st h, zz_Y 27 (15, ls, .ref a :: st, h) = mo_gf (hp_g h a) 8 1 27 18 ls st h) ∧ (∀ ls a b st h, zz_Y 27 (18, ls, .int b :: .int a :: st, h) = if a < b then zz_Y 27 (21, ls, st, h) else zz_Y 27 (88, ls, st, h)) ∧ (∀ l1 x st h, zz_Y 27 (21, [some (.ref x), l1], st, h) = zz_Y 27 (22, [some (.ref x), l1], .ref x :: st, h)) ∧ (∀ ls a st h, zz_Y 27 (22, ls, .ref a :: st, h) = mo_gf (hp_g h a) 9 0 27 25 ls st h) ∧ (∀ l1 x st h, zz_Y 27 (25, [some (.ref x), l1], st, h) = zz_Y 27 (26, [some (.ref x), l1], .ref x :: st, h)) ∧ (∀ ls a st h, zz_Y 27 (26, ls, .ref a :: st, h) = mo_gf (hp_g h a) 9 1 27 29 ls st h) ∧ (∀ ls a0 a1 h, zz_Y 27 (29, ls, [a1, a0], h) = mo_k 27 32 ls [] (zz_run 24 [a0, a1] h)) ∧ (∀ ls a0 h, zz_Y 27 (32, ls, [a0], h) = mo_k 27 35 ls [] (zz_run 26 [a0] h)) ∧ (∀ ls a st h, zz_Y 27 (35, ls, .int a :: st, h) = if a = nI 0 then zz_Y 27 (88, ls, st, h) else zz_Y 27 (38, ls, st, h)) ∧ (∀ l0 x st h, zz_Y 27 (38, [l0, some (.int x)], st, h) = zz_Y 27 (39, [l0, some (.int x)], .int x :: st, h)) ∧ (∀ ls st h, zz_Y 27 (39, ls, st, h) = zz_Y 27 (41, ls, .int (nI 8) :: st, h)) ∧ (∀ ls a b st h, zz_Y 27 (41, ls, .int b :: .int a :: st, h) = if a < b then zz_Y 27 (44, ls, st, h) else zz_Y 27 (72, ls, st, h)) ∧ (∀ l1 x st h, zz_Y 27 (44, [some (.ref x), l1], st, h) = zz_Y 27 (45, [some (.ref x), l1], .ref x :: st, h)) ∧ (∀ ls a st h, zz_Y 27 (45, ls, .ref a :: st, h) = zz_Y 27 (46, ls, .ref a :: .ref a :: st, h)) ∧ (∀ ls a st h, zz_Y 27 (46, ls, .ref a :: st, h) = mo_gf (hp_g h a) 9 5 27 49 ls st h) ∧ (∀ l1 x st h, zz_Y 27 (49, [some (.ref x), l1], st, h) = zz_Y 27 (50, [some (.ref x), l1], .ref x :: st, h)) ∧ (∀ ls a st h, zz_Y 27 (50, ls, .ref a :: st, h) = mo_gf (hp_g h a) 9 0 27 53 ls st h) ∧ (∀ l1 x st h, zz_Y 27 (53, [some (.ref x), l1], st, h) = zz_Y 27 (54, [some (.ref x), l1], .ref x :: st, h)) ∧ (∀ ls a st h, zz_Y 27 (54, ls, .ref a :: st, h) = mo_gf (hp_g h a) 9 1 27 57 ls st h) ∧ (∀ ls a0 a1 s0 s1 h, zz_Y 27 (57, ls, [a1, a0, s0, s1], h) = mo_k 27 60 ls [s0, s1] (zz_run 24 [a0, a1] h)) ∧ (∀ ls st h, zz_Y 27 (60, ls, st, h) = zz_Y 27 (62, ls, .int (nI 31) :: st, h)) ∧ (∀ ls a b st h, zz_Y 27 (62, ls, .int b :: .int a :: st, h) = zz_Y 27 (63, ls, .int (a &&& b) :: st, h)) ∧ (∀ ls a st h, zz_Y 27 (63, ls, .int a :: st, h) = zz_Y 27 (64, ls, .long a.toInt64 :: st, h)) ∧ (∀ ls st h, zz_Y 27 (64, ls, st, h) = zz_Y 27 (65, ls, .int (nI 5) :: st, h)) ∧ (∀ l0 x st h, zz_Y 27 (65, [l0, some (.int x)], st, h) = zz_Y 27 (66, [l0, some (.int x)], .int x :: st, h)) ∧ (∀ ls a b st h, zz_Y 27 (66, ls, .int b :: .int a :: st, h) = zz_Y 27 (67, ls, .int (a * b) :: st, h)) ∧ (∀ ls a b st h, zz_Y 27 (67, ls, .int b :: .long a :: st, h) = zz_Y 27 (68, ls, .long (a <<< (b.toInt64 &&& 63)) :: st, h)) ∧ (∀ ls a b st h, zz_Y 27 (68, ls, .long b :: .long a :: st, h) = zz_Y 27 (69, ls, .long (a ||| b) :: st, h)) ∧ (∀ ls a v st h, zz_Y 27 (69, ls, v :: .ref a :: st, h) = mo_pf (hp_g h a) 9 5 .long v a 27 72 ls st h) ∧ (∀ l0 x st h, zz_nl l0 = true → zz_Y 27 (72, [l0, some (.int x)], st, h) = zz_Y 27 (75, [l0, some (.int (x + nI 1))], st, h)) ∧ (∀ l1 x st h, zz_Y 27 (75, [some (.ref x), l1], st, h) = zz_Y 27 (76, [some (.ref x), l1], .ref x :: st, h)) ∧ (∀ ls a st h, zz_Y 27 (76, ls, .ref a :: st, h) = zz_Y 27 (77, ls, .ref a :: .ref a :: st, h)) ∧ (∀ ls a st h, zz_Y 27 (77, ls, .ref a :: st, h) = mo_gf (hp_g h a) 9 1 27 80 ls st h) ∧ (∀ ls st h, zz_Y 27 (80, ls, st, h) = zz_Y 27 (81, ls, .int (nI 1) :: st, h)) ∧ (∀ ls a b st h, zz_Y 27 (81, ls, .int b :: .int a :: st, h) = zz_Y 27 (82, ls, .int (a + b) :: st, h)) ∧ (∀ ls a v st h, zz_Y 27 (82, ls, v :: .ref a :: st, h) = mo_pf (hp_g h a) 9 1 .int v a 27 85 ls st h) ∧ (∀ ls st h, zz_Y 27 (85, ls, st, h) = zz_Y 27 (7, ls, st, h)) ∧ (∀ l1 x st h, zz_Y 27 (88, [some (.ref x), l1], st, h) = zz_Y 27 (89, [some (.ref x), l1], .ref x :: st, h)) ∧ (∀ l0 x st h, zz_Y 27 (89, [l0, some (.int x)], st, h) = zz_Y 27 (90, [l0, some (.int x)], .int x :: st, h)) ∧ (∀ ls st h, zz_Y 27 (90, ls, st, h) = zz_Y 27 (91, ls, .int (nI 2) :: st, h)) ∧ (∀ ls a b st h, zz_Y 27 (91, ls, .int b :: .int a :: st, h) = if a < b then zz_Y 27 (100, ls, st, h) else zz_Y 27 (94, ls, st, h)) ∧ (∀ l0 x st h, zz_Y 27 (94, [l0, some (.int x)], st, h) = zz_Y 27 (95, [l0, some (.int x)], .int x :: st, h)) ∧ (∀ ls st h, zz_Y 27 (95, ls, st, h) = zz_Y 27 (97, ls, .int (nI 8) :: st, h)) ∧ (∀ ls a b st h, zz_Y 27 (97, ls, .int b :: .int a :: st, h) = if b < a then zz_Y 27 (100, ls, st, h) else zz_Y 27 (104, ls, st, h)) ∧ (∀ ls st h, zz_Y 27 (100, ls, st, h) = zz_Y 27 (101, ls, .int (nI 1) :: st, h)) ∧ (∀ ls st h, zz_Y 27 (101, ls, st, h) = zz_Y 27 (108, ls, st, h)) ∧ (∀ l1 x st h, zz_Y 27 (104, [some (.ref x), l1], st, h) = zz_Y 27 (105, [some (.ref x), l1], .ref x :: st, h)) ∧ (∀ ls a0 s0 h, zz_Y 27 (105, ls, [a0, s0], h) = mo_k 27 108 ls [s0] (zz_run 28 [a0] h)) ∧ (∀ ls a v st h, zz_Y 27 (108, ls, v :: .ref a :: st, h) = mo_pf (hp_g h a) 9 2 .int v a 27 111 ls st h) ∧ (∀ ls h, zz_Y 27 (111, ls, [], h) = some (none, h)) :=
  ⟨fun _ _ _ => xl_ic d27_0 (by decide +kernel),
   fun _ _ _ _ _ hc => xl_isn d27_1 xml27 (by decide) (zz_nl_s1 hc),
   fun _ _ _ _ => xl_aln d27_2 rfl,
   fun _ _ _ => xl_lc d27_3,
   fun _ _ _ _ _ => xl_pf d27_4 xco27 xf_9_67 (by decide +kernel) rfl,
   fun _ _ _ _ => xl_gf d27_8 xco27 xf_9_26,
   fun _ _ _ _ => xl_aln d27_11 rfl,
   fun _ _ _ _ => xl_gf d27_12 xco27 xf_9_12,
   fun _ _ _ _ => xl_gf d27_15 xco27 xf_9_22,
   fun _ _ _ _ _ => xl_icge d27_18 rfl,
   fun _ _ _ _ => xl_aln d27_21 rfl,
   fun _ _ _ _ => xl_gf d27_22 xco27 xf_9_12,
   fun _ _ _ _ => xl_aln d27_25 rfl,
   fun _ _ _ _ => xl_gf d27_26 xco27 xf_9_26,
   fun ls a0 a1 h => xl_cv (As := [a0, a1]) (st := []) d27_29 xco27 xm_9_41 (congrArg Nat.succ xnp24) (by decide +kernel) rfl,
   fun ls a0 h => xl_cs (As := [a0]) (st := []) d27_32 xco27 xm_9_52 xnp26 (by decide +kernel) rfl,
   fun _ _ _ _ => xl_ifeq d27_35 rfl,
   fun _ _ _ _ => xl_iln d27_38 rfl,
   fun _ _ _ => xl_bi d27_39 (by decide +kernel),
   fun _ _ _ _ _ => xl_icge d27_41 rfl,
   fun _ _ _ _ => xl_aln d27_44 rfl,
   fun _ _ _ _ => xl_dupr d27_45,
   fun _ _ _ _ => xl_gf d27_46 xco27 xf_9_67,
   fun _ _ _ _ => xl_aln d27_49 rfl,
   fun _ _ _ _ => xl_gf d27_50 xco27 xf_9_12,
   fun _ _ _ _ => xl_aln d27_53 rfl,
   fun _ _ _ _ => xl_gf d27_54 xco27 xf_9_26,
   fun ls a0 a1 s0 s1 h => xl_cv (As := [a0, a1]) (st := [s0, s1]) d27_57 xco27 xm_9_41 (congrArg Nat.succ xnp24) (by decide +kernel) rfl,
   fun _ _ _ => xl_bi d27_60 (by decide +kernel),
   fun _ _ _ _ _ => xl_iand d27_62,
   fun _ _ _ _ => xl_i2l d27_63,
   fun _ _ _ => xl_ic d27_64 (by decide +kernel),
   fun _ _ _ _ => xl_iln d27_65 rfl,
   fun _ _ _ _ _ => xl_imul d27_66,
   fun _ _ _ _ _ => xl_lshl d27_67,
   fun _ _ _ _ _ => xl_lor d27_68,
   fun _ _ _ _ _ => xl_pf d27_69 xco27 xf_9_67 (by decide +kernel) rfl,
   fun _ _ _ _ hc => xl_inc d27_72 xml27 (by decide) rfl (by decide +kernel) (zz_nl_s1 hc),
   fun _ _ _ _ => xl_aln d27_75 rfl,
   fun _ _ _ _ => xl_dupr d27_76,
   fun _ _ _ _ => xl_gf d27_77 xco27 xf_9_26,
   fun _ _ _ => xl_ic d27_80 (by decide +kernel),
   fun _ _ _ _ _ => xl_iadd d27_81,
   fun _ _ _ _ _ => xl_pf d27_82 xco27 xf_9_26 (by decide +kernel) rfl,
   fun _ _ _ => xl_goto d27_85 rfl,
   fun _ _ _ _ => xl_aln d27_88 rfl,
   fun _ _ _ _ => xl_iln d27_89 rfl,
   fun _ _ _ => xl_ic d27_90 (by decide +kernel),
   fun _ _ _ _ _ => xl_iclt d27_91 rfl,
   fun _ _ _ _ => xl_iln d27_94 rfl,
   fun _ _ _ => xl_bi d27_95 (by decide +kernel),
   fun _ _ _ _ _ => xl_icle d27_97 rfl,
   fun _ _ _ => xl_ic d27_100 (by decide +kernel),
   fun _ _ _ => xl_goto d27_101 rfl,
   fun _ _ _ _ => xl_aln d27_104 rfl,
   fun ls a0 s0 h => xl_cv (As := [a0]) (st := [s0]) d27_105 xco27 xm_9_71 (congrArg Nat.succ xnp28) (by decide +kernel) rfl,
   fun _ _ _ _ _ => xl_pf d27_108 xco27 xf_9_49 (by decide +kernel) rfl,
   fun _ _ => xl_r d27_111 xrt27⟩
theorem x27_c7 : ∀ l1 x st h, zz_Y 27 (7, [some (.ref x), l1], st, h) = zz_Y 27 (8, [some (.ref x), l1], .ref x :: st, h) := fun _ _ _ _ => xl_aln d27_7 rfl
/-! 28 FacetSieve$Tokens.wordKind()I -/
theorem d28_0 : decode (zz_c 28) 0 = .ok (.aload_n 0, 1) := by decide +kernel
theorem d28_1 : decode (zz_c 28) 1 = .ok (.getfield 67, 3) := by decide +kernel
theorem d28_4 : decode (zz_c 28) 4 = .ok (.ldc2_w 78, 3) := by decide +kernel
theorem d28_7 : decode (zz_c 28) 7 = .ok (.lcmp, 1) := by decide +kernel
theorem d28_8 : decode (zz_c 28) 8 = .ok (.ifCond .ne 6, 3) := by decide +kernel
theorem d28_11 : decode (zz_c 28) 11 = .ok (.bipush 7, 2) := by decide +kernel
theorem d28_13 : decode (zz_c 28) 13 = .ok (.ireturn, 1) := by decide +kernel
theorem d28_14 : decode (zz_c 28) 14 = .ok (.aload_n 0, 1) := by decide +kernel
theorem d28_15 : decode (zz_c 28) 15 = .ok (.getfield 67, 3) := by decide +kernel
theorem d28_18 : decode (zz_c 28) 18 = .ok (.ldc2_w 80, 3) := by decide +kernel
theorem d28_21 : decode (zz_c 28) 21 = .ok (.lcmp, 1) := by decide +kernel
theorem d28_22 : decode (zz_c 28) 22 = .ok (.ifCond .ne 6, 3) := by decide +kernel
theorem d28_25 : decode (zz_c 28) 25 = .ok (.bipush 8, 2) := by decide +kernel
theorem d28_27 : decode (zz_c 28) 27 = .ok (.ireturn, 1) := by decide +kernel
theorem d28_28 : decode (zz_c 28) 28 = .ok (.aload_n 0, 1) := by decide +kernel
theorem d28_29 : decode (zz_c 28) 29 = .ok (.getfield 67, 3) := by decide +kernel
theorem d28_32 : decode (zz_c 28) 32 = .ok (.ldc2_w 82, 3) := by decide +kernel
theorem d28_35 : decode (zz_c 28) 35 = .ok (.lcmp, 1) := by decide +kernel
theorem d28_36 : decode (zz_c 28) 36 = .ok (.ifCond .ne 6, 3) := by decide +kernel
theorem d28_39 : decode (zz_c 28) 39 = .ok (.bipush 9, 2) := by decide +kernel
theorem d28_41 : decode (zz_c 28) 41 = .ok (.ireturn, 1) := by decide +kernel
theorem d28_42 : decode (zz_c 28) 42 = .ok (.aload_n 0, 1) := by decide +kernel
theorem d28_43 : decode (zz_c 28) 43 = .ok (.getfield 67, 3) := by decide +kernel
theorem d28_46 : decode (zz_c 28) 46 = .ok (.ldc2_w 84, 3) := by decide +kernel
theorem d28_49 : decode (zz_c 28) 49 = .ok (.lcmp, 1) := by decide +kernel
theorem d28_50 : decode (zz_c 28) 50 = .ok (.ifCond .ne 6, 3) := by decide +kernel
theorem d28_53 : decode (zz_c 28) 53 = .ok (.bipush 10, 2) := by decide +kernel
theorem d28_55 : decode (zz_c 28) 55 = .ok (.ireturn, 1) := by decide +kernel
theorem d28_56 : decode (zz_c 28) 56 = .ok (.aload_n 0, 1) := by decide +kernel
theorem d28_57 : decode (zz_c 28) 57 = .ok (.getfield 67, 3) := by decide +kernel
theorem d28_60 : decode (zz_c 28) 60 = .ok (.ldc2_w 86, 3) := by decide +kernel
theorem d28_63 : decode (zz_c 28) 63 = .ok (.lcmp, 1) := by decide +kernel
theorem d28_64 : decode (zz_c 28) 64 = .ok (.ifCond .ne 6, 3) := by decide +kernel
theorem d28_67 : decode (zz_c 28) 67 = .ok (.bipush 11, 2) := by decide +kernel
theorem d28_69 : decode (zz_c 28) 69 = .ok (.ireturn, 1) := by decide +kernel
theorem d28_70 : decode (zz_c 28) 70 = .ok (.aload_n 0, 1) := by decide +kernel
theorem d28_71 : decode (zz_c 28) 71 = .ok (.getfield 67, 3) := by decide +kernel
theorem d28_74 : decode (zz_c 28) 74 = .ok (.ldc2_w 88, 3) := by decide +kernel
theorem d28_77 : decode (zz_c 28) 77 = .ok (.lcmp, 1) := by decide +kernel
theorem d28_78 : decode (zz_c 28) 78 = .ok (.ifCond .ne 6, 3) := by decide +kernel
theorem d28_81 : decode (zz_c 28) 81 = .ok (.bipush 12, 2) := by decide +kernel
theorem d28_83 : decode (zz_c 28) 83 = .ok (.ireturn, 1) := by decide +kernel
theorem d28_84 : decode (zz_c 28) 84 = .ok (.aload_n 0, 1) := by decide +kernel
theorem d28_85 : decode (zz_c 28) 85 = .ok (.getfield 67, 3) := by decide +kernel
theorem d28_88 : decode (zz_c 28) 88 = .ok (.ldc2_w 90, 3) := by decide +kernel
theorem d28_91 : decode (zz_c 28) 91 = .ok (.lcmp, 1) := by decide +kernel
theorem d28_92 : decode (zz_c 28) 92 = .ok (.ifCond .ne 6, 3) := by decide +kernel
theorem d28_95 : decode (zz_c 28) 95 = .ok (.bipush 13, 2) := by decide +kernel
theorem d28_97 : decode (zz_c 28) 97 = .ok (.ireturn, 1) := by decide +kernel
theorem d28_98 : decode (zz_c 28) 98 = .ok (.aload_n 0, 1) := by decide +kernel
theorem d28_99 : decode (zz_c 28) 99 = .ok (.getfield 67, 3) := by decide +kernel
theorem d28_102 : decode (zz_c 28) 102 = .ok (.ldc2_w 92, 3) := by decide +kernel
theorem d28_105 : decode (zz_c 28) 105 = .ok (.lcmp, 1) := by decide +kernel
theorem d28_106 : decode (zz_c 28) 106 = .ok (.ifCond .ne 6, 3) := by decide +kernel
theorem d28_109 : decode (zz_c 28) 109 = .ok (.bipush 14, 2) := by decide +kernel
theorem d28_111 : decode (zz_c 28) 111 = .ok (.ireturn, 1) := by decide +kernel
theorem d28_112 : decode (zz_c 28) 112 = .ok (.aload_n 0, 1) := by decide +kernel
theorem d28_113 : decode (zz_c 28) 113 = .ok (.getfield 67, 3) := by decide +kernel
theorem d28_116 : decode (zz_c 28) 116 = .ok (.ldc2_w 94, 3) := by decide +kernel
theorem d28_119 : decode (zz_c 28) 119 = .ok (.lcmp, 1) := by decide +kernel
theorem d28_120 : decode (zz_c 28) 120 = .ok (.ifCond .ne 6, 3) := by decide +kernel
theorem d28_123 : decode (zz_c 28) 123 = .ok (.bipush 15, 2) := by decide +kernel
theorem d28_125 : decode (zz_c 28) 125 = .ok (.ireturn, 1) := by decide +kernel
theorem d28_126 : decode (zz_c 28) 126 = .ok (.aload_n 0, 1) := by decide +kernel
theorem d28_127 : decode (zz_c 28) 127 = .ok (.getfield 67, 3) := by decide +kernel
theorem d28_130 : decode (zz_c 28) 130 = .ok (.ldc2_w 96, 3) := by decide +kernel
theorem d28_133 : decode (zz_c 28) 133 = .ok (.lcmp, 1) := by decide +kernel
theorem d28_134 : decode (zz_c 28) 134 = .ok (.ifCond .ne 8, 3) := by decide +kernel
theorem d28_137 : decode (zz_c 28) 137 = .ok (.bipush 16, 2) := by decide +kernel
theorem d28_139 : decode (zz_c 28) 139 = .ok (.goto 4, 3) := by decide +kernel
theorem d28_142 : decode (zz_c 28) 142 = .ok (.iconst 2, 1) := by decide +kernel
theorem d28_143 : decode (zz_c 28) 143 = .ok (.ireturn, 1) := by decide +kernel
theorem x28_p0 : (∀ x st h, zz_Y 28 (0, [some (.ref x)], st, h) = zz_Y 28 (1, [some (.ref x)], .ref x :: st, h)) ∧ (∀ ls a st h, zz_Y 28 (1, ls, .ref a :: st, h) = mo_gf (hp_g h a) 9 5 28 4 ls st h) ∧ (∀ ls st h, zz_Y 28 (4, ls, st, h) = zz_Y 28 (7, ls, .long (lN 132264) :: st, h)) ∧ (∀ ls a b st h, zz_Y 28 (7, ls, .long b :: .long a :: st, h) = zz_Y 28 (8, ls, .int (lg_cmp a b) :: st, h)) ∧ (∀ ls a st h, zz_Y 28 (8, ls, .int a :: st, h) = if a = nI 0 then zz_Y 28 (11, ls, st, h) else zz_Y 28 (14, ls, st, h)) ∧ (∀ ls st h, zz_Y 28 (11, ls, st, h) = zz_Y 28 (13, ls, .int (nI 7) :: st, h)) ∧ (∀ ls v h, zz_Y 28 (13, ls, [.int v], h) = some (some (.int v), h)) ∧ (∀ x st h, zz_Y 28 (14, [some (.ref x)], st, h) = zz_Y 28 (15, [some (.ref x)], .ref x :: st, h)) ∧ (∀ ls a st h, zz_Y 28 (15, ls, .ref a :: st, h) = mo_gf (hp_g h a) 9 5 28 18 ls st h) ∧ (∀ ls st h, zz_Y 28 (18, ls, st, h) = zz_Y 28 (21, ls, .long (lN 180599091) :: st, h)) ∧ (∀ ls a b st h, zz_Y 28 (21, ls, .long b :: .long a :: st, h) = zz_Y 28 (22, ls, .int (lg_cmp a b) :: st, h)) ∧ (∀ ls a st h, zz_Y 28 (22, ls, .int a :: st, h) = if a = nI 0 then zz_Y 28 (25, ls, st, h) else zz_Y 28 (28, ls, st, h)) ∧ (∀ ls st h, zz_Y 28 (25, ls, st, h) = zz_Y 28 (27, ls, .int (nI 8) :: st, h)) ∧ (∀ ls v h, zz_Y 28 (27, ls, [.int v], h) = some (some (.int v), h)) ∧ (∀ x st h, zz_Y 28 (28, [some (.ref x)], st, h) = zz_Y 28 (29, [some (.ref x)], .ref x :: st, h)) ∧ (∀ ls a st h, zz_Y 28 (29, ls, .ref a :: st, h) = mo_gf (hp_g h a) 9 5 28 32 ls st h) ∧ (∀ ls st h, zz_Y 28 (32, ls, st, h) = zz_Y 28 (35, ls, .long (lN 833581) :: st, h)) ∧ (∀ ls a b st h, zz_Y 28 (35, ls, .long b :: .long a :: st, h) = zz_Y 28 (36, ls, .int (lg_cmp a b) :: st, h)) ∧ (∀ ls a st h, zz_Y 28 (36, ls, .int a :: st, h) = if a = nI 0 then zz_Y 28 (39, ls, st, h) else zz_Y 28 (42, ls, st, h)) ∧ (∀ ls st h, zz_Y 28 (39, ls, st, h) = zz_Y 28 (41, ls, .int (nI 9) :: st, h)) ∧ (∀ ls v h, zz_Y 28 (41, ls, [.int v], h) = some (some (.int v), h)) ∧ (∀ x st h, zz_Y 28 (42, [some (.ref x)], st, h) = zz_Y 28 (43, [some (.ref x)], .ref x :: st, h)) ∧ (∀ ls a st h, zz_Y 28 (43, ls, .ref a :: st, h) = mo_gf (hp_g h a) 9 5 28 46 ls st h) ∧ (∀ ls st h, zz_Y 28 (46, ls, st, h) = zz_Y 28 (49, ls, .long (lN 5943350) :: st, h)) ∧ (∀ ls a b st h, zz_Y 28 (49, ls, .long b :: .long a :: st, h) = zz_Y 28 (50, ls, .int (lg_cmp a b) :: st, h)) ∧ (∀ ls a st h, zz_Y 28 (50, ls, .int a :: st, h) = if a = nI 0 then zz_Y 28 (53, ls, st, h) else zz_Y 28 (56, ls, st, h)) ∧ (∀ ls st h, zz_Y 28 (53, ls, st, h) = zz_Y 28 (55, ls, .int (nI 10) :: st, h)) ∧ (∀ ls v h, zz_Y 28 (55, ls, [.int v], h) = some (some (.int v), h)) ∧ (∀ x st h, zz_Y 28 (56, [some (.ref x)], st, h) = zz_Y 28 (57, [some (.ref x)], .ref x :: st, h)) ∧ (∀ ls a st h, zz_Y 28 (57, ls, .ref a :: st, h) = mo_gf (hp_g h a) 9 5 28 60 ls st h) ∧ (∀ ls st h, zz_Y 28 (60, ls, st, h) = zz_Y 28 (63, ls, .long (lN 457) :: st, h)) ∧ (∀ ls a b st h, zz_Y 28 (63, ls, .long b :: .long a :: st, h) = zz_Y 28 (64, ls, .int (lg_cmp a b) :: st, h)) ∧ (∀ ls a st h, zz_Y 28 (64, ls, .int a :: st, h) = if a = nI 0 then zz_Y 28 (67, ls, st, h) else zz_Y 28 (70, ls, st, h)) ∧ (∀ ls st h, zz_Y 28 (67, ls, st, h) = zz_Y 28 (69, ls, .int (nI 11) :: st, h)) ∧ (∀ ls v h, zz_Y 28 (69, ls, [.int v], h) = some (some (.int v), h)) ∧ (∀ x st h, zz_Y 28 (70, [some (.ref x)], st, h) = zz_Y 28 (71, [some (.ref x)], .ref x :: st, h)) ∧ (∀ ls a st h, zz_Y 28 (71, ls, .ref a :: st, h) = mo_gf (hp_g h a) 9 5 28 74 ls st h) ∧ (∀ ls st h, zz_Y 28 (74, ls, st, h) = zz_Y 28 (77, ls, .long (lN 153586866) :: st, h)) ∧ (∀ ls a b st h, zz_Y 28 (77, ls, .long b :: .long a :: st, h) = zz_Y 28 (78, ls, .int (lg_cmp a b) :: st, h)) ∧ (∀ ls a st h, zz_Y 28 (78, ls, .int a :: st, h) = if a = nI 0 then zz_Y 28 (81, ls, st, h) else zz_Y 28 (84, ls, st, h)) ∧ (∀ ls st h, zz_Y 28 (81, ls, st, h) = zz_Y 28 (83, ls, .int (nI 12) :: st, h)) ∧ (∀ ls v h, zz_Y 28 (83, ls, [.int v], h) = some (some (.int v), h)) ∧ (∀ x st h, zz_Y 28 (84, [some (.ref x)], st, h) = zz_Y 28 (85, [some (.ref x)], .ref x :: st, h)) ∧ (∀ ls a st h, zz_Y 28 (85, ls, .ref a :: st, h) = mo_gf (hp_g h a) 9 5 28 88 ls st h) ∧ (∀ ls st h, zz_Y 28 (88, ls, st, h) = zz_Y 28 (91, ls, .long (lN 591) :: st, h)) ∧ (∀ ls a b st h, zz_Y 28 (91, ls, .long b :: .long a :: st, h) = zz_Y 28 (92, ls, .int (lg_cmp a b) :: st, h)) ∧ (∀ ls a st h, zz_Y 28 (92, ls, .int a :: st, h) = if a = nI 0 then zz_Y 28 (95, ls, st, h) else zz_Y 28 (98, ls, st, h)) ∧ (∀ ls st h, zz_Y 28 (95, ls, st, h) = zz_Y 28 (97, ls, .int (nI 13) :: st, h)) ∧ (∀ ls v h, zz_Y 28 (97, ls, [.int v], h) = some (some (.int v), h)) ∧ (∀ x st h, zz_Y 28 (98, [some (.ref x)], st, h) = zz_Y 28 (99, [some (.ref x)], .ref x :: st, h)) ∧ (∀ ls a st h, zz_Y 28 (99, ls, .ref a :: st, h) = mo_gf (hp_g h a) 9 5 28 102 ls st h) ∧ (∀ ls st h, zz_Y 28 (102, ls, st, h) = zz_Y 28 (105, ls, .long (lN 4545) :: st, h)) ∧ (∀ ls a b st h, zz_Y 28 (105, ls, .long b :: .long a :: st, h) = zz_Y 28 (106, ls, .int (lg_cmp a b) :: st, h)) ∧ (∀ ls a st h, zz_Y 28 (106, ls, .int a :: st, h) = if a = nI 0 then zz_Y 28 (109, ls, st, h) else zz_Y 28 (112, ls, st, h)) ∧ (∀ ls st h, zz_Y 28 (109, ls, st, h) = zz_Y 28 (111, ls, .int (nI 14) :: st, h)) ∧ (∀ ls v h, zz_Y 28 (111, ls, [.int v], h) = some (some (.int v), h)) ∧ (∀ x st h, zz_Y 28 (112, [some (.ref x)], st, h) = zz_Y 28 (113, [some (.ref x)], .ref x :: st, h)) ∧ (∀ ls a st h, zz_Y 28 (113, ls, .ref a :: st, h) = mo_gf (hp_g h a) 9 5 28 116 ls st h) ∧ (∀ ls st h, zz_Y 28 (116, ls, st, h) = zz_Y 28 (119, ls, .long (lN 642220) :: st, h)) ∧ (∀ ls a b st h, zz_Y 28 (119, ls, .long b :: .long a :: st, h) = zz_Y 28 (120, ls, .int (lg_cmp a b) :: st, h)) :=
  ⟨fun _ _ _ => xl_aln d28_0 rfl,
   fun _ _ _ _ => xl_gf d28_1 xco28 xf_9_67,
   fun _ _ _ => xl_jw d28_4 xco28 (by decide +kernel),
   fun _ _ _ _ _ => xl_lcmp d28_7,
   fun _ _ _ _ => xl_ifne d28_8 rfl,
   fun _ _ _ => xl_bi d28_11 (by decide +kernel),
   fun _ _ _ => xl_iri d28_13 xrt28,
   fun _ _ _ => xl_aln d28_14 rfl,
   fun _ _ _ _ => xl_gf d28_15 xco28 xf_9_67,
   fun _ _ _ => xl_jw d28_18 xco28 (by decide +kernel),
   fun _ _ _ _ _ => xl_lcmp d28_21,
   fun _ _ _ _ => xl_ifne d28_22 rfl,
   fun _ _ _ => xl_bi d28_25 (by decide +kernel),
   fun _ _ _ => xl_iri d28_27 xrt28,
   fun _ _ _ => xl_aln d28_28 rfl,
   fun _ _ _ _ => xl_gf d28_29 xco28 xf_9_67,
   fun _ _ _ => xl_jw d28_32 xco28 (by decide +kernel),
   fun _ _ _ _ _ => xl_lcmp d28_35,
   fun _ _ _ _ => xl_ifne d28_36 rfl,
   fun _ _ _ => xl_bi d28_39 (by decide +kernel),
   fun _ _ _ => xl_iri d28_41 xrt28,
   fun _ _ _ => xl_aln d28_42 rfl,
   fun _ _ _ _ => xl_gf d28_43 xco28 xf_9_67,
   fun _ _ _ => xl_jw d28_46 xco28 (by decide +kernel),
   fun _ _ _ _ _ => xl_lcmp d28_49,
   fun _ _ _ _ => xl_ifne d28_50 rfl,
   fun _ _ _ => xl_bi d28_53 (by decide +kernel),
   fun _ _ _ => xl_iri d28_55 xrt28,
   fun _ _ _ => xl_aln d28_56 rfl,
   fun _ _ _ _ => xl_gf d28_57 xco28 xf_9_67,
   fun _ _ _ => xl_jw d28_60 xco28 (by decide +kernel),
   fun _ _ _ _ _ => xl_lcmp d28_63,
   fun _ _ _ _ => xl_ifne d28_64 rfl,
   fun _ _ _ => xl_bi d28_67 (by decide +kernel),
   fun _ _ _ => xl_iri d28_69 xrt28,
   fun _ _ _ => xl_aln d28_70 rfl,
   fun _ _ _ _ => xl_gf d28_71 xco28 xf_9_67,
   fun _ _ _ => xl_jw d28_74 xco28 (by decide +kernel),
   fun _ _ _ _ _ => xl_lcmp d28_77,
   fun _ _ _ _ => xl_ifne d28_78 rfl,
   fun _ _ _ => xl_bi d28_81 (by decide +kernel),
   fun _ _ _ => xl_iri d28_83 xrt28,
   fun _ _ _ => xl_aln d28_84 rfl,
   fun _ _ _ _ => xl_gf d28_85 xco28 xf_9_67,
   fun _ _ _ => xl_jw d28_88 xco28 (by decide +kernel),
   fun _ _ _ _ _ => xl_lcmp d28_91,
   fun _ _ _ _ => xl_ifne d28_92 rfl,
   fun _ _ _ => xl_bi d28_95 (by decide +kernel),
   fun _ _ _ => xl_iri d28_97 xrt28,
   fun _ _ _ => xl_aln d28_98 rfl,
   fun _ _ _ _ => xl_gf d28_99 xco28 xf_9_67,
   fun _ _ _ => xl_jw d28_102 xco28 (by decide +kernel),
   fun _ _ _ _ _ => xl_lcmp d28_105,
   fun _ _ _ _ => xl_ifne d28_106 rfl,
   fun _ _ _ => xl_bi d28_109 (by decide +kernel),
   fun _ _ _ => xl_iri d28_111 xrt28,
   fun _ _ _ => xl_aln d28_112 rfl,
   fun _ _ _ _ => xl_gf d28_113 xco28 xf_9_67,
   fun _ _ _ => xl_jw d28_116 xco28 (by decide +kernel),
   fun _ _ _ _ _ => xl_lcmp d28_119⟩
theorem x28_p1 : (∀ ls a st h, zz_Y 28 (120, ls, .int a :: st, h) = if a = nI 0 then zz_Y 28 (123, ls, st, h) else zz_Y 28 (126, ls, st, h)) ∧ (∀ ls st h, zz_Y 28 (123, ls, st, h) = zz_Y 28 (125, ls, .int (nI 15) :: st, h)) ∧ (∀ ls v h, zz_Y 28 (125, ls, [.int v], h) = some (some (.int v), h)) ∧ (∀ x st h, zz_Y 28 (126, [some (.ref x)], st, h) = zz_Y 28 (127, [some (.ref x)], .ref x :: st, h)) ∧ (∀ ls a st h, zz_Y 28 (127, ls, .ref a :: st, h) = mo_gf (hp_g h a) 9 5 28 130 ls st h) ∧ (∀ ls st h, zz_Y 28 (130, ls, st, h) = zz_Y 28 (133, ls, .long (lN 12673) :: st, h)) ∧ (∀ ls a b st h, zz_Y 28 (133, ls, .long b :: .long a :: st, h) = zz_Y 28 (134, ls, .int (lg_cmp a b) :: st, h)) ∧ (∀ ls a st h, zz_Y 28 (134, ls, .int a :: st, h) = if a = nI 0 then zz_Y 28 (137, ls, st, h) else zz_Y 28 (142, ls, st, h)) ∧ (∀ ls st h, zz_Y 28 (137, ls, st, h) = zz_Y 28 (139, ls, .int (nI 16) :: st, h)) ∧ (∀ ls st h, zz_Y 28 (139, ls, st, h) = zz_Y 28 (143, ls, st, h)) ∧ (∀ ls st h, zz_Y 28 (142, ls, st, h) = zz_Y 28 (143, ls, .int (nI 2) :: st, h)) ∧ (∀ ls v h, zz_Y 28 (143, ls, [.int v], h) = some (some (.int v), h)) :=
  ⟨fun _ _ _ _ => xl_ifne d28_120 rfl,
   fun _ _ _ => xl_bi d28_123 (by decide +kernel),
   fun _ _ _ => xl_iri d28_125 xrt28,
   fun _ _ _ => xl_aln d28_126 rfl,
   fun _ _ _ _ => xl_gf d28_127 xco28 xf_9_67,
   fun _ _ _ => xl_jw d28_130 xco28 (by decide +kernel),
   fun _ _ _ _ _ => xl_lcmp d28_133,
   fun _ _ _ _ => xl_ifne d28_134 rfl,
   fun _ _ _ => xl_bi d28_137 (by decide +kernel),
   fun _ _ _ => xl_goto d28_139 rfl,
   fun _ _ _ => xl_ic d28_142 (by decide +kernel),
   fun _ _ _ => xl_iri d28_143 xrt28⟩
/-! 29 FacetSieve$Tokens.isDigit(I)Z -/
theorem d29_0 : decode (zz_c 29) 0 = .ok (.iload_n 0, 1) := by decide +kernel
theorem d29_1 : decode (zz_c 29) 1 = .ok (.bipush 48, 2) := by decide +kernel
theorem d29_3 : decode (zz_c 29) 3 = .ok (.if_icmp .lt 13, 3) := by decide +kernel
theorem d29_6 : decode (zz_c 29) 6 = .ok (.iload_n 0, 1) := by decide +kernel
theorem d29_7 : decode (zz_c 29) 7 = .ok (.bipush 57, 2) := by decide +kernel
theorem d29_9 : decode (zz_c 29) 9 = .ok (.if_icmp .gt 7, 3) := by decide +kernel
theorem d29_12 : decode (zz_c 29) 12 = .ok (.iconst 1, 1) := by decide +kernel
theorem d29_13 : decode (zz_c 29) 13 = .ok (.goto 4, 3) := by decide +kernel
theorem d29_16 : decode (zz_c 29) 16 = .ok (.iconst 0, 1) := by decide +kernel
theorem d29_17 : decode (zz_c 29) 17 = .ok (.ireturn, 1) := by decide +kernel
theorem x29 : (∀ x st h, zz_Y 29 (0, [some (.int x)], st, h) = zz_Y 29 (1, [some (.int x)], .int x :: st, h)) ∧ (∀ ls st h, zz_Y 29 (1, ls, st, h) = zz_Y 29 (3, ls, .int (nI 48) :: st, h)) ∧ (∀ ls a b st h, zz_Y 29 (3, ls, .int b :: .int a :: st, h) = if a < b then zz_Y 29 (16, ls, st, h) else zz_Y 29 (6, ls, st, h)) ∧ (∀ x st h, zz_Y 29 (6, [some (.int x)], st, h) = zz_Y 29 (7, [some (.int x)], .int x :: st, h)) ∧ (∀ ls st h, zz_Y 29 (7, ls, st, h) = zz_Y 29 (9, ls, .int (nI 57) :: st, h)) ∧ (∀ ls a b st h, zz_Y 29 (9, ls, .int b :: .int a :: st, h) = if b < a then zz_Y 29 (16, ls, st, h) else zz_Y 29 (12, ls, st, h)) ∧ (∀ ls st h, zz_Y 29 (12, ls, st, h) = zz_Y 29 (13, ls, .int (nI 1) :: st, h)) ∧ (∀ ls st h, zz_Y 29 (13, ls, st, h) = zz_Y 29 (17, ls, st, h)) ∧ (∀ ls st h, zz_Y 29 (16, ls, st, h) = zz_Y 29 (17, ls, .int (nI 0) :: st, h)) ∧ (∀ ls v h, v = nI 0 ∨ v = nI 1 → zz_Y 29 (17, ls, [.int v], h) = some (some (.int v), h)) :=
  ⟨fun _ _ _ => xl_iln d29_0 rfl,
   fun _ _ _ => xl_bi d29_1 (by decide +kernel),
   fun _ _ _ _ _ => xl_iclt d29_3 rfl,
   fun _ _ _ => xl_iln d29_6 rfl,
   fun _ _ _ => xl_bi d29_7 (by decide +kernel),
   fun _ _ _ _ _ => xl_icgt d29_9 rfl,
   fun _ _ _ => xl_ic d29_12 (by decide +kernel),
   fun _ _ _ => xl_goto d29_13 rfl,
   fun _ _ _ => xl_ic d29_16 (by decide +kernel),
   fun _ _ _ hc => xl_irz d29_17 xrt29 hc⟩
/-! 30 FacetSieve$Tokens.readNumber()V -/
theorem d30_0 : decode (zz_c 30) 0 = .ok (.iconst 0, 1) := by decide +kernel
theorem d30_1 : decode (zz_c 30) 1 = .ok (.istore_n 1, 1) := by decide +kernel
theorem d30_2 : decode (zz_c 30) 2 = .ok (.aload_n 0, 1) := by decide +kernel
theorem d30_3 : decode (zz_c 30) 3 = .ok (.iconst 0, 1) := by decide +kernel
theorem d30_4 : decode (zz_c 30) 4 = .ok (.putfield 75, 3) := by decide +kernel
theorem d30_7 : decode (zz_c 30) 7 = .ok (.aload_n 0, 1) := by decide +kernel
theorem d30_8 : decode (zz_c 30) 8 = .ok (.getfield 26, 3) := by decide +kernel
theorem d30_11 : decode (zz_c 30) 11 = .ok (.aload_n 0, 1) := by decide +kernel
theorem d30_12 : decode (zz_c 30) 12 = .ok (.getfield 12, 3) := by decide +kernel
theorem d30_15 : decode (zz_c 30) 15 = .ok (.getfield 22, 3) := by decide +kernel
theorem d30_18 : decode (zz_c 30) 18 = .ok (.if_icmp .ge 67, 3) := by decide +kernel
theorem d30_21 : decode (zz_c 30) 21 = .ok (.aload_n 0, 1) := by decide +kernel
theorem d30_22 : decode (zz_c 30) 22 = .ok (.getfield 12, 3) := by decide +kernel
theorem d30_25 : decode (zz_c 30) 25 = .ok (.aload_n 0, 1) := by decide +kernel
theorem d30_26 : decode (zz_c 30) 26 = .ok (.getfield 26, 3) := by decide +kernel
theorem d30_29 : decode (zz_c 30) 29 = .ok (.invokevirtual 41, 3) := by decide +kernel
theorem d30_32 : decode (zz_c 30) 32 = .ok (.invokestatic 58, 3) := by decide +kernel
theorem d30_35 : decode (zz_c 30) 35 = .ok (.ifCond .eq 50, 3) := by decide +kernel
theorem d30_38 : decode (zz_c 30) 38 = .ok (.iload_n 1, 1) := by decide +kernel
theorem d30_39 : decode (zz_c 30) 39 = .ok (.iconst 3, 1) := by decide +kernel
theorem d30_40 : decode (zz_c 30) 40 = .ok (.if_icmp .ge 29, 3) := by decide +kernel
theorem d30_43 : decode (zz_c 30) 43 = .ok (.aload_n 0, 1) := by decide +kernel
theorem d30_44 : decode (zz_c 30) 44 = .ok (.aload_n 0, 1) := by decide +kernel
theorem d30_45 : decode (zz_c 30) 45 = .ok (.getfield 75, 3) := by decide +kernel
theorem d30_48 : decode (zz_c 30) 48 = .ok (.bipush 10, 2) := by decide +kernel
theorem d30_50 : decode (zz_c 30) 50 = .ok (.imul, 1) := by decide +kernel
theorem d30_51 : decode (zz_c 30) 51 = .ok (.aload_n 0, 1) := by decide +kernel
theorem d30_52 : decode (zz_c 30) 52 = .ok (.getfield 12, 3) := by decide +kernel
theorem d30_55 : decode (zz_c 30) 55 = .ok (.aload_n 0, 1) := by decide +kernel
theorem d30_56 : decode (zz_c 30) 56 = .ok (.getfield 26, 3) := by decide +kernel
theorem d30_59 : decode (zz_c 30) 59 = .ok (.invokevirtual 41, 3) := by decide +kernel
theorem d30_62 : decode (zz_c 30) 62 = .ok (.iadd, 1) := by decide +kernel
theorem d30_63 : decode (zz_c 30) 63 = .ok (.bipush 48, 2) := by decide +kernel
theorem d30_65 : decode (zz_c 30) 65 = .ok (.isub, 1) := by decide +kernel
theorem d30_66 : decode (zz_c 30) 66 = .ok (.putfield 75, 3) := by decide +kernel
theorem d30_69 : decode (zz_c 30) 69 = .ok (.iinc 1 1, 3) := by decide +kernel
theorem d30_72 : decode (zz_c 30) 72 = .ok (.aload_n 0, 1) := by decide +kernel
theorem d30_73 : decode (zz_c 30) 73 = .ok (.dup, 1) := by decide +kernel
theorem d30_74 : decode (zz_c 30) 74 = .ok (.getfield 26, 3) := by decide +kernel
theorem d30_77 : decode (zz_c 30) 77 = .ok (.iconst 1, 1) := by decide +kernel
theorem d30_78 : decode (zz_c 30) 78 = .ok (.iadd, 1) := by decide +kernel
theorem d30_79 : decode (zz_c 30) 79 = .ok (.putfield 26, 3) := by decide +kernel
theorem d30_82 : decode (zz_c 30) 82 = .ok (.goto (-75), 3) := by decide +kernel
theorem d30_85 : decode (zz_c 30) 85 = .ok (.aload_n 0, 1) := by decide +kernel
theorem d30_86 : decode (zz_c 30) 86 = .ok (.iload_n 1, 1) := by decide +kernel
theorem d30_87 : decode (zz_c 30) 87 = .ok (.iconst 3, 1) := by decide +kernel
theorem d30_88 : decode (zz_c 30) 88 = .ok (.if_icmp .le 7, 3) := by decide +kernel
theorem d30_91 : decode (zz_c 30) 91 = .ok (.iconst 1, 1) := by decide +kernel
theorem d30_92 : decode (zz_c 30) 92 = .ok (.goto 4, 3) := by decide +kernel
theorem d30_95 : decode (zz_c 30) 95 = .ok (.iconst 3, 1) := by decide +kernel
theorem d30_96 : decode (zz_c 30) 96 = .ok (.putfield 49, 3) := by decide +kernel
theorem d30_99 : decode (zz_c 30) 99 = .ok (.return_, 1) := by decide +kernel
theorem x30 : (∀ ls st h, zz_Y 30 (0, ls, st, h) = zz_Y 30 (1, ls, .int (nI 0) :: st, h)) ∧ (∀ l0 l1 x st h, zz_nl l0 = true → zz_Y 30 (1, [l0, l1], .int x :: st, h) = zz_Y 30 (2, [l0, some (.int x)], st, h)) ∧ (∀ l1 x st h, zz_Y 30 (2, [some (.ref x), l1], st, h) = zz_Y 30 (3, [some (.ref x), l1], .ref x :: st, h)) ∧ (∀ ls st h, zz_Y 30 (3, ls, st, h) = zz_Y 30 (4, ls, .int (nI 0) :: st, h)) ∧ (∀ ls a v st h, zz_Y 30 (4, ls, v :: .ref a :: st, h) = mo_pf (hp_g h a) 9 4 .int v a 30 7 ls st h) ∧ (∀ ls a st h, zz_Y 30 (8, ls, .ref a :: st, h) = mo_gf (hp_g h a) 9 1 30 11 ls st h) ∧ (∀ l1 x st h, zz_Y 30 (11, [some (.ref x), l1], st, h) = zz_Y 30 (12, [some (.ref x), l1], .ref x :: st, h)) ∧ (∀ ls a st h, zz_Y 30 (12, ls, .ref a :: st, h) = mo_gf (hp_g h a) 9 0 30 15 ls st h) ∧ (∀ ls a st h, zz_Y 30 (15, ls, .ref a :: st, h) = mo_gf (hp_g h a) 8 1 30 18 ls st h) ∧ (∀ ls a b st h, zz_Y 30 (18, ls, .int b :: .int a :: st, h) = if a < b then zz_Y 30 (21, ls, st, h) else zz_Y 30 (85, ls, st, h)) ∧ (∀ l1 x st h, zz_Y 30 (21, [some (.ref x), l1], st, h) = zz_Y 30 (22, [some (.ref x), l1], .ref x :: st, h)) ∧ (∀ ls a st h, zz_Y 30 (22, ls, .ref a :: st, h) = mo_gf (hp_g h a) 9 0 30 25 ls st h) ∧ (∀ l1 x st h, zz_Y 30 (25, [some (.ref x), l1], st, h) = zz_Y 30 (26, [some (.ref x), l1], .ref x :: st, h)) ∧ (∀ ls a st h, zz_Y 30 (26, ls, .ref a :: st, h) = mo_gf (hp_g h a) 9 1 30 29 ls st h) ∧ (∀ ls a0 a1 h, zz_Y 30 (29, ls, [a1, a0], h) = mo_k 30 32 ls [] (zz_run 24 [a0, a1] h)) ∧ (∀ ls a0 h, zz_Y 30 (32, ls, [a0], h) = mo_k 30 35 ls [] (zz_run 29 [a0] h)) ∧ (∀ ls a st h, zz_Y 30 (35, ls, .int a :: st, h) = if a = nI 0 then zz_Y 30 (85, ls, st, h) else zz_Y 30 (38, ls, st, h)) ∧ (∀ l0 x st h, zz_Y 30 (38, [l0, some (.int x)], st, h) = zz_Y 30 (39, [l0, some (.int x)], .int x :: st, h)) ∧ (∀ ls st h, zz_Y 30 (39, ls, st, h) = zz_Y 30 (40, ls, .int (nI 3) :: st, h)) ∧ (∀ ls a b st h, zz_Y 30 (40, ls, .int b :: .int a :: st, h) = if a < b then zz_Y 30 (43, ls, st, h) else zz_Y 30 (69, ls, st, h)) ∧ (∀ l1 x st h, zz_Y 30 (43, [some (.ref x), l1], st, h) = zz_Y 30 (44, [some (.ref x), l1], .ref x :: st, h)) ∧ (∀ l1 x st h, zz_Y 30 (44, [some (.ref x), l1], st, h) = zz_Y 30 (45, [some (.ref x), l1], .ref x :: st, h)) ∧ (∀ ls a st h, zz_Y 30 (45, ls, .ref a :: st, h) = mo_gf (hp_g h a) 9 4 30 48 ls st h) ∧ (∀ ls st h, zz_Y 30 (48, ls, st, h) = zz_Y 30 (50, ls, .int (nI 10) :: st, h)) ∧ (∀ ls a b st h, zz_Y 30 (50, ls, .int b :: .int a :: st, h) = zz_Y 30 (51, ls, .int (a * b) :: st, h)) ∧ (∀ l1 x st h, zz_Y 30 (51, [some (.ref x), l1], st, h) = zz_Y 30 (52, [some (.ref x), l1], .ref x :: st, h)) ∧ (∀ ls a st h, zz_Y 30 (52, ls, .ref a :: st, h) = mo_gf (hp_g h a) 9 0 30 55 ls st h) ∧ (∀ l1 x st h, zz_Y 30 (55, [some (.ref x), l1], st, h) = zz_Y 30 (56, [some (.ref x), l1], .ref x :: st, h)) ∧ (∀ ls a st h, zz_Y 30 (56, ls, .ref a :: st, h) = mo_gf (hp_g h a) 9 1 30 59 ls st h) ∧ (∀ ls a0 a1 s0 s1 h, zz_Y 30 (59, ls, [a1, a0, s0, s1], h) = mo_k 30 62 ls [s0, s1] (zz_run 24 [a0, a1] h)) ∧ (∀ ls a b st h, zz_Y 30 (62, ls, .int b :: .int a :: st, h) = zz_Y 30 (63, ls, .int (a + b) :: st, h)) ∧ (∀ ls st h, zz_Y 30 (63, ls, st, h) = zz_Y 30 (65, ls, .int (nI 48) :: st, h)) ∧ (∀ ls a b st h, zz_Y 30 (65, ls, .int b :: .int a :: st, h) = zz_Y 30 (66, ls, .int (a - b) :: st, h)) ∧ (∀ ls a v st h, zz_Y 30 (66, ls, v :: .ref a :: st, h) = mo_pf (hp_g h a) 9 4 .int v a 30 69 ls st h) ∧ (∀ l0 x st h, zz_nl l0 = true → zz_Y 30 (69, [l0, some (.int x)], st, h) = zz_Y 30 (72, [l0, some (.int (x + nI 1))], st, h)) ∧ (∀ l1 x st h, zz_Y 30 (72, [some (.ref x), l1], st, h) = zz_Y 30 (73, [some (.ref x), l1], .ref x :: st, h)) ∧ (∀ ls a st h, zz_Y 30 (73, ls, .ref a :: st, h) = zz_Y 30 (74, ls, .ref a :: .ref a :: st, h)) ∧ (∀ ls a st h, zz_Y 30 (74, ls, .ref a :: st, h) = mo_gf (hp_g h a) 9 1 30 77 ls st h) ∧ (∀ ls st h, zz_Y 30 (77, ls, st, h) = zz_Y 30 (78, ls, .int (nI 1) :: st, h)) ∧ (∀ ls a b st h, zz_Y 30 (78, ls, .int b :: .int a :: st, h) = zz_Y 30 (79, ls, .int (a + b) :: st, h)) ∧ (∀ ls a v st h, zz_Y 30 (79, ls, v :: .ref a :: st, h) = mo_pf (hp_g h a) 9 1 .int v a 30 82 ls st h) ∧ (∀ ls st h, zz_Y 30 (82, ls, st, h) = zz_Y 30 (7, ls, st, h)) ∧ (∀ l1 x st h, zz_Y 30 (85, [some (.ref x), l1], st, h) = zz_Y 30 (86, [some (.ref x), l1], .ref x :: st, h)) ∧ (∀ l0 x st h, zz_Y 30 (86, [l0, some (.int x)], st, h) = zz_Y 30 (87, [l0, some (.int x)], .int x :: st, h)) ∧ (∀ ls st h, zz_Y 30 (87, ls, st, h) = zz_Y 30 (88, ls, .int (nI 3) :: st, h)) ∧ (∀ ls a b st h, zz_Y 30 (88, ls, .int b :: .int a :: st, h) = if b < a then zz_Y 30 (91, ls, st, h) else zz_Y 30 (95, ls, st, h)) ∧ (∀ ls st h, zz_Y 30 (91, ls, st, h) = zz_Y 30 (92, ls, .int (nI 1) :: st, h)) ∧ (∀ ls st h, zz_Y 30 (92, ls, st, h) = zz_Y 30 (96, ls, st, h)) ∧ (∀ ls st h, zz_Y 30 (95, ls, st, h) = zz_Y 30 (96, ls, .int (nI 3) :: st, h)) ∧ (∀ ls a v st h, zz_Y 30 (96, ls, v :: .ref a :: st, h) = mo_pf (hp_g h a) 9 2 .int v a 30 99 ls st h) ∧ (∀ ls h, zz_Y 30 (99, ls, [], h) = some (none, h)) :=
  ⟨fun _ _ _ => xl_ic d30_0 (by decide +kernel),
   fun _ _ _ _ _ hc => xl_isn d30_1 xml30 (by decide) (zz_nl_s1 hc),
   fun _ _ _ _ => xl_aln d30_2 rfl,
   fun _ _ _ => xl_ic d30_3 (by decide +kernel),
   fun _ _ _ _ _ => xl_pf d30_4 xco30 xf_9_75 (by decide +kernel) rfl,
   fun _ _ _ _ => xl_gf d30_8 xco30 xf_9_26,
   fun _ _ _ _ => xl_aln d30_11 rfl,
   fun _ _ _ _ => xl_gf d30_12 xco30 xf_9_12,
   fun _ _ _ _ => xl_gf d30_15 xco30 xf_9_22,
   fun _ _ _ _ _ => xl_icge d30_18 rfl,
   fun _ _ _ _ => xl_aln d30_21 rfl,
   fun _ _ _ _ => xl_gf d30_22 xco30 xf_9_12,
   fun _ _ _ _ => xl_aln d30_25 rfl,
   fun _ _ _ _ => xl_gf d30_26 xco30 xf_9_26,
   fun ls a0 a1 h => xl_cv (As := [a0, a1]) (st := []) d30_29 xco30 xm_9_41 (congrArg Nat.succ xnp24) (by decide +kernel) rfl,
   fun ls a0 h => xl_cs (As := [a0]) (st := []) d30_32 xco30 xm_9_58 xnp29 (by decide +kernel) rfl,
   fun _ _ _ _ => xl_ifeq d30_35 rfl,
   fun _ _ _ _ => xl_iln d30_38 rfl,
   fun _ _ _ => xl_ic d30_39 (by decide +kernel),
   fun _ _ _ _ _ => xl_icge d30_40 rfl,
   fun _ _ _ _ => xl_aln d30_43 rfl,
   fun _ _ _ _ => xl_aln d30_44 rfl,
   fun _ _ _ _ => xl_gf d30_45 xco30 xf_9_75,
   fun _ _ _ => xl_bi d30_48 (by decide +kernel),
   fun _ _ _ _ _ => xl_imul d30_50,
   fun _ _ _ _ => xl_aln d30_51 rfl,
   fun _ _ _ _ => xl_gf d30_52 xco30 xf_9_12,
   fun _ _ _ _ => xl_aln d30_55 rfl,
   fun _ _ _ _ => xl_gf d30_56 xco30 xf_9_26,
   fun ls a0 a1 s0 s1 h => xl_cv (As := [a0, a1]) (st := [s0, s1]) d30_59 xco30 xm_9_41 (congrArg Nat.succ xnp24) (by decide +kernel) rfl,
   fun _ _ _ _ _ => xl_iadd d30_62,
   fun _ _ _ => xl_bi d30_63 (by decide +kernel),
   fun _ _ _ _ _ => xl_isub d30_65,
   fun _ _ _ _ _ => xl_pf d30_66 xco30 xf_9_75 (by decide +kernel) rfl,
   fun _ _ _ _ hc => xl_inc d30_69 xml30 (by decide) rfl (by decide +kernel) (zz_nl_s1 hc),
   fun _ _ _ _ => xl_aln d30_72 rfl,
   fun _ _ _ _ => xl_dupr d30_73,
   fun _ _ _ _ => xl_gf d30_74 xco30 xf_9_26,
   fun _ _ _ => xl_ic d30_77 (by decide +kernel),
   fun _ _ _ _ _ => xl_iadd d30_78,
   fun _ _ _ _ _ => xl_pf d30_79 xco30 xf_9_26 (by decide +kernel) rfl,
   fun _ _ _ => xl_goto d30_82 rfl,
   fun _ _ _ _ => xl_aln d30_85 rfl,
   fun _ _ _ _ => xl_iln d30_86 rfl,
   fun _ _ _ => xl_ic d30_87 (by decide +kernel),
   fun _ _ _ _ _ => xl_icle d30_88 rfl,
   fun _ _ _ => xl_ic d30_91 (by decide +kernel),
   fun _ _ _ => xl_goto d30_92 rfl,
   fun _ _ _ => xl_ic d30_95 (by decide +kernel),
   fun _ _ _ _ _ => xl_pf d30_96 xco30 xf_9_49 (by decide +kernel) rfl,
   fun _ _ => xl_r d30_99 xrt30⟩
theorem x30_c7 : ∀ l1 x st h, zz_Y 30 (7, [some (.ref x), l1], st, h) = zz_Y 30 (8, [some (.ref x), l1], .ref x :: st, h) := fun _ _ _ _ => xl_aln d30_7 rfl
/-! 31 FacetSieve$Tokens.signKind(I)I -/
theorem d31_0 : decode (zz_c 31) 0 = .ok (.iload_n 0, 1) := by decide +kernel
theorem d31_1 : decode (zz_c 31) 1 = .ok (.lookupswitch 42 #[(59, 35), (91, 37), (93, 39)], 35) := by decide +kernel
theorem d31_36 : decode (zz_c 31) 36 = .ok (.iconst 4, 1) := by decide +kernel
theorem d31_37 : decode (zz_c 31) 37 = .ok (.ireturn, 1) := by decide +kernel
theorem d31_38 : decode (zz_c 31) 38 = .ok (.iconst 5, 1) := by decide +kernel
theorem d31_39 : decode (zz_c 31) 39 = .ok (.ireturn, 1) := by decide +kernel
theorem d31_40 : decode (zz_c 31) 40 = .ok (.bipush 6, 2) := by decide +kernel
theorem d31_42 : decode (zz_c 31) 42 = .ok (.ireturn, 1) := by decide +kernel
theorem d31_43 : decode (zz_c 31) 43 = .ok (.iconst 1, 1) := by decide +kernel
theorem d31_44 : decode (zz_c 31) 44 = .ok (.ireturn, 1) := by decide +kernel
theorem x31 : (∀ x st h, zz_Y 31 (0, [some (.int x)], st, h) = zz_Y 31 (1, [some (.int x)], .int x :: st, h)) ∧ (∀ ls x st h, zz_Y 31 (1, ls, .int x :: st, h) = zz_Y 31 (zz_sw [(nI 59, 36), (nI 91, 38), (nI 93, 40)] 43 x, ls, st, h)) ∧ (∀ ls st h, zz_Y 31 (36, ls, st, h) = zz_Y 31 (37, ls, .int (nI 4) :: st, h)) ∧ (∀ ls v h, zz_Y 31 (37, ls, [.int v], h) = some (some (.int v), h)) ∧ (∀ ls st h, zz_Y 31 (38, ls, st, h) = zz_Y 31 (39, ls, .int (nI 5) :: st, h)) ∧ (∀ ls v h, zz_Y 31 (39, ls, [.int v], h) = some (some (.int v), h)) ∧ (∀ ls st h, zz_Y 31 (40, ls, st, h) = zz_Y 31 (42, ls, .int (nI 6) :: st, h)) ∧ (∀ ls v h, zz_Y 31 (42, ls, [.int v], h) = some (some (.int v), h)) ∧ (∀ ls st h, zz_Y 31 (43, ls, st, h) = zz_Y 31 (44, ls, .int (nI 1) :: st, h)) ∧ (∀ ls v h, zz_Y 31 (44, ls, [.int v], h) = some (some (.int v), h)) :=
  ⟨fun _ _ _ => xl_iln d31_0 rfl,
   fun _ _ _ _ => xl_lks (qs := [(nI 59, 36), (nI 91, 38), (nI 93, 40)]) d31_1 (by decide +kernel) rfl (by decide +kernel),
   fun _ _ _ => xl_ic d31_36 (by decide +kernel),
   fun _ _ _ => xl_iri d31_37 xrt31,
   fun _ _ _ => xl_ic d31_38 (by decide +kernel),
   fun _ _ _ => xl_iri d31_39 xrt31,
   fun _ _ _ => xl_bi d31_40 (by decide +kernel),
   fun _ _ _ => xl_iri d31_42 xrt31,
   fun _ _ _ => xl_ic d31_43 (by decide +kernel),
   fun _ _ _ => xl_iri d31_44 xrt31⟩
/-! 32 FacetSieve$SchemeReader.readLine()Z -/
theorem d32_0 : decode (zz_c 32) 0 = .ok (.aload_n 0, 1) := by decide +kernel
theorem d32_1 : decode (zz_c 32) 1 = .ok (.getfield 12, 3) := by decide +kernel
theorem d32_4 : decode (zz_c 32) 4 = .ok (.getfield 32, 3) := by decide +kernel
theorem d32_7 : decode (zz_c 32) 7 = .ok (.lookupswitch 57 #[(7, 33), (10, 41), (12, 49)], 33) := by decide +kernel
theorem d32_40 : decode (zz_c 32) 40 = .ok (.aload_n 0, 1) := by decide +kernel
theorem d32_41 : decode (zz_c 32) 41 = .ok (.invokevirtual 40, 3) := by decide +kernel
theorem d32_44 : decode (zz_c 32) 44 = .ok (.istore_n 1, 1) := by decide +kernel
theorem d32_45 : decode (zz_c 32) 45 = .ok (.goto 28, 3) := by decide +kernel
theorem d32_48 : decode (zz_c 32) 48 = .ok (.aload_n 0, 1) := by decide +kernel
theorem d32_49 : decode (zz_c 32) 49 = .ok (.invokevirtual 43, 3) := by decide +kernel
theorem d32_52 : decode (zz_c 32) 52 = .ok (.istore_n 1, 1) := by decide +kernel
theorem d32_53 : decode (zz_c 32) 53 = .ok (.goto 20, 3) := by decide +kernel
theorem d32_56 : decode (zz_c 32) 56 = .ok (.aload_n 0, 1) := by decide +kernel
theorem d32_57 : decode (zz_c 32) 57 = .ok (.invokevirtual 46, 3) := by decide +kernel
theorem d32_60 : decode (zz_c 32) 60 = .ok (.istore_n 1, 1) := by decide +kernel
theorem d32_61 : decode (zz_c 32) 61 = .ok (.goto 12, 3) := by decide +kernel
theorem d32_64 : decode (zz_c 32) 64 = .ok (.aload_n 0, 1) := by decide +kernel
theorem d32_65 : decode (zz_c 32) 65 = .ok (.getfield 12, 3) := by decide +kernel
theorem d32_68 : decode (zz_c 32) 68 = .ok (.iconst 1, 1) := by decide +kernel
theorem d32_69 : decode (zz_c 32) 69 = .ok (.invokevirtual 49, 3) := by decide +kernel
theorem d32_72 : decode (zz_c 32) 72 = .ok (.ireturn, 1) := by decide +kernel
theorem d32_73 : decode (zz_c 32) 73 = .ok (.iload_n 1, 1) := by decide +kernel
theorem d32_74 : decode (zz_c 32) 74 = .ok (.ifCond .eq 23, 3) := by decide +kernel
theorem d32_77 : decode (zz_c 32) 77 = .ok (.aload_n 0, 1) := by decide +kernel
theorem d32_78 : decode (zz_c 32) 78 = .ok (.getfield 12, 3) := by decide +kernel
theorem d32_81 : decode (zz_c 32) 81 = .ok (.getfield 32, 3) := by decide +kernel
theorem d32_84 : decode (zz_c 32) 84 = .ok (.iconst 4, 1) := by decide +kernel
theorem d32_85 : decode (zz_c 32) 85 = .ok (.if_icmp .eq 12, 3) := by decide +kernel
theorem d32_88 : decode (zz_c 32) 88 = .ok (.aload_n 0, 1) := by decide +kernel
theorem d32_89 : decode (zz_c 32) 89 = .ok (.getfield 12, 3) := by decide +kernel
theorem d32_92 : decode (zz_c 32) 92 = .ok (.iconst 1, 1) := by decide +kernel
theorem d32_93 : decode (zz_c 32) 93 = .ok (.invokevirtual 49, 3) := by decide +kernel
theorem d32_96 : decode (zz_c 32) 96 = .ok (.ireturn, 1) := by decide +kernel
theorem d32_97 : decode (zz_c 32) 97 = .ok (.iload_n 1, 1) := by decide +kernel
theorem d32_98 : decode (zz_c 32) 98 = .ok (.ifCond .eq 10, 3) := by decide +kernel
theorem d32_101 : decode (zz_c 32) 101 = .ok (.aload_n 0, 1) := by decide +kernel
theorem d32_102 : decode (zz_c 32) 102 = .ok (.getfield 12, 3) := by decide +kernel
theorem d32_105 : decode (zz_c 32) 105 = .ok (.invokevirtual 53, 3) := by decide +kernel
theorem d32_108 : decode (zz_c 32) 108 = .ok (.iload_n 1, 1) := by decide +kernel
theorem d32_109 : decode (zz_c 32) 109 = .ok (.ireturn, 1) := by decide +kernel
theorem x32 : (∀ l1 x st h, zz_Y 32 (0, [some (.ref x), l1], st, h) = zz_Y 32 (1, [some (.ref x), l1], .ref x :: st, h)) ∧ (∀ ls a st h, zz_Y 32 (1, ls, .ref a :: st, h) = mo_gf (hp_g h a) 5 0 32 4 ls st h) ∧ (∀ ls a st h, zz_Y 32 (4, ls, .ref a :: st, h) = mo_gf (hp_g h a) 9 2 32 7 ls st h) ∧ (∀ ls x st h, zz_Y 32 (7, ls, .int x :: st, h) = zz_Y 32 (zz_sw [(nI 7, 40), (nI 10, 48), (nI 12, 56)] 64 x, ls, st, h)) ∧ (∀ l1 x st h, zz_Y 32 (40, [some (.ref x), l1], st, h) = zz_Y 32 (41, [some (.ref x), l1], .ref x :: st, h)) ∧ (∀ ls a0 h, zz_Y 32 (41, ls, [a0], h) = mo_k 32 44 ls [] (zz_run 33 [a0] h)) ∧ (∀ l0 l1 x st h, zz_nl l0 = true → zz_Y 32 (44, [l0, l1], .int x :: st, h) = zz_Y 32 (45, [l0, some (.int x)], st, h)) ∧ (∀ ls st h, zz_Y 32 (45, ls, st, h) = zz_Y 32 (73, ls, st, h)) ∧ (∀ l1 x st h, zz_Y 32 (48, [some (.ref x), l1], st, h) = zz_Y 32 (49, [some (.ref x), l1], .ref x :: st, h)) ∧ (∀ ls a0 h, zz_Y 32 (49, ls, [a0], h) = mo_k 32 52 ls [] (zz_run 40 [a0] h)) ∧ (∀ l0 l1 x st h, zz_nl l0 = true → zz_Y 32 (52, [l0, l1], .int x :: st, h) = zz_Y 32 (53, [l0, some (.int x)], st, h)) ∧ (∀ ls st h, zz_Y 32 (53, ls, st, h) = zz_Y 32 (73, ls, st, h)) ∧ (∀ l1 x st h, zz_Y 32 (56, [some (.ref x), l1], st, h) = zz_Y 32 (57, [some (.ref x), l1], .ref x :: st, h)) ∧ (∀ ls a0 h, zz_Y 32 (57, ls, [a0], h) = mo_k 32 60 ls [] (zz_run 45 [a0] h)) ∧ (∀ l0 l1 x st h, zz_nl l0 = true → zz_Y 32 (60, [l0, l1], .int x :: st, h) = zz_Y 32 (61, [l0, some (.int x)], st, h)) ∧ (∀ ls st h, zz_Y 32 (61, ls, st, h) = zz_Y 32 (73, ls, st, h)) ∧ (∀ l1 x st h, zz_Y 32 (64, [some (.ref x), l1], st, h) = zz_Y 32 (65, [some (.ref x), l1], .ref x :: st, h)) ∧ (∀ ls a st h, zz_Y 32 (65, ls, .ref a :: st, h) = mo_gf (hp_g h a) 5 0 32 68 ls st h) ∧ (∀ ls st h, zz_Y 32 (68, ls, st, h) = zz_Y 32 (69, ls, .int (nI 1) :: st, h)) ∧ (∀ ls a0 a1 h, zz_Y 32 (69, ls, [a1, a0], h) = mo_k 32 72 ls [] (zz_run 35 [a0, a1] h)) ∧ (∀ ls v h, v = nI 0 ∨ v = nI 1 → zz_Y 32 (72, ls, [.int v], h) = some (some (.int v), h)) ∧ (∀ l0 x st h, zz_Y 32 (73, [l0, some (.int x)], st, h) = zz_Y 32 (74, [l0, some (.int x)], .int x :: st, h)) ∧ (∀ ls a st h, zz_Y 32 (74, ls, .int a :: st, h) = if a = nI 0 then zz_Y 32 (97, ls, st, h) else zz_Y 32 (77, ls, st, h)) ∧ (∀ l1 x st h, zz_Y 32 (77, [some (.ref x), l1], st, h) = zz_Y 32 (78, [some (.ref x), l1], .ref x :: st, h)) ∧ (∀ ls a st h, zz_Y 32 (78, ls, .ref a :: st, h) = mo_gf (hp_g h a) 5 0 32 81 ls st h) ∧ (∀ ls a st h, zz_Y 32 (81, ls, .ref a :: st, h) = mo_gf (hp_g h a) 9 2 32 84 ls st h) ∧ (∀ ls st h, zz_Y 32 (84, ls, st, h) = zz_Y 32 (85, ls, .int (nI 4) :: st, h)) ∧ (∀ ls a b st h, zz_Y 32 (85, ls, .int b :: .int a :: st, h) = if a = b then zz_Y 32 (97, ls, st, h) else zz_Y 32 (88, ls, st, h)) ∧ (∀ l1 x st h, zz_Y 32 (88, [some (.ref x), l1], st, h) = zz_Y 32 (89, [some (.ref x), l1], .ref x :: st, h)) ∧ (∀ ls a st h, zz_Y 32 (89, ls, .ref a :: st, h) = mo_gf (hp_g h a) 5 0 32 92 ls st h) ∧ (∀ ls st h, zz_Y 32 (92, ls, st, h) = zz_Y 32 (93, ls, .int (nI 1) :: st, h)) ∧ (∀ ls a0 a1 h, zz_Y 32 (93, ls, [a1, a0], h) = mo_k 32 96 ls [] (zz_run 35 [a0, a1] h)) ∧ (∀ ls v h, v = nI 0 ∨ v = nI 1 → zz_Y 32 (96, ls, [.int v], h) = some (some (.int v), h)) ∧ (∀ l0 x st h, zz_Y 32 (97, [l0, some (.int x)], st, h) = zz_Y 32 (98, [l0, some (.int x)], .int x :: st, h)) ∧ (∀ ls a st h, zz_Y 32 (98, ls, .int a :: st, h) = if a = nI 0 then zz_Y 32 (108, ls, st, h) else zz_Y 32 (101, ls, st, h)) ∧ (∀ l1 x st h, zz_Y 32 (101, [some (.ref x), l1], st, h) = zz_Y 32 (102, [some (.ref x), l1], .ref x :: st, h)) ∧ (∀ ls a st h, zz_Y 32 (102, ls, .ref a :: st, h) = mo_gf (hp_g h a) 5 0 32 105 ls st h) ∧ (∀ ls a0 h, zz_Y 32 (105, ls, [a0], h) = mo_k 32 108 ls [] (zz_run 23 [a0] h)) ∧ (∀ l0 x st h, zz_Y 32 (108, [l0, some (.int x)], st, h) = zz_Y 32 (109, [l0, some (.int x)], .int x :: st, h)) ∧ (∀ ls v h, v = nI 0 ∨ v = nI 1 → zz_Y 32 (109, ls, [.int v], h) = some (some (.int v), h)) :=
  ⟨fun _ _ _ _ => xl_aln d32_0 rfl,
   fun _ _ _ _ => xl_gf d32_1 xco32 xf_5_12,
   fun _ _ _ _ => xl_gf d32_4 xco32 xf_5_32,
   fun _ _ _ _ => xl_lks (qs := [(nI 7, 40), (nI 10, 48), (nI 12, 56)]) d32_7 (by decide +kernel) rfl (by decide +kernel),
   fun _ _ _ _ => xl_aln d32_40 rfl,
   fun ls a0 h => xl_cv (As := [a0]) (st := []) d32_41 xco32 xm_5_40 (congrArg Nat.succ xnp33) (by decide +kernel) rfl,
   fun _ _ _ _ _ hc => xl_isn d32_44 xml32 (by decide) (zz_nl_s1 hc),
   fun _ _ _ => xl_goto d32_45 rfl,
   fun _ _ _ _ => xl_aln d32_48 rfl,
   fun ls a0 h => xl_cv (As := [a0]) (st := []) d32_49 xco32 xm_5_43 (congrArg Nat.succ xnp40) (by decide +kernel) rfl,
   fun _ _ _ _ _ hc => xl_isn d32_52 xml32 (by decide) (zz_nl_s1 hc),
   fun _ _ _ => xl_goto d32_53 rfl,
   fun _ _ _ _ => xl_aln d32_56 rfl,
   fun ls a0 h => xl_cv (As := [a0]) (st := []) d32_57 xco32 xm_5_46 (congrArg Nat.succ xnp45) (by decide +kernel) rfl,
   fun _ _ _ _ _ hc => xl_isn d32_60 xml32 (by decide) (zz_nl_s1 hc),
   fun _ _ _ => xl_goto d32_61 rfl,
   fun _ _ _ _ => xl_aln d32_64 rfl,
   fun _ _ _ _ => xl_gf d32_65 xco32 xf_5_12,
   fun _ _ _ => xl_ic d32_68 (by decide +kernel),
   fun ls a0 a1 h => xl_cv (As := [a0, a1]) (st := []) d32_69 xco32 xm_5_49 (congrArg Nat.succ xnp35) (by decide +kernel) rfl,
   fun _ _ _ hc => xl_irz d32_72 xrt32 hc,
   fun _ _ _ _ => xl_iln d32_73 rfl,
   fun _ _ _ _ => xl_ifeq d32_74 rfl,
   fun _ _ _ _ => xl_aln d32_77 rfl,
   fun _ _ _ _ => xl_gf d32_78 xco32 xf_5_12,
   fun _ _ _ _ => xl_gf d32_81 xco32 xf_5_32,
   fun _ _ _ => xl_ic d32_84 (by decide +kernel),
   fun _ _ _ _ _ => xl_iceq d32_85 rfl,
   fun _ _ _ _ => xl_aln d32_88 rfl,
   fun _ _ _ _ => xl_gf d32_89 xco32 xf_5_12,
   fun _ _ _ => xl_ic d32_92 (by decide +kernel),
   fun ls a0 a1 h => xl_cv (As := [a0, a1]) (st := []) d32_93 xco32 xm_5_49 (congrArg Nat.succ xnp35) (by decide +kernel) rfl,
   fun _ _ _ hc => xl_irz d32_96 xrt32 hc,
   fun _ _ _ _ => xl_iln d32_97 rfl,
   fun _ _ _ _ => xl_ifeq d32_98 rfl,
   fun _ _ _ _ => xl_aln d32_101 rfl,
   fun _ _ _ _ => xl_gf d32_102 xco32 xf_5_12,
   fun ls a0 h => xl_cv (As := [a0]) (st := []) d32_105 xco32 xm_5_53 (congrArg Nat.succ xnp23) (by decide +kernel) rfl,
   fun _ _ _ _ => xl_iln d32_108 rfl,
   fun _ _ _ hc => xl_irz d32_109 xrt32 hc⟩
/-! 33 FacetSieve$SchemeReader.readHead()Z -/
theorem d33_0 : decode (zz_c 33) 0 = .ok (.aload_n 0, 1) := by decide +kernel
theorem d33_1 : decode (zz_c 33) 1 = .ok (.getfield 21, 3) := by decide +kernel
theorem d33_4 : decode (zz_c 33) 4 = .ok (.getfield 56, 3) := by decide +kernel
theorem d33_7 : decode (zz_c 33) 7 = .ok (.invokevirtual 60, 3) := by decide +kernel
theorem d33_10 : decode (zz_c 33) 10 = .ok (.ifCond .ne 12, 3) := by decide +kernel
theorem d33_13 : decode (zz_c 33) 13 = .ok (.aload_n 0, 1) := by decide +kernel
theorem d33_14 : decode (zz_c 33) 14 = .ok (.getfield 12, 3) := by decide +kernel
theorem d33_17 : decode (zz_c 33) 17 = .ok (.iconst 4, 1) := by decide +kernel
theorem d33_18 : decode (zz_c 33) 18 = .ok (.invokevirtual 49, 3) := by decide +kernel
theorem d33_21 : decode (zz_c 33) 21 = .ok (.ireturn, 1) := by decide +kernel
theorem d33_22 : decode (zz_c 33) 22 = .ok (.aload_n 0, 1) := by decide +kernel
theorem d33_23 : decode (zz_c 33) 23 = .ok (.getfield 12, 3) := by decide +kernel
theorem d33_26 : decode (zz_c 33) 26 = .ok (.invokevirtual 53, 3) := by decide +kernel
theorem d33_29 : decode (zz_c 33) 29 = .ok (.aload_n 0, 1) := by decide +kernel
theorem d33_30 : decode (zz_c 33) 30 = .ok (.invokevirtual 65, 3) := by decide +kernel
theorem d33_33 : decode (zz_c 33) 33 = .ok (.ifCond .ne 5, 3) := by decide +kernel
theorem d33_36 : decode (zz_c 33) 36 = .ok (.iconst 0, 1) := by decide +kernel
theorem d33_37 : decode (zz_c 33) 37 = .ok (.ireturn, 1) := by decide +kernel
theorem d33_38 : decode (zz_c 33) 38 = .ok (.aload_n 0, 1) := by decide +kernel
theorem d33_39 : decode (zz_c 33) 39 = .ok (.getfield 12, 3) := by decide +kernel
theorem d33_42 : decode (zz_c 33) 42 = .ok (.getfield 68, 3) := by decide +kernel
theorem d33_45 : decode (zz_c 33) 45 = .ok (.lstore_n 1, 1) := by decide +kernel
theorem d33_46 : decode (zz_c 33) 46 = .ok (.aload_n 0, 1) := by decide +kernel
theorem d33_47 : decode (zz_c 33) 47 = .ok (.getfield 12, 3) := by decide +kernel
theorem d33_50 : decode (zz_c 33) 50 = .ok (.invokevirtual 53, 3) := by decide +kernel
theorem d33_53 : decode (zz_c 33) 53 = .ok (.aload_n 0, 1) := by decide +kernel
theorem d33_54 : decode (zz_c 33) 54 = .ok (.getfield 12, 3) := by decide +kernel
theorem d33_57 : decode (zz_c 33) 57 = .ok (.getfield 32, 3) := by decide +kernel
theorem d33_60 : decode (zz_c 33) 60 = .ok (.bipush 8, 2) := by decide +kernel
theorem d33_62 : decode (zz_c 33) 62 = .ok (.if_icmp .eq 24, 3) := by decide +kernel
theorem d33_65 : decode (zz_c 33) 65 = .ok (.aload_n 0, 1) := by decide +kernel
theorem d33_66 : decode (zz_c 33) 66 = .ok (.getfield 12, 3) := by decide +kernel
theorem d33_69 : decode (zz_c 33) 69 = .ok (.getfield 32, 3) := by decide +kernel
theorem d33_72 : decode (zz_c 33) 72 = .ok (.bipush 9, 2) := by decide +kernel
theorem d33_74 : decode (zz_c 33) 74 = .ok (.if_icmp .eq 12, 3) := by decide +kernel
theorem d33_77 : decode (zz_c 33) 77 = .ok (.aload_n 0, 1) := by decide +kernel
theorem d33_78 : decode (zz_c 33) 78 = .ok (.getfield 12, 3) := by decide +kernel
theorem d33_81 : decode (zz_c 33) 81 = .ok (.iconst 1, 1) := by decide +kernel
theorem d33_82 : decode (zz_c 33) 82 = .ok (.invokevirtual 49, 3) := by decide +kernel
theorem d33_85 : decode (zz_c 33) 85 = .ok (.ireturn, 1) := by decide +kernel
theorem d33_86 : decode (zz_c 33) 86 = .ok (.aload_n 0, 1) := by decide +kernel
theorem d33_87 : decode (zz_c 33) 87 = .ok (.getfield 21, 3) := by decide +kernel
theorem d33_90 : decode (zz_c 33) 90 = .ok (.getfield 56, 3) := by decide +kernel
theorem d33_93 : decode (zz_c 33) 93 = .ok (.lload_n 1, 1) := by decide +kernel
theorem d33_94 : decode (zz_c 33) 94 = .ok (.aload_n 0, 1) := by decide +kernel
theorem d33_95 : decode (zz_c 33) 95 = .ok (.getfield 12, 3) := by decide +kernel
theorem d33_98 : decode (zz_c 33) 98 = .ok (.getfield 32, 3) := by decide +kernel
theorem d33_101 : decode (zz_c 33) 101 = .ok (.bipush 9, 2) := by decide +kernel
theorem d33_103 : decode (zz_c 33) 103 = .ok (.if_icmp .ne 7, 3) := by decide +kernel
theorem d33_106 : decode (zz_c 33) 106 = .ok (.iconst 1, 1) := by decide +kernel
theorem d33_107 : decode (zz_c 33) 107 = .ok (.goto 4, 3) := by decide +kernel
theorem d33_110 : decode (zz_c 33) 110 = .ok (.iconst 0, 1) := by decide +kernel
theorem d33_111 : decode (zz_c 33) 111 = .ok (.invokevirtual 72, 3) := by decide +kernel
theorem d33_114 : decode (zz_c 33) 114 = .ok (.aload_n 0, 1) := by decide +kernel
theorem d33_115 : decode (zz_c 33) 115 = .ok (.getfield 12, 3) := by decide +kernel
theorem d33_118 : decode (zz_c 33) 118 = .ok (.invokevirtual 53, 3) := by decide +kernel
theorem d33_121 : decode (zz_c 33) 121 = .ok (.iconst 1, 1) := by decide +kernel
theorem d33_122 : decode (zz_c 33) 122 = .ok (.ireturn, 1) := by decide +kernel
theorem x33 : (∀ l1 l2 x st h, zz_Y 33 (0, [some (.ref x), l1, l2], st, h) = zz_Y 33 (1, [some (.ref x), l1, l2], .ref x :: st, h)) ∧ (∀ ls a st h, zz_Y 33 (1, ls, .ref a :: st, h) = mo_gf (hp_g h a) 5 1 33 4 ls st h) ∧ (∀ ls a st h, zz_Y 33 (4, ls, .ref a :: st, h) = mo_gf (hp_g h a) 7 0 33 7 ls st h) ∧ (∀ ls a0 h, zz_Y 33 (7, ls, [a0], h) = mo_k 33 10 ls [] (zz_run 34 [a0] h)) ∧ (∀ ls a st h, zz_Y 33 (10, ls, .int a :: st, h) = if a = nI 0 then zz_Y 33 (13, ls, st, h) else zz_Y 33 (22, ls, st, h)) ∧ (∀ l1 l2 x st h, zz_Y 33 (13, [some (.ref x), l1, l2], st, h) = zz_Y 33 (14, [some (.ref x), l1, l2], .ref x :: st, h)) ∧ (∀ ls a st h, zz_Y 33 (14, ls, .ref a :: st, h) = mo_gf (hp_g h a) 5 0 33 17 ls st h) ∧ (∀ ls st h, zz_Y 33 (17, ls, st, h) = zz_Y 33 (18, ls, .int (nI 4) :: st, h)) ∧ (∀ ls a0 a1 h, zz_Y 33 (18, ls, [a1, a0], h) = mo_k 33 21 ls [] (zz_run 35 [a0, a1] h)) ∧ (∀ ls v h, v = nI 0 ∨ v = nI 1 → zz_Y 33 (21, ls, [.int v], h) = some (some (.int v), h)) ∧ (∀ l1 l2 x st h, zz_Y 33 (22, [some (.ref x), l1, l2], st, h) = zz_Y 33 (23, [some (.ref x), l1, l2], .ref x :: st, h)) ∧ (∀ ls a st h, zz_Y 33 (23, ls, .ref a :: st, h) = mo_gf (hp_g h a) 5 0 33 26 ls st h) ∧ (∀ ls a0 h, zz_Y 33 (26, ls, [a0], h) = mo_k 33 29 ls [] (zz_run 23 [a0] h)) ∧ (∀ l1 l2 x st h, zz_Y 33 (29, [some (.ref x), l1, l2], st, h) = zz_Y 33 (30, [some (.ref x), l1, l2], .ref x :: st, h)) ∧ (∀ ls a0 h, zz_Y 33 (30, ls, [a0], h) = mo_k 33 33 ls [] (zz_run 36 [a0] h)) ∧ (∀ ls a st h, zz_Y 33 (33, ls, .int a :: st, h) = if a = nI 0 then zz_Y 33 (36, ls, st, h) else zz_Y 33 (38, ls, st, h)) ∧ (∀ ls st h, zz_Y 33 (36, ls, st, h) = zz_Y 33 (37, ls, .int (nI 0) :: st, h)) ∧ (∀ ls v h, v = nI 0 ∨ v = nI 1 → zz_Y 33 (37, ls, [.int v], h) = some (some (.int v), h)) ∧ (∀ l1 l2 x st h, zz_Y 33 (38, [some (.ref x), l1, l2], st, h) = zz_Y 33 (39, [some (.ref x), l1, l2], .ref x :: st, h)) ∧ (∀ ls a st h, zz_Y 33 (39, ls, .ref a :: st, h) = mo_gf (hp_g h a) 5 0 33 42 ls st h) ∧ (∀ ls a st h, zz_Y 33 (42, ls, .ref a :: st, h) = mo_gf (hp_g h a) 9 5 33 45 ls st h) ∧ (∀ l0 l1 l2 x st h, zz_nl l0 = true → zz_Y 33 (45, [l0, l1, l2], .long x :: st, h) = zz_Y 33 (46, [l0, some (.long x), none], st, h)) ∧ (∀ l1 l2 x st h, zz_Y 33 (46, [some (.ref x), l1, l2], st, h) = zz_Y 33 (47, [some (.ref x), l1, l2], .ref x :: st, h)) ∧ (∀ ls a st h, zz_Y 33 (47, ls, .ref a :: st, h) = mo_gf (hp_g h a) 5 0 33 50 ls st h) ∧ (∀ ls a0 h, zz_Y 33 (50, ls, [a0], h) = mo_k 33 53 ls [] (zz_run 23 [a0] h)) ∧ (∀ l1 l2 x st h, zz_Y 33 (53, [some (.ref x), l1, l2], st, h) = zz_Y 33 (54, [some (.ref x), l1, l2], .ref x :: st, h)) ∧ (∀ ls a st h, zz_Y 33 (54, ls, .ref a :: st, h) = mo_gf (hp_g h a) 5 0 33 57 ls st h) ∧ (∀ ls a st h, zz_Y 33 (57, ls, .ref a :: st, h) = mo_gf (hp_g h a) 9 2 33 60 ls st h) ∧ (∀ ls st h, zz_Y 33 (60, ls, st, h) = zz_Y 33 (62, ls, .int (nI 8) :: st, h)) ∧ (∀ ls a b st h, zz_Y 33 (62, ls, .int b :: .int a :: st, h) = if a = b then zz_Y 33 (86, ls, st, h) else zz_Y 33 (65, ls, st, h)) ∧ (∀ l1 l2 x st h, zz_Y 33 (65, [some (.ref x), l1, l2], st, h) = zz_Y 33 (66, [some (.ref x), l1, l2], .ref x :: st, h)) ∧ (∀ ls a st h, zz_Y 33 (66, ls, .ref a :: st, h) = mo_gf (hp_g h a) 5 0 33 69 ls st h) ∧ (∀ ls a st h, zz_Y 33 (69, ls, .ref a :: st, h) = mo_gf (hp_g h a) 9 2 33 72 ls st h) ∧ (∀ ls st h, zz_Y 33 (72, ls, st, h) = zz_Y 33 (74, ls, .int (nI 9) :: st, h)) ∧ (∀ ls a b st h, zz_Y 33 (74, ls, .int b :: .int a :: st, h) = if a = b then zz_Y 33 (86, ls, st, h) else zz_Y 33 (77, ls, st, h)) ∧ (∀ l1 l2 x st h, zz_Y 33 (77, [some (.ref x), l1, l2], st, h) = zz_Y 33 (78, [some (.ref x), l1, l2], .ref x :: st, h)) ∧ (∀ ls a st h, zz_Y 33 (78, ls, .ref a :: st, h) = mo_gf (hp_g h a) 5 0 33 81 ls st h) ∧ (∀ ls st h, zz_Y 33 (81, ls, st, h) = zz_Y 33 (82, ls, .int (nI 1) :: st, h)) ∧ (∀ ls a0 a1 h, zz_Y 33 (82, ls, [a1, a0], h) = mo_k 33 85 ls [] (zz_run 35 [a0, a1] h)) ∧ (∀ ls v h, v = nI 0 ∨ v = nI 1 → zz_Y 33 (85, ls, [.int v], h) = some (some (.int v), h)) ∧ (∀ l1 l2 x st h, zz_Y 33 (86, [some (.ref x), l1, l2], st, h) = zz_Y 33 (87, [some (.ref x), l1, l2], .ref x :: st, h)) ∧ (∀ ls a st h, zz_Y 33 (87, ls, .ref a :: st, h) = mo_gf (hp_g h a) 5 1 33 90 ls st h) ∧ (∀ ls a st h, zz_Y 33 (90, ls, .ref a :: st, h) = mo_gf (hp_g h a) 7 0 33 93 ls st h) ∧ (∀ l0 l2 x st h, zz_Y 33 (93, [l0, some (.long x), l2], st, h) = zz_Y 33 (94, [l0, some (.long x), l2], .long x :: st, h)) ∧ (∀ l1 l2 x st h, zz_Y 33 (94, [some (.ref x), l1, l2], st, h) = zz_Y 33 (95, [some (.ref x), l1, l2], .ref x :: st, h)) ∧ (∀ ls a st h, zz_Y 33 (95, ls, .ref a :: st, h) = mo_gf (hp_g h a) 5 0 33 98 ls st h) ∧ (∀ ls a st h, zz_Y 33 (98, ls, .ref a :: st, h) = mo_gf (hp_g h a) 9 2 33 101 ls st h) ∧ (∀ ls st h, zz_Y 33 (101, ls, st, h) = zz_Y 33 (103, ls, .int (nI 9) :: st, h)) ∧ (∀ ls a b st h, zz_Y 33 (103, ls, .int b :: .int a :: st, h) = if a = b then zz_Y 33 (106, ls, st, h) else zz_Y 33 (110, ls, st, h)) ∧ (∀ ls st h, zz_Y 33 (106, ls, st, h) = zz_Y 33 (107, ls, .int (nI 1) :: st, h)) ∧ (∀ ls st h, zz_Y 33 (107, ls, st, h) = zz_Y 33 (111, ls, st, h)) ∧ (∀ ls st h, zz_Y 33 (110, ls, st, h) = zz_Y 33 (111, ls, .int (nI 0) :: st, h)) ∧ (∀ ls a0 a1 a2 h, zz_Y 33 (111, ls, [a2, a1, a0], h) = mo_k 33 114 ls [] (zz_run 39 [a0, a1, a2] h)) ∧ (∀ l1 l2 x st h, zz_Y 33 (114, [some (.ref x), l1, l2], st, h) = zz_Y 33 (115, [some (.ref x), l1, l2], .ref x :: st, h)) ∧ (∀ ls a st h, zz_Y 33 (115, ls, .ref a :: st, h) = mo_gf (hp_g h a) 5 0 33 118 ls st h) ∧ (∀ ls a0 h, zz_Y 33 (118, ls, [a0], h) = mo_k 33 121 ls [] (zz_run 23 [a0] h)) ∧ (∀ ls st h, zz_Y 33 (121, ls, st, h) = zz_Y 33 (122, ls, .int (nI 1) :: st, h)) ∧ (∀ ls v h, v = nI 0 ∨ v = nI 1 → zz_Y 33 (122, ls, [.int v], h) = some (some (.int v), h)) :=
  ⟨fun _ _ _ _ _ => xl_aln d33_0 rfl,
   fun _ _ _ _ => xl_gf d33_1 xco33 xf_5_21,
   fun _ _ _ _ => xl_gf d33_4 xco33 xf_5_56,
   fun ls a0 h => xl_cv (As := [a0]) (st := []) d33_7 xco33 xm_5_60 (congrArg Nat.succ xnp34) (by decide +kernel) rfl,
   fun _ _ _ _ => xl_ifne d33_10 rfl,
   fun _ _ _ _ _ => xl_aln d33_13 rfl,
   fun _ _ _ _ => xl_gf d33_14 xco33 xf_5_12,
   fun _ _ _ => xl_ic d33_17 (by decide +kernel),
   fun ls a0 a1 h => xl_cv (As := [a0, a1]) (st := []) d33_18 xco33 xm_5_49 (congrArg Nat.succ xnp35) (by decide +kernel) rfl,
   fun _ _ _ hc => xl_irz d33_21 xrt33 hc,
   fun _ _ _ _ _ => xl_aln d33_22 rfl,
   fun _ _ _ _ => xl_gf d33_23 xco33 xf_5_12,
   fun ls a0 h => xl_cv (As := [a0]) (st := []) d33_26 xco33 xm_5_53 (congrArg Nat.succ xnp23) (by decide +kernel) rfl,
   fun _ _ _ _ _ => xl_aln d33_29 rfl,
   fun ls a0 h => xl_cv (As := [a0]) (st := []) d33_30 xco33 xm_5_65 (congrArg Nat.succ xnp36) (by decide +kernel) rfl,
   fun _ _ _ _ => xl_ifne d33_33 rfl,
   fun _ _ _ => xl_ic d33_36 (by decide +kernel),
   fun _ _ _ hc => xl_irz d33_37 xrt33 hc,
   fun _ _ _ _ _ => xl_aln d33_38 rfl,
   fun _ _ _ _ => xl_gf d33_39 xco33 xf_5_12,
   fun _ _ _ _ => xl_gf d33_42 xco33 xf_5_68,
   fun _ _ _ _ _ _ hc => xl_lsn d33_45 xml33 (by decide) (zz_nl_s2 hc),
   fun _ _ _ _ _ => xl_aln d33_46 rfl,
   fun _ _ _ _ => xl_gf d33_47 xco33 xf_5_12,
   fun ls a0 h => xl_cv (As := [a0]) (st := []) d33_50 xco33 xm_5_53 (congrArg Nat.succ xnp23) (by decide +kernel) rfl,
   fun _ _ _ _ _ => xl_aln d33_53 rfl,
   fun _ _ _ _ => xl_gf d33_54 xco33 xf_5_12,
   fun _ _ _ _ => xl_gf d33_57 xco33 xf_5_32,
   fun _ _ _ => xl_bi d33_60 (by decide +kernel),
   fun _ _ _ _ _ => xl_iceq d33_62 rfl,
   fun _ _ _ _ _ => xl_aln d33_65 rfl,
   fun _ _ _ _ => xl_gf d33_66 xco33 xf_5_12,
   fun _ _ _ _ => xl_gf d33_69 xco33 xf_5_32,
   fun _ _ _ => xl_bi d33_72 (by decide +kernel),
   fun _ _ _ _ _ => xl_iceq d33_74 rfl,
   fun _ _ _ _ _ => xl_aln d33_77 rfl,
   fun _ _ _ _ => xl_gf d33_78 xco33 xf_5_12,
   fun _ _ _ => xl_ic d33_81 (by decide +kernel),
   fun ls a0 a1 h => xl_cv (As := [a0, a1]) (st := []) d33_82 xco33 xm_5_49 (congrArg Nat.succ xnp35) (by decide +kernel) rfl,
   fun _ _ _ hc => xl_irz d33_85 xrt33 hc,
   fun _ _ _ _ _ => xl_aln d33_86 rfl,
   fun _ _ _ _ => xl_gf d33_87 xco33 xf_5_21,
   fun _ _ _ _ => xl_gf d33_90 xco33 xf_5_56,
   fun _ _ _ _ _ => xl_lln d33_93 rfl,
   fun _ _ _ _ _ => xl_aln d33_94 rfl,
   fun _ _ _ _ => xl_gf d33_95 xco33 xf_5_12,
   fun _ _ _ _ => xl_gf d33_98 xco33 xf_5_32,
   fun _ _ _ => xl_bi d33_101 (by decide +kernel),
   fun _ _ _ _ _ => xl_icne d33_103 rfl,
   fun _ _ _ => xl_ic d33_106 (by decide +kernel),
   fun _ _ _ => xl_goto d33_107 rfl,
   fun _ _ _ => xl_ic d33_110 (by decide +kernel),
   fun ls a0 a1 a2 h => xl_cv (As := [a0, a1, a2]) (st := []) d33_111 xco33 xm_5_72 (congrArg Nat.succ xnp39) (by decide +kernel) rfl,
   fun _ _ _ _ _ => xl_aln d33_114 rfl,
   fun _ _ _ _ => xl_gf d33_115 xco33 xf_5_12,
   fun ls a0 h => xl_cv (As := [a0]) (st := []) d33_118 xco33 xm_5_53 (congrArg Nat.succ xnp23) (by decide +kernel) rfl,
   fun _ _ _ => xl_ic d33_121 (by decide +kernel),
   fun _ _ _ hc => xl_irz d33_122 xrt33 hc⟩
/-! 34 FacetSieve$Plan.hasRoomForHead()Z -/
theorem d34_0 : decode (zz_c 34) 0 = .ok (.aload_n 0, 1) := by decide +kernel
theorem d34_1 : decode (zz_c 34) 1 = .ok (.getfield 37, 3) := by decide +kernel
theorem d34_4 : decode (zz_c 34) 4 = .ok (.iconst 4, 1) := by decide +kernel
theorem d34_5 : decode (zz_c 34) 5 = .ok (.if_icmp .ge 7, 3) := by decide +kernel
theorem d34_8 : decode (zz_c 34) 8 = .ok (.iconst 1, 1) := by decide +kernel
theorem d34_9 : decode (zz_c 34) 9 = .ok (.goto 4, 3) := by decide +kernel
theorem d34_12 : decode (zz_c 34) 12 = .ok (.iconst 0, 1) := by decide +kernel
theorem d34_13 : decode (zz_c 34) 13 = .ok (.ireturn, 1) := by decide +kernel
theorem x34 : (∀ x st h, zz_Y 34 (0, [some (.ref x)], st, h) = zz_Y 34 (1, [some (.ref x)], .ref x :: st, h)) ∧ (∀ ls a st h, zz_Y 34 (1, ls, .ref a :: st, h) = mo_gf (hp_g h a) 3 0 34 4 ls st h) ∧ (∀ ls st h, zz_Y 34 (4, ls, st, h) = zz_Y 34 (5, ls, .int (nI 4) :: st, h)) ∧ (∀ ls a b st h, zz_Y 34 (5, ls, .int b :: .int a :: st, h) = if a < b then zz_Y 34 (8, ls, st, h) else zz_Y 34 (12, ls, st, h)) ∧ (∀ ls st h, zz_Y 34 (8, ls, st, h) = zz_Y 34 (9, ls, .int (nI 1) :: st, h)) ∧ (∀ ls st h, zz_Y 34 (9, ls, st, h) = zz_Y 34 (13, ls, st, h)) ∧ (∀ ls st h, zz_Y 34 (12, ls, st, h) = zz_Y 34 (13, ls, .int (nI 0) :: st, h)) ∧ (∀ ls v h, v = nI 0 ∨ v = nI 1 → zz_Y 34 (13, ls, [.int v], h) = some (some (.int v), h)) :=
  ⟨fun _ _ _ => xl_aln d34_0 rfl,
   fun _ _ _ _ => xl_gf d34_1 xco34 xf_3_37,
   fun _ _ _ => xl_ic d34_4 (by decide +kernel),
   fun _ _ _ _ _ => xl_icge d34_5 rfl,
   fun _ _ _ => xl_ic d34_8 (by decide +kernel),
   fun _ _ _ => xl_goto d34_9 rfl,
   fun _ _ _ => xl_ic d34_12 (by decide +kernel),
   fun _ _ _ hc => xl_irz d34_13 xrt34 hc⟩
/-! 35 FacetSieve$Tokens.fail(I)Z -/
theorem d35_0 : decode (zz_c 35) 0 = .ok (.aload_n 0, 1) := by decide +kernel
theorem d35_1 : decode (zz_c 35) 1 = .ok (.iload_n 1, 1) := by decide +kernel
theorem d35_2 : decode (zz_c 35) 2 = .ok (.putfield 29, 3) := by decide +kernel
theorem d35_5 : decode (zz_c 35) 5 = .ok (.aload_n 0, 1) := by decide +kernel
theorem d35_6 : decode (zz_c 35) 6 = .ok (.aload_n 0, 1) := by decide +kernel
theorem d35_7 : decode (zz_c 35) 7 = .ok (.getfield 38, 3) := by decide +kernel
theorem d35_10 : decode (zz_c 35) 10 = .ok (.putfield 32, 3) := by decide +kernel
theorem d35_13 : decode (zz_c 35) 13 = .ok (.iconst 0, 1) := by decide +kernel
theorem d35_14 : decode (zz_c 35) 14 = .ok (.ireturn, 1) := by decide +kernel
theorem x35 : (∀ l1 x st h, zz_Y 35 (0, [some (.ref x), l1], st, h) = zz_Y 35 (1, [some (.ref x), l1], .ref x :: st, h)) ∧ (∀ l0 x st h, zz_Y 35 (1, [l0, some (.int x)], st, h) = zz_Y 35 (2, [l0, some (.int x)], .int x :: st, h)) ∧ (∀ ls a v st h, zz_Y 35 (2, ls, v :: .ref a :: st, h) = mo_pf (hp_g h a) 9 6 .int v a 35 5 ls st h) ∧ (∀ l1 x st h, zz_Y 35 (5, [some (.ref x), l1], st, h) = zz_Y 35 (6, [some (.ref x), l1], .ref x :: st, h)) ∧ (∀ l1 x st h, zz_Y 35 (6, [some (.ref x), l1], st, h) = zz_Y 35 (7, [some (.ref x), l1], .ref x :: st, h)) ∧ (∀ ls a st h, zz_Y 35 (7, ls, .ref a :: st, h) = mo_gf (hp_g h a) 9 3 35 10 ls st h) ∧ (∀ ls a v st h, zz_Y 35 (10, ls, v :: .ref a :: st, h) = mo_pf (hp_g h a) 9 7 .int v a 35 13 ls st h) ∧ (∀ ls st h, zz_Y 35 (13, ls, st, h) = zz_Y 35 (14, ls, .int (nI 0) :: st, h)) ∧ (∀ ls v h, v = nI 0 ∨ v = nI 1 → zz_Y 35 (14, ls, [.int v], h) = some (some (.int v), h)) :=
  ⟨fun _ _ _ _ => xl_aln d35_0 rfl,
   fun _ _ _ _ => xl_iln d35_1 rfl,
   fun _ _ _ _ _ => xl_pf d35_2 xco35 xf_9_29 (by decide +kernel) rfl,
   fun _ _ _ _ => xl_aln d35_5 rfl,
   fun _ _ _ _ => xl_aln d35_6 rfl,
   fun _ _ _ _ => xl_gf d35_7 xco35 xf_9_38,
   fun _ _ _ _ _ => xl_pf d35_10 xco35 xf_9_32 (by decide +kernel) rfl,
   fun _ _ _ => xl_ic d35_13 (by decide +kernel),
   fun _ _ _ hc => xl_irz d35_14 xrt35 hc⟩
/-! 36 FacetSieve$SchemeReader.isNewName()Z -/
theorem d36_0 : decode (zz_c 36) 0 = .ok (.aload_n 0, 1) := by decide +kernel
theorem d36_1 : decode (zz_c 36) 1 = .ok (.getfield 12, 3) := by decide +kernel
theorem d36_4 : decode (zz_c 36) 4 = .ok (.getfield 32, 3) := by decide +kernel
theorem d36_7 : decode (zz_c 36) 7 = .ok (.iconst 2, 1) := by decide +kernel
theorem d36_8 : decode (zz_c 36) 8 = .ok (.if_icmp .eq 12, 3) := by decide +kernel
theorem d36_11 : decode (zz_c 36) 11 = .ok (.aload_n 0, 1) := by decide +kernel
theorem d36_12 : decode (zz_c 36) 12 = .ok (.getfield 12, 3) := by decide +kernel
theorem d36_15 : decode (zz_c 36) 15 = .ok (.iconst 1, 1) := by decide +kernel
theorem d36_16 : decode (zz_c 36) 16 = .ok (.invokevirtual 49, 3) := by decide +kernel
theorem d36_19 : decode (zz_c 36) 19 = .ok (.ireturn, 1) := by decide +kernel
theorem d36_20 : decode (zz_c 36) 20 = .ok (.aload_n 0, 1) := by decide +kernel
theorem d36_21 : decode (zz_c 36) 21 = .ok (.getfield 21, 3) := by decide +kernel
theorem d36_24 : decode (zz_c 36) 24 = .ok (.getfield 56, 3) := by decide +kernel
theorem d36_27 : decode (zz_c 36) 27 = .ok (.aload_n 0, 1) := by decide +kernel
theorem d36_28 : decode (zz_c 36) 28 = .ok (.getfield 12, 3) := by decide +kernel
theorem d36_31 : decode (zz_c 36) 31 = .ok (.getfield 68, 3) := by decide +kernel
theorem d36_34 : decode (zz_c 36) 34 = .ok (.invokevirtual 90, 3) := by decide +kernel
theorem d36_37 : decode (zz_c 36) 37 = .ok (.ifCond .eq 14, 3) := by decide +kernel
theorem d36_40 : decode (zz_c 36) 40 = .ok (.aload_n 0, 1) := by decide +kernel
theorem d36_41 : decode (zz_c 36) 41 = .ok (.getfield 12, 3) := by decide +kernel
theorem d36_44 : decode (zz_c 36) 44 = .ok (.iconst 3, 1) := by decide +kernel
theorem d36_45 : decode (zz_c 36) 45 = .ok (.invokevirtual 49, 3) := by decide +kernel
theorem d36_48 : decode (zz_c 36) 48 = .ok (.ifCond .eq 7, 3) := by decide +kernel
theorem d36_51 : decode (zz_c 36) 51 = .ok (.iconst 1, 1) := by decide +kernel
theorem d36_52 : decode (zz_c 36) 52 = .ok (.goto 4, 3) := by decide +kernel
theorem d36_55 : decode (zz_c 36) 55 = .ok (.iconst 0, 1) := by decide +kernel
theorem d36_56 : decode (zz_c 36) 56 = .ok (.ireturn, 1) := by decide +kernel
theorem x36 : (∀ x st h, zz_Y 36 (0, [some (.ref x)], st, h) = zz_Y 36 (1, [some (.ref x)], .ref x :: st, h)) ∧ (∀ ls a st h, zz_Y 36 (1, ls, .ref a :: st, h) = mo_gf (hp_g h a) 5 0 36 4 ls st h) ∧ (∀ ls a st h, zz_Y 36 (4, ls, .ref a :: st, h) = mo_gf (hp_g h a) 9 2 36 7 ls st h) ∧ (∀ ls st h, zz_Y 36 (7, ls, st, h) = zz_Y 36 (8, ls, .int (nI 2) :: st, h)) ∧ (∀ ls a b st h, zz_Y 36 (8, ls, .int b :: .int a :: st, h) = if a = b then zz_Y 36 (20, ls, st, h) else zz_Y 36 (11, ls, st, h)) ∧ (∀ x st h, zz_Y 36 (11, [some (.ref x)], st, h) = zz_Y 36 (12, [some (.ref x)], .ref x :: st, h)) ∧ (∀ ls a st h, zz_Y 36 (12, ls, .ref a :: st, h) = mo_gf (hp_g h a) 5 0 36 15 ls st h) ∧ (∀ ls st h, zz_Y 36 (15, ls, st, h) = zz_Y 36 (16, ls, .int (nI 1) :: st, h)) ∧ (∀ ls a0 a1 h, zz_Y 36 (16, ls, [a1, a0], h) = mo_k 36 19 ls [] (zz_run 35 [a0, a1] h)) ∧ (∀ ls v h, v = nI 0 ∨ v = nI 1 → zz_Y 36 (19, ls, [.int v], h) = some (some (.int v), h)) ∧ (∀ x st h, zz_Y 36 (20, [some (.ref x)], st, h) = zz_Y 36 (21, [some (.ref x)], .ref x :: st, h)) ∧ (∀ ls a st h, zz_Y 36 (21, ls, .ref a :: st, h) = mo_gf (hp_g h a) 5 1 36 24 ls st h) ∧ (∀ ls a st h, zz_Y 36 (24, ls, .ref a :: st, h) = mo_gf (hp_g h a) 7 0 36 27 ls st h) ∧ (∀ x st h, zz_Y 36 (27, [some (.ref x)], st, h) = zz_Y 36 (28, [some (.ref x)], .ref x :: st, h)) ∧ (∀ ls a st h, zz_Y 36 (28, ls, .ref a :: st, h) = mo_gf (hp_g h a) 5 0 36 31 ls st h) ∧ (∀ ls a st h, zz_Y 36 (31, ls, .ref a :: st, h) = mo_gf (hp_g h a) 9 5 36 34 ls st h) ∧ (∀ ls a0 a1 h, zz_Y 36 (34, ls, [a1, a0], h) = mo_k 36 37 ls [] (zz_run 37 [a0, a1] h)) ∧ (∀ ls a st h, zz_Y 36 (37, ls, .int a :: st, h) = if a = nI 0 then zz_Y 36 (51, ls, st, h) else zz_Y 36 (40, ls, st, h)) ∧ (∀ x st h, zz_Y 36 (40, [some (.ref x)], st, h) = zz_Y 36 (41, [some (.ref x)], .ref x :: st, h)) ∧ (∀ ls a st h, zz_Y 36 (41, ls, .ref a :: st, h) = mo_gf (hp_g h a) 5 0 36 44 ls st h) ∧ (∀ ls st h, zz_Y 36 (44, ls, st, h) = zz_Y 36 (45, ls, .int (nI 3) :: st, h)) ∧ (∀ ls a0 a1 h, zz_Y 36 (45, ls, [a1, a0], h) = mo_k 36 48 ls [] (zz_run 35 [a0, a1] h)) ∧ (∀ ls a st h, zz_Y 36 (48, ls, .int a :: st, h) = if a = nI 0 then zz_Y 36 (55, ls, st, h) else zz_Y 36 (51, ls, st, h)) ∧ (∀ ls st h, zz_Y 36 (51, ls, st, h) = zz_Y 36 (52, ls, .int (nI 1) :: st, h)) ∧ (∀ ls st h, zz_Y 36 (52, ls, st, h) = zz_Y 36 (56, ls, st, h)) ∧ (∀ ls st h, zz_Y 36 (55, ls, st, h) = zz_Y 36 (56, ls, .int (nI 0) :: st, h)) ∧ (∀ ls v h, v = nI 0 ∨ v = nI 1 → zz_Y 36 (56, ls, [.int v], h) = some (some (.int v), h)) :=
  ⟨fun _ _ _ => xl_aln d36_0 rfl,
   fun _ _ _ _ => xl_gf d36_1 xco36 xf_5_12,
   fun _ _ _ _ => xl_gf d36_4 xco36 xf_5_32,
   fun _ _ _ => xl_ic d36_7 (by decide +kernel),
   fun _ _ _ _ _ => xl_iceq d36_8 rfl,
   fun _ _ _ => xl_aln d36_11 rfl,
   fun _ _ _ _ => xl_gf d36_12 xco36 xf_5_12,
   fun _ _ _ => xl_ic d36_15 (by decide +kernel),
   fun ls a0 a1 h => xl_cv (As := [a0, a1]) (st := []) d36_16 xco36 xm_5_49 (congrArg Nat.succ xnp35) (by decide +kernel) rfl,
   fun _ _ _ hc => xl_irz d36_19 xrt36 hc,
   fun _ _ _ => xl_aln d36_20 rfl,
   fun _ _ _ _ => xl_gf d36_21 xco36 xf_5_21,
   fun _ _ _ _ => xl_gf d36_24 xco36 xf_5_56,
   fun _ _ _ => xl_aln d36_27 rfl,
   fun _ _ _ _ => xl_gf d36_28 xco36 xf_5_12,
   fun _ _ _ _ => xl_gf d36_31 xco36 xf_5_68,
   fun ls a0 a1 h => xl_cv (As := [a0, a1]) (st := []) d36_34 xco36 xm_5_90 (congrArg Nat.succ xnp37) (by decide +kernel) rfl,
   fun _ _ _ _ => xl_ifeq d36_37 rfl,
   fun _ _ _ => xl_aln d36_40 rfl,
   fun _ _ _ _ => xl_gf d36_41 xco36 xf_5_12,
   fun _ _ _ => xl_ic d36_44 (by decide +kernel),
   fun ls a0 a1 h => xl_cv (As := [a0, a1]) (st := []) d36_45 xco36 xm_5_49 (congrArg Nat.succ xnp35) (by decide +kernel) rfl,
   fun _ _ _ _ => xl_ifeq d36_48 rfl,
   fun _ _ _ => xl_ic d36_51 (by decide +kernel),
   fun _ _ _ => xl_goto d36_52 rfl,
   fun _ _ _ => xl_ic d36_55 (by decide +kernel),
   fun _ _ _ hc => xl_irz d36_56 xrt36 hc⟩
/-! 37 FacetSieve$Plan.isTaken(J)Z -/
theorem d37_0 : decode (zz_c 37) 0 = .ok (.iconst 0, 1) := by decide +kernel
theorem d37_1 : decode (zz_c 37) 1 = .ok (.istore_n 3, 1) := by decide +kernel
theorem d37_2 : decode (zz_c 37) 2 = .ok (.iload_n 3, 1) := by decide +kernel
theorem d37_3 : decode (zz_c 37) 3 = .ok (.aload_n 0, 1) := by decide +kernel
theorem d37_4 : decode (zz_c 37) 4 = .ok (.getfield 37, 3) := by decide +kernel
theorem d37_7 : decode (zz_c 37) 7 = .ok (.if_icmp .ge 22, 3) := by decide +kernel
theorem d37_10 : decode (zz_c 37) 10 = .ok (.aload_n 0, 1) := by decide +kernel
theorem d37_11 : decode (zz_c 37) 11 = .ok (.getfield 9, 3) := by decide +kernel
theorem d37_14 : decode (zz_c 37) 14 = .ok (.iload_n 3, 1) := by decide +kernel
theorem d37_15 : decode (zz_c 37) 15 = .ok (.laload, 1) := by decide +kernel
theorem d37_16 : decode (zz_c 37) 16 = .ok (.lload_n 1, 1) := by decide +kernel
theorem d37_17 : decode (zz_c 37) 17 = .ok (.lcmp, 1) := by decide +kernel
theorem d37_18 : decode (zz_c 37) 18 = .ok (.ifCond .ne 5, 3) := by decide +kernel
theorem d37_21 : decode (zz_c 37) 21 = .ok (.iconst 1, 1) := by decide +kernel
theorem d37_22 : decode (zz_c 37) 22 = .ok (.ireturn, 1) := by decide +kernel
theorem d37_23 : decode (zz_c 37) 23 = .ok (.iinc 3 1, 3) := by decide +kernel
theorem d37_26 : decode (zz_c 37) 26 = .ok (.goto (-24), 3) := by decide +kernel
theorem d37_29 : decode (zz_c 37) 29 = .ok (.aload_n 0, 1) := by decide +kernel
theorem d37_30 : decode (zz_c 37) 30 = .ok (.lload_n 1, 1) := by decide +kernel
theorem d37_31 : decode (zz_c 37) 31 = .ok (.invokevirtual 61, 3) := by decide +kernel
theorem d37_34 : decode (zz_c 37) 34 = .ok (.iconst (-1), 1) := by decide +kernel
theorem d37_35 : decode (zz_c 37) 35 = .ok (.if_icmp .eq 7, 3) := by decide +kernel
theorem d37_38 : decode (zz_c 37) 38 = .ok (.iconst 1, 1) := by decide +kernel
theorem d37_39 : decode (zz_c 37) 39 = .ok (.goto 4, 3) := by decide +kernel
theorem d37_42 : decode (zz_c 37) 42 = .ok (.iconst 0, 1) := by decide +kernel
theorem d37_43 : decode (zz_c 37) 43 = .ok (.ireturn, 1) := by decide +kernel
theorem x37 : (∀ ls st h, zz_Y 37 (0, ls, st, h) = zz_Y 37 (1, ls, .int (nI 0) :: st, h)) ∧ (∀ l0 l1 l2 l3 x st h, zz_nl l2 = true → zz_Y 37 (1, [l0, l1, l2, l3], .int x :: st, h) = zz_Y 37 (2, [l0, l1, l2, some (.int x)], st, h)) ∧ (∀ l1 l2 l3 x st h, zz_Y 37 (3, [some (.ref x), l1, l2, l3], st, h) = zz_Y 37 (4, [some (.ref x), l1, l2, l3], .ref x :: st, h)) ∧ (∀ ls a st h, zz_Y 37 (4, ls, .ref a :: st, h) = mo_gf (hp_g h a) 3 0 37 7 ls st h) ∧ (∀ ls a b st h, zz_Y 37 (7, ls, .int b :: .int a :: st, h) = if a < b then zz_Y 37 (10, ls, st, h) else zz_Y 37 (29, ls, st, h)) ∧ (∀ l1 l2 l3 x st h, zz_Y 37 (10, [some (.ref x), l1, l2, l3], st, h) = zz_Y 37 (11, [some (.ref x), l1, l2, l3], .ref x :: st, h)) ∧ (∀ ls a st h, zz_Y 37 (11, ls, .ref a :: st, h) = mo_gf (hp_g h a) 3 1 37 14 ls st h) ∧ (∀ l0 l1 l2 x st h, zz_Y 37 (14, [l0, l1, l2, some (.int x)], st, h) = zz_Y 37 (15, [l0, l1, l2, some (.int x)], .int x :: st, h)) ∧ (∀ ls a i st h, zz_Y 37 (15, ls, .int i :: .ref a :: st, h) = mo_la (hp_g h a) i 37 16 ls st h) ∧ (∀ l0 l2 l3 x st h, zz_Y 37 (16, [l0, some (.long x), l2, l3], st, h) = zz_Y 37 (17, [l0, some (.long x), l2, l3], .long x :: st, h)) ∧ (∀ ls a b st h, zz_Y 37 (17, ls, .long b :: .long a :: st, h) = zz_Y 37 (18, ls, .int (lg_cmp a b) :: st, h)) ∧ (∀ ls a st h, zz_Y 37 (18, ls, .int a :: st, h) = if a = nI 0 then zz_Y 37 (21, ls, st, h) else zz_Y 37 (23, ls, st, h)) ∧ (∀ ls st h, zz_Y 37 (21, ls, st, h) = zz_Y 37 (22, ls, .int (nI 1) :: st, h)) ∧ (∀ ls v h, v = nI 0 ∨ v = nI 1 → zz_Y 37 (22, ls, [.int v], h) = some (some (.int v), h)) ∧ (∀ l0 l1 l2 x st h, zz_nl l2 = true → zz_Y 37 (23, [l0, l1, l2, some (.int x)], st, h) = zz_Y 37 (26, [l0, l1, l2, some (.int (x + nI 1))], st, h)) ∧ (∀ ls st h, zz_Y 37 (26, ls, st, h) = zz_Y 37 (2, ls, st, h)) ∧ (∀ l1 l2 l3 x st h, zz_Y 37 (29, [some (.ref x), l1, l2, l3], st, h) = zz_Y 37 (30, [some (.ref x), l1, l2, l3], .ref x :: st, h)) ∧ (∀ l0 l2 l3 x st h, zz_Y 37 (30, [l0, some (.long x), l2, l3], st, h) = zz_Y 37 (31, [l0, some (.long x), l2, l3], .long x :: st, h)) ∧ (∀ ls a0 a1 h, zz_Y 37 (31, ls, [a1, a0], h) = mo_k 37 34 ls [] (zz_run 38 [a0, a1] h)) ∧ (∀ ls st h, zz_Y 37 (34, ls, st, h) = zz_Y 37 (35, ls, .int (-1) :: st, h)) ∧ (∀ ls a b st h, zz_Y 37 (35, ls, .int b :: .int a :: st, h) = if a = b then zz_Y 37 (42, ls, st, h) else zz_Y 37 (38, ls, st, h)) ∧ (∀ ls st h, zz_Y 37 (38, ls, st, h) = zz_Y 37 (39, ls, .int (nI 1) :: st, h)) ∧ (∀ ls st h, zz_Y 37 (39, ls, st, h) = zz_Y 37 (43, ls, st, h)) ∧ (∀ ls st h, zz_Y 37 (42, ls, st, h) = zz_Y 37 (43, ls, .int (nI 0) :: st, h)) ∧ (∀ ls v h, v = nI 0 ∨ v = nI 1 → zz_Y 37 (43, ls, [.int v], h) = some (some (.int v), h)) :=
  ⟨fun _ _ _ => xl_ic d37_0 (by decide +kernel),
   fun _ _ _ _ _ _ _ hc => xl_isn d37_1 xml37 (by decide) (zz_nl_s1 hc),
   fun _ _ _ _ _ _ => xl_aln d37_3 rfl,
   fun _ _ _ _ => xl_gf d37_4 xco37 xf_3_37,
   fun _ _ _ _ _ => xl_icge d37_7 rfl,
   fun _ _ _ _ _ _ => xl_aln d37_10 rfl,
   fun _ _ _ _ => xl_gf d37_11 xco37 xf_3_9,
   fun _ _ _ _ _ _ => xl_iln d37_14 rfl,
   fun _ _ _ _ _ => xl_la d37_15,
   fun _ _ _ _ _ _ => xl_lln d37_16 rfl,
   fun _ _ _ _ _ => xl_lcmp d37_17,
   fun _ _ _ _ => xl_ifne d37_18 rfl,
   fun _ _ _ => xl_ic d37_21 (by decide +kernel),
   fun _ _ _ hc => xl_irz d37_22 xrt37 hc,
   fun _ _ _ _ _ _ hc => xl_inc d37_23 xml37 (by decide) rfl (by decide +kernel) (zz_nl_s1 hc),
   fun _ _ _ => xl_goto d37_26 rfl,
   fun _ _ _ _ _ _ => xl_aln d37_29 rfl,
   fun _ _ _ _ _ _ => xl_lln d37_30 rfl,
   fun ls a0 a1 h => xl_cv (As := [a0, a1]) (st := []) d37_31 xco37 xm_3_61 (congrArg Nat.succ xnp38) (by decide +kernel) rfl,
   fun _ _ _ => xl_ic d37_34 (by decide +kernel),
   fun _ _ _ _ _ => xl_iceq d37_35 rfl,
   fun _ _ _ => xl_ic d37_38 (by decide +kernel),
   fun _ _ _ => xl_goto d37_39 rfl,
   fun _ _ _ => xl_ic d37_42 (by decide +kernel),
   fun _ _ _ hc => xl_irz d37_43 xrt37 hc⟩
theorem x37_c2 : ∀ l0 l1 l2 x st h, zz_Y 37 (2, [l0, l1, l2, some (.int x)], st, h) = zz_Y 37 (3, [l0, l1, l2, some (.int x)], .int x :: st, h) := fun _ _ _ _ _ _ => xl_iln d37_2 rfl
/-! 38 FacetSieve$Plan.valueNamed(J)I -/
theorem d38_0 : decode (zz_c 38) 0 = .ok (.iconst 0, 1) := by decide +kernel
theorem d38_1 : decode (zz_c 38) 1 = .ok (.istore_n 3, 1) := by decide +kernel
theorem d38_2 : decode (zz_c 38) 2 = .ok (.iload_n 3, 1) := by decide +kernel
theorem d38_3 : decode (zz_c 38) 3 = .ok (.aload_n 0, 1) := by decide +kernel
theorem d38_4 : decode (zz_c 38) 4 = .ok (.getfield 41, 3) := by decide +kernel
theorem d38_7 : decode (zz_c 38) 7 = .ok (.if_icmp .ge 22, 3) := by decide +kernel
theorem d38_10 : decode (zz_c 38) 10 = .ok (.aload_n 0, 1) := by decide +kernel
theorem d38_11 : decode (zz_c 38) 11 = .ok (.getfield 25, 3) := by decide +kernel
theorem d38_14 : decode (zz_c 38) 14 = .ok (.iload_n 3, 1) := by decide +kernel
theorem d38_15 : decode (zz_c 38) 15 = .ok (.laload, 1) := by decide +kernel
theorem d38_16 : decode (zz_c 38) 16 = .ok (.lload_n 1, 1) := by decide +kernel
theorem d38_17 : decode (zz_c 38) 17 = .ok (.lcmp, 1) := by decide +kernel
theorem d38_18 : decode (zz_c 38) 18 = .ok (.ifCond .ne 5, 3) := by decide +kernel
theorem d38_21 : decode (zz_c 38) 21 = .ok (.iload_n 3, 1) := by decide +kernel
theorem d38_22 : decode (zz_c 38) 22 = .ok (.ireturn, 1) := by decide +kernel
theorem d38_23 : decode (zz_c 38) 23 = .ok (.iinc 3 1, 3) := by decide +kernel
theorem d38_26 : decode (zz_c 38) 26 = .ok (.goto (-24), 3) := by decide +kernel
theorem d38_29 : decode (zz_c 38) 29 = .ok (.iconst (-1), 1) := by decide +kernel
theorem d38_30 : decode (zz_c 38) 30 = .ok (.ireturn, 1) := by decide +kernel
theorem x38 : (∀ ls st h, zz_Y 38 (0, ls, st, h) = zz_Y 38 (1, ls, .int (nI 0) :: st, h)) ∧ (∀ l0 l1 l2 l3 x st h, zz_nl l2 = true → zz_Y 38 (1, [l0, l1, l2, l3], .int x :: st, h) = zz_Y 38 (2, [l0, l1, l2, some (.int x)], st, h)) ∧ (∀ l1 l2 l3 x st h, zz_Y 38 (3, [some (.ref x), l1, l2, l3], st, h) = zz_Y 38 (4, [some (.ref x), l1, l2, l3], .ref x :: st, h)) ∧ (∀ ls a st h, zz_Y 38 (4, ls, .ref a :: st, h) = mo_gf (hp_g h a) 3 5 38 7 ls st h) ∧ (∀ ls a b st h, zz_Y 38 (7, ls, .int b :: .int a :: st, h) = if a < b then zz_Y 38 (10, ls, st, h) else zz_Y 38 (29, ls, st, h)) ∧ (∀ l1 l2 l3 x st h, zz_Y 38 (10, [some (.ref x), l1, l2, l3], st, h) = zz_Y 38 (11, [some (.ref x), l1, l2, l3], .ref x :: st, h)) ∧ (∀ ls a st h, zz_Y 38 (11, ls, .ref a :: st, h) = mo_gf (hp_g h a) 3 6 38 14 ls st h) ∧ (∀ l0 l1 l2 x st h, zz_Y 38 (14, [l0, l1, l2, some (.int x)], st, h) = zz_Y 38 (15, [l0, l1, l2, some (.int x)], .int x :: st, h)) ∧ (∀ ls a i st h, zz_Y 38 (15, ls, .int i :: .ref a :: st, h) = mo_la (hp_g h a) i 38 16 ls st h) ∧ (∀ l0 l2 l3 x st h, zz_Y 38 (16, [l0, some (.long x), l2, l3], st, h) = zz_Y 38 (17, [l0, some (.long x), l2, l3], .long x :: st, h)) ∧ (∀ ls a b st h, zz_Y 38 (17, ls, .long b :: .long a :: st, h) = zz_Y 38 (18, ls, .int (lg_cmp a b) :: st, h)) ∧ (∀ ls a st h, zz_Y 38 (18, ls, .int a :: st, h) = if a = nI 0 then zz_Y 38 (21, ls, st, h) else zz_Y 38 (23, ls, st, h)) ∧ (∀ l0 l1 l2 x st h, zz_Y 38 (21, [l0, l1, l2, some (.int x)], st, h) = zz_Y 38 (22, [l0, l1, l2, some (.int x)], .int x :: st, h)) ∧ (∀ ls v h, zz_Y 38 (22, ls, [.int v], h) = some (some (.int v), h)) ∧ (∀ l0 l1 l2 x st h, zz_nl l2 = true → zz_Y 38 (23, [l0, l1, l2, some (.int x)], st, h) = zz_Y 38 (26, [l0, l1, l2, some (.int (x + nI 1))], st, h)) ∧ (∀ ls st h, zz_Y 38 (26, ls, st, h) = zz_Y 38 (2, ls, st, h)) ∧ (∀ ls st h, zz_Y 38 (29, ls, st, h) = zz_Y 38 (30, ls, .int (-1) :: st, h)) ∧ (∀ ls v h, zz_Y 38 (30, ls, [.int v], h) = some (some (.int v), h)) :=
  ⟨fun _ _ _ => xl_ic d38_0 (by decide +kernel),
   fun _ _ _ _ _ _ _ hc => xl_isn d38_1 xml38 (by decide) (zz_nl_s1 hc),
   fun _ _ _ _ _ _ => xl_aln d38_3 rfl,
   fun _ _ _ _ => xl_gf d38_4 xco38 xf_3_41,
   fun _ _ _ _ _ => xl_icge d38_7 rfl,
   fun _ _ _ _ _ _ => xl_aln d38_10 rfl,
   fun _ _ _ _ => xl_gf d38_11 xco38 xf_3_25,
   fun _ _ _ _ _ _ => xl_iln d38_14 rfl,
   fun _ _ _ _ _ => xl_la d38_15,
   fun _ _ _ _ _ _ => xl_lln d38_16 rfl,
   fun _ _ _ _ _ => xl_lcmp d38_17,
   fun _ _ _ _ => xl_ifne d38_18 rfl,
   fun _ _ _ _ _ _ => xl_iln d38_21 rfl,
   fun _ _ _ => xl_iri d38_22 xrt38,
   fun _ _ _ _ _ _ hc => xl_inc d38_23 xml38 (by decide) rfl (by decide +kernel) (zz_nl_s1 hc),
   fun _ _ _ => xl_goto d38_26 rfl,
   fun _ _ _ => xl_ic d38_29 (by decide +kernel),
   fun _ _ _ => xl_iri d38_30 xrt38⟩
theorem x38_c2 : ∀ l0 l1 l2 x st h, zz_Y 38 (2, [l0, l1, l2, some (.int x)], st, h) = zz_Y 38 (3, [l0, l1, l2, some (.int x)], .int x :: st, h) := fun _ _ _ _ _ _ => xl_iln d38_2 rfl
/-! 39 FacetSieve$Plan.addHead(JZ)V -/
theorem d39_0 : decode (zz_c 39) 0 = .ok (.aload_n 0, 1) := by decide +kernel
theorem d39_1 : decode (zz_c 39) 1 = .ok (.invokevirtual 50, 3) := by decide +kernel
theorem d39_4 : decode (zz_c 39) 4 = .ok (.ifCond .ne 4, 3) := by decide +kernel
theorem d39_7 : decode (zz_c 39) 7 = .ok (.return_, 1) := by decide +kernel
theorem d39_8 : decode (zz_c 39) 8 = .ok (.aload_n 0, 1) := by decide +kernel
theorem d39_9 : decode (zz_c 39) 9 = .ok (.getfield 9, 3) := by decide +kernel
theorem d39_12 : decode (zz_c 39) 12 = .ok (.aload_n 0, 1) := by decide +kernel
theorem d39_13 : decode (zz_c 39) 13 = .ok (.getfield 37, 3) := by decide +kernel
theorem d39_16 : decode (zz_c 39) 16 = .ok (.lload_n 1, 1) := by decide +kernel
theorem d39_17 : decode (zz_c 39) 17 = .ok (.lastore, 1) := by decide +kernel
theorem d39_18 : decode (zz_c 39) 18 = .ok (.aload_n 0, 1) := by decide +kernel
theorem d39_19 : decode (zz_c 39) 19 = .ok (.getfield 15, 3) := by decide +kernel
theorem d39_22 : decode (zz_c 39) 22 = .ok (.aload_n 0, 1) := by decide +kernel
theorem d39_23 : decode (zz_c 39) 23 = .ok (.getfield 37, 3) := by decide +kernel
theorem d39_26 : decode (zz_c 39) 26 = .ok (.iload_n 3, 1) := by decide +kernel
theorem d39_27 : decode (zz_c 39) 27 = .ok (.ifCond .eq 7, 3) := by decide +kernel
theorem d39_30 : decode (zz_c 39) 30 = .ok (.iconst 1, 1) := by decide +kernel
theorem d39_31 : decode (zz_c 39) 31 = .ok (.goto 4, 3) := by decide +kernel
theorem d39_34 : decode (zz_c 39) 34 = .ok (.iconst 0, 1) := by decide +kernel
theorem d39_35 : decode (zz_c 39) 35 = .ok (.iastore, 1) := by decide +kernel
theorem d39_36 : decode (zz_c 39) 36 = .ok (.aload_n 0, 1) := by decide +kernel
theorem d39_37 : decode (zz_c 39) 37 = .ok (.getfield 19, 3) := by decide +kernel
theorem d39_40 : decode (zz_c 39) 40 = .ok (.aload_n 0, 1) := by decide +kernel
theorem d39_41 : decode (zz_c 39) 41 = .ok (.getfield 37, 3) := by decide +kernel
theorem d39_44 : decode (zz_c 39) 44 = .ok (.aload_n 0, 1) := by decide +kernel
theorem d39_45 : decode (zz_c 39) 45 = .ok (.getfield 41, 3) := by decide +kernel
theorem d39_48 : decode (zz_c 39) 48 = .ok (.iastore, 1) := by decide +kernel
theorem d39_49 : decode (zz_c 39) 49 = .ok (.aload_n 0, 1) := by decide +kernel
theorem d39_50 : decode (zz_c 39) 50 = .ok (.getfield 22, 3) := by decide +kernel
theorem d39_53 : decode (zz_c 39) 53 = .ok (.aload_n 0, 1) := by decide +kernel
theorem d39_54 : decode (zz_c 39) 54 = .ok (.getfield 37, 3) := by decide +kernel
theorem d39_57 : decode (zz_c 39) 57 = .ok (.iconst 0, 1) := by decide +kernel
theorem d39_58 : decode (zz_c 39) 58 = .ok (.iastore, 1) := by decide +kernel
theorem d39_59 : decode (zz_c 39) 59 = .ok (.aload_n 0, 1) := by decide +kernel
theorem d39_60 : decode (zz_c 39) 60 = .ok (.dup, 1) := by decide +kernel
theorem d39_61 : decode (zz_c 39) 61 = .ok (.getfield 37, 3) := by decide +kernel
theorem d39_64 : decode (zz_c 39) 64 = .ok (.iconst 1, 1) := by decide +kernel
theorem d39_65 : decode (zz_c 39) 65 = .ok (.iadd, 1) := by decide +kernel
theorem d39_66 : decode (zz_c 39) 66 = .ok (.putfield 37, 3) := by decide +kernel
theorem d39_69 : decode (zz_c 39) 69 = .ok (.return_, 1) := by decide +kernel
theorem x39 : (∀ l1 l2 l3 x st h, zz_Y 39 (0, [some (.ref x), l1, l2, l3], st, h) = zz_Y 39 (1, [some (.ref x), l1, l2, l3], .ref x :: st, h)) ∧ (∀ ls a0 h, zz_Y 39 (1, ls, [a0], h) = mo_k 39 4 ls [] (zz_run 34 [a0] h)) ∧ (∀ ls a st h, zz_Y 39 (4, ls, .int a :: st, h) = if a = nI 0 then zz_Y 39 (7, ls, st, h) else zz_Y 39 (8, ls, st, h)) ∧ (∀ ls h, zz_Y 39 (7, ls, [], h) = some (none, h)) ∧ (∀ l1 l2 l3 x st h, zz_Y 39 (8, [some (.ref x), l1, l2, l3], st, h) = zz_Y 39 (9, [some (.ref x), l1, l2, l3], .ref x :: st, h)) ∧ (∀ ls a st h, zz_Y 39 (9, ls, .ref a :: st, h) = mo_gf (hp_g h a) 3 1 39 12 ls st h) ∧ (∀ l1 l2 l3 x st h, zz_Y 39 (12, [some (.ref x), l1, l2, l3], st, h) = zz_Y 39 (13, [some (.ref x), l1, l2, l3], .ref x :: st, h)) ∧ (∀ ls a st h, zz_Y 39 (13, ls, .ref a :: st, h) = mo_gf (hp_g h a) 3 0 39 16 ls st h) ∧ (∀ l0 l2 l3 x st h, zz_Y 39 (16, [l0, some (.long x), l2, l3], st, h) = zz_Y 39 (17, [l0, some (.long x), l2, l3], .long x :: st, h)) ∧ (∀ ls a i x st h, zz_Y 39 (17, ls, .long x :: .int i :: .ref a :: st, h) = mo_ls (hp_g h a) x i a 39 18 ls st h) ∧ (∀ l1 l2 l3 x st h, zz_Y 39 (18, [some (.ref x), l1, l2, l3], st, h) = zz_Y 39 (19, [some (.ref x), l1, l2, l3], .ref x :: st, h)) ∧ (∀ ls a st h, zz_Y 39 (19, ls, .ref a :: st, h) = mo_gf (hp_g h a) 3 2 39 22 ls st h) ∧ (∀ l1 l2 l3 x st h, zz_Y 39 (22, [some (.ref x), l1, l2, l3], st, h) = zz_Y 39 (23, [some (.ref x), l1, l2, l3], .ref x :: st, h)) ∧ (∀ ls a st h, zz_Y 39 (23, ls, .ref a :: st, h) = mo_gf (hp_g h a) 3 0 39 26 ls st h) ∧ (∀ l0 l1 l2 x st h, zz_Y 39 (26, [l0, l1, l2, some (.int x)], st, h) = zz_Y 39 (27, [l0, l1, l2, some (.int x)], .int x :: st, h)) ∧ (∀ ls a st h, zz_Y 39 (27, ls, .int a :: st, h) = if a = nI 0 then zz_Y 39 (34, ls, st, h) else zz_Y 39 (30, ls, st, h)) ∧ (∀ ls st h, zz_Y 39 (30, ls, st, h) = zz_Y 39 (31, ls, .int (nI 1) :: st, h)) ∧ (∀ ls st h, zz_Y 39 (31, ls, st, h) = zz_Y 39 (35, ls, st, h)) ∧ (∀ ls st h, zz_Y 39 (34, ls, st, h) = zz_Y 39 (35, ls, .int (nI 0) :: st, h)) ∧ (∀ ls a i x st h, zz_Y 39 (35, ls, .int x :: .int i :: .ref a :: st, h) = mo_is (hp_g h a) x i a 39 36 ls st h) ∧ (∀ l1 l2 l3 x st h, zz_Y 39 (36, [some (.ref x), l1, l2, l3], st, h) = zz_Y 39 (37, [some (.ref x), l1, l2, l3], .ref x :: st, h)) ∧ (∀ ls a st h, zz_Y 39 (37, ls, .ref a :: st, h) = mo_gf (hp_g h a) 3 3 39 40 ls st h) ∧ (∀ l1 l2 l3 x st h, zz_Y 39 (40, [some (.ref x), l1, l2, l3], st, h) = zz_Y 39 (41, [some (.ref x), l1, l2, l3], .ref x :: st, h)) ∧ (∀ ls a st h, zz_Y 39 (41, ls, .ref a :: st, h) = mo_gf (hp_g h a) 3 0 39 44 ls st h) ∧ (∀ l1 l2 l3 x st h, zz_Y 39 (44, [some (.ref x), l1, l2, l3], st, h) = zz_Y 39 (45, [some (.ref x), l1, l2, l3], .ref x :: st, h)) ∧ (∀ ls a st h, zz_Y 39 (45, ls, .ref a :: st, h) = mo_gf (hp_g h a) 3 5 39 48 ls st h) ∧ (∀ ls a i x st h, zz_Y 39 (48, ls, .int x :: .int i :: .ref a :: st, h) = mo_is (hp_g h a) x i a 39 49 ls st h) ∧ (∀ l1 l2 l3 x st h, zz_Y 39 (49, [some (.ref x), l1, l2, l3], st, h) = zz_Y 39 (50, [some (.ref x), l1, l2, l3], .ref x :: st, h)) ∧ (∀ ls a st h, zz_Y 39 (50, ls, .ref a :: st, h) = mo_gf (hp_g h a) 3 4 39 53 ls st h) ∧ (∀ l1 l2 l3 x st h, zz_Y 39 (53, [some (.ref x), l1, l2, l3], st, h) = zz_Y 39 (54, [some (.ref x), l1, l2, l3], .ref x :: st, h)) ∧ (∀ ls a st h, zz_Y 39 (54, ls, .ref a :: st, h) = mo_gf (hp_g h a) 3 0 39 57 ls st h) ∧ (∀ ls st h, zz_Y 39 (57, ls, st, h) = zz_Y 39 (58, ls, .int (nI 0) :: st, h)) ∧ (∀ ls a i x st h, zz_Y 39 (58, ls, .int x :: .int i :: .ref a :: st, h) = mo_is (hp_g h a) x i a 39 59 ls st h) ∧ (∀ l1 l2 l3 x st h, zz_Y 39 (59, [some (.ref x), l1, l2, l3], st, h) = zz_Y 39 (60, [some (.ref x), l1, l2, l3], .ref x :: st, h)) ∧ (∀ ls a st h, zz_Y 39 (60, ls, .ref a :: st, h) = zz_Y 39 (61, ls, .ref a :: .ref a :: st, h)) ∧ (∀ ls a st h, zz_Y 39 (61, ls, .ref a :: st, h) = mo_gf (hp_g h a) 3 0 39 64 ls st h) ∧ (∀ ls st h, zz_Y 39 (64, ls, st, h) = zz_Y 39 (65, ls, .int (nI 1) :: st, h)) ∧ (∀ ls a b st h, zz_Y 39 (65, ls, .int b :: .int a :: st, h) = zz_Y 39 (66, ls, .int (a + b) :: st, h)) ∧ (∀ ls a v st h, zz_Y 39 (66, ls, v :: .ref a :: st, h) = mo_pf (hp_g h a) 3 0 .int v a 39 69 ls st h) ∧ (∀ ls h, zz_Y 39 (69, ls, [], h) = some (none, h)) :=
  ⟨fun _ _ _ _ _ _ => xl_aln d39_0 rfl,
   fun ls a0 h => xl_cv (As := [a0]) (st := []) d39_1 xco39 xm_3_50 (congrArg Nat.succ xnp34) (by decide +kernel) rfl,
   fun _ _ _ _ => xl_ifne d39_4 rfl,
   fun _ _ => xl_r d39_7 xrt39,
   fun _ _ _ _ _ _ => xl_aln d39_8 rfl,
   fun _ _ _ _ => xl_gf d39_9 xco39 xf_3_9,
   fun _ _ _ _ _ _ => xl_aln d39_12 rfl,
   fun _ _ _ _ => xl_gf d39_13 xco39 xf_3_37,
   fun _ _ _ _ _ _ => xl_lln d39_16 rfl,
   fun _ _ _ _ _ _ => xl_lst d39_17,
   fun _ _ _ _ _ _ => xl_aln d39_18 rfl,
   fun _ _ _ _ => xl_gf d39_19 xco39 xf_3_15,
   fun _ _ _ _ _ _ => xl_aln d39_22 rfl,
   fun _ _ _ _ => xl_gf d39_23 xco39 xf_3_37,
   fun _ _ _ _ _ _ => xl_iln d39_26 rfl,
   fun _ _ _ _ => xl_ifeq d39_27 rfl,
   fun _ _ _ => xl_ic d39_30 (by decide +kernel),
   fun _ _ _ => xl_goto d39_31 rfl,
   fun _ _ _ => xl_ic d39_34 (by decide +kernel),
   fun _ _ _ _ _ _ => xl_ist d39_35,
   fun _ _ _ _ _ _ => xl_aln d39_36 rfl,
   fun _ _ _ _ => xl_gf d39_37 xco39 xf_3_19,
   fun _ _ _ _ _ _ => xl_aln d39_40 rfl,
   fun _ _ _ _ => xl_gf d39_41 xco39 xf_3_37,
   fun _ _ _ _ _ _ => xl_aln d39_44 rfl,
   fun _ _ _ _ => xl_gf d39_45 xco39 xf_3_41,
   fun _ _ _ _ _ _ => xl_ist d39_48,
   fun _ _ _ _ _ _ => xl_aln d39_49 rfl,
   fun _ _ _ _ => xl_gf d39_50 xco39 xf_3_22,
   fun _ _ _ _ _ _ => xl_aln d39_53 rfl,
   fun _ _ _ _ => xl_gf d39_54 xco39 xf_3_37,
   fun _ _ _ => xl_ic d39_57 (by decide +kernel),
   fun _ _ _ _ _ _ => xl_ist d39_58,
   fun _ _ _ _ _ _ => xl_aln d39_59 rfl,
   fun _ _ _ _ => xl_dupr d39_60,
   fun _ _ _ _ => xl_gf d39_61 xco39 xf_3_37,
   fun _ _ _ => xl_ic d39_64 (by decide +kernel),
   fun _ _ _ _ _ => xl_iadd d39_65,
   fun _ _ _ _ _ => xl_pf d39_66 xco39 xf_3_37 (by decide +kernel) rfl,
   fun _ _ => xl_r d39_69 xrt39⟩
/-! 40 FacetSieve$SchemeReader.readValue()Z -/
theorem d40_0 : decode (zz_c 40) 0 = .ok (.aload_n 0, 1) := by decide +kernel
theorem d40_1 : decode (zz_c 40) 1 = .ok (.getfield 21, 3) := by decide +kernel
theorem d40_4 : decode (zz_c 40) 4 = .ok (.getfield 56, 3) := by decide +kernel
theorem d40_7 : decode (zz_c 40) 7 = .ok (.invokevirtual 76, 3) := by decide +kernel
theorem d40_10 : decode (zz_c 40) 10 = .ok (.ifCond .ne 12, 3) := by decide +kernel
theorem d40_13 : decode (zz_c 40) 13 = .ok (.aload_n 0, 1) := by decide +kernel
theorem d40_14 : decode (zz_c 40) 14 = .ok (.getfield 12, 3) := by decide +kernel
theorem d40_17 : decode (zz_c 40) 17 = .ok (.iconst 4, 1) := by decide +kernel
theorem d40_18 : decode (zz_c 40) 18 = .ok (.invokevirtual 49, 3) := by decide +kernel
theorem d40_21 : decode (zz_c 40) 21 = .ok (.ireturn, 1) := by decide +kernel
theorem d40_22 : decode (zz_c 40) 22 = .ok (.aload_n 0, 1) := by decide +kernel
theorem d40_23 : decode (zz_c 40) 23 = .ok (.getfield 12, 3) := by decide +kernel
theorem d40_26 : decode (zz_c 40) 26 = .ok (.invokevirtual 53, 3) := by decide +kernel
theorem d40_29 : decode (zz_c 40) 29 = .ok (.aload_n 0, 1) := by decide +kernel
theorem d40_30 : decode (zz_c 40) 30 = .ok (.invokevirtual 65, 3) := by decide +kernel
theorem d40_33 : decode (zz_c 40) 33 = .ok (.ifCond .ne 5, 3) := by decide +kernel
theorem d40_36 : decode (zz_c 40) 36 = .ok (.iconst 0, 1) := by decide +kernel
theorem d40_37 : decode (zz_c 40) 37 = .ok (.ireturn, 1) := by decide +kernel
theorem d40_38 : decode (zz_c 40) 38 = .ok (.aload_n 0, 1) := by decide +kernel
theorem d40_39 : decode (zz_c 40) 39 = .ok (.getfield 12, 3) := by decide +kernel
theorem d40_42 : decode (zz_c 40) 42 = .ok (.getfield 68, 3) := by decide +kernel
theorem d40_45 : decode (zz_c 40) 45 = .ok (.lstore_n 1, 1) := by decide +kernel
theorem d40_46 : decode (zz_c 40) 46 = .ok (.aload_n 0, 1) := by decide +kernel
theorem d40_47 : decode (zz_c 40) 47 = .ok (.getfield 12, 3) := by decide +kernel
theorem d40_50 : decode (zz_c 40) 50 = .ok (.invokevirtual 53, 3) := by decide +kernel
theorem d40_53 : decode (zz_c 40) 53 = .ok (.iconst (-1), 1) := by decide +kernel
theorem d40_54 : decode (zz_c 40) 54 = .ok (.istore_n 3, 1) := by decide +kernel
theorem d40_55 : decode (zz_c 40) 55 = .ok (.aload_n 0, 1) := by decide +kernel
theorem d40_56 : decode (zz_c 40) 56 = .ok (.getfield 12, 3) := by decide +kernel
theorem d40_59 : decode (zz_c 40) 59 = .ok (.getfield 32, 3) := by decide +kernel
theorem d40_62 : decode (zz_c 40) 62 = .ok (.bipush 11, 2) := by decide +kernel
theorem d40_64 : decode (zz_c 40) 64 = .ok (.if_icmp .ne 44, 3) := by decide +kernel
theorem d40_67 : decode (zz_c 40) 67 = .ok (.aload_n 0, 1) := by decide +kernel
theorem d40_68 : decode (zz_c 40) 68 = .ok (.getfield 12, 3) := by decide +kernel
theorem d40_71 : decode (zz_c 40) 71 = .ok (.invokevirtual 53, 3) := by decide +kernel
theorem d40_74 : decode (zz_c 40) 74 = .ok (.aload_n 0, 1) := by decide +kernel
theorem d40_75 : decode (zz_c 40) 75 = .ok (.invokevirtual 79, 3) := by decide +kernel
theorem d40_78 : decode (zz_c 40) 78 = .ok (.ifCond .ne 5, 3) := by decide +kernel
theorem d40_81 : decode (zz_c 40) 81 = .ok (.iconst 0, 1) := by decide +kernel
theorem d40_82 : decode (zz_c 40) 82 = .ok (.ireturn, 1) := by decide +kernel
theorem d40_83 : decode (zz_c 40) 83 = .ok (.aload_n 0, 1) := by decide +kernel
theorem d40_84 : decode (zz_c 40) 84 = .ok (.getfield 21, 3) := by decide +kernel
theorem d40_87 : decode (zz_c 40) 87 = .ok (.getfield 56, 3) := by decide +kernel
theorem d40_90 : decode (zz_c 40) 90 = .ok (.aload_n 0, 1) := by decide +kernel
theorem d40_91 : decode (zz_c 40) 91 = .ok (.getfield 12, 3) := by decide +kernel
theorem d40_94 : decode (zz_c 40) 94 = .ok (.getfield 68, 3) := by decide +kernel
theorem d40_97 : decode (zz_c 40) 97 = .ok (.invokevirtual 82, 3) := by decide +kernel
theorem d40_100 : decode (zz_c 40) 100 = .ok (.istore_n 3, 1) := by decide +kernel
theorem d40_101 : decode (zz_c 40) 101 = .ok (.aload_n 0, 1) := by decide +kernel
theorem d40_102 : decode (zz_c 40) 102 = .ok (.getfield 12, 3) := by decide +kernel
theorem d40_105 : decode (zz_c 40) 105 = .ok (.invokevirtual 53, 3) := by decide +kernel
theorem d40_108 : decode (zz_c 40) 108 = .ok (.aload_n 0, 1) := by decide +kernel
theorem d40_109 : decode (zz_c 40) 109 = .ok (.getfield 21, 3) := by decide +kernel
theorem d40_112 : decode (zz_c 40) 112 = .ok (.getfield 56, 3) := by decide +kernel
theorem d40_115 : decode (zz_c 40) 115 = .ok (.lload_n 1, 1) := by decide +kernel
theorem d40_116 : decode (zz_c 40) 116 = .ok (.iload_n 3, 1) := by decide +kernel
theorem d40_117 : decode (zz_c 40) 117 = .ok (.invokevirtual 86, 3) := by decide +kernel
theorem d40_120 : decode (zz_c 40) 120 = .ok (.iconst 1, 1) := by decide +kernel
theorem d40_121 : decode (zz_c 40) 121 = .ok (.ireturn, 1) := by decide +kernel
theorem x40 : (∀ l1 l2 l3 x st h, zz_Y 40 (0, [some (.ref x), l1, l2, l3], st, h) = zz_Y 40 (1, [some (.ref x), l1, l2, l3], .ref x :: st, h)) ∧ (∀ ls a st h, zz_Y 40 (1, ls, .ref a :: st, h) = mo_gf (hp_g h a) 5 1 40 4 ls st h) ∧ (∀ ls a st h, zz_Y 40 (4, ls, .ref a :: st, h) = mo_gf (hp_g h a) 7 0 40 7 ls st h) ∧ (∀ ls a0 h, zz_Y 40 (7, ls, [a0], h) = mo_k 40 10 ls [] (zz_run 41 [a0] h)) ∧ (∀ ls a st h, zz_Y 40 (10, ls, .int a :: st, h) = if a = nI 0 then zz_Y 40 (13, ls, st, h) else zz_Y 40 (22, ls, st, h)) ∧ (∀ l1 l2 l3 x st h, zz_Y 40 (13, [some (.ref x), l1, l2, l3], st, h) = zz_Y 40 (14, [some (.ref x), l1, l2, l3], .ref x :: st, h)) ∧ (∀ ls a st h, zz_Y 40 (14, ls, .ref a :: st, h) = mo_gf (hp_g h a) 5 0 40 17 ls st h) ∧ (∀ ls st h, zz_Y 40 (17, ls, st, h) = zz_Y 40 (18, ls, .int (nI 4) :: st, h)) ∧ (∀ ls a0 a1 h, zz_Y 40 (18, ls, [a1, a0], h) = mo_k 40 21 ls [] (zz_run 35 [a0, a1] h)) ∧ (∀ ls v h, v = nI 0 ∨ v = nI 1 → zz_Y 40 (21, ls, [.int v], h) = some (some (.int v), h)) ∧ (∀ l1 l2 l3 x st h, zz_Y 40 (22, [some (.ref x), l1, l2, l3], st, h) = zz_Y 40 (23, [some (.ref x), l1, l2, l3], .ref x :: st, h)) ∧ (∀ ls a st h, zz_Y 40 (23, ls, .ref a :: st, h) = mo_gf (hp_g h a) 5 0 40 26 ls st h) ∧ (∀ ls a0 h, zz_Y 40 (26, ls, [a0], h) = mo_k 40 29 ls [] (zz_run 23 [a0] h)) ∧ (∀ l1 l2 l3 x st h, zz_Y 40 (29, [some (.ref x), l1, l2, l3], st, h) = zz_Y 40 (30, [some (.ref x), l1, l2, l3], .ref x :: st, h)) ∧ (∀ ls a0 h, zz_Y 40 (30, ls, [a0], h) = mo_k 40 33 ls [] (zz_run 36 [a0] h)) ∧ (∀ ls a st h, zz_Y 40 (33, ls, .int a :: st, h) = if a = nI 0 then zz_Y 40 (36, ls, st, h) else zz_Y 40 (38, ls, st, h)) ∧ (∀ ls st h, zz_Y 40 (36, ls, st, h) = zz_Y 40 (37, ls, .int (nI 0) :: st, h)) ∧ (∀ ls v h, v = nI 0 ∨ v = nI 1 → zz_Y 40 (37, ls, [.int v], h) = some (some (.int v), h)) ∧ (∀ l1 l2 l3 x st h, zz_Y 40 (38, [some (.ref x), l1, l2, l3], st, h) = zz_Y 40 (39, [some (.ref x), l1, l2, l3], .ref x :: st, h)) ∧ (∀ ls a st h, zz_Y 40 (39, ls, .ref a :: st, h) = mo_gf (hp_g h a) 5 0 40 42 ls st h) ∧ (∀ ls a st h, zz_Y 40 (42, ls, .ref a :: st, h) = mo_gf (hp_g h a) 9 5 40 45 ls st h) ∧ (∀ l0 l1 l2 l3 x st h, zz_nl l0 = true → zz_Y 40 (45, [l0, l1, l2, l3], .long x :: st, h) = zz_Y 40 (46, [l0, some (.long x), none, l3], st, h)) ∧ (∀ l1 l2 l3 x st h, zz_Y 40 (46, [some (.ref x), l1, l2, l3], st, h) = zz_Y 40 (47, [some (.ref x), l1, l2, l3], .ref x :: st, h)) ∧ (∀ ls a st h, zz_Y 40 (47, ls, .ref a :: st, h) = mo_gf (hp_g h a) 5 0 40 50 ls st h) ∧ (∀ ls a0 h, zz_Y 40 (50, ls, [a0], h) = mo_k 40 53 ls [] (zz_run 23 [a0] h)) ∧ (∀ ls st h, zz_Y 40 (53, ls, st, h) = zz_Y 40 (54, ls, .int (-1) :: st, h)) ∧ (∀ l0 l1 l2 l3 x st h, zz_nl l2 = true → zz_Y 40 (54, [l0, l1, l2, l3], .int x :: st, h) = zz_Y 40 (55, [l0, l1, l2, some (.int x)], st, h)) ∧ (∀ l1 l2 l3 x st h, zz_Y 40 (55, [some (.ref x), l1, l2, l3], st, h) = zz_Y 40 (56, [some (.ref x), l1, l2, l3], .ref x :: st, h)) ∧ (∀ ls a st h, zz_Y 40 (56, ls, .ref a :: st, h) = mo_gf (hp_g h a) 5 0 40 59 ls st h) ∧ (∀ ls a st h, zz_Y 40 (59, ls, .ref a :: st, h) = mo_gf (hp_g h a) 9 2 40 62 ls st h) ∧ (∀ ls st h, zz_Y 40 (62, ls, st, h) = zz_Y 40 (64, ls, .int (nI 11) :: st, h)) ∧ (∀ ls a b st h, zz_Y 40 (64, ls, .int b :: .int a :: st, h) = if a = b then zz_Y 40 (67, ls, st, h) else zz_Y 40 (108, ls, st, h)) ∧ (∀ l1 l2 l3 x st h, zz_Y 40 (67, [some (.ref x), l1, l2, l3], st, h) = zz_Y 40 (68, [some (.ref x), l1, l2, l3], .ref x :: st, h)) ∧ (∀ ls a st h, zz_Y 40 (68, ls, .ref a :: st, h) = mo_gf (hp_g h a) 5 0 40 71 ls st h) ∧ (∀ ls a0 h, zz_Y 40 (71, ls, [a0], h) = mo_k 40 74 ls [] (zz_run 23 [a0] h)) ∧ (∀ l1 l2 l3 x st h, zz_Y 40 (74, [some (.ref x), l1, l2, l3], st, h) = zz_Y 40 (75, [some (.ref x), l1, l2, l3], .ref x :: st, h)) ∧ (∀ ls a0 h, zz_Y 40 (75, ls, [a0], h) = mo_k 40 78 ls [] (zz_run 42 [a0] h)) ∧ (∀ ls a st h, zz_Y 40 (78, ls, .int a :: st, h) = if a = nI 0 then zz_Y 40 (81, ls, st, h) else zz_Y 40 (83, ls, st, h)) ∧ (∀ ls st h, zz_Y 40 (81, ls, st, h) = zz_Y 40 (82, ls, .int (nI 0) :: st, h)) ∧ (∀ ls v h, v = nI 0 ∨ v = nI 1 → zz_Y 40 (82, ls, [.int v], h) = some (some (.int v), h)) ∧ (∀ l1 l2 l3 x st h, zz_Y 40 (83, [some (.ref x), l1, l2, l3], st, h) = zz_Y 40 (84, [some (.ref x), l1, l2, l3], .ref x :: st, h)) ∧ (∀ ls a st h, zz_Y 40 (84, ls, .ref a :: st, h) = mo_gf (hp_g h a) 5 1 40 87 ls st h) ∧ (∀ ls a st h, zz_Y 40 (87, ls, .ref a :: st, h) = mo_gf (hp_g h a) 7 0 40 90 ls st h) ∧ (∀ l1 l2 l3 x st h, zz_Y 40 (90, [some (.ref x), l1, l2, l3], st, h) = zz_Y 40 (91, [some (.ref x), l1, l2, l3], .ref x :: st, h)) ∧ (∀ ls a st h, zz_Y 40 (91, ls, .ref a :: st, h) = mo_gf (hp_g h a) 5 0 40 94 ls st h) ∧ (∀ ls a st h, zz_Y 40 (94, ls, .ref a :: st, h) = mo_gf (hp_g h a) 9 5 40 97 ls st h) ∧ (∀ ls a0 a1 h, zz_Y 40 (97, ls, [a1, a0], h) = mo_k 40 100 ls [] (zz_run 38 [a0, a1] h)) ∧ (∀ l0 l1 l2 l3 x st h, zz_nl l2 = true → zz_Y 40 (100, [l0, l1, l2, l3], .int x :: st, h) = zz_Y 40 (101, [l0, l1, l2, some (.int x)], st, h)) ∧ (∀ l1 l2 l3 x st h, zz_Y 40 (101, [some (.ref x), l1, l2, l3], st, h) = zz_Y 40 (102, [some (.ref x), l1, l2, l3], .ref x :: st, h)) ∧ (∀ ls a st h, zz_Y 40 (102, ls, .ref a :: st, h) = mo_gf (hp_g h a) 5 0 40 105 ls st h) ∧ (∀ ls a0 h, zz_Y 40 (105, ls, [a0], h) = mo_k 40 108 ls [] (zz_run 23 [a0] h)) ∧ (∀ l1 l2 l3 x st h, zz_Y 40 (108, [some (.ref x), l1, l2, l3], st, h) = zz_Y 40 (109, [some (.ref x), l1, l2, l3], .ref x :: st, h)) ∧ (∀ ls a st h, zz_Y 40 (109, ls, .ref a :: st, h) = mo_gf (hp_g h a) 5 1 40 112 ls st h) ∧ (∀ ls a st h, zz_Y 40 (112, ls, .ref a :: st, h) = mo_gf (hp_g h a) 7 0 40 115 ls st h) ∧ (∀ l0 l2 l3 x st h, zz_Y 40 (115, [l0, some (.long x), l2, l3], st, h) = zz_Y 40 (116, [l0, some (.long x), l2, l3], .long x :: st, h)) ∧ (∀ l0 l1 l2 x st h, zz_Y 40 (116, [l0, l1, l2, some (.int x)], st, h) = zz_Y 40 (117, [l0, l1, l2, some (.int x)], .int x :: st, h)) ∧ (∀ ls a0 a1 a2 h, zz_Y 40 (117, ls, [a2, a1, a0], h) = mo_k 40 120 ls [] (zz_run 43 [a0, a1, a2] h)) ∧ (∀ ls st h, zz_Y 40 (120, ls, st, h) = zz_Y 40 (121, ls, .int (nI 1) :: st, h)) ∧ (∀ ls v h, v = nI 0 ∨ v = nI 1 → zz_Y 40 (121, ls, [.int v], h) = some (some (.int v), h)) :=
  ⟨fun _ _ _ _ _ _ => xl_aln d40_0 rfl,
   fun _ _ _ _ => xl_gf d40_1 xco40 xf_5_21,
   fun _ _ _ _ => xl_gf d40_4 xco40 xf_5_56,
   fun ls a0 h => xl_cv (As := [a0]) (st := []) d40_7 xco40 xm_5_76 (congrArg Nat.succ xnp41) (by decide +kernel) rfl,
   fun _ _ _ _ => xl_ifne d40_10 rfl,
   fun _ _ _ _ _ _ => xl_aln d40_13 rfl,
   fun _ _ _ _ => xl_gf d40_14 xco40 xf_5_12,
   fun _ _ _ => xl_ic d40_17 (by decide +kernel),
   fun ls a0 a1 h => xl_cv (As := [a0, a1]) (st := []) d40_18 xco40 xm_5_49 (congrArg Nat.succ xnp35) (by decide +kernel) rfl,
   fun _ _ _ hc => xl_irz d40_21 xrt40 hc,
   fun _ _ _ _ _ _ => xl_aln d40_22 rfl,
   fun _ _ _ _ => xl_gf d40_23 xco40 xf_5_12,
   fun ls a0 h => xl_cv (As := [a0]) (st := []) d40_26 xco40 xm_5_53 (congrArg Nat.succ xnp23) (by decide +kernel) rfl,
   fun _ _ _ _ _ _ => xl_aln d40_29 rfl,
   fun ls a0 h => xl_cv (As := [a0]) (st := []) d40_30 xco40 xm_5_65 (congrArg Nat.succ xnp36) (by decide +kernel) rfl,
   fun _ _ _ _ => xl_ifne d40_33 rfl,
   fun _ _ _ => xl_ic d40_36 (by decide +kernel),
   fun _ _ _ hc => xl_irz d40_37 xrt40 hc,
   fun _ _ _ _ _ _ => xl_aln d40_38 rfl,
   fun _ _ _ _ => xl_gf d40_39 xco40 xf_5_12,
   fun _ _ _ _ => xl_gf d40_42 xco40 xf_5_68,
   fun _ _ _ _ _ _ _ hc => xl_lsn d40_45 xml40 (by decide) (zz_nl_s2 hc),
   fun _ _ _ _ _ _ => xl_aln d40_46 rfl,
   fun _ _ _ _ => xl_gf d40_47 xco40 xf_5_12,
   fun ls a0 h => xl_cv (As := [a0]) (st := []) d40_50 xco40 xm_5_53 (congrArg Nat.succ xnp23) (by decide +kernel) rfl,
   fun _ _ _ => xl_ic d40_53 (by decide +kernel),
   fun _ _ _ _ _ _ _ hc => xl_isn d40_54 xml40 (by decide) (zz_nl_s1 hc),
   fun _ _ _ _ _ _ => xl_aln d40_55 rfl,
   fun _ _ _ _ => xl_gf d40_56 xco40 xf_5_12,
   fun _ _ _ _ => xl_gf d40_59 xco40 xf_5_32,
   fun _ _ _ => xl_bi d40_62 (by decide +kernel),
   fun _ _ _ _ _ => xl_icne d40_64 rfl,
   fun _ _ _ _ _ _ => xl_aln d40_67 rfl,
   fun _ _ _ _ => xl_gf d40_68 xco40 xf_5_12,
   fun ls a0 h => xl_cv (As := [a0]) (st := []) d40_71 xco40 xm_5_53 (congrArg Nat.succ xnp23) (by decide +kernel) rfl,
   fun _ _ _ _ _ _ => xl_aln d40_74 rfl,
   fun ls a0 h => xl_cv (As := [a0]) (st := []) d40_75 xco40 xm_5_79 (congrArg Nat.succ xnp42) (by decide +kernel) rfl,
   fun _ _ _ _ => xl_ifne d40_78 rfl,
   fun _ _ _ => xl_ic d40_81 (by decide +kernel),
   fun _ _ _ hc => xl_irz d40_82 xrt40 hc,
   fun _ _ _ _ _ _ => xl_aln d40_83 rfl,
   fun _ _ _ _ => xl_gf d40_84 xco40 xf_5_21,
   fun _ _ _ _ => xl_gf d40_87 xco40 xf_5_56,
   fun _ _ _ _ _ _ => xl_aln d40_90 rfl,
   fun _ _ _ _ => xl_gf d40_91 xco40 xf_5_12,
   fun _ _ _ _ => xl_gf d40_94 xco40 xf_5_68,
   fun ls a0 a1 h => xl_cv (As := [a0, a1]) (st := []) d40_97 xco40 xm_5_82 (congrArg Nat.succ xnp38) (by decide +kernel) rfl,
   fun _ _ _ _ _ _ _ hc => xl_isn d40_100 xml40 (by decide) (zz_nl_s1 hc),
   fun _ _ _ _ _ _ => xl_aln d40_101 rfl,
   fun _ _ _ _ => xl_gf d40_102 xco40 xf_5_12,
   fun ls a0 h => xl_cv (As := [a0]) (st := []) d40_105 xco40 xm_5_53 (congrArg Nat.succ xnp23) (by decide +kernel) rfl,
   fun _ _ _ _ _ _ => xl_aln d40_108 rfl,
   fun _ _ _ _ => xl_gf d40_109 xco40 xf_5_21,
   fun _ _ _ _ => xl_gf d40_112 xco40 xf_5_56,
   fun _ _ _ _ _ _ => xl_lln d40_115 rfl,
   fun _ _ _ _ _ _ => xl_iln d40_116 rfl,
   fun ls a0 a1 a2 h => xl_cv (As := [a0, a1, a2]) (st := []) d40_117 xco40 xm_5_86 (congrArg Nat.succ xnp43) (by decide +kernel) rfl,
   fun _ _ _ => xl_ic d40_120 (by decide +kernel),
   fun _ _ _ hc => xl_irz d40_121 xrt40 hc⟩
/-! 41 FacetSieve$Plan.hasRoomForValue()Z -/
theorem d41_0 : decode (zz_c 41) 0 = .ok (.aload_n 0, 1) := by decide +kernel
theorem d41_1 : decode (zz_c 41) 1 = .ok (.getfield 37, 3) := by decide +kernel
theorem d41_4 : decode (zz_c 41) 4 = .ok (.ifCond .le 16, 3) := by decide +kernel
theorem d41_7 : decode (zz_c 41) 7 = .ok (.aload_n 0, 1) := by decide +kernel
theorem d41_8 : decode (zz_c 41) 8 = .ok (.getfield 41, 3) := by decide +kernel
theorem d41_11 : decode (zz_c 41) 11 = .ok (.bipush 20, 2) := by decide +kernel
theorem d41_13 : decode (zz_c 41) 13 = .ok (.if_icmp .ge 7, 3) := by decide +kernel
theorem d41_16 : decode (zz_c 41) 16 = .ok (.iconst 1, 1) := by decide +kernel
theorem d41_17 : decode (zz_c 41) 17 = .ok (.goto 4, 3) := by decide +kernel
theorem d41_20 : decode (zz_c 41) 20 = .ok (.iconst 0, 1) := by decide +kernel
theorem d41_21 : decode (zz_c 41) 21 = .ok (.ireturn, 1) := by decide +kernel
theorem x41 : (∀ x st h, zz_Y 41 (0, [some (.ref x)], st, h) = zz_Y 41 (1, [some (.ref x)], .ref x :: st, h)) ∧ (∀ ls a st h, zz_Y 41 (1, ls, .ref a :: st, h) = mo_gf (hp_g h a) 3 0 41 4 ls st h) ∧ (∀ ls a st h, zz_Y 41 (4, ls, .int a :: st, h) = if nI 0 < a then zz_Y 41 (7, ls, st, h) else zz_Y 41 (20, ls, st, h)) ∧ (∀ x st h, zz_Y 41 (7, [some (.ref x)], st, h) = zz_Y 41 (8, [some (.ref x)], .ref x :: st, h)) ∧ (∀ ls a st h, zz_Y 41 (8, ls, .ref a :: st, h) = mo_gf (hp_g h a) 3 5 41 11 ls st h) ∧ (∀ ls st h, zz_Y 41 (11, ls, st, h) = zz_Y 41 (13, ls, .int (nI 20) :: st, h)) ∧ (∀ ls a b st h, zz_Y 41 (13, ls, .int b :: .int a :: st, h) = if a < b then zz_Y 41 (16, ls, st, h) else zz_Y 41 (20, ls, st, h)) ∧ (∀ ls st h, zz_Y 41 (16, ls, st, h) = zz_Y 41 (17, ls, .int (nI 1) :: st, h)) ∧ (∀ ls st h, zz_Y 41 (17, ls, st, h) = zz_Y 41 (21, ls, st, h)) ∧ (∀ ls st h, zz_Y 41 (20, ls, st, h) = zz_Y 41 (21, ls, .int (nI 0) :: st, h)) ∧ (∀ ls v h, v = nI 0 ∨ v = nI 1 → zz_Y 41 (21, ls, [.int v], h) = some (some (.int v), h)) :=
  ⟨fun _ _ _ => xl_aln d41_0 rfl,
   fun _ _ _ _ => xl_gf d41_1 xco41 xf_3_37,
   fun _ _ _ _ => xl_ifle d41_4 rfl,
   fun _ _ _ => xl_aln d41_7 rfl,
   fun _ _ _ _ => xl_gf d41_8 xco41 xf_3_41,
   fun _ _ _ => xl_bi d41_11 (by decide +kernel),
   fun _ _ _ _ _ => xl_icge d41_13 rfl,
   fun _ _ _ => xl_ic d41_16 (by decide +kernel),
   fun _ _ _ => xl_goto d41_17 rfl,
   fun _ _ _ => xl_ic d41_20 (by decide +kernel),
   fun _ _ _ hc => xl_irz d41_21 xrt41 hc⟩
/-! 42 FacetSieve$SchemeReader.isValueOfLatestHead()Z -/
theorem d42_0 : decode (zz_c 42) 0 = .ok (.aload_n 0, 1) := by decide +kernel
theorem d42_1 : decode (zz_c 42) 1 = .ok (.getfield 12, 3) := by decide +kernel
theorem d42_4 : decode (zz_c 42) 4 = .ok (.getfield 32, 3) := by decide +kernel
theorem d42_7 : decode (zz_c 42) 7 = .ok (.iconst 2, 1) := by decide +kernel
theorem d42_8 : decode (zz_c 42) 8 = .ok (.if_icmp .eq 12, 3) := by decide +kernel
theorem d42_11 : decode (zz_c 42) 11 = .ok (.aload_n 0, 1) := by decide +kernel
theorem d42_12 : decode (zz_c 42) 12 = .ok (.getfield 12, 3) := by decide +kernel
theorem d42_15 : decode (zz_c 42) 15 = .ok (.iconst 1, 1) := by decide +kernel
theorem d42_16 : decode (zz_c 42) 16 = .ok (.invokevirtual 49, 3) := by decide +kernel
theorem d42_19 : decode (zz_c 42) 19 = .ok (.ireturn, 1) := by decide +kernel
theorem d42_20 : decode (zz_c 42) 20 = .ok (.aload_n 0, 1) := by decide +kernel
theorem d42_21 : decode (zz_c 42) 21 = .ok (.getfield 21, 3) := by decide +kernel
theorem d42_24 : decode (zz_c 42) 24 = .ok (.getfield 56, 3) := by decide +kernel
theorem d42_27 : decode (zz_c 42) 27 = .ok (.aload_n 0, 1) := by decide +kernel
theorem d42_28 : decode (zz_c 42) 28 = .ok (.getfield 12, 3) := by decide +kernel
theorem d42_31 : decode (zz_c 42) 31 = .ok (.getfield 68, 3) := by decide +kernel
theorem d42_34 : decode (zz_c 42) 34 = .ok (.invokevirtual 82, 3) := by decide +kernel
theorem d42_37 : decode (zz_c 42) 37 = .ok (.istore_n 1, 1) := by decide +kernel
theorem d42_38 : decode (zz_c 42) 38 = .ok (.iload_n 1, 1) := by decide +kernel
theorem d42_39 : decode (zz_c 42) 39 = .ok (.iconst (-1), 1) := by decide +kernel
theorem d42_40 : decode (zz_c 42) 40 = .ok (.if_icmp .eq 30, 3) := by decide +kernel
theorem d42_43 : decode (zz_c 42) 43 = .ok (.aload_n 0, 1) := by decide +kernel
theorem d42_44 : decode (zz_c 42) 44 = .ok (.getfield 21, 3) := by decide +kernel
theorem d42_47 : decode (zz_c 42) 47 = .ok (.getfield 56, 3) := by decide +kernel
theorem d42_50 : decode (zz_c 42) 50 = .ok (.getfield 94, 3) := by decide +kernel
theorem d42_53 : decode (zz_c 42) 53 = .ok (.iload_n 1, 1) := by decide +kernel
theorem d42_54 : decode (zz_c 42) 54 = .ok (.iaload, 1) := by decide +kernel
theorem d42_55 : decode (zz_c 42) 55 = .ok (.aload_n 0, 1) := by decide +kernel
theorem d42_56 : decode (zz_c 42) 56 = .ok (.getfield 21, 3) := by decide +kernel
theorem d42_59 : decode (zz_c 42) 59 = .ok (.getfield 56, 3) := by decide +kernel
theorem d42_62 : decode (zz_c 42) 62 = .ok (.getfield 98, 3) := by decide +kernel
theorem d42_65 : decode (zz_c 42) 65 = .ok (.iconst 1, 1) := by decide +kernel
theorem d42_66 : decode (zz_c 42) 66 = .ok (.isub, 1) := by decide +kernel
theorem d42_67 : decode (zz_c 42) 67 = .ok (.if_icmp .eq 12, 3) := by decide +kernel
theorem d42_70 : decode (zz_c 42) 70 = .ok (.aload_n 0, 1) := by decide +kernel
theorem d42_71 : decode (zz_c 42) 71 = .ok (.getfield 12, 3) := by decide +kernel
theorem d42_74 : decode (zz_c 42) 74 = .ok (.iconst 3, 1) := by decide +kernel
theorem d42_75 : decode (zz_c 42) 75 = .ok (.invokevirtual 49, 3) := by decide +kernel
theorem d42_78 : decode (zz_c 42) 78 = .ok (.ireturn, 1) := by decide +kernel
theorem d42_79 : decode (zz_c 42) 79 = .ok (.iconst 1, 1) := by decide +kernel
theorem d42_80 : decode (zz_c 42) 80 = .ok (.ireturn, 1) := by decide +kernel
theorem x42 : (∀ l1 x st h, zz_Y 42 (0, [some (.ref x), l1], st, h) = zz_Y 42 (1, [some (.ref x), l1], .ref x :: st, h)) ∧ (∀ ls a st h, zz_Y 42 (1, ls, .ref a :: st, h) = mo_gf (hp_g h a) 5 0 42 4 ls st h) ∧ (∀ ls a st h, zz_Y 42 (4, ls, .ref a :: st, h) = mo_gf (hp_g h a) 9 2 42 7 ls st h) ∧ (∀ ls st h, zz_Y 42 (7, ls, st, h) = zz_Y 42 (8, ls, .int (nI 2) :: st, h)) ∧ (∀ ls a b st h, zz_Y 42 (8, ls, .int b :: .int a :: st, h) = if a = b then zz_Y 42 (20, ls, st, h) else zz_Y 42 (11, ls, st, h)) ∧ (∀ l1 x st h, zz_Y 42 (11, [some (.ref x), l1], st, h) = zz_Y 42 (12, [some (.ref x), l1], .ref x :: st, h)) ∧ (∀ ls a st h, zz_Y 42 (12, ls, .ref a :: st, h) = mo_gf (hp_g h a) 5 0 42 15 ls st h) ∧ (∀ ls st h, zz_Y 42 (15, ls, st, h) = zz_Y 42 (16, ls, .int (nI 1) :: st, h)) ∧ (∀ ls a0 a1 h, zz_Y 42 (16, ls, [a1, a0], h) = mo_k 42 19 ls [] (zz_run 35 [a0, a1] h)) ∧ (∀ ls v h, v = nI 0 ∨ v = nI 1 → zz_Y 42 (19, ls, [.int v], h) = some (some (.int v), h)) ∧ (∀ l1 x st h, zz_Y 42 (20, [some (.ref x), l1], st, h) = zz_Y 42 (21, [some (.ref x), l1], .ref x :: st, h)) ∧ (∀ ls a st h, zz_Y 42 (21, ls, .ref a :: st, h) = mo_gf (hp_g h a) 5 1 42 24 ls st h) ∧ (∀ ls a st h, zz_Y 42 (24, ls, .ref a :: st, h) = mo_gf (hp_g h a) 7 0 42 27 ls st h) ∧ (∀ l1 x st h, zz_Y 42 (27, [some (.ref x), l1], st, h) = zz_Y 42 (28, [some (.ref x), l1], .ref x :: st, h)) ∧ (∀ ls a st h, zz_Y 42 (28, ls, .ref a :: st, h) = mo_gf (hp_g h a) 5 0 42 31 ls st h) ∧ (∀ ls a st h, zz_Y 42 (31, ls, .ref a :: st, h) = mo_gf (hp_g h a) 9 5 42 34 ls st h) ∧ (∀ ls a0 a1 h, zz_Y 42 (34, ls, [a1, a0], h) = mo_k 42 37 ls [] (zz_run 38 [a0, a1] h)) ∧ (∀ l0 l1 x st h, zz_nl l0 = true → zz_Y 42 (37, [l0, l1], .int x :: st, h) = zz_Y 42 (38, [l0, some (.int x)], st, h)) ∧ (∀ l0 x st h, zz_Y 42 (38, [l0, some (.int x)], st, h) = zz_Y 42 (39, [l0, some (.int x)], .int x :: st, h)) ∧ (∀ ls st h, zz_Y 42 (39, ls, st, h) = zz_Y 42 (40, ls, .int (-1) :: st, h)) ∧ (∀ ls a b st h, zz_Y 42 (40, ls, .int b :: .int a :: st, h) = if a = b then zz_Y 42 (70, ls, st, h) else zz_Y 42 (43, ls, st, h)) ∧ (∀ l1 x st h, zz_Y 42 (43, [some (.ref x), l1], st, h) = zz_Y 42 (44, [some (.ref x), l1], .ref x :: st, h)) ∧ (∀ ls a st h, zz_Y 42 (44, ls, .ref a :: st, h) = mo_gf (hp_g h a) 5 1 42 47 ls st h) ∧ (∀ ls a st h, zz_Y 42 (47, ls, .ref a :: st, h) = mo_gf (hp_g h a) 7 0 42 50 ls st h) ∧ (∀ ls a st h, zz_Y 42 (50, ls, .ref a :: st, h) = mo_gf (hp_g h a) 3 7 42 53 ls st h) ∧ (∀ l0 x st h, zz_Y 42 (53, [l0, some (.int x)], st, h) = zz_Y 42 (54, [l0, some (.int x)], .int x :: st, h)) ∧ (∀ ls a i st h, zz_Y 42 (54, ls, .int i :: .ref a :: st, h) = mo_ia (hp_g h a) i a 42 55 ls st h) ∧ (∀ l1 x st h, zz_Y 42 (55, [some (.ref x), l1], st, h) = zz_Y 42 (56, [some (.ref x), l1], .ref x :: st, h)) ∧ (∀ ls a st h, zz_Y 42 (56, ls, .ref a :: st, h) = mo_gf (hp_g h a) 5 1 42 59 ls st h) ∧ (∀ ls a st h, zz_Y 42 (59, ls, .ref a :: st, h) = mo_gf (hp_g h a) 7 0 42 62 ls st h) ∧ (∀ ls a st h, zz_Y 42 (62, ls, .ref a :: st, h) = mo_gf (hp_g h a) 3 0 42 65 ls st h) ∧ (∀ ls st h, zz_Y 42 (65, ls, st, h) = zz_Y 42 (66, ls, .int (nI 1) :: st, h)) ∧ (∀ ls a b st h, zz_Y 42 (66, ls, .int b :: .int a :: st, h) = zz_Y 42 (67, ls, .int (a - b) :: st, h)) ∧ (∀ ls a b st h, zz_Y 42 (67, ls, .int b :: .int a :: st, h) = if a = b then zz_Y 42 (79, ls, st, h) else zz_Y 42 (70, ls, st, h)) ∧ (∀ l1 x st h, zz_Y 42 (70, [some (.ref x), l1], st, h) = zz_Y 42 (71, [some (.ref x), l1], .ref x :: st, h)) ∧ (∀ ls a st h, zz_Y 42 (71, ls, .ref a :: st, h) = mo_gf (hp_g h a) 5 0 42 74 ls st h) ∧ (∀ ls st h, zz_Y 42 (74, ls, st, h) = zz_Y 42 (75, ls, .int (nI 3) :: st, h)) ∧ (∀ ls a0 a1 h, zz_Y 42 (75, ls, [a1, a0], h) = mo_k 42 78 ls [] (zz_run 35 [a0, a1] h)) ∧ (∀ ls v h, v = nI 0 ∨ v = nI 1 → zz_Y 42 (78, ls, [.int v], h) = some (some (.int v), h)) ∧ (∀ ls st h, zz_Y 42 (79, ls, st, h) = zz_Y 42 (80, ls, .int (nI 1) :: st, h)) ∧ (∀ ls v h, v = nI 0 ∨ v = nI 1 → zz_Y 42 (80, ls, [.int v], h) = some (some (.int v), h)) :=
  ⟨fun _ _ _ _ => xl_aln d42_0 rfl,
   fun _ _ _ _ => xl_gf d42_1 xco42 xf_5_12,
   fun _ _ _ _ => xl_gf d42_4 xco42 xf_5_32,
   fun _ _ _ => xl_ic d42_7 (by decide +kernel),
   fun _ _ _ _ _ => xl_iceq d42_8 rfl,
   fun _ _ _ _ => xl_aln d42_11 rfl,
   fun _ _ _ _ => xl_gf d42_12 xco42 xf_5_12,
   fun _ _ _ => xl_ic d42_15 (by decide +kernel),
   fun ls a0 a1 h => xl_cv (As := [a0, a1]) (st := []) d42_16 xco42 xm_5_49 (congrArg Nat.succ xnp35) (by decide +kernel) rfl,
   fun _ _ _ hc => xl_irz d42_19 xrt42 hc,
   fun _ _ _ _ => xl_aln d42_20 rfl,
   fun _ _ _ _ => xl_gf d42_21 xco42 xf_5_21,
   fun _ _ _ _ => xl_gf d42_24 xco42 xf_5_56,
   fun _ _ _ _ => xl_aln d42_27 rfl,
   fun _ _ _ _ => xl_gf d42_28 xco42 xf_5_12,
   fun _ _ _ _ => xl_gf d42_31 xco42 xf_5_68,
   fun ls a0 a1 h => xl_cv (As := [a0, a1]) (st := []) d42_34 xco42 xm_5_82 (congrArg Nat.succ xnp38) (by decide +kernel) rfl,
   fun _ _ _ _ _ hc => xl_isn d42_37 xml42 (by decide) (zz_nl_s1 hc),
   fun _ _ _ _ => xl_iln d42_38 rfl,
   fun _ _ _ => xl_ic d42_39 (by decide +kernel),
   fun _ _ _ _ _ => xl_iceq d42_40 rfl,
   fun _ _ _ _ => xl_aln d42_43 rfl,
   fun _ _ _ _ => xl_gf d42_44 xco42 xf_5_21,
   fun _ _ _ _ => xl_gf d42_47 xco42 xf_5_56,
   fun _ _ _ _ => xl_gf d42_50 xco42 xf_5_94,
   fun _ _ _ _ => xl_iln d42_53 rfl,
   fun _ _ _ _ _ => xl_ia d42_54,
   fun _ _ _ _ => xl_aln d42_55 rfl,
   fun _ _ _ _ => xl_gf d42_56 xco42 xf_5_21,
   fun _ _ _ _ => xl_gf d42_59 xco42 xf_5_56,
   fun _ _ _ _ => xl_gf d42_62 xco42 xf_5_98,
   fun _ _ _ => xl_ic d42_65 (by decide +kernel),
   fun _ _ _ _ _ => xl_isub d42_66,
   fun _ _ _ _ _ => xl_iceq d42_67 rfl,
   fun _ _ _ _ => xl_aln d42_70 rfl,
   fun _ _ _ _ => xl_gf d42_71 xco42 xf_5_12,
   fun _ _ _ => xl_ic d42_74 (by decide +kernel),
   fun ls a0 a1 h => xl_cv (As := [a0, a1]) (st := []) d42_75 xco42 xm_5_49 (congrArg Nat.succ xnp35) (by decide +kernel) rfl,
   fun _ _ _ hc => xl_irz d42_78 xrt42 hc,
   fun _ _ _ => xl_ic d42_79 (by decide +kernel),
   fun _ _ _ hc => xl_irz d42_80 xrt42 hc⟩
