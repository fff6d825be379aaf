/-! 235 FacetSieveModel.headBy(IJ)I -/
theorem d235_0 : decode (zz_c 235) 0 = .ok (.iconst 0, 1) := by decide +kernel
theorem d235_1 : decode (zz_c 235) 1 = .ok (.istore 4, 2) := by decide +kernel
theorem d235_3 : decode (zz_c 235) 3 = .ok (.iload 4, 2) := by decide +kernel
theorem d235_5 : decode (zz_c 235) 5 = .ok (.aload_n 0, 1) := by decide +kernel
theorem d235_6 : decode (zz_c 235) 6 = .ok (.getfield 7, 3) := by decide +kernel
theorem d235_9 : decode (zz_c 235) 9 = .ok (.iload_n 1, 1) := by decide +kernel
theorem d235_10 : decode (zz_c 235) 10 = .ok (.iconst 0, 1) := by decide +kernel
theorem d235_11 : decode (zz_c 235) 11 = .ok (.iadd, 1) := by decide +kernel
theorem d235_12 : decode (zz_c 235) 12 = .ok (.iaload, 1) := by decide +kernel
theorem d235_13 : decode (zz_c 235) 13 = .ok (.if_icmp .ge 30, 3) := by decide +kernel
theorem d235_16 : decode (zz_c 235) 16 = .ok (.aload_n 0, 1) := by decide +kernel
theorem d235_17 : decode (zz_c 235) 17 = .ok (.iload_n 1, 1) := by decide +kernel
theorem d235_18 : decode (zz_c 235) 18 = .ok (.iload 4, 2) := by decide +kernel
theorem d235_20 : decode (zz_c 235) 20 = .ok (.invokestatic 100, 3) := by decide +kernel
theorem d235_23 : decode (zz_c 235) 23 = .ok (.iadd, 1) := by decide +kernel
theorem d235_24 : decode (zz_c 235) 24 = .ok (.iconst 2, 1) := by decide +kernel
theorem d235_25 : decode (zz_c 235) 25 = .ok (.iadd, 1) := by decide +kernel
theorem d235_26 : decode (zz_c 235) 26 = .ok (.invokevirtual 281, 3) := by decide +kernel
theorem d235_29 : decode (zz_c 235) 29 = .ok (.lload_n 2, 1) := by decide +kernel
theorem d235_30 : decode (zz_c 235) 30 = .ok (.lcmp, 1) := by decide +kernel
theorem d235_31 : decode (zz_c 235) 31 = .ok (.ifCond .ne 6, 3) := by decide +kernel
theorem d235_34 : decode (zz_c 235) 34 = .ok (.iload 4, 2) := by decide +kernel
theorem d235_36 : decode (zz_c 235) 36 = .ok (.ireturn, 1) := by decide +kernel
theorem d235_37 : decode (zz_c 235) 37 = .ok (.iinc 4 1, 3) := by decide +kernel
theorem d235_40 : decode (zz_c 235) 40 = .ok (.goto (-37), 3) := by decide +kernel
theorem d235_43 : decode (zz_c 235) 43 = .ok (.iconst (-1), 1) := by decide +kernel
theorem d235_44 : decode (zz_c 235) 44 = .ok (.ireturn, 1) := by decide +kernel
theorem x235 : (∀ ls st h, zz_Y 235 (0, ls, st, h) = zz_Y 235 (1, ls, .int (nI 0) :: st, h)) ∧ (∀ l0 l1 l2 l3 l4 x st h, zz_nl l3 = true → zz_Y 235 (1, [l0, l1, l2, l3, l4], .int x :: st, h) = zz_Y 235 (3, [l0, l1, l2, l3, some (.int x)], st, h)) ∧ (∀ l1 l2 l3 l4 x st h, zz_Y 235 (5, [some (.ref x), l1, l2, l3, l4], st, h) = zz_Y 235 (6, [some (.ref x), l1, l2, l3, l4], .ref x :: st, h)) ∧ (∀ ls a st h, zz_Y 235 (6, ls, .ref a :: st, h) = mo_gf (hp_g h a) 11 0 235 9 ls st h) ∧ (∀ l0 l2 l3 l4 x st h, zz_Y 235 (9, [l0, some (.int x), l2, l3, l4], st, h) = zz_Y 235 (10, [l0, some (.int x), l2, l3, l4], .int x :: st, h)) ∧ (∀ ls st h, zz_Y 235 (10, ls, st, h) = zz_Y 235 (11, ls, .int (nI 0) :: st, h)) ∧ (∀ ls a b st h, zz_Y 235 (11, ls, .int b :: .int a :: st, h) = zz_Y 235 (12, ls, .int (a + b) :: st, h)) ∧ (∀ ls a i st h, zz_Y 235 (12, ls, .int i :: .ref a :: st, h) = mo_ia (hp_g h a) i a 235 13 ls st h) ∧ (∀ ls a b st h, zz_Y 235 (13, ls, .int b :: .int a :: st, h) = if a < b then zz_Y 235 (16, ls, st, h) else zz_Y 235 (43, ls, st, h)) ∧ (∀ l1 l2 l3 l4 x st h, zz_Y 235 (16, [some (.ref x), l1, l2, l3, l4], st, h) = zz_Y 235 (17, [some (.ref x), l1, l2, l3, l4], .ref x :: st, h)) ∧ (∀ l0 l2 l3 l4 x st h, zz_Y 235 (17, [l0, some (.int x), l2, l3, l4], st, h) = zz_Y 235 (18, [l0, some (.int x), l2, l3, l4], .int x :: st, h)) ∧ (∀ l0 l1 l2 l3 x st h, zz_Y 235 (18, [l0, l1, l2, l3, some (.int x)], st, h) = zz_Y 235 (20, [l0, l1, l2, l3, some (.int x)], .int x :: st, h)) ∧ (∀ ls a0 s0 s1 h, zz_Y 235 (20, ls, [a0, s0, s1], h) = mo_k 235 23 ls [s0, s1] (zz_run 169 [a0] h)) ∧ (∀ ls a b st h, zz_Y 235 (23, ls, .int b :: .int a :: st, h) = zz_Y 235 (24, ls, .int (a + b) :: st, h)) ∧ (∀ ls st h, zz_Y 235 (24, ls, st, h) = zz_Y 235 (25, ls, .int (nI 2) :: st, h)) ∧ (∀ ls a b st h, zz_Y 235 (25, ls, .int b :: .int a :: st, h) = zz_Y 235 (26, ls, .int (a + b) :: st, h)) ∧ (∀ ls a0 a1 h, zz_Y 235 (26, ls, [a1, a0], h) = mo_k 235 29 ls [] (zz_run 236 [a0, a1] h)) ∧ (∀ l0 l1 l3 l4 x st h, zz_Y 235 (29, [l0, l1, some (.long x), l3, l4], st, h) = zz_Y 235 (30, [l0, l1, some (.long x), l3, l4], .long x :: st, h)) ∧ (∀ ls a b st h, zz_Y 235 (30, ls, .long b :: .long a :: st, h) = zz_Y 235 (31, ls, .int (lg_cmp a b) :: st, h)) ∧ (∀ ls a st h, zz_Y 235 (31, ls, .int a :: st, h) = if a = nI 0 then zz_Y 235 (34, ls, st, h) else zz_Y 235 (37, ls, st, h)) ∧ (∀ l0 l1 l2 l3 x st h, zz_Y 235 (34, [l0, l1, l2, l3, some (.int x)], st, h) = zz_Y 235 (36, [l0, l1, l2, l3, some (.int x)], .int x :: st, h)) ∧ (∀ ls v h, zz_Y 235 (36, ls, [.int v], h) = some (some (.int v), h)) ∧ (∀ l0 l1 l2 l3 x st h, zz_nl l3 = true → zz_Y 235 (37, [l0, l1, l2, l3, some (.int x)], st, h) = zz_Y 235 (40, [l0, l1, l2, l3, some (.int (x + nI 1))], st, h)) ∧ (∀ ls st h, zz_Y 235 (40, ls, st, h) = zz_Y 235 (3, ls, st, h)) ∧ (∀ ls st h, zz_Y 235 (43, ls, st, h) = zz_Y 235 (44, ls, .int (-1) :: st, h)) ∧ (∀ ls v h, zz_Y 235 (44, ls, [.int v], h) = some (some (.int v), h)) :=
  ⟨fun _ _ _ => xl_ic d235_0 (by decide +kernel),
   fun _ _ _ _ _ _ _ _ hc => xl_is d235_1 xml235 (by decide) (zz_nl_s1 hc),
   fun _ _ _ _ _ _ _ => xl_aln d235_5 rfl,
   fun _ _ _ _ => xl_gf d235_6 xco235 xf_11_7,
   fun _ _ _ _ _ _ _ => xl_iln d235_9 rfl,
   fun _ _ _ => xl_ic d235_10 (by decide +kernel),
   fun _ _ _ _ _ => xl_iadd d235_11,
   fun _ _ _ _ _ => xl_ia d235_12,
   fun _ _ _ _ _ => xl_icge d235_13 rfl,
   fun _ _ _ _ _ _ _ => xl_aln d235_16 rfl,
   fun _ _ _ _ _ _ _ => xl_iln d235_17 rfl,
   fun _ _ _ _ _ _ _ => xl_il d235_18 rfl,
   fun ls a0 s0 s1 h => xl_cs (As := [a0]) (st := [s0, s1]) d235_20 xco235 xm_11_100 xnp169 (by decide +kernel) rfl,
   fun _ _ _ _ _ => xl_iadd d235_23,
   fun _ _ _ => xl_ic d235_24 (by decide +kernel),
   fun _ _ _ _ _ => xl_iadd d235_25,
   fun ls a0 a1 h => xl_cv (As := [a0, a1]) (st := []) d235_26 xco235 xm_11_281 (congrArg Nat.succ xnp236) (by decide +kernel) rfl,
   fun _ _ _ _ _ _ _ => xl_lln d235_29 rfl,
   fun _ _ _ _ _ => xl_lcmp d235_30,
   fun _ _ _ _ => xl_ifne d235_31 rfl,
   fun _ _ _ _ _ _ _ => xl_il d235_34 rfl,
   fun _ _ _ => xl_iri d235_36 xrt235,
   fun _ _ _ _ _ _ _ hc => xl_inc d235_37 xml235 (by decide) rfl (by decide +kernel) (zz_nl_s1 hc),
   fun _ _ _ => xl_goto d235_40 rfl,
   fun _ _ _ => xl_ic d235_43 (by decide +kernel),
   fun _ _ _ => xl_iri d235_44 xrt235⟩
theorem x235_c3 : ∀ l0 l1 l2 l3 x st h, zz_Y 235 (3, [l0, l1, l2, l3, some (.int x)], st, h) = zz_Y 235 (5, [l0, l1, l2, l3, some (.int x)], .int x :: st, h) := fun _ _ _ _ _ _ _ => xl_il d235_3 rfl
/-! 236 FacetSieveModel.nameOf(I)J -/
theorem d236_0 : decode (zz_c 236) 0 = .ok (.lconst 0, 1) := by decide +kernel
theorem d236_1 : decode (zz_c 236) 1 = .ok (.lstore_n 2, 1) := by decide +kernel
theorem d236_2 : decode (zz_c 236) 2 = .ok (.iconst 0, 1) := by decide +kernel
theorem d236_3 : decode (zz_c 236) 3 = .ok (.istore 4, 2) := by decide +kernel
theorem d236_5 : decode (zz_c 236) 5 = .ok (.iload 4, 2) := by decide +kernel
theorem d236_7 : decode (zz_c 236) 7 = .ok (.aload_n 0, 1) := by decide +kernel
theorem d236_8 : decode (zz_c 236) 8 = .ok (.getfield 7, 3) := by decide +kernel
theorem d236_11 : decode (zz_c 236) 11 = .ok (.iload_n 1, 1) := by decide +kernel
theorem d236_12 : decode (zz_c 236) 12 = .ok (.iaload, 1) := by decide +kernel
theorem d236_13 : decode (zz_c 236) 13 = .ok (.if_icmp .ge 34, 3) := by decide +kernel
theorem d236_16 : decode (zz_c 236) 16 = .ok (.ldc2_w 233, 3) := by decide +kernel
theorem d236_19 : decode (zz_c 236) 19 = .ok (.lload_n 2, 1) := by decide +kernel
theorem d236_20 : decode (zz_c 236) 20 = .ok (.lmul, 1) := by decide +kernel
theorem d236_21 : decode (zz_c 236) 21 = .ok (.aload_n 0, 1) := by decide +kernel
theorem d236_22 : decode (zz_c 236) 22 = .ok (.getfield 7, 3) := by decide +kernel
theorem d236_25 : decode (zz_c 236) 25 = .ok (.iload_n 1, 1) := by decide +kernel
theorem d236_26 : decode (zz_c 236) 26 = .ok (.iconst 1, 1) := by decide +kernel
theorem d236_27 : decode (zz_c 236) 27 = .ok (.iadd, 1) := by decide +kernel
theorem d236_28 : decode (zz_c 236) 28 = .ok (.iload 4, 2) := by decide +kernel
theorem d236_30 : decode (zz_c 236) 30 = .ok (.iadd, 1) := by decide +kernel
theorem d236_31 : decode (zz_c 236) 31 = .ok (.iaload, 1) := by decide +kernel
theorem d236_32 : decode (zz_c 236) 32 = .ok (.i2l, 1) := by decide +kernel
theorem d236_33 : decode (zz_c 236) 33 = .ok (.ladd, 1) := by decide +kernel
theorem d236_34 : decode (zz_c 236) 34 = .ok (.ldc2_w 235, 3) := by decide +kernel
theorem d236_37 : decode (zz_c 236) 37 = .ok (.lsub, 1) := by decide +kernel
theorem d236_38 : decode (zz_c 236) 38 = .ok (.lconst 1, 1) := by decide +kernel
theorem d236_39 : decode (zz_c 236) 39 = .ok (.ladd, 1) := by decide +kernel
theorem d236_40 : decode (zz_c 236) 40 = .ok (.lstore_n 2, 1) := by decide +kernel
theorem d236_41 : decode (zz_c 236) 41 = .ok (.iinc 4 1, 3) := by decide +kernel
theorem d236_44 : decode (zz_c 236) 44 = .ok (.goto (-39), 3) := by decide +kernel
theorem d236_47 : decode (zz_c 236) 47 = .ok (.lload_n 2, 1) := by decide +kernel
theorem d236_48 : decode (zz_c 236) 48 = .ok (.lreturn, 1) := by decide +kernel
theorem x236 : (∀ ls st h, zz_Y 236 (0, ls, st, h) = zz_Y 236 (1, ls, .long (lN 0) :: st, h)) ∧ (∀ l0 l1 l2 l3 l4 x st h, zz_nl l1 = true → zz_Y 236 (1, [l0, l1, l2, l3, l4], .long x :: st, h) = zz_Y 236 (2, [l0, l1, some (.long x), none, l4], st, h)) ∧ (∀ ls st h, zz_Y 236 (2, ls, st, h) = zz_Y 236 (3, ls, .int (nI 0) :: st, h)) ∧ (∀ l0 l1 l2 l3 l4 x st h, zz_nl l3 = true → zz_Y 236 (3, [l0, l1, l2, l3, l4], .int x :: st, h) = zz_Y 236 (5, [l0, l1, l2, l3, some (.int x)], st, h)) ∧ (∀ l1 l2 l3 l4 x st h, zz_Y 236 (7, [some (.ref x), l1, l2, l3, l4], st, h) = zz_Y 236 (8, [some (.ref x), l1, l2, l3, l4], .ref x :: st, h)) ∧ (∀ ls a st h, zz_Y 236 (8, ls, .ref a :: st, h) = mo_gf (hp_g h a) 11 0 236 11 ls st h) ∧ (∀ l0 l2 l3 l4 x st h, zz_Y 236 (11, [l0, some (.int x), l2, l3, l4], st, h) = zz_Y 236 (12, [l0, some (.int x), l2, l3, l4], .int x :: st, h)) ∧ (∀ ls a i st h, zz_Y 236 (12, ls, .int i :: .ref a :: st, h) = mo_ia (hp_g h a) i a 236 13 ls st h) ∧ (∀ ls a b st h, zz_Y 236 (13, ls, .int b :: .int a :: st, h) = if a < b then zz_Y 236 (16, ls, st, h) else zz_Y 236 (47, ls, st, h)) ∧ (∀ ls st h, zz_Y 236 (16, ls, st, h) = zz_Y 236 (19, ls, .long (lN 27) :: st, h)) ∧ (∀ l0 l1 l3 l4 x st h, zz_Y 236 (19, [l0, l1, some (.long x), l3, l4], st, h) = zz_Y 236 (20, [l0, l1, some (.long x), l3, l4], .long x :: st, h)) ∧ (∀ ls a b st h, zz_Y 236 (20, ls, .long b :: .long a :: st, h) = zz_Y 236 (21, ls, .long (a * b) :: st, h)) ∧ (∀ l1 l2 l3 l4 x st h, zz_Y 236 (21, [some (.ref x), l1, l2, l3, l4], st, h) = zz_Y 236 (22, [some (.ref x), l1, l2, l3, l4], .ref x :: st, h)) ∧ (∀ ls a st h, zz_Y 236 (22, ls, .ref a :: st, h) = mo_gf (hp_g h a) 11 0 236 25 ls st h) ∧ (∀ l0 l2 l3 l4 x st h, zz_Y 236 (25, [l0, some (.int x), l2, l3, l4], st, h) = zz_Y 236 (26, [l0, some (.int x), l2, l3, l4], .int x :: st, h)) ∧ (∀ ls st h, zz_Y 236 (26, ls, st, h) = zz_Y 236 (27, ls, .int (nI 1) :: st, h)) ∧ (∀ ls a b st h, zz_Y 236 (27, ls, .int b :: .int a :: st, h) = zz_Y 236 (28, ls, .int (a + b) :: st, h)) ∧ (∀ l0 l1 l2 l3 x st h, zz_Y 236 (28, [l0, l1, l2, l3, some (.int x)], st, h) = zz_Y 236 (30, [l0, l1, l2, l3, some (.int x)], .int x :: st, h)) ∧ (∀ ls a b st h, zz_Y 236 (30, ls, .int b :: .int a :: st, h) = zz_Y 236 (31, ls, .int (a + b) :: st, h)) ∧ (∀ ls a i st h, zz_Y 236 (31, ls, .int i :: .ref a :: st, h) = mo_ia (hp_g h a) i a 236 32 ls st h) ∧ (∀ ls a st h, zz_Y 236 (32, ls, .int a :: st, h) = zz_Y 236 (33, ls, .long a.toInt64 :: st, h)) ∧ (∀ ls a b st h, zz_Y 236 (33, ls, .long b :: .long a :: st, h) = zz_Y 236 (34, ls, .long (a + b) :: st, h)) ∧ (∀ ls st h, zz_Y 236 (34, ls, st, h) = zz_Y 236 (37, ls, .long (lN 97) :: st, h)) ∧ (∀ ls a b st h, zz_Y 236 (37, ls, .long b :: .long a :: st, h) = zz_Y 236 (38, ls, .long (a - b) :: st, h)) ∧ (∀ ls st h, zz_Y 236 (38, ls, st, h) = zz_Y 236 (39, ls, .long (lN 1) :: st, h)) ∧ (∀ ls a b st h, zz_Y 236 (39, ls, .long b :: .long a :: st, h) = zz_Y 236 (40, ls, .long (a + b) :: st, h)) ∧ (∀ l0 l1 l2 l3 l4 x st h, zz_nl l1 = true → zz_Y 236 (40, [l0, l1, l2, l3, l4], .long x :: st, h) = zz_Y 236 (41, [l0, l1, some (.long x), none, l4], st, h)) ∧ (∀ l0 l1 l2 l3 x st h, zz_nl l3 = true → zz_Y 236 (41, [l0, l1, l2, l3, some (.int x)], st, h) = zz_Y 236 (44, [l0, l1, l2, l3, some (.int (x + nI 1))], st, h)) ∧ (∀ ls st h, zz_Y 236 (44, ls, st, h) = zz_Y 236 (5, ls, st, h)) ∧ (∀ l0 l1 l3 l4 x st h, zz_Y 236 (47, [l0, l1, some (.long x), l3, l4], st, h) = zz_Y 236 (48, [l0, l1, some (.long x), l3, l4], .long x :: st, h)) ∧ (∀ ls v h, zz_Y 236 (48, ls, [.long v], h) = some (some (.long v), h)) :=
  ⟨fun _ _ _ => xl_lc d236_0,
   fun _ _ _ _ _ _ _ _ hc => xl_lsn d236_1 xml236 (by decide) (zz_nl_s2 hc),
   fun _ _ _ => xl_ic d236_2 (by decide +kernel),
   fun _ _ _ _ _ _ _ _ hc => xl_is d236_3 xml236 (by decide) (zz_nl_s1 hc),
   fun _ _ _ _ _ _ _ => xl_aln d236_7 rfl,
   fun _ _ _ _ => xl_gf d236_8 xco236 xf_11_7,
   fun _ _ _ _ _ _ _ => xl_iln d236_11 rfl,
   fun _ _ _ _ _ => xl_ia d236_12,
   fun _ _ _ _ _ => xl_icge d236_13 rfl,
   fun _ _ _ => xl_jw d236_16 xco236 (by decide +kernel),
   fun _ _ _ _ _ _ _ => xl_lln d236_19 rfl,
   fun _ _ _ _ _ => xl_lmul d236_20,
   fun _ _ _ _ _ _ _ => xl_aln d236_21 rfl,
   fun _ _ _ _ => xl_gf d236_22 xco236 xf_11_7,
   fun _ _ _ _ _ _ _ => xl_iln d236_25 rfl,
   fun _ _ _ => xl_ic d236_26 (by decide +kernel),
   fun _ _ _ _ _ => xl_iadd d236_27,
   fun _ _ _ _ _ _ _ => xl_il d236_28 rfl,
   fun _ _ _ _ _ => xl_iadd d236_30,
   fun _ _ _ _ _ => xl_ia d236_31,
   fun _ _ _ _ => xl_i2l d236_32,
   fun _ _ _ _ _ => xl_ladd d236_33,
   fun _ _ _ => xl_jw d236_34 xco236 (by decide +kernel),
   fun _ _ _ _ _ => xl_lsub d236_37,
   fun _ _ _ => xl_lc d236_38,
   fun _ _ _ _ _ => xl_ladd d236_39,
   fun _ _ _ _ _ _ _ _ hc => xl_lsn d236_40 xml236 (by decide) (zz_nl_s2 hc),
   fun _ _ _ _ _ _ _ hc => xl_inc d236_41 xml236 (by decide) rfl (by decide +kernel) (zz_nl_s1 hc),
   fun _ _ _ => xl_goto d236_44 rfl,
   fun _ _ _ _ _ _ _ => xl_lln d236_47 rfl,
   fun _ _ _ => xl_lr d236_48 xrt236⟩
theorem x236_c5 : ∀ l0 l1 l2 l3 x st h, zz_Y 236 (5, [l0, l1, l2, l3, some (.int x)], st, h) = zz_Y 236 (7, [l0, l1, l2, l3, some (.int x)], .int x :: st, h) := fun _ _ _ _ _ _ _ => xl_il d236_5 rfl
/-! 237 FacetSieveModel.valueBy(IJ)I -/
theorem d237_0 : decode (zz_c 237) 0 = .ok (.iconst 0, 1) := by decide +kernel
theorem d237_1 : decode (zz_c 237) 1 = .ok (.istore 4, 2) := by decide +kernel
theorem d237_3 : decode (zz_c 237) 3 = .ok (.iload 4, 2) := by decide +kernel
theorem d237_5 : decode (zz_c 237) 5 = .ok (.aload_n 0, 1) := by decide +kernel
theorem d237_6 : decode (zz_c 237) 6 = .ok (.getfield 7, 3) := by decide +kernel
theorem d237_9 : decode (zz_c 237) 9 = .ok (.iload_n 1, 1) := by decide +kernel
theorem d237_10 : decode (zz_c 237) 10 = .ok (.iconst 1, 1) := by decide +kernel
theorem d237_11 : decode (zz_c 237) 11 = .ok (.iadd, 1) := by decide +kernel
theorem d237_12 : decode (zz_c 237) 12 = .ok (.iaload, 1) := by decide +kernel
theorem d237_13 : decode (zz_c 237) 13 = .ok (.if_icmp .ge 30, 3) := by decide +kernel
theorem d237_16 : decode (zz_c 237) 16 = .ok (.aload_n 0, 1) := by decide +kernel
theorem d237_17 : decode (zz_c 237) 17 = .ok (.iload_n 1, 1) := by decide +kernel
theorem d237_18 : decode (zz_c 237) 18 = .ok (.iload 4, 2) := by decide +kernel
theorem d237_20 : decode (zz_c 237) 20 = .ok (.invokestatic 77, 3) := by decide +kernel
theorem d237_23 : decode (zz_c 237) 23 = .ok (.iadd, 1) := by decide +kernel
theorem d237_24 : decode (zz_c 237) 24 = .ok (.iconst 3, 1) := by decide +kernel
theorem d237_25 : decode (zz_c 237) 25 = .ok (.iadd, 1) := by decide +kernel
theorem d237_26 : decode (zz_c 237) 26 = .ok (.invokevirtual 281, 3) := by decide +kernel
theorem d237_29 : decode (zz_c 237) 29 = .ok (.lload_n 2, 1) := by decide +kernel
theorem d237_30 : decode (zz_c 237) 30 = .ok (.lcmp, 1) := by decide +kernel
theorem d237_31 : decode (zz_c 237) 31 = .ok (.ifCond .ne 6, 3) := by decide +kernel
theorem d237_34 : decode (zz_c 237) 34 = .ok (.iload 4, 2) := by decide +kernel
theorem d237_36 : decode (zz_c 237) 36 = .ok (.ireturn, 1) := by decide +kernel
theorem d237_37 : decode (zz_c 237) 37 = .ok (.iinc 4 1, 3) := by decide +kernel
theorem d237_40 : decode (zz_c 237) 40 = .ok (.goto (-37), 3) := by decide +kernel
theorem d237_43 : decode (zz_c 237) 43 = .ok (.iconst (-1), 1) := by decide +kernel
theorem d237_44 : decode (zz_c 237) 44 = .ok (.ireturn, 1) := by decide +kernel
theorem x237 : (∀ ls st h, zz_Y 237 (0, ls, st, h) = zz_Y 237 (1, ls, .int (nI 0) :: st, h)) ∧ (∀ l0 l1 l2 l3 l4 x st h, zz_nl l3 = true → zz_Y 237 (1, [l0, l1, l2, l3, l4], .int x :: st, h) = zz_Y 237 (3, [l0, l1, l2, l3, some (.int x)], st, h)) ∧ (∀ l1 l2 l3 l4 x st h, zz_Y 237 (5, [some (.ref x), l1, l2, l3, l4], st, h) = zz_Y 237 (6, [some (.ref x), l1, l2, l3, l4], .ref x :: st, h)) ∧ (∀ ls a st h, zz_Y 237 (6, ls, .ref a :: st, h) = mo_gf (hp_g h a) 11 0 237 9 ls st h) ∧ (∀ l0 l2 l3 l4 x st h, zz_Y 237 (9, [l0, some (.int x), l2, l3, l4], st, h) = zz_Y 237 (10, [l0, some (.int x), l2, l3, l4], .int x :: st, h)) ∧ (∀ ls st h, zz_Y 237 (10, ls, st, h) = zz_Y 237 (11, ls, .int (nI 1) :: st, h)) ∧ (∀ ls a b st h, zz_Y 237 (11, ls, .int b :: .int a :: st, h) = zz_Y 237 (12, ls, .int (a + b) :: st, h)) ∧ (∀ ls a i st h, zz_Y 237 (12, ls, .int i :: .ref a :: st, h) = mo_ia (hp_g h a) i a 237 13 ls st h) ∧ (∀ ls a b st h, zz_Y 237 (13, ls, .int b :: .int a :: st, h) = if a < b then zz_Y 237 (16, ls, st, h) else zz_Y 237 (43, ls, st, h)) ∧ (∀ l1 l2 l3 l4 x st h, zz_Y 237 (16, [some (.ref x), l1, l2, l3, l4], st, h) = zz_Y 237 (17, [some (.ref x), l1, l2, l3, l4], .ref x :: st, h)) ∧ (∀ l0 l2 l3 l4 x st h, zz_Y 237 (17, [l0, some (.int x), l2, l3, l4], st, h) = zz_Y 237 (18, [l0, some (.int x), l2, l3, l4], .int x :: st, h)) ∧ (∀ l0 l1 l2 l3 x st h, zz_Y 237 (18, [l0, l1, l2, l3, some (.int x)], st, h) = zz_Y 237 (20, [l0, l1, l2, l3, some (.int x)], .int x :: st, h)) ∧ (∀ ls a0 s0 s1 h, zz_Y 237 (20, ls, [a0, s0, s1], h) = mo_k 237 23 ls [s0, s1] (zz_run 158 [a0] h)) ∧ (∀ ls a b st h, zz_Y 237 (23, ls, .int b :: .int a :: st, h) = zz_Y 237 (24, ls, .int (a + b) :: st, h)) ∧ (∀ ls st h, zz_Y 237 (24, ls, st, h) = zz_Y 237 (25, ls, .int (nI 3) :: st, h)) ∧ (∀ ls a b st h, zz_Y 237 (25, ls, .int b :: .int a :: st, h) = zz_Y 237 (26, ls, .int (a + b) :: st, h)) ∧ (∀ ls a0 a1 h, zz_Y 237 (26, ls, [a1, a0], h) = mo_k 237 29 ls [] (zz_run 236 [a0, a1] h)) ∧ (∀ l0 l1 l3 l4 x st h, zz_Y 237 (29, [l0, l1, some (.long x), l3, l4], st, h) = zz_Y 237 (30, [l0, l1, some (.long x), l3, l4], .long x :: st, h)) ∧ (∀ ls a b st h, zz_Y 237 (30, ls, .long b :: .long a :: st, h) = zz_Y 237 (31, ls, .int (lg_cmp a b) :: st, h)) ∧ (∀ ls a st h, zz_Y 237 (31, ls, .int a :: st, h) = if a = nI 0 then zz_Y 237 (34, ls, st, h) else zz_Y 237 (37, ls, st, h)) ∧ (∀ l0 l1 l2 l3 x st h, zz_Y 237 (34, [l0, l1, l2, l3, some (.int x)], st, h) = zz_Y 237 (36, [l0, l1, l2, l3, some (.int x)], .int x :: st, h)) ∧ (∀ ls v h, zz_Y 237 (36, ls, [.int v], h) = some (some (.int v), h)) ∧ (∀ l0 l1 l2 l3 x st h, zz_nl l3 = true → zz_Y 237 (37, [l0, l1, l2, l3, some (.int x)], st, h) = zz_Y 237 (40, [l0, l1, l2, l3, some (.int (x + nI 1))], st, h)) ∧ (∀ ls st h, zz_Y 237 (40, ls, st, h) = zz_Y 237 (3, ls, st, h)) ∧ (∀ ls st h, zz_Y 237 (43, ls, st, h) = zz_Y 237 (44, ls, .int (-1) :: st, h)) ∧ (∀ ls v h, zz_Y 237 (44, ls, [.int v], h) = some (some (.int v), h)) :=
  ⟨fun _ _ _ => xl_ic d237_0 (by decide +kernel),
   fun _ _ _ _ _ _ _ _ hc => xl_is d237_1 xml237 (by decide) (zz_nl_s1 hc),
   fun _ _ _ _ _ _ _ => xl_aln d237_5 rfl,
   fun _ _ _ _ => xl_gf d237_6 xco237 xf_11_7,
   fun _ _ _ _ _ _ _ => xl_iln d237_9 rfl,
   fun _ _ _ => xl_ic d237_10 (by decide +kernel),
   fun _ _ _ _ _ => xl_iadd d237_11,
   fun _ _ _ _ _ => xl_ia d237_12,
   fun _ _ _ _ _ => xl_icge d237_13 rfl,
   fun _ _ _ _ _ _ _ => xl_aln d237_16 rfl,
   fun _ _ _ _ _ _ _ => xl_iln d237_17 rfl,
   fun _ _ _ _ _ _ _ => xl_il d237_18 rfl,
   fun ls a0 s0 s1 h => xl_cs (As := [a0]) (st := [s0, s1]) d237_20 xco237 xm_11_77 xnp158 (by decide +kernel) rfl,
   fun _ _ _ _ _ => xl_iadd d237_23,
   fun _ _ _ => xl_ic d237_24 (by decide +kernel),
   fun _ _ _ _ _ => xl_iadd d237_25,
   fun ls a0 a1 h => xl_cv (As := [a0, a1]) (st := []) d237_26 xco237 xm_11_281 (congrArg Nat.succ xnp236) (by decide +kernel) rfl,
   fun _ _ _ _ _ _ _ => xl_lln d237_29 rfl,
   fun _ _ _ _ _ => xl_lcmp d237_30,
   fun _ _ _ _ => xl_ifne d237_31 rfl,
   fun _ _ _ _ _ _ _ => xl_il d237_34 rfl,
   fun _ _ _ => xl_iri d237_36 xrt237,
   fun _ _ _ _ _ _ _ hc => xl_inc d237_37 xml237 (by decide) rfl (by decide +kernel) (zz_nl_s1 hc),
   fun _ _ _ => xl_goto d237_40 rfl,
   fun _ _ _ => xl_ic d237_43 (by decide +kernel),
   fun _ _ _ => xl_iri d237_44 xrt237⟩
theorem x237_c3 : ∀ l0 l1 l2 l3 x st h, zz_Y 237 (3, [l0, l1, l2, l3, some (.int x)], st, h) = zz_Y 237 (5, [l0, l1, l2, l3, some (.int x)], .int x :: st, h) := fun _ _ _ _ _ _ _ => xl_il d237_3 rfl
/-! 238 FacetSieveModel.readsValue()V -/
theorem d238_0 : decode (zz_c 238) 0 = .ok (.aload_n 0, 1) := by decide +kernel
theorem d238_1 : decode (zz_c 238) 1 = .ok (.getfield 7, 3) := by decide +kernel
theorem d238_4 : decode (zz_c 238) 4 = .ok (.sipush 731, 3) := by decide +kernel
theorem d238_7 : decode (zz_c 238) 7 = .ok (.iaload, 1) := by decide +kernel
theorem d238_8 : decode (zz_c 238) 8 = .ok (.istore_n 1, 1) := by decide +kernel
theorem d238_9 : decode (zz_c 238) 9 = .ok (.aload_n 0, 1) := by decide +kernel
theorem d238_10 : decode (zz_c 238) 10 = .ok (.getfield 7, 3) := by decide +kernel
theorem d238_13 : decode (zz_c 238) 13 = .ok (.sipush 730, 3) := by decide +kernel
theorem d238_16 : decode (zz_c 238) 16 = .ok (.iaload, 1) := by decide +kernel
theorem d238_17 : decode (zz_c 238) 17 = .ok (.iconst 1, 1) := by decide +kernel
theorem d238_18 : decode (zz_c 238) 18 = .ok (.isub, 1) := by decide +kernel
theorem d238_19 : decode (zz_c 238) 19 = .ok (.istore_n 2, 1) := by decide +kernel
theorem d238_20 : decode (zz_c 238) 20 = .ok (.iload_n 1, 1) := by decide +kernel
theorem d238_21 : decode (zz_c 238) 21 = .ok (.bipush 20, 2) := by decide +kernel
theorem d238_23 : decode (zz_c 238) 23 = .ok (.if_icmp .eq 7, 3) := by decide +kernel
theorem d238_26 : decode (zz_c 238) 26 = .ok (.iload_n 2, 1) := by decide +kernel
theorem d238_27 : decode (zz_c 238) 27 = .ok (.ifCond .ge 12, 3) := by decide +kernel
theorem d238_30 : decode (zz_c 238) 30 = .ok (.aload_n 0, 1) := by decide +kernel
theorem d238_31 : decode (zz_c 238) 31 = .ok (.iconst 4, 1) := by decide +kernel
theorem d238_32 : decode (zz_c 238) 32 = .ok (.aload_n 0, 1) := by decide +kernel
theorem d238_33 : decode (zz_c 238) 33 = .ok (.getfield 220, 3) := by decide +kernel
theorem d238_36 : decode (zz_c 238) 36 = .ok (.invokevirtual 288, 3) := by decide +kernel
theorem d238_39 : decode (zz_c 238) 39 = .ok (.aload_n 0, 1) := by decide +kernel
theorem d238_40 : decode (zz_c 238) 40 = .ok (.invokevirtual 247, 3) := by decide +kernel
theorem d238_43 : decode (zz_c 238) 43 = .ok (.ifCond .ne 4, 3) := by decide +kernel
theorem d238_46 : decode (zz_c 238) 46 = .ok (.return_, 1) := by decide +kernel
theorem d238_47 : decode (zz_c 238) 47 = .ok (.aload_n 0, 1) := by decide +kernel
theorem d238_48 : decode (zz_c 238) 48 = .ok (.invokevirtual 244, 3) := by decide +kernel
theorem d238_51 : decode (zz_c 238) 51 = .ok (.sipush 730, 3) := by decide +kernel
theorem d238_54 : decode (zz_c 238) 54 = .ok (.iload_n 1, 1) := by decide +kernel
theorem d238_55 : decode (zz_c 238) 55 = .ok (.invokestatic 77, 3) := by decide +kernel
theorem d238_58 : decode (zz_c 238) 58 = .ok (.iadd, 1) := by decide +kernel
theorem d238_59 : decode (zz_c 238) 59 = .ok (.istore_n 3, 1) := by decide +kernel
theorem d238_60 : decode (zz_c 238) 60 = .ok (.aload_n 0, 1) := by decide +kernel
theorem d238_61 : decode (zz_c 238) 61 = .ok (.iload_n 3, 1) := by decide +kernel
theorem d238_62 : decode (zz_c 238) 62 = .ok (.iconst 3, 1) := by decide +kernel
theorem d238_63 : decode (zz_c 238) 63 = .ok (.iadd, 1) := by decide +kernel
theorem d238_64 : decode (zz_c 238) 64 = .ok (.invokevirtual 298, 3) := by decide +kernel
theorem d238_67 : decode (zz_c 238) 67 = .ok (.aload_n 0, 1) := by decide +kernel
theorem d238_68 : decode (zz_c 238) 68 = .ok (.getfield 7, 3) := by decide +kernel
theorem d238_71 : decode (zz_c 238) 71 = .ok (.iload_n 3, 1) := by decide +kernel
theorem d238_72 : decode (zz_c 238) 72 = .ok (.iconst 0, 1) := by decide +kernel
theorem d238_73 : decode (zz_c 238) 73 = .ok (.iadd, 1) := by decide +kernel
theorem d238_74 : decode (zz_c 238) 74 = .ok (.iload_n 2, 1) := by decide +kernel
theorem d238_75 : decode (zz_c 238) 75 = .ok (.iastore, 1) := by decide +kernel
theorem d238_76 : decode (zz_c 238) 76 = .ok (.aload_n 0, 1) := by decide +kernel
theorem d238_77 : decode (zz_c 238) 77 = .ok (.getfield 7, 3) := by decide +kernel
theorem d238_80 : decode (zz_c 238) 80 = .ok (.iload_n 3, 1) := by decide +kernel
theorem d238_81 : decode (zz_c 238) 81 = .ok (.iconst 1, 1) := by decide +kernel
theorem d238_82 : decode (zz_c 238) 82 = .ok (.iadd, 1) := by decide +kernel
theorem d238_83 : decode (zz_c 238) 83 = .ok (.iconst (-1), 1) := by decide +kernel
theorem d238_84 : decode (zz_c 238) 84 = .ok (.iastore, 1) := by decide +kernel
theorem d238_85 : decode (zz_c 238) 85 = .ok (.aload_n 0, 1) := by decide +kernel
theorem d238_86 : decode (zz_c 238) 86 = .ok (.ldc2_w 266, 3) := by decide +kernel
theorem d238_89 : decode (zz_c 238) 89 = .ok (.invokevirtual 301, 3) := by decide +kernel
theorem d238_92 : decode (zz_c 238) 92 = .ok (.ifCond .eq 87, 3) := by decide +kernel
theorem d238_95 : decode (zz_c 238) 95 = .ok (.aload_n 0, 1) := by decide +kernel
theorem d238_96 : decode (zz_c 238) 96 = .ok (.invokevirtual 285, 3) := by decide +kernel
theorem d238_99 : decode (zz_c 238) 99 = .ok (.ifCond .ne 12, 3) := by decide +kernel
theorem d238_102 : decode (zz_c 238) 102 = .ok (.aload_n 0, 1) := by decide +kernel
theorem d238_103 : decode (zz_c 238) 103 = .ok (.iconst 1, 1) := by decide +kernel
theorem d238_104 : decode (zz_c 238) 104 = .ok (.aload_n 0, 1) := by decide +kernel
theorem d238_105 : decode (zz_c 238) 105 = .ok (.getfield 220, 3) := by decide +kernel
theorem d238_108 : decode (zz_c 238) 108 = .ok (.invokevirtual 288, 3) := by decide +kernel
theorem d238_111 : decode (zz_c 238) 111 = .ok (.aload_n 0, 1) := by decide +kernel
theorem d238_112 : decode (zz_c 238) 112 = .ok (.sipush 730, 3) := by decide +kernel
theorem d238_115 : decode (zz_c 238) 115 = .ok (.aload_n 0, 1) := by decide +kernel
theorem d238_116 : decode (zz_c 238) 116 = .ok (.getfield 223, 3) := by decide +kernel
theorem d238_119 : decode (zz_c 238) 119 = .ok (.invokevirtual 295, 3) := by decide +kernel
theorem d238_122 : decode (zz_c 238) 122 = .ok (.istore 4, 2) := by decide +kernel
theorem d238_124 : decode (zz_c 238) 124 = .ok (.iload 4, 2) := by decide +kernel
theorem d238_126 : decode (zz_c 238) 126 = .ok (.ifCond .lt 23, 3) := by decide +kernel
theorem d238_129 : decode (zz_c 238) 129 = .ok (.aload_n 0, 1) := by decide +kernel
theorem d238_130 : decode (zz_c 238) 130 = .ok (.getfield 7, 3) := by decide +kernel
theorem d238_133 : decode (zz_c 238) 133 = .ok (.sipush 730, 3) := by decide +kernel
theorem d238_136 : decode (zz_c 238) 136 = .ok (.iload 4, 2) := by decide +kernel
theorem d238_138 : decode (zz_c 238) 138 = .ok (.invokestatic 77, 3) := by decide +kernel
theorem d238_141 : decode (zz_c 238) 141 = .ok (.iadd, 1) := by decide +kernel
theorem d238_142 : decode (zz_c 238) 142 = .ok (.iconst 0, 1) := by decide +kernel
theorem d238_143 : decode (zz_c 238) 143 = .ok (.iadd, 1) := by decide +kernel
theorem d238_144 : decode (zz_c 238) 144 = .ok (.iaload, 1) := by decide +kernel
theorem d238_145 : decode (zz_c 238) 145 = .ok (.iload_n 2, 1) := by decide +kernel
theorem d238_146 : decode (zz_c 238) 146 = .ok (.if_icmp .eq 12, 3) := by decide +kernel
theorem d238_149 : decode (zz_c 238) 149 = .ok (.aload_n 0, 1) := by decide +kernel
theorem d238_150 : decode (zz_c 238) 150 = .ok (.iconst 3, 1) := by decide +kernel
theorem d238_151 : decode (zz_c 238) 151 = .ok (.aload_n 0, 1) := by decide +kernel
theorem d238_152 : decode (zz_c 238) 152 = .ok (.getfield 220, 3) := by decide +kernel
theorem d238_155 : decode (zz_c 238) 155 = .ok (.invokevirtual 288, 3) := by decide +kernel
theorem d238_158 : decode (zz_c 238) 158 = .ok (.aload_n 0, 1) := by decide +kernel
theorem d238_159 : decode (zz_c 238) 159 = .ok (.getfield 7, 3) := by decide +kernel
theorem d238_162 : decode (zz_c 238) 162 = .ok (.iload_n 3, 1) := by decide +kernel
theorem d238_163 : decode (zz_c 238) 163 = .ok (.iconst 1, 1) := by decide +kernel
theorem d238_164 : decode (zz_c 238) 164 = .ok (.iadd, 1) := by decide +kernel
theorem d238_165 : decode (zz_c 238) 165 = .ok (.iload 4, 2) := by decide +kernel
theorem d238_167 : decode (zz_c 238) 167 = .ok (.iastore, 1) := by decide +kernel
theorem d238_168 : decode (zz_c 238) 168 = .ok (.aload_n 0, 1) := by decide +kernel
theorem d238_169 : decode (zz_c 238) 169 = .ok (.invokevirtual 247, 3) := by decide +kernel
theorem d238_172 : decode (zz_c 238) 172 = .ok (.ifCond .eq 7, 3) := by decide +kernel
theorem d238_175 : decode (zz_c 238) 175 = .ok (.aload_n 0, 1) := by decide +kernel
theorem d238_176 : decode (zz_c 238) 176 = .ok (.invokevirtual 244, 3) := by decide +kernel
theorem d238_179 : decode (zz_c 238) 179 = .ok (.aload_n 0, 1) := by decide +kernel
theorem d238_180 : decode (zz_c 238) 180 = .ok (.invokevirtual 247, 3) := by decide +kernel
theorem d238_183 : decode (zz_c 238) 183 = .ok (.ifCond .eq 15, 3) := by decide +kernel
theorem d238_186 : decode (zz_c 238) 186 = .ok (.aload_n 0, 1) := by decide +kernel
theorem d238_187 : decode (zz_c 238) 187 = .ok (.getfield 7, 3) := by decide +kernel
theorem d238_190 : decode (zz_c 238) 190 = .ok (.sipush 731, 3) := by decide +kernel
theorem d238_193 : decode (zz_c 238) 193 = .ok (.dup2, 1) := by decide +kernel
theorem d238_194 : decode (zz_c 238) 194 = .ok (.iaload, 1) := by decide +kernel
theorem d238_195 : decode (zz_c 238) 195 = .ok (.iconst 1, 1) := by decide +kernel
theorem d238_196 : decode (zz_c 238) 196 = .ok (.iadd, 1) := by decide +kernel
theorem d238_197 : decode (zz_c 238) 197 = .ok (.iastore, 1) := by decide +kernel
theorem d238_198 : decode (zz_c 238) 198 = .ok (.return_, 1) := by decide +kernel
theorem x238_p0 : (∀ l1 l2 l3 l4 x st h, zz_Y 238 (0, [some (.ref x), l1, l2, l3, l4], st, h) = zz_Y 238 (1, [some (.ref x), l1, l2, l3, l4], .ref x :: st, h)) ∧ (∀ ls a st h, zz_Y 238 (1, ls, .ref a :: st, h) = mo_gf (hp_g h a) 11 0 238 4 ls st h) ∧ (∀ ls st h, zz_Y 238 (4, ls, st, h) = zz_Y 238 (7, ls, .int (nI 731) :: st, h)) ∧ (∀ ls a i st h, zz_Y 238 (7, ls, .int i :: .ref a :: st, h) = mo_ia (hp_g h a) i a 238 8 ls st h) ∧ (∀ l0 l1 l2 l3 l4 x st h, zz_nl l0 = true → zz_Y 238 (8, [l0, l1, l2, l3, l4], .int x :: st, h) = zz_Y 238 (9, [l0, some (.int x), l2, l3, l4], st, h)) ∧ (∀ l1 l2 l3 l4 x st h, zz_Y 238 (9, [some (.ref x), l1, l2, l3, l4], st, h) = zz_Y 238 (10, [some (.ref x), l1, l2, l3, l4], .ref x :: st, h)) ∧ (∀ ls a st h, zz_Y 238 (10, ls, .ref a :: st, h) = mo_gf (hp_g h a) 11 0 238 13 ls st h) ∧ (∀ ls st h, zz_Y 238 (13, ls, st, h) = zz_Y 238 (16, ls, .int (nI 730) :: st, h)) ∧ (∀ ls a i st h, zz_Y 238 (16, ls, .int i :: .ref a :: st, h) = mo_ia (hp_g h a) i a 238 17 ls st h) ∧ (∀ ls st h, zz_Y 238 (17, ls, st, h) = zz_Y 238 (18, ls, .int (nI 1) :: st, h)) ∧ (∀ ls a b st h, zz_Y 238 (18, ls, .int b :: .int a :: st, h) = zz_Y 238 (19, ls, .int (a - b) :: st, h)) ∧ (∀ l0 l1 l2 l3 l4 x st h, zz_nl l1 = true → zz_Y 238 (19, [l0, l1, l2, l3, l4], .int x :: st, h) = zz_Y 238 (20, [l0, l1, some (.int x), l3, l4], st, h)) ∧ (∀ l0 l2 l3 l4 x st h, zz_Y 238 (20, [l0, some (.int x), l2, l3, l4], st, h) = zz_Y 238 (21, [l0, some (.int x), l2, l3, l4], .int x :: st, h)) ∧ (∀ ls st h, zz_Y 238 (21, ls, st, h) = zz_Y 238 (23, ls, .int (nI 20) :: st, h)) ∧ (∀ ls a b st h, zz_Y 238 (23, ls, .int b :: .int a :: st, h) = if a = b then zz_Y 238 (30, ls, st, h) else zz_Y 238 (26, ls, st, h)) ∧ (∀ l0 l1 l3 l4 x st h, zz_Y 238 (26, [l0, l1, some (.int x), l3, l4], st, h) = zz_Y 238 (27, [l0, l1, some (.int x), l3, l4], .int x :: st, h)) ∧ (∀ ls a st h, zz_Y 238 (27, ls, .int a :: st, h) = if a < nI 0 then zz_Y 238 (30, ls, st, h) else zz_Y 238 (39, ls, st, h)) ∧ (∀ l1 l2 l3 l4 x st h, zz_Y 238 (30, [some (.ref x), l1, l2, l3, l4], st, h) = zz_Y 238 (31, [some (.ref x), l1, l2, l3, l4], .ref x :: st, h)) ∧ (∀ ls st h, zz_Y 238 (31, ls, st, h) = zz_Y 238 (32, ls, .int (nI 4) :: st, h)) ∧ (∀ l1 l2 l3 l4 x st h, zz_Y 238 (32, [some (.ref x), l1, l2, l3, l4], st, h) = zz_Y 238 (33, [some (.ref x), l1, l2, l3, l4], .ref x :: st, h)) ∧ (∀ ls a st h, zz_Y 238 (33, ls, .ref a :: st, h) = mo_gf (hp_g h a) 11 16 238 36 ls st h) ∧ (∀ ls a0 a1 a2 h, zz_Y 238 (36, ls, [a2, a1, a0], h) = mo_k 238 39 ls [] (zz_run 231 [a0, a1, a2] h)) ∧ (∀ l1 l2 l3 l4 x st h, zz_Y 238 (39, [some (.ref x), l1, l2, l3, l4], st, h) = zz_Y 238 (40, [some (.ref x), l1, l2, l3, l4], .ref x :: st, h)) ∧ (∀ ls a0 h, zz_Y 238 (40, ls, [a0], h) = mo_k 238 43 ls [] (zz_run 227 [a0] h)) ∧ (∀ ls a st h, zz_Y 238 (43, ls, .int a :: st, h) = if a = nI 0 then zz_Y 238 (46, ls, st, h) else zz_Y 238 (47, ls, st, h)) ∧ (∀ ls h, zz_Y 238 (46, ls, [], h) = some (none, h)) ∧ (∀ l1 l2 l3 l4 x st h, zz_Y 238 (47, [some (.ref x), l1, l2, l3, l4], st, h) = zz_Y 238 (48, [some (.ref x), l1, l2, l3, l4], .ref x :: st, h)) ∧ (∀ ls a0 h, zz_Y 238 (48, ls, [a0], h) = mo_k 238 51 ls [] (zz_run 223 [a0] h)) ∧ (∀ ls st h, zz_Y 238 (51, ls, st, h) = zz_Y 238 (54, ls, .int (nI 730) :: st, h)) ∧ (∀ l0 l2 l3 l4 x st h, zz_Y 238 (54, [l0, some (.int x), l2, l3, l4], st, h) = zz_Y 238 (55, [l0, some (.int x), l2, l3, l4], .int x :: st, h)) ∧ (∀ ls a0 s0 h, zz_Y 238 (55, ls, [a0, s0], h) = mo_k 238 58 ls [s0] (zz_run 158 [a0] h)) ∧ (∀ ls a b st h, zz_Y 238 (58, ls, .int b :: .int a :: st, h) = zz_Y 238 (59, ls, .int (a + b) :: st, h)) ∧ (∀ l0 l1 l2 l3 l4 x st h, zz_nl l2 = true → zz_Y 238 (59, [l0, l1, l2, l3, l4], .int x :: st, h) = zz_Y 238 (60, [l0, l1, l2, some (.int x), l4], st, h)) ∧ (∀ l1 l2 l3 l4 x st h, zz_Y 238 (60, [some (.ref x), l1, l2, l3, l4], st, h) = zz_Y 238 (61, [some (.ref x), l1, l2, l3, l4], .ref x :: st, h)) ∧ (∀ l0 l1 l2 l4 x st h, zz_Y 238 (61, [l0, l1, l2, some (.int x), l4], st, h) = zz_Y 238 (62, [l0, l1, l2, some (.int x), l4], .int x :: st, h)) ∧ (∀ ls st h, zz_Y 238 (62, ls, st, h) = zz_Y 238 (63, ls, .int (nI 3) :: st, h)) ∧ (∀ ls a b st h, zz_Y 238 (63, ls, .int b :: .int a :: st, h) = zz_Y 238 (64, ls, .int (a + b) :: st, h)) ∧ (∀ ls a0 a1 h, zz_Y 238 (64, ls, [a1, a0], h) = mo_k 238 67 ls [] (zz_run 232 [a0, a1] h)) ∧ (∀ l1 l2 l3 l4 x st h, zz_Y 238 (67, [some (.ref x), l1, l2, l3, l4], st, h) = zz_Y 238 (68, [some (.ref x), l1, l2, l3, l4], .ref x :: st, h)) ∧ (∀ ls a st h, zz_Y 238 (68, ls, .ref a :: st, h) = mo_gf (hp_g h a) 11 0 238 71 ls st h) ∧ (∀ l0 l1 l2 l4 x st h, zz_Y 238 (71, [l0, l1, l2, some (.int x), l4], st, h) = zz_Y 238 (72, [l0, l1, l2, some (.int x), l4], .int x :: st, h)) ∧ (∀ ls st h, zz_Y 238 (72, ls, st, h) = zz_Y 238 (73, ls, .int (nI 0) :: st, h)) ∧ (∀ ls a b st h, zz_Y 238 (73, ls, .int b :: .int a :: st, h) = zz_Y 238 (74, ls, .int (a + b) :: st, h)) ∧ (∀ l0 l1 l3 l4 x st h, zz_Y 238 (74, [l0, l1, some (.int x), l3, l4], st, h) = zz_Y 238 (75, [l0, l1, some (.int x), l3, l4], .int x :: st, h)) ∧ (∀ ls a i x st h, zz_Y 238 (75, ls, .int x :: .int i :: .ref a :: st, h) = mo_is (hp_g h a) x i a 238 76 ls st h) ∧ (∀ l1 l2 l3 l4 x st h, zz_Y 238 (76, [some (.ref x), l1, l2, l3, l4], st, h) = zz_Y 238 (77, [some (.ref x), l1, l2, l3, l4], .ref x :: st, h)) ∧ (∀ ls a st h, zz_Y 238 (77, ls, .ref a :: st, h) = mo_gf (hp_g h a) 11 0 238 80 ls st h) ∧ (∀ l0 l1 l2 l4 x st h, zz_Y 238 (80, [l0, l1, l2, some (.int x), l4], st, h) = zz_Y 238 (81, [l0, l1, l2, some (.int x), l4], .int x :: st, h)) ∧ (∀ ls st h, zz_Y 238 (81, ls, st, h) = zz_Y 238 (82, ls, .int (nI 1) :: st, h)) ∧ (∀ ls a b st h, zz_Y 238 (82, ls, .int b :: .int a :: st, h) = zz_Y 238 (83, ls, .int (a + b) :: st, h)) ∧ (∀ ls st h, zz_Y 238 (83, ls, st, h) = zz_Y 238 (84, ls, .int (-1) :: st, h)) ∧ (∀ ls a i x st h, zz_Y 238 (84, ls, .int x :: .int i :: .ref a :: st, h) = mo_is (hp_g h a) x i a 238 85 ls st h) ∧ (∀ l1 l2 l3 l4 x st h, zz_Y 238 (85, [some (.ref x), l1, l2, l3, l4], st, h) = zz_Y 238 (86, [some (.ref x), l1, l2, l3, l4], .ref x :: st, h)) ∧ (∀ ls st h, zz_Y 238 (86, ls, st, h) = zz_Y 238 (89, ls, .long (lN 257) :: st, h)) ∧ (∀ ls a0 a1 h, zz_Y 238 (89, ls, [a1, a0], h) = mo_k 238 92 ls [] (zz_run 239 [a0, a1] h)) ∧ (∀ ls a st h, zz_Y 238 (92, ls, .int a :: st, h) = if a = nI 0 then zz_Y 238 (179, ls, st, h) else zz_Y 238 (95, ls, st, h)) ∧ (∀ l1 l2 l3 l4 x st h, zz_Y 238 (95, [some (.ref x), l1, l2, l3, l4], st, h) = zz_Y 238 (96, [some (.ref x), l1, l2, l3, l4], .ref x :: st, h)) ∧ (∀ ls a0 h, zz_Y 238 (96, ls, [a0], h) = mo_k 238 99 ls [] (zz_run 233 [a0] h)) ∧ (∀ ls a st h, zz_Y 238 (99, ls, .int a :: st, h) = if a = nI 0 then zz_Y 238 (102, ls, st, h) else zz_Y 238 (111, ls, st, h)) ∧ (∀ l1 l2 l3 l4 x st h, zz_Y 238 (102, [some (.ref x), l1, l2, l3, l4], st, h) = zz_Y 238 (103, [some (.ref x), l1, l2, l3, l4], .ref x :: st, h)) :=
  ⟨fun _ _ _ _ _ _ _ => xl_aln d238_0 rfl,
   fun _ _ _ _ => xl_gf d238_1 xco238 xf_11_7,
   fun _ _ _ => xl_si d238_4 (by decide +kernel),
   fun _ _ _ _ _ => xl_ia d238_7,
   fun _ _ _ _ _ _ _ _ hc => xl_isn d238_8 xml238 (by decide) (zz_nl_s1 hc),
   fun _ _ _ _ _ _ _ => xl_aln d238_9 rfl,
   fun _ _ _ _ => xl_gf d238_10 xco238 xf_11_7,
   fun _ _ _ => xl_si d238_13 (by decide +kernel),
   fun _ _ _ _ _ => xl_ia d238_16,
   fun _ _ _ => xl_ic d238_17 (by decide +kernel),
   fun _ _ _ _ _ => xl_isub d238_18,
   fun _ _ _ _ _ _ _ _ hc => xl_isn d238_19 xml238 (by decide) (zz_nl_s1 hc),
   fun _ _ _ _ _ _ _ => xl_iln d238_20 rfl,
   fun _ _ _ => xl_bi d238_21 (by decide +kernel),
   fun _ _ _ _ _ => xl_iceq d238_23 rfl,
   fun _ _ _ _ _ _ _ => xl_iln d238_26 rfl,
   fun _ _ _ _ => xl_ifge d238_27 rfl,
   fun _ _ _ _ _ _ _ => xl_aln d238_30 rfl,
   fun _ _ _ => xl_ic d238_31 (by decide +kernel),
   fun _ _ _ _ _ _ _ => xl_aln d238_32 rfl,
   fun _ _ _ _ => xl_gf d238_33 xco238 xf_11_220,
   fun ls a0 a1 a2 h => xl_cv (As := [a0, a1, a2]) (st := []) d238_36 xco238 xm_11_288 (congrArg Nat.succ xnp231) (by decide +kernel) rfl,
   fun _ _ _ _ _ _ _ => xl_aln d238_39 rfl,
   fun ls a0 h => xl_cv (As := [a0]) (st := []) d238_40 xco238 xm_11_247 (congrArg Nat.succ xnp227) (by decide +kernel) rfl,
   fun _ _ _ _ => xl_ifne d238_43 rfl,
   fun _ _ => xl_r d238_46 xrt238,
   fun _ _ _ _ _ _ _ => xl_aln d238_47 rfl,
   fun ls a0 h => xl_cv (As := [a0]) (st := []) d238_48 xco238 xm_11_244 (congrArg Nat.succ xnp223) (by decide +kernel) rfl,
   fun _ _ _ => xl_si d238_51 (by decide +kernel),
   fun _ _ _ _ _ _ _ => xl_iln d238_54 rfl,
   fun ls a0 s0 h => xl_cs (As := [a0]) (st := [s0]) d238_55 xco238 xm_11_77 xnp158 (by decide +kernel) rfl,
   fun _ _ _ _ _ => xl_iadd d238_58,
   fun _ _ _ _ _ _ _ _ hc => xl_isn d238_59 xml238 (by decide) (zz_nl_s1 hc),
   fun _ _ _ _ _ _ _ => xl_aln d238_60 rfl,
   fun _ _ _ _ _ _ _ => xl_iln d238_61 rfl,
   fun _ _ _ => xl_ic d238_62 (by decide +kernel),
   fun _ _ _ _ _ => xl_iadd d238_63,
   fun ls a0 a1 h => xl_cv (As := [a0, a1]) (st := []) d238_64 xco238 xm_11_298 (congrArg Nat.succ xnp232) (by decide +kernel) rfl,
   fun _ _ _ _ _ _ _ => xl_aln d238_67 rfl,
   fun _ _ _ _ => xl_gf d238_68 xco238 xf_11_7,
   fun _ _ _ _ _ _ _ => xl_iln d238_71 rfl,
   fun _ _ _ => xl_ic d238_72 (by decide +kernel),
   fun _ _ _ _ _ => xl_iadd d238_73,
   fun _ _ _ _ _ _ _ => xl_iln d238_74 rfl,
   fun _ _ _ _ _ _ => xl_ist d238_75,
   fun _ _ _ _ _ _ _ => xl_aln d238_76 rfl,
   fun _ _ _ _ => xl_gf d238_77 xco238 xf_11_7,
   fun _ _ _ _ _ _ _ => xl_iln d238_80 rfl,
   fun _ _ _ => xl_ic d238_81 (by decide +kernel),
   fun _ _ _ _ _ => xl_iadd d238_82,
   fun _ _ _ => xl_ic d238_83 (by decide +kernel),
   fun _ _ _ _ _ _ => xl_ist d238_84,
   fun _ _ _ _ _ _ _ => xl_aln d238_85 rfl,
   fun _ _ _ => xl_jw d238_86 xco238 (by decide +kernel),
   fun ls a0 a1 h => xl_cv (As := [a0, a1]) (st := []) d238_89 xco238 xm_11_301 (congrArg Nat.succ xnp239) (by decide +kernel) rfl,
   fun _ _ _ _ => xl_ifeq d238_92 rfl,
   fun _ _ _ _ _ _ _ => xl_aln d238_95 rfl,
   fun ls a0 h => xl_cv (As := [a0]) (st := []) d238_96 xco238 xm_11_285 (congrArg Nat.succ xnp233) (by decide +kernel) rfl,
   fun _ _ _ _ => xl_ifne d238_99 rfl,
   fun _ _ _ _ _ _ _ => xl_aln d238_102 rfl⟩
theorem x238_p1 : (∀ ls st h, zz_Y 238 (103, ls, st, h) = zz_Y 238 (104, ls, .int (nI 1) :: st, h)) ∧ (∀ l1 l2 l3 l4 x st h, zz_Y 238 (104, [some (.ref x), l1, l2, l3, l4], st, h) = zz_Y 238 (105, [some (.ref x), l1, l2, l3, l4], .ref x :: st, h)) ∧ (∀ ls a st h, zz_Y 238 (105, ls, .ref a :: st, h) = mo_gf (hp_g h a) 11 16 238 108 ls st h) ∧ (∀ ls a0 a1 a2 h, zz_Y 238 (108, ls, [a2, a1, a0], h) = mo_k 238 111 ls [] (zz_run 231 [a0, a1, a2] h)) ∧ (∀ l1 l2 l3 l4 x st h, zz_Y 238 (111, [some (.ref x), l1, l2, l3, l4], st, h) = zz_Y 238 (112, [some (.ref x), l1, l2, l3, l4], .ref x :: st, h)) ∧ (∀ ls st h, zz_Y 238 (112, ls, st, h) = zz_Y 238 (115, ls, .int (nI 730) :: st, h)) ∧ (∀ l1 l2 l3 l4 x st h, zz_Y 238 (115, [some (.ref x), l1, l2, l3, l4], st, h) = zz_Y 238 (116, [some (.ref x), l1, l2, l3, l4], .ref x :: st, h)) ∧ (∀ ls a st h, zz_Y 238 (116, ls, .ref a :: st, h) = mo_gf (hp_g h a) 11 17 238 119 ls st h) ∧ (∀ ls a0 a1 a2 h, zz_Y 238 (119, ls, [a2, a1, a0], h) = mo_k 238 122 ls [] (zz_run 237 [a0, a1, a2] h)) ∧ (∀ l0 l1 l2 l3 l4 x st h, zz_nl l3 = true → zz_Y 238 (122, [l0, l1, l2, l3, l4], .int x :: st, h) = zz_Y 238 (124, [l0, l1, l2, l3, some (.int x)], st, h)) ∧ (∀ l0 l1 l2 l3 x st h, zz_Y 238 (124, [l0, l1, l2, l3, some (.int x)], st, h) = zz_Y 238 (126, [l0, l1, l2, l3, some (.int x)], .int x :: st, h)) ∧ (∀ ls a st h, zz_Y 238 (126, ls, .int a :: st, h) = if a < nI 0 then zz_Y 238 (149, ls, st, h) else zz_Y 238 (129, ls, st, h)) ∧ (∀ l1 l2 l3 l4 x st h, zz_Y 238 (129, [some (.ref x), l1, l2, l3, l4], st, h) = zz_Y 238 (130, [some (.ref x), l1, l2, l3, l4], .ref x :: st, h)) ∧ (∀ ls a st h, zz_Y 238 (130, ls, .ref a :: st, h) = mo_gf (hp_g h a) 11 0 238 133 ls st h) ∧ (∀ ls st h, zz_Y 238 (133, ls, st, h) = zz_Y 238 (136, ls, .int (nI 730) :: st, h)) ∧ (∀ l0 l1 l2 l3 x st h, zz_Y 238 (136, [l0, l1, l2, l3, some (.int x)], st, h) = zz_Y 238 (138, [l0, l1, l2, l3, some (.int x)], .int x :: st, h)) ∧ (∀ ls a0 s0 s1 h, zz_Y 238 (138, ls, [a0, s0, s1], h) = mo_k 238 141 ls [s0, s1] (zz_run 158 [a0] h)) ∧ (∀ ls a b st h, zz_Y 238 (141, ls, .int b :: .int a :: st, h) = zz_Y 238 (142, ls, .int (a + b) :: st, h)) ∧ (∀ ls st h, zz_Y 238 (142, ls, st, h) = zz_Y 238 (143, ls, .int (nI 0) :: st, h)) ∧ (∀ ls a b st h, zz_Y 238 (143, ls, .int b :: .int a :: st, h) = zz_Y 238 (144, ls, .int (a + b) :: st, h)) ∧ (∀ ls a i st h, zz_Y 238 (144, ls, .int i :: .ref a :: st, h) = mo_ia (hp_g h a) i a 238 145 ls st h) ∧ (∀ l0 l1 l3 l4 x st h, zz_Y 238 (145, [l0, l1, some (.int x), l3, l4], st, h) = zz_Y 238 (146, [l0, l1, some (.int x), l3, l4], .int x :: st, h)) ∧ (∀ ls a b st h, zz_Y 238 (146, ls, .int b :: .int a :: st, h) = if a = b then zz_Y 238 (158, ls, st, h) else zz_Y 238 (149, ls, st, h)) ∧ (∀ l1 l2 l3 l4 x st h, zz_Y 238 (149, [some (.ref x), l1, l2, l3, l4], st, h) = zz_Y 238 (150, [some (.ref x), l1, l2, l3, l4], .ref x :: st, h)) ∧ (∀ ls st h, zz_Y 238 (150, ls, st, h) = zz_Y 238 (151, ls, .int (nI 3) :: st, h)) ∧ (∀ l1 l2 l3 l4 x st h, zz_Y 238 (151, [some (.ref x), l1, l2, l3, l4], st, h) = zz_Y 238 (152, [some (.ref x), l1, l2, l3, l4], .ref x :: st, h)) ∧ (∀ ls a st h, zz_Y 238 (152, ls, .ref a :: st, h) = mo_gf (hp_g h a) 11 16 238 155 ls st h) ∧ (∀ ls a0 a1 a2 h, zz_Y 238 (155, ls, [a2, a1, a0], h) = mo_k 238 158 ls [] (zz_run 231 [a0, a1, a2] h)) ∧ (∀ l1 l2 l3 l4 x st h, zz_Y 238 (158, [some (.ref x), l1, l2, l3, l4], st, h) = zz_Y 238 (159, [some (.ref x), l1, l2, l3, l4], .ref x :: st, h)) ∧ (∀ ls a st h, zz_Y 238 (159, ls, .ref a :: st, h) = mo_gf (hp_g h a) 11 0 238 162 ls st h) ∧ (∀ l0 l1 l2 l4 x st h, zz_Y 238 (162, [l0, l1, l2, some (.int x), l4], st, h) = zz_Y 238 (163, [l0, l1, l2, some (.int x), l4], .int x :: st, h)) ∧ (∀ ls st h, zz_Y 238 (163, ls, st, h) = zz_Y 238 (164, ls, .int (nI 1) :: st, h)) ∧ (∀ ls a b st h, zz_Y 238 (164, ls, .int b :: .int a :: st, h) = zz_Y 238 (165, ls, .int (a + b) :: st, h)) ∧ (∀ l0 l1 l2 l3 x st h, zz_Y 238 (165, [l0, l1, l2, l3, some (.int x)], st, h) = zz_Y 238 (167, [l0, l1, l2, l3, some (.int x)], .int x :: st, h)) ∧ (∀ ls a i x st h, zz_Y 238 (167, ls, .int x :: .int i :: .ref a :: st, h) = mo_is (hp_g h a) x i a 238 168 ls st h) ∧ (∀ l1 l2 l3 l4 x st h, zz_Y 238 (168, [some (.ref x), l1, l2, l3, l4], st, h) = zz_Y 238 (169, [some (.ref x), l1, l2, l3, l4], .ref x :: st, h)) ∧ (∀ ls a0 h, zz_Y 238 (169, ls, [a0], h) = mo_k 238 172 ls [] (zz_run 227 [a0] h)) ∧ (∀ ls a st h, zz_Y 238 (172, ls, .int a :: st, h) = if a = nI 0 then zz_Y 238 (179, ls, st, h) else zz_Y 238 (175, ls, st, h)) ∧ (∀ l1 l2 l3 l4 x st h, zz_Y 238 (175, [some (.ref x), l1, l2, l3, l4], st, h) = zz_Y 238 (176, [some (.ref x), l1, l2, l3, l4], .ref x :: st, h)) ∧ (∀ ls a0 h, zz_Y 238 (176, ls, [a0], h) = mo_k 238 179 ls [] (zz_run 223 [a0] h)) ∧ (∀ l1 l2 l3 l4 x st h, zz_Y 238 (179, [some (.ref x), l1, l2, l3, l4], st, h) = zz_Y 238 (180, [some (.ref x), l1, l2, l3, l4], .ref x :: st, h)) ∧ (∀ ls a0 h, zz_Y 238 (180, ls, [a0], h) = mo_k 238 183 ls [] (zz_run 227 [a0] h)) ∧ (∀ ls a st h, zz_Y 238 (183, ls, .int a :: st, h) = if a = nI 0 then zz_Y 238 (198, ls, st, h) else zz_Y 238 (186, ls, st, h)) ∧ (∀ l1 l2 l3 l4 x st h, zz_Y 238 (186, [some (.ref x), l1, l2, l3, l4], st, h) = zz_Y 238 (187, [some (.ref x), l1, l2, l3, l4], .ref x :: st, h)) ∧ (∀ ls a st h, zz_Y 238 (187, ls, .ref a :: st, h) = mo_gf (hp_g h a) 11 0 238 190 ls st h) ∧ (∀ ls st h, zz_Y 238 (190, ls, st, h) = zz_Y 238 (193, ls, .int (nI 731) :: st, h)) ∧ (∀ ls a b st h, zz_Y 238 (193, ls, .int b :: .ref a :: st, h) = zz_Y 238 (194, ls, .int b :: .ref a :: .int b :: .ref a :: st, h)) ∧ (∀ ls a i st h, zz_Y 238 (194, ls, .int i :: .ref a :: st, h) = mo_ia (hp_g h a) i a 238 195 ls st h) ∧ (∀ ls st h, zz_Y 238 (195, ls, st, h) = zz_Y 238 (196, ls, .int (nI 1) :: st, h)) ∧ (∀ ls a b st h, zz_Y 238 (196, ls, .int b :: .int a :: st, h) = zz_Y 238 (197, ls, .int (a + b) :: st, h)) ∧ (∀ ls a i x st h, zz_Y 238 (197, ls, .int x :: .int i :: .ref a :: st, h) = mo_is (hp_g h a) x i a 238 198 ls st h) ∧ (∀ ls h, zz_Y 238 (198, ls, [], h) = some (none, h)) :=
  ⟨fun _ _ _ => xl_ic d238_103 (by decide +kernel),
   fun _ _ _ _ _ _ _ => xl_aln d238_104 rfl,
   fun _ _ _ _ => xl_gf d238_105 xco238 xf_11_220,
   fun ls a0 a1 a2 h => xl_cv (As := [a0, a1, a2]) (st := []) d238_108 xco238 xm_11_288 (congrArg Nat.succ xnp231) (by decide +kernel) rfl,
   fun _ _ _ _ _ _ _ => xl_aln d238_111 rfl,
   fun _ _ _ => xl_si d238_112 (by decide +kernel),
   fun _ _ _ _ _ _ _ => xl_aln d238_115 rfl,
   fun _ _ _ _ => xl_gf d238_116 xco238 xf_11_223,
   fun ls a0 a1 a2 h => xl_cv (As := [a0, a1, a2]) (st := []) d238_119 xco238 xm_11_295 (congrArg Nat.succ xnp237) (by decide +kernel) rfl,
   fun _ _ _ _ _ _ _ _ hc => xl_is d238_122 xml238 (by decide) (zz_nl_s1 hc),
   fun _ _ _ _ _ _ _ => xl_il d238_124 rfl,
   fun _ _ _ _ => xl_iflt d238_126 rfl,
   fun _ _ _ _ _ _ _ => xl_aln d238_129 rfl,
   fun _ _ _ _ => xl_gf d238_130 xco238 xf_11_7,
   fun _ _ _ => xl_si d238_133 (by decide +kernel),
   fun _ _ _ _ _ _ _ => xl_il d238_136 rfl,
   fun ls a0 s0 s1 h => xl_cs (As := [a0]) (st := [s0, s1]) d238_138 xco238 xm_11_77 xnp158 (by decide +kernel) rfl,
   fun _ _ _ _ _ => xl_iadd d238_141,
   fun _ _ _ => xl_ic d238_142 (by decide +kernel),
   fun _ _ _ _ _ => xl_iadd d238_143,
   fun _ _ _ _ _ => xl_ia d238_144,
   fun _ _ _ _ _ _ _ => xl_iln d238_145 rfl,
   fun _ _ _ _ _ => xl_iceq d238_146 rfl,
   fun _ _ _ _ _ _ _ => xl_aln d238_149 rfl,
   fun _ _ _ => xl_ic d238_150 (by decide +kernel),
   fun _ _ _ _ _ _ _ => xl_aln d238_151 rfl,
   fun _ _ _ _ => xl_gf d238_152 xco238 xf_11_220,
   fun ls a0 a1 a2 h => xl_cv (As := [a0, a1, a2]) (st := []) d238_155 xco238 xm_11_288 (congrArg Nat.succ xnp231) (by decide +kernel) rfl,
   fun _ _ _ _ _ _ _ => xl_aln d238_158 rfl,
   fun _ _ _ _ => xl_gf d238_159 xco238 xf_11_7,
   fun _ _ _ _ _ _ _ => xl_iln d238_162 rfl,
   fun _ _ _ => xl_ic d238_163 (by decide +kernel),
   fun _ _ _ _ _ => xl_iadd d238_164,
   fun _ _ _ _ _ _ _ => xl_il d238_165 rfl,
   fun _ _ _ _ _ _ => xl_ist d238_167,
   fun _ _ _ _ _ _ _ => xl_aln d238_168 rfl,
   fun ls a0 h => xl_cv (As := [a0]) (st := []) d238_169 xco238 xm_11_247 (congrArg Nat.succ xnp227) (by decide +kernel) rfl,
   fun _ _ _ _ => xl_ifeq d238_172 rfl,
   fun _ _ _ _ _ _ _ => xl_aln d238_175 rfl,
   fun ls a0 h => xl_cv (As := [a0]) (st := []) d238_176 xco238 xm_11_244 (congrArg Nat.succ xnp223) (by decide +kernel) rfl,
   fun _ _ _ _ _ _ _ => xl_aln d238_179 rfl,
   fun ls a0 h => xl_cv (As := [a0]) (st := []) d238_180 xco238 xm_11_247 (congrArg Nat.succ xnp227) (by decide +kernel) rfl,
   fun _ _ _ _ => xl_ifeq d238_183 rfl,
   fun _ _ _ _ _ _ _ => xl_aln d238_186 rfl,
   fun _ _ _ _ => xl_gf d238_187 xco238 xf_11_7,
   fun _ _ _ => xl_si d238_190 (by decide +kernel),
   fun _ _ _ _ _ => xl_dup2 d238_193,
   fun _ _ _ _ _ => xl_ia d238_194,
   fun _ _ _ => xl_ic d238_195 (by decide +kernel),
   fun _ _ _ _ _ => xl_iadd d238_196,
   fun _ _ _ _ _ _ => xl_ist d238_197,
   fun _ _ => xl_r d238_198 xrt238⟩
/-! 239 FacetSieveModel.hasWord(J)Z -/
theorem d239_0 : decode (zz_c 239) 0 = .ok (.aload_n 0, 1) := by decide +kernel
theorem d239_1 : decode (zz_c 239) 1 = .ok (.lload_n 1, 1) := by decide +kernel
theorem d239_2 : decode (zz_c 239) 2 = .ok (.invokevirtual 251, 3) := by decide +kernel
theorem d239_5 : decode (zz_c 239) 5 = .ok (.istore_n 3, 1) := by decide +kernel
theorem d239_6 : decode (zz_c 239) 6 = .ok (.iload_n 3, 1) := by decide +kernel
theorem d239_7 : decode (zz_c 239) 7 = .ok (.ifCond .eq 7, 3) := by decide +kernel
theorem d239_10 : decode (zz_c 239) 10 = .ok (.aload_n 0, 1) := by decide +kernel
theorem d239_11 : decode (zz_c 239) 11 = .ok (.invokevirtual 244, 3) := by decide +kernel
theorem d239_14 : decode (zz_c 239) 14 = .ok (.iload_n 3, 1) := by decide +kernel
theorem d239_15 : decode (zz_c 239) 15 = .ok (.ireturn, 1) := by decide +kernel
theorem x239 : (∀ l1 l2 l3 x st h, zz_Y 239 (0, [some (.ref x), l1, l2, l3], st, h) = zz_Y 239 (1, [some (.ref x), l1, l2, l3], .ref x :: st, h)) ∧ (∀ l0 l2 l3 x st h, zz_Y 239 (1, [l0, some (.long x), l2, l3], st, h) = zz_Y 239 (2, [l0, some (.long x), l2, l3], .long x :: st, h)) ∧ (∀ ls a0 a1 h, zz_Y 239 (2, ls, [a1, a0], h) = mo_k 239 5 ls [] (zz_run 229 [a0, a1] h)) ∧ (∀ l0 l1 l2 l3 x st h, zz_nl l2 = true → zz_Y 239 (5, [l0, l1, l2, l3], .int x :: st, h) = zz_Y 239 (6, [l0, l1, l2, some (.int x)], st, h)) ∧ (∀ l0 l1 l2 x st h, zz_Y 239 (6, [l0, l1, l2, some (.int x)], st, h) = zz_Y 239 (7, [l0, l1, l2, some (.int x)], .int x :: st, h)) ∧ (∀ ls a st h, zz_Y 239 (7, ls, .int a :: st, h) = if a = nI 0 then zz_Y 239 (14, ls, st, h) else zz_Y 239 (10, ls, st, h)) ∧ (∀ l1 l2 l3 x st h, zz_Y 239 (10, [some (.ref x), l1, l2, l3], st, h) = zz_Y 239 (11, [some (.ref x), l1, l2, l3], .ref x :: st, h)) ∧ (∀ ls a0 h, zz_Y 239 (11, ls, [a0], h) = mo_k 239 14 ls [] (zz_run 223 [a0] h)) ∧ (∀ l0 l1 l2 x st h, zz_Y 239 (14, [l0, l1, l2, some (.int x)], st, h) = zz_Y 239 (15, [l0, l1, l2, some (.int x)], .int x :: st, h)) ∧ (∀ ls v h, v = nI 0 ∨ v = nI 1 → zz_Y 239 (15, ls, [.int v], h) = some (some (.int v), h)) :=
  ⟨fun _ _ _ _ _ _ => xl_aln d239_0 rfl,
   fun _ _ _ _ _ _ => xl_lln d239_1 rfl,
   fun ls a0 a1 h => xl_cv (As := [a0, a1]) (st := []) d239_2 xco239 xm_11_251 (congrArg Nat.succ xnp229) (by decide +kernel) rfl,
   fun _ _ _ _ _ _ _ hc => xl_isn d239_5 xml239 (by decide) (zz_nl_s1 hc),
   fun _ _ _ _ _ _ => xl_iln d239_6 rfl,
   fun _ _ _ _ => xl_ifeq d239_7 rfl,
   fun _ _ _ _ _ _ => xl_aln d239_10 rfl,
   fun ls a0 h => xl_cv (As := [a0]) (st := []) d239_11 xco239 xm_11_244 (congrArg Nat.succ xnp223) (by decide +kernel) rfl,
   fun _ _ _ _ _ _ => xl_iln d239_14 rfl,
   fun _ _ _ hc => xl_irz d239_15 xrt239 hc⟩
/-! 240 FacetSieveModel.readsRecord()V -/
theorem d240_0 : decode (zz_c 240) 0 = .ok (.aload_n 0, 1) := by decide +kernel
theorem d240_1 : decode (zz_c 240) 1 = .ok (.invokevirtual 244, 3) := by decide +kernel
theorem d240_4 : decode (zz_c 240) 4 = .ok (.aload_n 0, 1) := by decide +kernel
theorem d240_5 : decode (zz_c 240) 5 = .ok (.iconst 0, 1) := by decide +kernel
theorem d240_6 : decode (zz_c 240) 6 = .ok (.sipush 255, 3) := by decide +kernel
theorem d240_9 : decode (zz_c 240) 9 = .ok (.invokevirtual 304, 3) := by decide +kernel
theorem d240_12 : decode (zz_c 240) 12 = .ok (.istore_n 1, 1) := by decide +kernel
theorem d240_13 : decode (zz_c 240) 13 = .ok (.aload_n 0, 1) := by decide +kernel
theorem d240_14 : decode (zz_c 240) 14 = .ok (.invokevirtual 247, 3) := by decide +kernel
theorem d240_17 : decode (zz_c 240) 17 = .ok (.ifCond .eq 23, 3) := by decide +kernel
theorem d240_20 : decode (zz_c 240) 20 = .ok (.aload_n 0, 1) := by decide +kernel
theorem d240_21 : decode (zz_c 240) 21 = .ok (.sipush 1024, 3) := by decide +kernel
theorem d240_24 : decode (zz_c 240) 24 = .ok (.iload_n 1, 1) := by decide +kernel
theorem d240_25 : decode (zz_c 240) 25 = .ok (.invokevirtual 65, 3) := by decide +kernel
theorem d240_28 : decode (zz_c 240) 28 = .ok (.ifCond .eq 12, 3) := by decide +kernel
theorem d240_31 : decode (zz_c 240) 31 = .ok (.aload_n 0, 1) := by decide +kernel
theorem d240_32 : decode (zz_c 240) 32 = .ok (.iconst 5, 1) := by decide +kernel
theorem d240_33 : decode (zz_c 240) 33 = .ok (.aload_n 0, 1) := by decide +kernel
theorem d240_34 : decode (zz_c 240) 34 = .ok (.getfield 220, 3) := by decide +kernel
theorem d240_37 : decode (zz_c 240) 37 = .ok (.invokevirtual 288, 3) := by decide +kernel
theorem d240_40 : decode (zz_c 240) 40 = .ok (.aload_n 0, 1) := by decide +kernel
theorem d240_41 : decode (zz_c 240) 41 = .ok (.invokevirtual 247, 3) := by decide +kernel
theorem d240_44 : decode (zz_c 240) 44 = .ok (.ifCond .eq 7, 3) := by decide +kernel
theorem d240_47 : decode (zz_c 240) 47 = .ok (.aload_n 0, 1) := by decide +kernel
theorem d240_48 : decode (zz_c 240) 48 = .ok (.invokevirtual 244, 3) := by decide +kernel
theorem d240_51 : decode (zz_c 240) 51 = .ok (.aload_n 0, 1) := by decide +kernel
theorem d240_52 : decode (zz_c 240) 52 = .ok (.iconst 0, 1) := by decide +kernel
theorem d240_53 : decode (zz_c 240) 53 = .ok (.sipush 999, 3) := by decide +kernel
theorem d240_56 : decode (zz_c 240) 56 = .ok (.invokevirtual 304, 3) := by decide +kernel
theorem d240_59 : decode (zz_c 240) 59 = .ok (.istore_n 2, 1) := by decide +kernel
theorem d240_60 : decode (zz_c 240) 60 = .ok (.aload_n 0, 1) := by decide +kernel
theorem d240_61 : decode (zz_c 240) 61 = .ok (.invokevirtual 247, 3) := by decide +kernel
theorem d240_64 : decode (zz_c 240) 64 = .ok (.ifCond .ne 4, 3) := by decide +kernel
theorem d240_67 : decode (zz_c 240) 67 = .ok (.return_, 1) := by decide +kernel
theorem d240_68 : decode (zz_c 240) 68 = .ok (.aload_n 0, 1) := by decide +kernel
theorem d240_69 : decode (zz_c 240) 69 = .ok (.invokevirtual 244, 3) := by decide +kernel
theorem d240_72 : decode (zz_c 240) 72 = .ok (.aload_n 0, 1) := by decide +kernel
theorem d240_73 : decode (zz_c 240) 73 = .ok (.sipush 1024, 3) := by decide +kernel
theorem d240_76 : decode (zz_c 240) 76 = .ok (.iload_n 1, 1) := by decide +kernel
theorem d240_77 : decode (zz_c 240) 77 = .ok (.invokevirtual 200, 3) := by decide +kernel
theorem d240_80 : decode (zz_c 240) 80 = .ok (.aload_n 0, 1) := by decide +kernel
theorem d240_81 : decode (zz_c 240) 81 = .ok (.getfield 7, 3) := by decide +kernel
theorem d240_84 : decode (zz_c 240) 84 = .ok (.sipush 1192, 3) := by decide +kernel
theorem d240_87 : decode (zz_c 240) 87 = .ok (.iload_n 1, 1) := by decide +kernel
theorem d240_88 : decode (zz_c 240) 88 = .ok (.iadd, 1) := by decide +kernel
theorem d240_89 : decode (zz_c 240) 89 = .ok (.iload_n 2, 1) := by decide +kernel
theorem d240_90 : decode (zz_c 240) 90 = .ok (.iastore, 1) := by decide +kernel
theorem d240_91 : decode (zz_c 240) 91 = .ok (.aload_n 0, 1) := by decide +kernel
theorem d240_92 : decode (zz_c 240) 92 = .ok (.invokevirtual 285, 3) := by decide +kernel
theorem d240_95 : decode (zz_c 240) 95 = .ok (.ifCond .eq 11, 3) := by decide +kernel
theorem d240_98 : decode (zz_c 240) 98 = .ok (.aload_n 0, 1) := by decide +kernel
theorem d240_99 : decode (zz_c 240) 99 = .ok (.iload_n 1, 1) := by decide +kernel
theorem d240_100 : decode (zz_c 240) 100 = .ok (.invokevirtual 307, 3) := by decide +kernel
theorem d240_103 : decode (zz_c 240) 103 = .ok (.goto (-12), 3) := by decide +kernel
theorem d240_106 : decode (zz_c 240) 106 = .ok (.return_, 1) := by decide +kernel
theorem x240 : (∀ l1 l2 x st h, zz_Y 240 (0, [some (.ref x), l1, l2], st, h) = zz_Y 240 (1, [some (.ref x), l1, l2], .ref x :: st, h)) ∧ (∀ ls a0 h, zz_Y 240 (1, ls, [a0], h) = mo_k 240 4 ls [] (zz_run 223 [a0] h)) ∧ (∀ l1 l2 x st h, zz_Y 240 (4, [some (.ref x), l1, l2], st, h) = zz_Y 240 (5, [some (.ref x), l1, l2], .ref x :: st, h)) ∧ (∀ ls st h, zz_Y 240 (5, ls, st, h) = zz_Y 240 (6, ls, .int (nI 0) :: st, h)) ∧ (∀ ls st h, zz_Y 240 (6, ls, st, h) = zz_Y 240 (9, ls, .int (nI 255) :: st, h)) ∧ (∀ ls a0 a1 a2 h, zz_Y 240 (9, ls, [a2, a1, a0], h) = mo_k 240 12 ls [] (zz_run 241 [a0, a1, a2] h)) ∧ (∀ l0 l1 l2 x st h, zz_nl l0 = true → zz_Y 240 (12, [l0, l1, l2], .int x :: st, h) = zz_Y 240 (13, [l0, some (.int x), l2], st, h)) ∧ (∀ l1 l2 x st h, zz_Y 240 (13, [some (.ref x), l1, l2], st, h) = zz_Y 240 (14, [some (.ref x), l1, l2], .ref x :: st, h)) ∧ (∀ ls a0 h, zz_Y 240 (14, ls, [a0], h) = mo_k 240 17 ls [] (zz_run 227 [a0] h)) ∧ (∀ ls a st h, zz_Y 240 (17, ls, .int a :: st, h) = if a = nI 0 then zz_Y 240 (40, ls, st, h) else zz_Y 240 (20, ls, st, h)) ∧ (∀ l1 l2 x st h, zz_Y 240 (20, [some (.ref x), l1, l2], st, h) = zz_Y 240 (21, [some (.ref x), l1, l2], .ref x :: st, h)) ∧ (∀ ls st h, zz_Y 240 (21, ls, st, h) = zz_Y 240 (24, ls, .int (nI 1024) :: st, h)) ∧ (∀ l0 l2 x st h, zz_Y 240 (24, [l0, some (.int x), l2], st, h) = zz_Y 240 (25, [l0, some (.int x), l2], .int x :: st, h)) ∧ (∀ ls a0 a1 a2 h, zz_Y 240 (25, ls, [a2, a1, a0], h) = mo_k 240 28 ls [] (zz_run 189 [a0, a1, a2] h)) ∧ (∀ ls a st h, zz_Y 240 (28, ls, .int a :: st, h) = if a = nI 0 then zz_Y 240 (40, ls, st, h) else zz_Y 240 (31, ls, st, h)) ∧ (∀ l1 l2 x st h, zz_Y 240 (31, [some (.ref x), l1, l2], st, h) = zz_Y 240 (32, [some (.ref x), l1, l2], .ref x :: st, h)) ∧ (∀ ls st h, zz_Y 240 (32, ls, st, h) = zz_Y 240 (33, ls, .int (nI 5) :: st, h)) ∧ (∀ l1 l2 x st h, zz_Y 240 (33, [some (.ref x), l1, l2], st, h) = zz_Y 240 (34, [some (.ref x), l1, l2], .ref x :: st, h)) ∧ (∀ ls a st h, zz_Y 240 (34, ls, .ref a :: st, h) = mo_gf (hp_g h a) 11 16 240 37 ls st h) ∧ (∀ ls a0 a1 a2 h, zz_Y 240 (37, ls, [a2, a1, a0], h) = mo_k 240 40 ls [] (zz_run 231 [a0, a1, a2] h)) ∧ (∀ l1 l2 x st h, zz_Y 240 (40, [some (.ref x), l1, l2], st, h) = zz_Y 240 (41, [some (.ref x), l1, l2], .ref x :: st, h)) ∧ (∀ ls a0 h, zz_Y 240 (41, ls, [a0], h) = mo_k 240 44 ls [] (zz_run 227 [a0] h)) ∧ (∀ ls a st h, zz_Y 240 (44, ls, .int a :: st, h) = if a = nI 0 then zz_Y 240 (51, ls, st, h) else zz_Y 240 (47, ls, st, h)) ∧ (∀ l1 l2 x st h, zz_Y 240 (47, [some (.ref x), l1, l2], st, h) = zz_Y 240 (48, [some (.ref x), l1, l2], .ref x :: st, h)) ∧ (∀ ls a0 h, zz_Y 240 (48, ls, [a0], h) = mo_k 240 51 ls [] (zz_run 223 [a0] h)) ∧ (∀ l1 l2 x st h, zz_Y 240 (51, [some (.ref x), l1, l2], st, h) = zz_Y 240 (52, [some (.ref x), l1, l2], .ref x :: st, h)) ∧ (∀ ls st h, zz_Y 240 (52, ls, st, h) = zz_Y 240 (53, ls, .int (nI 0) :: st, h)) ∧ (∀ ls st h, zz_Y 240 (53, ls, st, h) = zz_Y 240 (56, ls, .int (nI 999) :: st, h)) ∧ (∀ ls a0 a1 a2 h, zz_Y 240 (56, ls, [a2, a1, a0], h) = mo_k 240 59 ls [] (zz_run 241 [a0, a1, a2] h)) ∧ (∀ l0 l1 l2 x st h, zz_nl l1 = true → zz_Y 240 (59, [l0, l1, l2], .int x :: st, h) = zz_Y 240 (60, [l0, l1, some (.int x)], st, h)) ∧ (∀ l1 l2 x st h, zz_Y 240 (60, [some (.ref x), l1, l2], st, h) = zz_Y 240 (61, [some (.ref x), l1, l2], .ref x :: st, h)) ∧ (∀ ls a0 h, zz_Y 240 (61, ls, [a0], h) = mo_k 240 64 ls [] (zz_run 227 [a0] h)) ∧ (∀ ls a st h, zz_Y 240 (64, ls, .int a :: st, h) = if a = nI 0 then zz_Y 240 (67, ls, st, h) else zz_Y 240 (68, ls, st, h)) ∧ (∀ ls h, zz_Y 240 (67, ls, [], h) = some (none, h)) ∧ (∀ l1 l2 x st h, zz_Y 240 (68, [some (.ref x), l1, l2], st, h) = zz_Y 240 (69, [some (.ref x), l1, l2], .ref x :: st, h)) ∧ (∀ ls a0 h, zz_Y 240 (69, ls, [a0], h) = mo_k 240 72 ls [] (zz_run 223 [a0] h)) ∧ (∀ l1 l2 x st h, zz_Y 240 (72, [some (.ref x), l1, l2], st, h) = zz_Y 240 (73, [some (.ref x), l1, l2], .ref x :: st, h)) ∧ (∀ ls st h, zz_Y 240 (73, ls, st, h) = zz_Y 240 (76, ls, .int (nI 1024) :: st, h)) ∧ (∀ l0 l2 x st h, zz_Y 240 (76, [l0, some (.int x), l2], st, h) = zz_Y 240 (77, [l0, some (.int x), l2], .int x :: st, h)) ∧ (∀ ls a0 a1 a2 h, zz_Y 240 (77, ls, [a2, a1, a0], h) = mo_k 240 80 ls [] (zz_run 208 [a0, a1, a2] h)) ∧ (∀ l1 l2 x st h, zz_Y 240 (80, [some (.ref x), l1, l2], st, h) = zz_Y 240 (81, [some (.ref x), l1, l2], .ref x :: st, h)) ∧ (∀ ls a st h, zz_Y 240 (81, ls, .ref a :: st, h) = mo_gf (hp_g h a) 11 0 240 84 ls st h) ∧ (∀ ls st h, zz_Y 240 (84, ls, st, h) = zz_Y 240 (87, ls, .int (nI 1192) :: st, h)) ∧ (∀ l0 l2 x st h, zz_Y 240 (87, [l0, some (.int x), l2], st, h) = zz_Y 240 (88, [l0, some (.int x), l2], .int x :: st, h)) ∧ (∀ ls a b st h, zz_Y 240 (88, ls, .int b :: .int a :: st, h) = zz_Y 240 (89, ls, .int (a + b) :: st, h)) ∧ (∀ l0 l1 x st h, zz_Y 240 (89, [l0, l1, some (.int x)], st, h) = zz_Y 240 (90, [l0, l1, some (.int x)], .int x :: st, h)) ∧ (∀ ls a i x st h, zz_Y 240 (90, ls, .int x :: .int i :: .ref a :: st, h) = mo_is (hp_g h a) x i a 240 91 ls st h) ∧ (∀ ls a0 h, zz_Y 240 (92, ls, [a0], h) = mo_k 240 95 ls [] (zz_run 233 [a0] h)) ∧ (∀ ls a st h, zz_Y 240 (95, ls, .int a :: st, h) = if a = nI 0 then zz_Y 240 (106, ls, st, h) else zz_Y 240 (98, ls, st, h)) ∧ (∀ l1 l2 x st h, zz_Y 240 (98, [some (.ref x), l1, l2], st, h) = zz_Y 240 (99, [some (.ref x), l1, l2], .ref x :: st, h)) ∧ (∀ l0 l2 x st h, zz_Y 240 (99, [l0, some (.int x), l2], st, h) = zz_Y 240 (100, [l0, some (.int x), l2], .int x :: st, h)) ∧ (∀ ls a0 a1 h, zz_Y 240 (100, ls, [a1, a0], h) = mo_k 240 103 ls [] (zz_run 242 [a0, a1] h)) ∧ (∀ ls st h, zz_Y 240 (103, ls, st, h) = zz_Y 240 (91, ls, st, h)) ∧ (∀ ls h, zz_Y 240 (106, ls, [], h) = some (none, h)) :=
  ⟨fun _ _ _ _ _ => xl_aln d240_0 rfl,
   fun ls a0 h => xl_cv (As := [a0]) (st := []) d240_1 xco240 xm_11_244 (congrArg Nat.succ xnp223) (by decide +kernel) rfl,
   fun _ _ _ _ _ => xl_aln d240_4 rfl,
   fun _ _ _ => xl_ic d240_5 (by decide +kernel),
   fun _ _ _ => xl_si d240_6 (by decide +kernel),
   fun ls a0 a1 a2 h => xl_cv (As := [a0, a1, a2]) (st := []) d240_9 xco240 xm_11_304 (congrArg Nat.succ xnp241) (by decide +kernel) rfl,
   fun _ _ _ _ _ _ hc => xl_isn d240_12 xml240 (by decide) (zz_nl_s1 hc),
   fun _ _ _ _ _ => xl_aln d240_13 rfl,
   fun ls a0 h => xl_cv (As := [a0]) (st := []) d240_14 xco240 xm_11_247 (congrArg Nat.succ xnp227) (by decide +kernel) rfl,
   fun _ _ _ _ => xl_ifeq d240_17 rfl,
   fun _ _ _ _ _ => xl_aln d240_20 rfl,
   fun _ _ _ => xl_si d240_21 (by decide +kernel),
   fun _ _ _ _ _ => xl_iln d240_24 rfl,
   fun ls a0 a1 a2 h => xl_cv (As := [a0, a1, a2]) (st := []) d240_25 xco240 xm_11_65 (congrArg Nat.succ xnp189) (by decide +kernel) rfl,
   fun _ _ _ _ => xl_ifeq d240_28 rfl,
   fun _ _ _ _ _ => xl_aln d240_31 rfl,
   fun _ _ _ => xl_ic d240_32 (by decide +kernel),
   fun _ _ _ _ _ => xl_aln d240_33 rfl,
   fun _ _ _ _ => xl_gf d240_34 xco240 xf_11_220,
   fun ls a0 a1 a2 h => xl_cv (As := [a0, a1, a2]) (st := []) d240_37 xco240 xm_11_288 (congrArg Nat.succ xnp231) (by decide +kernel) rfl,
   fun _ _ _ _ _ => xl_aln d240_40 rfl,
   fun ls a0 h => xl_cv (As := [a0]) (st := []) d240_41 xco240 xm_11_247 (congrArg Nat.succ xnp227) (by decide +kernel) rfl,
   fun _ _ _ _ => xl_ifeq d240_44 rfl,
   fun _ _ _ _ _ => xl_aln d240_47 rfl,
   fun ls a0 h => xl_cv (As := [a0]) (st := []) d240_48 xco240 xm_11_244 (congrArg Nat.succ xnp223) (by decide +kernel) rfl,
   fun _ _ _ _ _ => xl_aln d240_51 rfl,
   fun _ _ _ => xl_ic d240_52 (by decide +kernel),
   fun _ _ _ => xl_si d240_53 (by decide +kernel),
   fun ls a0 a1 a2 h => xl_cv (As := [a0, a1, a2]) (st := []) d240_56 xco240 xm_11_304 (congrArg Nat.succ xnp241) (by decide +kernel) rfl,
   fun _ _ _ _ _ _ hc => xl_isn d240_59 xml240 (by decide) (zz_nl_s1 hc),
   fun _ _ _ _ _ => xl_aln d240_60 rfl,
   fun ls a0 h => xl_cv (As := [a0]) (st := []) d240_61 xco240 xm_11_247 (congrArg Nat.succ xnp227) (by decide +kernel) rfl,
   fun _ _ _ _ => xl_ifne d240_64 rfl,
   fun _ _ => xl_r d240_67 xrt240,
   fun _ _ _ _ _ => xl_aln d240_68 rfl,
   fun ls a0 h => xl_cv (As := [a0]) (st := []) d240_69 xco240 xm_11_244 (congrArg Nat.succ xnp223) (by decide +kernel) rfl,
   fun _ _ _ _ _ => xl_aln d240_72 rfl,
   fun _ _ _ => xl_si d240_73 (by decide +kernel),
   fun _ _ _ _ _ => xl_iln d240_76 rfl,
   fun ls a0 a1 a2 h => xl_cv (As := [a0, a1, a2]) (st := []) d240_77 xco240 xm_11_200 (congrArg Nat.succ xnp208) (by decide +kernel) rfl,
   fun _ _ _ _ _ => xl_aln d240_80 rfl,
   fun _ _ _ _ => xl_gf d240_81 xco240 xf_11_7,
   fun _ _ _ => xl_si d240_84 (by decide +kernel),
   fun _ _ _ _ _ => xl_iln d240_87 rfl,
   fun _ _ _ _ _ => xl_iadd d240_88,
   fun _ _ _ _ _ => xl_iln d240_89 rfl,
   fun _ _ _ _ _ _ => xl_ist d240_90,
   fun ls a0 h => xl_cv (As := [a0]) (st := []) d240_92 xco240 xm_11_285 (congrArg Nat.succ xnp233) (by decide +kernel) rfl,
   fun _ _ _ _ => xl_ifeq d240_95 rfl,
   fun _ _ _ _ _ => xl_aln d240_98 rfl,
   fun _ _ _ _ _ => xl_iln d240_99 rfl,
   fun ls a0 a1 h => xl_cv (As := [a0, a1]) (st := []) d240_100 xco240 xm_11_307 (congrArg Nat.succ xnp242) (by decide +kernel) rfl,
   fun _ _ _ => xl_goto d240_103 rfl,
   fun _ _ => xl_r d240_106 xrt240⟩
theorem x240_c91 : ∀ l1 l2 x st h, zz_Y 240 (91, [some (.ref x), l1, l2], st, h) = zz_Y 240 (92, [some (.ref x), l1, l2], .ref x :: st, h) := fun _ _ _ _ _ => xl_aln d240_91 rfl
/-! 241 FacetSieveModel.numeral(II)I -/
theorem d241_0 : decode (zz_c 241) 0 = .ok (.aload_n 0, 1) := by decide +kernel
theorem d241_1 : decode (zz_c 241) 1 = .ok (.invokevirtual 247, 3) := by decide +kernel
theorem d241_4 : decode (zz_c 241) 4 = .ok (.ifCond .eq 20, 3) := by decide +kernel
theorem d241_7 : decode (zz_c 241) 7 = .ok (.aload_n 0, 1) := by decide +kernel
theorem d241_8 : decode (zz_c 241) 8 = .ok (.getfield 227, 3) := by decide +kernel
theorem d241_11 : decode (zz_c 241) 11 = .ok (.iconst 2, 1) := by decide +kernel
theorem d241_12 : decode (zz_c 241) 12 = .ok (.if_icmp .eq 12, 3) := by decide +kernel
theorem d241_15 : decode (zz_c 241) 15 = .ok (.aload_n 0, 1) := by decide +kernel
theorem d241_16 : decode (zz_c 241) 16 = .ok (.iconst 1, 1) := by decide +kernel
theorem d241_17 : decode (zz_c 241) 17 = .ok (.aload_n 0, 1) := by decide +kernel
theorem d241_18 : decode (zz_c 241) 18 = .ok (.getfield 220, 3) := by decide +kernel
theorem d241_21 : decode (zz_c 241) 21 = .ok (.invokevirtual 288, 3) := by decide +kernel
theorem d241_24 : decode (zz_c 241) 24 = .ok (.aload_n 0, 1) := by decide +kernel
theorem d241_25 : decode (zz_c 241) 25 = .ok (.invokevirtual 247, 3) := by decide +kernel
theorem d241_28 : decode (zz_c 241) 28 = .ok (.ifCond .eq 32, 3) := by decide +kernel
theorem d241_31 : decode (zz_c 241) 31 = .ok (.aload_n 0, 1) := by decide +kernel
theorem d241_32 : decode (zz_c 241) 32 = .ok (.getfield 223, 3) := by decide +kernel
theorem d241_35 : decode (zz_c 241) 35 = .ok (.iload_n 1, 1) := by decide +kernel
theorem d241_36 : decode (zz_c 241) 36 = .ok (.i2l, 1) := by decide +kernel
theorem d241_37 : decode (zz_c 241) 37 = .ok (.lcmp, 1) := by decide +kernel
theorem d241_38 : decode (zz_c 241) 38 = .ok (.ifCond .lt 13, 3) := by decide +kernel
theorem d241_41 : decode (zz_c 241) 41 = .ok (.aload_n 0, 1) := by decide +kernel
theorem d241_42 : decode (zz_c 241) 42 = .ok (.getfield 223, 3) := by decide +kernel
theorem d241_45 : decode (zz_c 241) 45 = .ok (.iload_n 2, 1) := by decide +kernel
theorem d241_46 : decode (zz_c 241) 46 = .ok (.i2l, 1) := by decide +kernel
theorem d241_47 : decode (zz_c 241) 47 = .ok (.lcmp, 1) := by decide +kernel
theorem d241_48 : decode (zz_c 241) 48 = .ok (.ifCond .le 12, 3) := by decide +kernel
theorem d241_51 : decode (zz_c 241) 51 = .ok (.aload_n 0, 1) := by decide +kernel
theorem d241_52 : decode (zz_c 241) 52 = .ok (.iconst 2, 1) := by decide +kernel
theorem d241_53 : decode (zz_c 241) 53 = .ok (.aload_n 0, 1) := by decide +kernel
theorem d241_54 : decode (zz_c 241) 54 = .ok (.getfield 220, 3) := by decide +kernel
theorem d241_57 : decode (zz_c 241) 57 = .ok (.invokevirtual 288, 3) := by decide +kernel
theorem d241_60 : decode (zz_c 241) 60 = .ok (.aload_n 0, 1) := by decide +kernel
theorem d241_61 : decode (zz_c 241) 61 = .ok (.invokevirtual 247, 3) := by decide +kernel
theorem d241_64 : decode (zz_c 241) 64 = .ok (.ifCond .eq 11, 3) := by decide +kernel
theorem d241_67 : decode (zz_c 241) 67 = .ok (.aload_n 0, 1) := by decide +kernel
theorem d241_68 : decode (zz_c 241) 68 = .ok (.getfield 223, 3) := by decide +kernel
theorem d241_71 : decode (zz_c 241) 71 = .ok (.l2i, 1) := by decide +kernel
theorem d241_72 : decode (zz_c 241) 72 = .ok (.goto 4, 3) := by decide +kernel
theorem d241_75 : decode (zz_c 241) 75 = .ok (.iload_n 1, 1) := by decide +kernel
theorem d241_76 : decode (zz_c 241) 76 = .ok (.ireturn, 1) := by decide +kernel
theorem x241 : (∀ l1 l2 x st h, zz_Y 241 (0, [some (.ref x), l1, l2], st, h) = zz_Y 241 (1, [some (.ref x), l1, l2], .ref x :: st, h)) ∧ (∀ ls a0 h, zz_Y 241 (1, ls, [a0], h) = mo_k 241 4 ls [] (zz_run 227 [a0] h)) ∧ (∀ ls a st h, zz_Y 241 (4, ls, .int a :: st, h) = if a = nI 0 then zz_Y 241 (24, ls, st, h) else zz_Y 241 (7, ls, st, h)) ∧ (∀ l1 l2 x st h, zz_Y 241 (7, [some (.ref x), l1, l2], st, h) = zz_Y 241 (8, [some (.ref x), l1, l2], .ref x :: st, h)) ∧ (∀ ls a st h, zz_Y 241 (8, ls, .ref a :: st, h) = mo_gf (hp_g h a) 11 15 241 11 ls st h) ∧ (∀ ls st h, zz_Y 241 (11, ls, st, h) = zz_Y 241 (12, ls, .int (nI 2) :: st, h)) ∧ (∀ ls a b st h, zz_Y 241 (12, ls, .int b :: .int a :: st, h) = if a = b then zz_Y 241 (24, ls, st, h) else zz_Y 241 (15, ls, st, h)) ∧ (∀ l1 l2 x st h, zz_Y 241 (15, [some (.ref x), l1, l2], st, h) = zz_Y 241 (16, [some (.ref x), l1, l2], .ref x :: st, h)) ∧ (∀ ls st h, zz_Y 241 (16, ls, st, h) = zz_Y 241 (17, ls, .int (nI 1) :: st, h)) ∧ (∀ l1 l2 x st h, zz_Y 241 (17, [some (.ref x), l1, l2], st, h) = zz_Y 241 (18, [some (.ref x), l1, l2], .ref x :: st, h)) ∧ (∀ ls a st h, zz_Y 241 (18, ls, .ref a :: st, h) = mo_gf (hp_g h a) 11 16 241 21 ls st h) ∧ (∀ ls a0 a1 a2 h, zz_Y 241 (21, ls, [a2, a1, a0], h) = mo_k 241 24 ls [] (zz_run 231 [a0, a1, a2] h)) ∧ (∀ l1 l2 x st h, zz_Y 241 (24, [some (.ref x), l1, l2], st, h) = zz_Y 241 (25, [some (.ref x), l1, l2], .ref x :: st, h)) ∧ (∀ ls a0 h, zz_Y 241 (25, ls, [a0], h) = mo_k 241 28 ls [] (zz_run 227 [a0] h)) ∧ (∀ ls a st h, zz_Y 241 (28, ls, .int a :: st, h) = if a = nI 0 then zz_Y 241 (60, ls, st, h) else zz_Y 241 (31, ls, st, h)) ∧ (∀ l1 l2 x st h, zz_Y 241 (31, [some (.ref x), l1, l2], st, h) = zz_Y 241 (32, [some (.ref x), l1, l2], .ref x :: st, h)) ∧ (∀ ls a st h, zz_Y 241 (32, ls, .ref a :: st, h) = mo_gf (hp_g h a) 11 17 241 35 ls st h) ∧ (∀ l0 l2 x st h, zz_Y 241 (35, [l0, some (.int x), l2], st, h) = zz_Y 241 (36, [l0, some (.int x), l2], .int x :: st, h)) ∧ (∀ ls a st h, zz_Y 241 (36, ls, .int a :: st, h) = zz_Y 241 (37, ls, .long a.toInt64 :: st, h)) ∧ (∀ ls a b st h, zz_Y 241 (37, ls, .long b :: .long a :: st, h) = zz_Y 241 (38, ls, .int (lg_cmp a b) :: st, h)) ∧ (∀ ls a st h, zz_Y 241 (38, ls, .int a :: st, h) = if a < nI 0 then zz_Y 241 (51, ls, st, h) else zz_Y 241 (41, ls, st, h)) ∧ (∀ l1 l2 x st h, zz_Y 241 (41, [some (.ref x), l1, l2], st, h) = zz_Y 241 (42, [some (.ref x), l1, l2], .ref x :: st, h)) ∧ (∀ ls a st h, zz_Y 241 (42, ls, .ref a :: st, h) = mo_gf (hp_g h a) 11 17 241 45 ls st h) ∧ (∀ l0 l1 x st h, zz_Y 241 (45, [l0, l1, some (.int x)], st, h) = zz_Y 241 (46, [l0, l1, some (.int x)], .int x :: st, h)) ∧ (∀ ls a st h, zz_Y 241 (46, ls, .int a :: st, h) = zz_Y 241 (47, ls, .long a.toInt64 :: st, h)) ∧ (∀ ls a b st h, zz_Y 241 (47, ls, .long b :: .long a :: st, h) = zz_Y 241 (48, ls, .int (lg_cmp a b) :: st, h)) ∧ (∀ ls a st h, zz_Y 241 (48, ls, .int a :: st, h) = if nI 0 < a then zz_Y 241 (51, ls, st, h) else zz_Y 241 (60, ls, st, h)) ∧ (∀ l1 l2 x st h, zz_Y 241 (51, [some (.ref x), l1, l2], st, h) = zz_Y 241 (52, [some (.ref x), l1, l2], .ref x :: st, h)) ∧ (∀ ls st h, zz_Y 241 (52, ls, st, h) = zz_Y 241 (53, ls, .int (nI 2) :: st, h)) ∧ (∀ l1 l2 x st h, zz_Y 241 (53, [some (.ref x), l1, l2], st, h) = zz_Y 241 (54, [some (.ref x), l1, l2], .ref x :: st, h)) ∧ (∀ ls a st h, zz_Y 241 (54, ls, .ref a :: st, h) = mo_gf (hp_g h a) 11 16 241 57 ls st h) ∧ (∀ ls a0 a1 a2 h, zz_Y 241 (57, ls, [a2, a1, a0], h) = mo_k 241 60 ls [] (zz_run 231 [a0, a1, a2] h)) ∧ (∀ l1 l2 x st h, zz_Y 241 (60, [some (.ref x), l1, l2], st, h) = zz_Y 241 (61, [some (.ref x), l1, l2], .ref x :: st, h)) ∧ (∀ ls a0 h, zz_Y 241 (61, ls, [a0], h) = mo_k 241 64 ls [] (zz_run 227 [a0] h)) ∧ (∀ ls a st h, zz_Y 241 (64, ls, .int a :: st, h) = if a = nI 0 then zz_Y 241 (75, ls, st, h) else zz_Y 241 (67, ls, st, h)) ∧ (∀ l1 l2 x st h, zz_Y 241 (67, [some (.ref x), l1, l2], st, h) = zz_Y 241 (68, [some (.ref x), l1, l2], .ref x :: st, h)) ∧ (∀ ls a st h, zz_Y 241 (68, ls, .ref a :: st, h) = mo_gf (hp_g h a) 11 17 241 71 ls st h) ∧ (∀ ls a st h, zz_Y 241 (71, ls, .long a :: st, h) = zz_Y 241 (72, ls, .int a.toInt32 :: st, h)) ∧ (∀ ls st h, zz_Y 241 (72, ls, st, h) = zz_Y 241 (76, ls, st, h)) ∧ (∀ l0 l2 x st h, zz_Y 241 (75, [l0, some (.int x), l2], st, h) = zz_Y 241 (76, [l0, some (.int x), l2], .int x :: st, h)) ∧ (∀ ls v h, zz_Y 241 (76, ls, [.int v], h) = some (some (.int v), h)) :=
  ⟨fun _ _ _ _ _ => xl_aln d241_0 rfl,
   fun ls a0 h => xl_cv (As := [a0]) (st := []) d241_1 xco241 xm_11_247 (congrArg Nat.succ xnp227) (by decide +kernel) rfl,
   fun _ _ _ _ => xl_ifeq d241_4 rfl,
   fun _ _ _ _ _ => xl_aln d241_7 rfl,
   fun _ _ _ _ => xl_gf d241_8 xco241 xf_11_227,
   fun _ _ _ => xl_ic d241_11 (by decide +kernel),
   fun _ _ _ _ _ => xl_iceq d241_12 rfl,
   fun _ _ _ _ _ => xl_aln d241_15 rfl,
   fun _ _ _ => xl_ic d241_16 (by decide +kernel),
   fun _ _ _ _ _ => xl_aln d241_17 rfl,
   fun _ _ _ _ => xl_gf d241_18 xco241 xf_11_220,
   fun ls a0 a1 a2 h => xl_cv (As := [a0, a1, a2]) (st := []) d241_21 xco241 xm_11_288 (congrArg Nat.succ xnp231) (by decide +kernel) rfl,
   fun _ _ _ _ _ => xl_aln d241_24 rfl,
   fun ls a0 h => xl_cv (As := [a0]) (st := []) d241_25 xco241 xm_11_247 (congrArg Nat.succ xnp227) (by decide +kernel) rfl,
   fun _ _ _ _ => xl_ifeq d241_28 rfl,
   fun _ _ _ _ _ => xl_aln d241_31 rfl,
   fun _ _ _ _ => xl_gf d241_32 xco241 xf_11_223,
   fun _ _ _ _ _ => xl_iln d241_35 rfl,
   fun _ _ _ _ => xl_i2l d241_36,
   fun _ _ _ _ _ => xl_lcmp d241_37,
   fun _ _ _ _ => xl_iflt d241_38 rfl,
   fun _ _ _ _ _ => xl_aln d241_41 rfl,
   fun _ _ _ _ => xl_gf d241_42 xco241 xf_11_223,
   fun _ _ _ _ _ => xl_iln d241_45 rfl,
   fun _ _ _ _ => xl_i2l d241_46,
   fun _ _ _ _ _ => xl_lcmp d241_47,
   fun _ _ _ _ => xl_ifle d241_48 rfl,
   fun _ _ _ _ _ => xl_aln d241_51 rfl,
   fun _ _ _ => xl_ic d241_52 (by decide +kernel),
   fun _ _ _ _ _ => xl_aln d241_53 rfl,
   fun _ _ _ _ => xl_gf d241_54 xco241 xf_11_220,
   fun ls a0 a1 a2 h => xl_cv (As := [a0, a1, a2]) (st := []) d241_57 xco241 xm_11_288 (congrArg Nat.succ xnp231) (by decide +kernel) rfl,
   fun _ _ _ _ _ => xl_aln d241_60 rfl,
   fun ls a0 h => xl_cv (As := [a0]) (st := []) d241_61 xco241 xm_11_247 (congrArg Nat.succ xnp227) (by decide +kernel) rfl,
   fun _ _ _ _ => xl_ifeq d241_64 rfl,
   fun _ _ _ _ _ => xl_aln d241_67 rfl,
   fun _ _ _ _ => xl_gf d241_68 xco241 xf_11_223,
   fun _ _ _ _ => xl_l2i d241_71,
   fun _ _ _ => xl_goto d241_72 rfl,
   fun _ _ _ _ _ => xl_iln d241_75 rfl,
   fun _ _ _ => xl_iri d241_76 xrt241⟩
/-! 242 FacetSieveModel.readsTag(I)V -/
theorem d242_0 : decode (zz_c 242) 0 = .ok (.aload_n 0, 1) := by decide +kernel
theorem d242_1 : decode (zz_c 242) 1 = .ok (.sipush 730, 3) := by decide +kernel
theorem d242_4 : decode (zz_c 242) 4 = .ok (.aload_n 0, 1) := by decide +kernel
theorem d242_5 : decode (zz_c 242) 5 = .ok (.getfield 223, 3) := by decide +kernel
theorem d242_8 : decode (zz_c 242) 8 = .ok (.invokevirtual 295, 3) := by decide +kernel
theorem d242_11 : decode (zz_c 242) 11 = .ok (.istore_n 2, 1) := by decide +kernel
theorem d242_12 : decode (zz_c 242) 12 = .ok (.iload_n 2, 1) := by decide +kernel
theorem d242_13 : decode (zz_c 242) 13 = .ok (.ifCond .ge 12, 3) := by decide +kernel
theorem d242_16 : decode (zz_c 242) 16 = .ok (.aload_n 0, 1) := by decide +kernel
theorem d242_17 : decode (zz_c 242) 17 = .ok (.iconst 3, 1) := by decide +kernel
theorem d242_18 : decode (zz_c 242) 18 = .ok (.aload_n 0, 1) := by decide +kernel
theorem d242_19 : decode (zz_c 242) 19 = .ok (.getfield 220, 3) := by decide +kernel
theorem d242_22 : decode (zz_c 242) 22 = .ok (.invokevirtual 288, 3) := by decide +kernel
theorem d242_25 : decode (zz_c 242) 25 = .ok (.aload_n 0, 1) := by decide +kernel
theorem d242_26 : decode (zz_c 242) 26 = .ok (.invokevirtual 247, 3) := by decide +kernel
theorem d242_29 : decode (zz_c 242) 29 = .ok (.ifCond .ne 4, 3) := by decide +kernel
theorem d242_32 : decode (zz_c 242) 32 = .ok (.return_, 1) := by decide +kernel
theorem d242_33 : decode (zz_c 242) 33 = .ok (.aload_n 0, 1) := by decide +kernel
theorem d242_34 : decode (zz_c 242) 34 = .ok (.sipush 1032, 3) := by decide +kernel
theorem d242_37 : decode (zz_c 242) 37 = .ok (.bipush 8, 2) := by decide +kernel
theorem d242_39 : decode (zz_c 242) 39 = .ok (.iload_n 2, 1) := by decide +kernel
theorem d242_40 : decode (zz_c 242) 40 = .ok (.imul, 1) := by decide +kernel
theorem d242_41 : decode (zz_c 242) 41 = .ok (.iadd, 1) := by decide +kernel
theorem d242_42 : decode (zz_c 242) 42 = .ok (.iload_n 1, 1) := by decide +kernel
theorem d242_43 : decode (zz_c 242) 43 = .ok (.invokevirtual 65, 3) := by decide +kernel
theorem d242_46 : decode (zz_c 242) 46 = .ok (.ifCond .ne 15, 3) := by decide +kernel
theorem d242_49 : decode (zz_c 242) 49 = .ok (.aload_n 0, 1) := by decide +kernel
theorem d242_50 : decode (zz_c 242) 50 = .ok (.sipush 730, 3) := by decide +kernel
theorem d242_53 : decode (zz_c 242) 53 = .ok (.iload_n 1, 1) := by decide +kernel
theorem d242_54 : decode (zz_c 242) 54 = .ok (.iload_n 2, 1) := by decide +kernel
theorem d242_55 : decode (zz_c 242) 55 = .ok (.invokevirtual 204, 3) := by decide +kernel
theorem d242_58 : decode (zz_c 242) 58 = .ok (.ifCond .lt 13, 3) := by decide +kernel
theorem d242_61 : decode (zz_c 242) 61 = .ok (.aload_n 0, 1) := by decide +kernel
theorem d242_62 : decode (zz_c 242) 62 = .ok (.bipush 6, 2) := by decide +kernel
theorem d242_64 : decode (zz_c 242) 64 = .ok (.aload_n 0, 1) := by decide +kernel
theorem d242_65 : decode (zz_c 242) 65 = .ok (.getfield 220, 3) := by decide +kernel
theorem d242_68 : decode (zz_c 242) 68 = .ok (.invokevirtual 288, 3) := by decide +kernel
theorem d242_71 : decode (zz_c 242) 71 = .ok (.aload_n 0, 1) := by decide +kernel
theorem d242_72 : decode (zz_c 242) 72 = .ok (.invokevirtual 247, 3) := by decide +kernel
theorem d242_75 : decode (zz_c 242) 75 = .ok (.ifCond .ne 4, 3) := by decide +kernel
theorem d242_78 : decode (zz_c 242) 78 = .ok (.return_, 1) := by decide +kernel
theorem d242_79 : decode (zz_c 242) 79 = .ok (.aload_n 0, 1) := by decide +kernel
theorem d242_80 : decode (zz_c 242) 80 = .ok (.sipush 1032, 3) := by decide +kernel
theorem d242_83 : decode (zz_c 242) 83 = .ok (.bipush 8, 2) := by decide +kernel
theorem d242_85 : decode (zz_c 242) 85 = .ok (.iload_n 2, 1) := by decide +kernel
theorem d242_86 : decode (zz_c 242) 86 = .ok (.imul, 1) := by decide +kernel
theorem d242_87 : decode (zz_c 242) 87 = .ok (.iadd, 1) := by decide +kernel
theorem d242_88 : decode (zz_c 242) 88 = .ok (.iload_n 1, 1) := by decide +kernel
theorem d242_89 : decode (zz_c 242) 89 = .ok (.invokevirtual 200, 3) := by decide +kernel
theorem d242_92 : decode (zz_c 242) 92 = .ok (.aload_n 0, 1) := by decide +kernel
theorem d242_93 : decode (zz_c 242) 93 = .ok (.invokevirtual 244, 3) := by decide +kernel
theorem d242_96 : decode (zz_c 242) 96 = .ok (.return_, 1) := by decide +kernel
theorem x242 : (∀ l1 l2 x st h, zz_Y 242 (0, [some (.ref x), l1, l2], st, h) = zz_Y 242 (1, [some (.ref x), l1, l2], .ref x :: st, h)) ∧ (∀ ls st h, zz_Y 242 (1, ls, st, h) = zz_Y 242 (4, ls, .int (nI 730) :: st, h)) ∧ (∀ l1 l2 x st h, zz_Y 242 (4, [some (.ref x), l1, l2], st, h) = zz_Y 242 (5, [some (.ref x), l1, l2], .ref x :: st, h)) ∧ (∀ ls a st h, zz_Y 242 (5, ls, .ref a :: st, h) = mo_gf (hp_g h a) 11 17 242 8 ls st h) ∧ (∀ ls a0 a1 a2 h, zz_Y 242 (8, ls, [a2, a1, a0], h) = mo_k 242 11 ls [] (zz_run 237 [a0, a1, a2] h)) ∧ (∀ l0 l1 l2 x st h, zz_nl l1 = true → zz_Y 242 (11, [l0, l1, l2], .int x :: st, h) = zz_Y 242 (12, [l0, l1, some (.int x)], st, h)) ∧ (∀ l0 l1 x st h, zz_Y 242 (12, [l0, l1, some (.int x)], st, h) = zz_Y 242 (13, [l0, l1, some (.int x)], .int x :: st, h)) ∧ (∀ ls a st h, zz_Y 242 (13, ls, .int a :: st, h) = if a < nI 0 then zz_Y 242 (16, ls, st, h) else zz_Y 242 (25, ls, st, h)) ∧ (∀ l1 l2 x st h, zz_Y 242 (16, [some (.ref x), l1, l2], st, h) = zz_Y 242 (17, [some (.ref x), l1, l2], .ref x :: st, h)) ∧ (∀ ls st h, zz_Y 242 (17, ls, st, h) = zz_Y 242 (18, ls, .int (nI 3) :: st, h)) ∧ (∀ l1 l2 x st h, zz_Y 242 (18, [some (.ref x), l1, l2], st, h) = zz_Y 242 (19, [some (.ref x), l1, l2], .ref x :: st, h)) ∧ (∀ ls a st h, zz_Y 242 (19, ls, .ref a :: st, h) = mo_gf (hp_g h a) 11 16 242 22 ls st h) ∧ (∀ ls a0 a1 a2 h, zz_Y 242 (22, ls, [a2, a1, a0], h) = mo_k 242 25 ls [] (zz_run 231 [a0, a1, a2] h)) ∧ (∀ l1 l2 x st h, zz_Y 242 (25, [some (.ref x), l1, l2], st, h) = zz_Y 242 (26, [some (.ref x), l1, l2], .ref x :: st, h)) ∧ (∀ ls a0 h, zz_Y 242 (26, ls, [a0], h) = mo_k 242 29 ls [] (zz_run 227 [a0] h)) ∧ (∀ ls a st h, zz_Y 242 (29, ls, .int a :: st, h) = if a = nI 0 then zz_Y 242 (32, ls, st, h) else zz_Y 242 (33, ls, st, h)) ∧ (∀ ls h, zz_Y 242 (32, ls, [], h) = some (none, h)) ∧ (∀ l1 l2 x st h, zz_Y 242 (33, [some (.ref x), l1, l2], st, h) = zz_Y 242 (34, [some (.ref x), l1, l2], .ref x :: st, h)) ∧ (∀ ls st h, zz_Y 242 (34, ls, st, h) = zz_Y 242 (37, ls, .int (nI 1032) :: st, h)) ∧ (∀ ls st h, zz_Y 242 (37, ls, st, h) = zz_Y 242 (39, ls, .int (nI 8) :: st, h)) ∧ (∀ l0 l1 x st h, zz_Y 242 (39, [l0, l1, some (.int x)], st, h) = zz_Y 242 (40, [l0, l1, some (.int x)], .int x :: st, h)) ∧ (∀ ls a b st h, zz_Y 242 (40, ls, .int b :: .int a :: st, h) = zz_Y 242 (41, ls, .int (a * b) :: st, h)) ∧ (∀ ls a b st h, zz_Y 242 (41, ls, .int b :: .int a :: st, h) = zz_Y 242 (42, ls, .int (a + b) :: st, h)) ∧ (∀ l0 l2 x st h, zz_Y 242 (42, [l0, some (.int x), l2], st, h) = zz_Y 242 (43, [l0, some (.int x), l2], .int x :: st, h)) ∧ (∀ ls a0 a1 a2 h, zz_Y 242 (43, ls, [a2, a1, a0], h) = mo_k 242 46 ls [] (zz_run 189 [a0, a1, a2] h)) ∧ (∀ ls a st h, zz_Y 242 (46, ls, .int a :: st, h) = if a = nI 0 then zz_Y 242 (49, ls, st, h) else zz_Y 242 (61, ls, st, h)) ∧ (∀ l1 l2 x st h, zz_Y 242 (49, [some (.ref x), l1, l2], st, h) = zz_Y 242 (50, [some (.ref x), l1, l2], .ref x :: st, h)) ∧ (∀ ls st h, zz_Y 242 (50, ls, st, h) = zz_Y 242 (53, ls, .int (nI 730) :: st, h)) ∧ (∀ l0 l2 x st h, zz_Y 242 (53, [l0, some (.int x), l2], st, h) = zz_Y 242 (54, [l0, some (.int x), l2], .int x :: st, h)) ∧ (∀ l0 l1 x st h, zz_Y 242 (54, [l0, l1, some (.int x)], st, h) = zz_Y 242 (55, [l0, l1, some (.int x)], .int x :: st, h)) ∧ (∀ ls a0 a1 a2 a3 h, zz_Y 242 (55, ls, [a3, a2, a1, a0], h) = mo_k 242 58 ls [] (zz_run 211 [a0, a1, a2, a3] h)) ∧ (∀ ls a st h, zz_Y 242 (58, ls, .int a :: st, h) = if a < nI 0 then zz_Y 242 (71, ls, st, h) else zz_Y 242 (61, ls, st, h)) ∧ (∀ l1 l2 x st h, zz_Y 242 (61, [some (.ref x), l1, l2], st, h) = zz_Y 242 (62, [some (.ref x), l1, l2], .ref x :: st, h)) ∧ (∀ ls st h, zz_Y 242 (62, ls, st, h) = zz_Y 242 (64, ls, .int (nI 6) :: st, h)) ∧ (∀ l1 l2 x st h, zz_Y 242 (64, [some (.ref x), l1, l2], st, h) = zz_Y 242 (65, [some (.ref x), l1, l2], .ref x :: st, h)) ∧ (∀ ls a st h, zz_Y 242 (65, ls, .ref a :: st, h) = mo_gf (hp_g h a) 11 16 242 68 ls st h) ∧ (∀ ls a0 a1 a2 h, zz_Y 242 (68, ls, [a2, a1, a0], h) = mo_k 242 71 ls [] (zz_run 231 [a0, a1, a2] h)) ∧ (∀ l1 l2 x st h, zz_Y 242 (71, [some (.ref x), l1, l2], st, h) = zz_Y 242 (72, [some (.ref x), l1, l2], .ref x :: st, h)) ∧ (∀ ls a0 h, zz_Y 242 (72, ls, [a0], h) = mo_k 242 75 ls [] (zz_run 227 [a0] h)) ∧ (∀ ls a st h, zz_Y 242 (75, ls, .int a :: st, h) = if a = nI 0 then zz_Y 242 (78, ls, st, h) else zz_Y 242 (79, ls, st, h)) ∧ (∀ ls h, zz_Y 242 (78, ls, [], h) = some (none, h)) ∧ (∀ l1 l2 x st h, zz_Y 242 (79, [some (.ref x), l1, l2], st, h) = zz_Y 242 (80, [some (.ref x), l1, l2], .ref x :: st, h)) ∧ (∀ ls st h, zz_Y 242 (80, ls, st, h) = zz_Y 242 (83, ls, .int (nI 1032) :: st, h)) ∧ (∀ ls st h, zz_Y 242 (83, ls, st, h) = zz_Y 242 (85, ls, .int (nI 8) :: st, h)) ∧ (∀ l0 l1 x st h, zz_Y 242 (85, [l0, l1, some (.int x)], st, h) = zz_Y 242 (86, [l0, l1, some (.int x)], .int x :: st, h)) ∧ (∀ ls a b st h, zz_Y 242 (86, ls, .int b :: .int a :: st, h) = zz_Y 242 (87, ls, .int (a * b) :: st, h)) ∧ (∀ ls a b st h, zz_Y 242 (87, ls, .int b :: .int a :: st, h) = zz_Y 242 (88, ls, .int (a + b) :: st, h)) ∧ (∀ l0 l2 x st h, zz_Y 242 (88, [l0, some (.int x), l2], st, h) = zz_Y 242 (89, [l0, some (.int x), l2], .int x :: st, h)) ∧ (∀ ls a0 a1 a2 h, zz_Y 242 (89, ls, [a2, a1, a0], h) = mo_k 242 92 ls [] (zz_run 208 [a0, a1, a2] h)) ∧ (∀ l1 l2 x st h, zz_Y 242 (92, [some (.ref x), l1, l2], st, h) = zz_Y 242 (93, [some (.ref x), l1, l2], .ref x :: st, h)) ∧ (∀ ls a0 h, zz_Y 242 (93, ls, [a0], h) = mo_k 242 96 ls [] (zz_run 223 [a0] h)) ∧ (∀ ls h, zz_Y 242 (96, ls, [], h) = some (none, h)) :=
  ⟨fun _ _ _ _ _ => xl_aln d242_0 rfl,
   fun _ _ _ => xl_si d242_1 (by decide +kernel),
   fun _ _ _ _ _ => xl_aln d242_4 rfl,
   fun _ _ _ _ => xl_gf d242_5 xco242 xf_11_223,
   fun ls a0 a1 a2 h => xl_cv (As := [a0, a1, a2]) (st := []) d242_8 xco242 xm_11_295 (congrArg Nat.succ xnp237) (by decide +kernel) rfl,
   fun _ _ _ _ _ _ hc => xl_isn d242_11 xml242 (by decide) (zz_nl_s1 hc),
   fun _ _ _ _ _ => xl_iln d242_12 rfl,
   fun _ _ _ _ => xl_ifge d242_13 rfl,
   fun _ _ _ _ _ => xl_aln d242_16 rfl,
   fun _ _ _ => xl_ic d242_17 (by decide +kernel),
   fun _ _ _ _ _ => xl_aln d242_18 rfl,
   fun _ _ _ _ => xl_gf d242_19 xco242 xf_11_220,
   fun ls a0 a1 a2 h => xl_cv (As := [a0, a1, a2]) (st := []) d242_22 xco242 xm_11_288 (congrArg Nat.succ xnp231) (by decide +kernel) rfl,
   fun _ _ _ _ _ => xl_aln d242_25 rfl,
   fun ls a0 h => xl_cv (As := [a0]) (st := []) d242_26 xco242 xm_11_247 (congrArg Nat.succ xnp227) (by decide +kernel) rfl,
   fun _ _ _ _ => xl_ifne d242_29 rfl,
   fun _ _ => xl_r d242_32 xrt242,
   fun _ _ _ _ _ => xl_aln d242_33 rfl,
   fun _ _ _ => xl_si d242_34 (by decide +kernel),
   fun _ _ _ => xl_bi d242_37 (by decide +kernel),
   fun _ _ _ _ _ => xl_iln d242_39 rfl,
   fun _ _ _ _ _ => xl_imul d242_40,
   fun _ _ _ _ _ => xl_iadd d242_41,
   fun _ _ _ _ _ => xl_iln d242_42 rfl,
   fun ls a0 a1 a2 h => xl_cv (As := [a0, a1, a2]) (st := []) d242_43 xco242 xm_11_65 (congrArg Nat.succ xnp189) (by decide +kernel) rfl,
   fun _ _ _ _ => xl_ifne d242_46 rfl,
   fun _ _ _ _ _ => xl_aln d242_49 rfl,
   fun _ _ _ => xl_si d242_50 (by decide +kernel),
   fun _ _ _ _ _ => xl_iln d242_53 rfl,
   fun _ _ _ _ _ => xl_iln d242_54 rfl,
   fun ls a0 a1 a2 a3 h => xl_cv (As := [a0, a1, a2, a3]) (st := []) d242_55 xco242 xm_11_204 (congrArg Nat.succ xnp211) (by decide +kernel) rfl,
   fun _ _ _ _ => xl_iflt d242_58 rfl,
   fun _ _ _ _ _ => xl_aln d242_61 rfl,
   fun _ _ _ => xl_bi d242_62 (by decide +kernel),
   fun _ _ _ _ _ => xl_aln d242_64 rfl,
   fun _ _ _ _ => xl_gf d242_65 xco242 xf_11_220,
   fun ls a0 a1 a2 h => xl_cv (As := [a0, a1, a2]) (st := []) d242_68 xco242 xm_11_288 (congrArg Nat.succ xnp231) (by decide +kernel) rfl,
   fun _ _ _ _ _ => xl_aln d242_71 rfl,
   fun ls a0 h => xl_cv (As := [a0]) (st := []) d242_72 xco242 xm_11_247 (congrArg Nat.succ xnp227) (by decide +kernel) rfl,
   fun _ _ _ _ => xl_ifne d242_75 rfl,
   fun _ _ => xl_r d242_78 xrt242,
   fun _ _ _ _ _ => xl_aln d242_79 rfl,
   fun _ _ _ => xl_si d242_80 (by decide +kernel),
   fun _ _ _ => xl_bi d242_83 (by decide +kernel),
   fun _ _ _ _ _ => xl_iln d242_85 rfl,
   fun _ _ _ _ _ => xl_imul d242_86,
   fun _ _ _ _ _ => xl_iadd d242_87,
   fun _ _ _ _ _ => xl_iln d242_88 rfl,
   fun ls a0 a1 a2 h => xl_cv (As := [a0, a1, a2]) (st := []) d242_89 xco242 xm_11_200 (congrArg Nat.succ xnp208) (by decide +kernel) rfl,
   fun _ _ _ _ _ => xl_aln d242_92 rfl,
   fun ls a0 h => xl_cv (As := [a0]) (st := []) d242_93 xco242 xm_11_244 (congrArg Nat.succ xnp223) (by decide +kernel) rfl,
   fun _ _ => xl_r d242_96 xrt242⟩
/-! 243 FacetSieveModel.hasSign(I)Z -/
theorem d243_0 : decode (zz_c 243) 0 = .ok (.aload_n 0, 1) := by decide +kernel
theorem d243_1 : decode (zz_c 243) 1 = .ok (.iload_n 1, 1) := by decide +kernel
theorem d243_2 : decode (zz_c 243) 2 = .ok (.invokevirtual 255, 3) := by decide +kernel
theorem d243_5 : decode (zz_c 243) 5 = .ok (.istore_n 2, 1) := by decide +kernel
theorem d243_6 : decode (zz_c 243) 6 = .ok (.iload_n 2, 1) := by decide +kernel
theorem d243_7 : decode (zz_c 243) 7 = .ok (.ifCond .eq 7, 3) := by decide +kernel
theorem d243_10 : decode (zz_c 243) 10 = .ok (.aload_n 0, 1) := by decide +kernel
theorem d243_11 : decode (zz_c 243) 11 = .ok (.invokevirtual 244, 3) := by decide +kernel
theorem d243_14 : decode (zz_c 243) 14 = .ok (.iload_n 2, 1) := by decide +kernel
theorem d243_15 : decode (zz_c 243) 15 = .ok (.ireturn, 1) := by decide +kernel
theorem x243 : (∀ l1 l2 x st h, zz_Y 243 (0, [some (.ref x), l1, l2], st, h) = zz_Y 243 (1, [some (.ref x), l1, l2], .ref x :: st, h)) ∧ (∀ l0 l2 x st h, zz_Y 243 (1, [l0, some (.int x), l2], st, h) = zz_Y 243 (2, [l0, some (.int x), l2], .int x :: st, h)) ∧ (∀ ls a0 a1 h, zz_Y 243 (2, ls, [a1, a0], h) = mo_k 243 5 ls [] (zz_run 244 [a0, a1] h)) ∧ (∀ l0 l1 l2 x st h, zz_nl l1 = true → zz_Y 243 (5, [l0, l1, l2], .int x :: st, h) = zz_Y 243 (6, [l0, l1, some (.int x)], st, h)) ∧ (∀ l0 l1 x st h, zz_Y 243 (6, [l0, l1, some (.int x)], st, h) = zz_Y 243 (7, [l0, l1, some (.int x)], .int x :: st, h)) ∧ (∀ ls a st h, zz_Y 243 (7, ls, .int a :: st, h) = if a = nI 0 then zz_Y 243 (14, ls, st, h) else zz_Y 243 (10, ls, st, h)) ∧ (∀ l1 l2 x st h, zz_Y 243 (10, [some (.ref x), l1, l2], st, h) = zz_Y 243 (11, [some (.ref x), l1, l2], .ref x :: st, h)) ∧ (∀ ls a0 h, zz_Y 243 (11, ls, [a0], h) = mo_k 243 14 ls [] (zz_run 223 [a0] h)) ∧ (∀ l0 l1 x st h, zz_Y 243 (14, [l0, l1, some (.int x)], st, h) = zz_Y 243 (15, [l0, l1, some (.int x)], .int x :: st, h)) ∧ (∀ ls v h, v = nI 0 ∨ v = nI 1 → zz_Y 243 (15, ls, [.int v], h) = some (some (.int v), h)) :=
  ⟨fun _ _ _ _ _ => xl_aln d243_0 rfl,
   fun _ _ _ _ _ => xl_iln d243_1 rfl,
   fun ls a0 a1 h => xl_cv (As := [a0, a1]) (st := []) d243_2 xco243 xm_11_255 (congrArg Nat.succ xnp244) (by decide +kernel) rfl,
   fun _ _ _ _ _ _ hc => xl_isn d243_5 xml243 (by decide) (zz_nl_s1 hc),
   fun _ _ _ _ _ => xl_iln d243_6 rfl,
   fun _ _ _ _ => xl_ifeq d243_7 rfl,
   fun _ _ _ _ _ => xl_aln d243_10 rfl,
   fun ls a0 h => xl_cv (As := [a0]) (st := []) d243_11 xco243 xm_11_244 (congrArg Nat.succ xnp223) (by decide +kernel) rfl,
   fun _ _ _ _ _ => xl_iln d243_14 rfl,
   fun _ _ _ hc => xl_irz d243_15 xrt243 hc⟩
/-! 244 FacetSieveModel.isSign(I)Z -/
theorem d244_0 : decode (zz_c 244) 0 = .ok (.aload_n 0, 1) := by decide +kernel
theorem d244_1 : decode (zz_c 244) 1 = .ok (.invokevirtual 247, 3) := by decide +kernel
theorem d244_4 : decode (zz_c 244) 4 = .ok (.ifCond .eq 25, 3) := by decide +kernel
theorem d244_7 : decode (zz_c 244) 7 = .ok (.aload_n 0, 1) := by decide +kernel
theorem d244_8 : decode (zz_c 244) 8 = .ok (.getfield 227, 3) := by decide +kernel
theorem d244_11 : decode (zz_c 244) 11 = .ok (.iconst 3, 1) := by decide +kernel
theorem d244_12 : decode (zz_c 244) 12 = .ok (.if_icmp .ne 17, 3) := by decide +kernel
theorem d244_15 : decode (zz_c 244) 15 = .ok (.aload_n 0, 1) := by decide +kernel
theorem d244_16 : decode (zz_c 244) 16 = .ok (.getfield 223, 3) := by decide +kernel
theorem d244_19 : decode (zz_c 244) 19 = .ok (.iload_n 1, 1) := by decide +kernel
theorem d244_20 : decode (zz_c 244) 20 = .ok (.i2l, 1) := by decide +kernel
theorem d244_21 : decode (zz_c 244) 21 = .ok (.lcmp, 1) := by decide +kernel
theorem d244_22 : decode (zz_c 244) 22 = .ok (.ifCond .ne 7, 3) := by decide +kernel
theorem d244_25 : decode (zz_c 244) 25 = .ok (.iconst 1, 1) := by decide +kernel
theorem d244_26 : decode (zz_c 244) 26 = .ok (.goto 4, 3) := by decide +kernel
theorem d244_29 : decode (zz_c 244) 29 = .ok (.iconst 0, 1) := by decide +kernel
theorem d244_30 : decode (zz_c 244) 30 = .ok (.ireturn, 1) := by decide +kernel
theorem x244 : (∀ l1 x st h, zz_Y 244 (0, [some (.ref x), l1], st, h) = zz_Y 244 (1, [some (.ref x), l1], .ref x :: st, h)) ∧ (∀ ls a0 h, zz_Y 244 (1, ls, [a0], h) = mo_k 244 4 ls [] (zz_run 227 [a0] h)) ∧ (∀ ls a st h, zz_Y 244 (4, ls, .int a :: st, h) = if a = nI 0 then zz_Y 244 (29, ls, st, h) else zz_Y 244 (7, ls, st, h)) ∧ (∀ l1 x st h, zz_Y 244 (7, [some (.ref x), l1], st, h) = zz_Y 244 (8, [some (.ref x), l1], .ref x :: st, h)) ∧ (∀ ls a st h, zz_Y 244 (8, ls, .ref a :: st, h) = mo_gf (hp_g h a) 11 15 244 11 ls st h) ∧ (∀ ls st h, zz_Y 244 (11, ls, st, h) = zz_Y 244 (12, ls, .int (nI 3) :: st, h)) ∧ (∀ ls a b st h, zz_Y 244 (12, ls, .int b :: .int a :: st, h) = if a = b then zz_Y 244 (15, ls, st, h) else zz_Y 244 (29, ls, st, h)) ∧ (∀ l1 x st h, zz_Y 244 (15, [some (.ref x), l1], st, h) = zz_Y 244 (16, [some (.ref x), l1], .ref x :: st, h)) ∧ (∀ ls a st h, zz_Y 244 (16, ls, .ref a :: st, h) = mo_gf (hp_g h a) 11 17 244 19 ls st h) ∧ (∀ l0 x st h, zz_Y 244 (19, [l0, some (.int x)], st, h) = zz_Y 244 (20, [l0, some (.int x)], .int x :: st, h)) ∧ (∀ ls a st h, zz_Y 244 (20, ls, .int a :: st, h) = zz_Y 244 (21, ls, .long a.toInt64 :: st, h)) ∧ (∀ ls a b st h, zz_Y 244 (21, ls, .long b :: .long a :: st, h) = zz_Y 244 (22, ls, .int (lg_cmp a b) :: st, h)) ∧ (∀ ls a st h, zz_Y 244 (22, ls, .int a :: st, h) = if a = nI 0 then zz_Y 244 (25, ls, st, h) else zz_Y 244 (29, ls, st, h)) ∧ (∀ ls st h, zz_Y 244 (25, ls, st, h) = zz_Y 244 (26, ls, .int (nI 1) :: st, h)) ∧ (∀ ls st h, zz_Y 244 (26, ls, st, h) = zz_Y 244 (30, ls, st, h)) ∧ (∀ ls st h, zz_Y 244 (29, ls, st, h) = zz_Y 244 (30, ls, .int (nI 0) :: st, h)) ∧ (∀ ls v h, v = nI 0 ∨ v = nI 1 → zz_Y 244 (30, ls, [.int v], h) = some (some (.int v), h)) :=
  ⟨fun _ _ _ _ => xl_aln d244_0 rfl,
   fun ls a0 h => xl_cv (As := [a0]) (st := []) d244_1 xco244 xm_11_247 (congrArg Nat.succ xnp227) (by decide +kernel) rfl,
   fun _ _ _ _ => xl_ifeq d244_4 rfl,
   fun _ _ _ _ => xl_aln d244_7 rfl,
   fun _ _ _ _ => xl_gf d244_8 xco244 xf_11_227,
   fun _ _ _ => xl_ic d244_11 (by decide +kernel),
   fun _ _ _ _ _ => xl_icne d244_12 rfl,
   fun _ _ _ _ => xl_aln d244_15 rfl,
   fun _ _ _ _ => xl_gf d244_16 xco244 xf_11_223,
   fun _ _ _ _ => xl_iln d244_19 rfl,
   fun _ _ _ _ => xl_i2l d244_20,
   fun _ _ _ _ _ => xl_lcmp d244_21,
   fun _ _ _ _ => xl_ifne d244_22 rfl,
   fun _ _ _ => xl_ic d244_25 (by decide +kernel),
   fun _ _ _ => xl_goto d244_26 rfl,
   fun _ _ _ => xl_ic d244_29 (by decide +kernel),
   fun _ _ _ hc => xl_irz d244_30 xrt244 hc⟩
/-! 245 FacetSieveModel.ask()I -/
theorem d245_0 : decode (zz_c 245) 0 = .ok (.aload_n 0, 1) := by decide +kernel
theorem d245_1 : decode (zz_c 245) 1 = .ok (.invokevirtual 322, 3) := by decide +kernel
theorem d245_4 : decode (zz_c 245) 4 = .ok (.aload_n 0, 1) := by decide +kernel
theorem d245_5 : decode (zz_c 245) 5 = .ok (.iconst 0, 1) := by decide +kernel
theorem d245_6 : decode (zz_c 245) 6 = .ok (.putfield 328, 3) := by decide +kernel
theorem d245_9 : decode (zz_c 245) 9 = .ok (.aload_n 0, 1) := by decide +kernel
theorem d245_10 : decode (zz_c 245) 10 = .ok (.iconst 0, 1) := by decide +kernel
theorem d245_11 : decode (zz_c 245) 11 = .ok (.putfield 341, 3) := by decide +kernel
theorem d245_14 : decode (zz_c 245) 14 = .ok (.aload_n 0, 1) := by decide +kernel
theorem d245_15 : decode (zz_c 245) 15 = .ok (.iconst 0, 1) := by decide +kernel
theorem d245_16 : decode (zz_c 245) 16 = .ok (.putfield 338, 3) := by decide +kernel
theorem d245_19 : decode (zz_c 245) 19 = .ok (.aload_n 0, 1) := by decide +kernel
theorem d245_20 : decode (zz_c 245) 20 = .ok (.invokevirtual 347, 3) := by decide +kernel
theorem d245_23 : decode (zz_c 245) 23 = .ok (.iconst 1, 1) := by decide +kernel
theorem d245_24 : decode (zz_c 245) 24 = .ok (.istore_n 1, 1) := by decide +kernel
theorem d245_25 : decode (zz_c 245) 25 = .ok (.iload_n 1, 1) := by decide +kernel
theorem d245_26 : decode (zz_c 245) 26 = .ok (.ifCond .eq 25, 3) := by decide +kernel
theorem d245_29 : decode (zz_c 245) 29 = .ok (.aload_n 0, 1) := by decide +kernel
theorem d245_30 : decode (zz_c 245) 30 = .ok (.invokevirtual 247, 3) := by decide +kernel
theorem d245_33 : decode (zz_c 245) 33 = .ok (.ifCond .eq 18, 3) := by decide +kernel
theorem d245_36 : decode (zz_c 245) 36 = .ok (.aload_n 0, 1) := by decide +kernel
theorem d245_37 : decode (zz_c 245) 37 = .ok (.invokevirtual 353, 3) := by decide +kernel
theorem d245_40 : decode (zz_c 245) 40 = .ok (.ifCond .eq (-15), 3) := by decide +kernel
theorem d245_43 : decode (zz_c 245) 43 = .ok (.aload_n 0, 1) := by decide +kernel
theorem d245_44 : decode (zz_c 245) 44 = .ok (.invokevirtual 356, 3) := by decide +kernel
theorem d245_47 : decode (zz_c 245) 47 = .ok (.istore_n 1, 1) := by decide +kernel
theorem d245_48 : decode (zz_c 245) 48 = .ok (.goto (-23), 3) := by decide +kernel
theorem d245_51 : decode (zz_c 245) 51 = .ok (.aload_n 0, 1) := by decide +kernel
theorem d245_52 : decode (zz_c 245) 52 = .ok (.invokevirtual 247, 3) := by decide +kernel
theorem d245_55 : decode (zz_c 245) 55 = .ok (.ifCond .ne 5, 3) := by decide +kernel
theorem d245_58 : decode (zz_c 245) 58 = .ok (.iconst (-1), 1) := by decide +kernel
theorem d245_59 : decode (zz_c 245) 59 = .ok (.ireturn, 1) := by decide +kernel
theorem d245_60 : decode (zz_c 245) 60 = .ok (.aload_n 0, 1) := by decide +kernel
theorem d245_61 : decode (zz_c 245) 61 = .ok (.getfield 7, 3) := by decide +kernel
theorem d245_64 : decode (zz_c 245) 64 = .ok (.sipush 718, 3) := by decide +kernel
theorem d245_67 : decode (zz_c 245) 67 = .ok (.iconst 1, 1) := by decide +kernel
theorem d245_68 : decode (zz_c 245) 68 = .ok (.iastore, 1) := by decide +kernel
theorem d245_69 : decode (zz_c 245) 69 = .ok (.aload_n 0, 1) := by decide +kernel
theorem d245_70 : decode (zz_c 245) 70 = .ok (.getfield 7, 3) := by decide +kernel
theorem d245_73 : decode (zz_c 245) 73 = .ok (.sipush 719, 3) := by decide +kernel
theorem d245_76 : decode (zz_c 245) 76 = .ok (.aload_n 0, 1) := by decide +kernel
theorem d245_77 : decode (zz_c 245) 77 = .ok (.getfield 338, 3) := by decide +kernel
theorem d245_80 : decode (zz_c 245) 80 = .ok (.iastore, 1) := by decide +kernel
theorem d245_81 : decode (zz_c 245) 81 = .ok (.iconst 0, 1) := by decide +kernel
theorem d245_82 : decode (zz_c 245) 82 = .ok (.istore_n 2, 1) := by decide +kernel
theorem d245_83 : decode (zz_c 245) 83 = .ok (.iload_n 2, 1) := by decide +kernel
theorem d245_84 : decode (zz_c 245) 84 = .ok (.bipush 8, 2) := by decide +kernel
theorem d245_86 : decode (zz_c 245) 86 = .ok (.if_icmp .ge 25, 3) := by decide +kernel
theorem d245_89 : decode (zz_c 245) 89 = .ok (.aload_n 0, 1) := by decide +kernel
theorem d245_90 : decode (zz_c 245) 90 = .ok (.getfield 7, 3) := by decide +kernel
theorem d245_93 : decode (zz_c 245) 93 = .ok (.sipush 720, 3) := by decide +kernel
theorem d245_96 : decode (zz_c 245) 96 = .ok (.iload_n 2, 1) := by decide +kernel
theorem d245_97 : decode (zz_c 245) 97 = .ok (.iadd, 1) := by decide +kernel
theorem d245_98 : decode (zz_c 245) 98 = .ok (.aload_n 0, 1) := by decide +kernel
theorem d245_99 : decode (zz_c 245) 99 = .ok (.getfield 33, 3) := by decide +kernel
theorem d245_102 : decode (zz_c 245) 102 = .ok (.iload_n 2, 1) := by decide +kernel
theorem d245_103 : decode (zz_c 245) 103 = .ok (.iaload, 1) := by decide +kernel
theorem d245_104 : decode (zz_c 245) 104 = .ok (.iastore, 1) := by decide +kernel
theorem d245_105 : decode (zz_c 245) 105 = .ok (.iinc 2 1, 3) := by decide +kernel
theorem d245_108 : decode (zz_c 245) 108 = .ok (.goto (-25), 3) := by decide +kernel
theorem d245_111 : decode (zz_c 245) 111 = .ok (.aload_n 0, 1) := by decide +kernel
theorem d245_112 : decode (zz_c 245) 112 = .ok (.getfield 33, 3) := by decide +kernel
theorem d245_115 : decode (zz_c 245) 115 = .ok (.invokestatic 109, 3) := by decide +kernel
theorem d245_118 : decode (zz_c 245) 118 = .ok (.ireturn, 1) := by decide +kernel
theorem x245_p0 : (∀ l1 l2 x st h, zz_Y 245 (0, [some (.ref x), l1, l2], st, h) = zz_Y 245 (1, [some (.ref x), l1, l2], .ref x :: st, h)) ∧ (∀ ls a0 h, zz_Y 245 (1, ls, [a0], h) = mo_k 245 4 ls [] (zz_run 222 [a0] h)) ∧ (∀ l1 l2 x st h, zz_Y 245 (4, [some (.ref x), l1, l2], st, h) = zz_Y 245 (5, [some (.ref x), l1, l2], .ref x :: st, h)) ∧ (∀ ls st h, zz_Y 245 (5, ls, st, h) = zz_Y 245 (6, ls, .int (nI 0) :: st, h)) ∧ (∀ ls a v st h, zz_Y 245 (6, ls, v :: .ref a :: st, h) = mo_pf (hp_g h a) 11 23 .int v a 245 9 ls st h) ∧ (∀ l1 l2 x st h, zz_Y 245 (9, [some (.ref x), l1, l2], st, h) = zz_Y 245 (10, [some (.ref x), l1, l2], .ref x :: st, h)) ∧ (∀ ls st h, zz_Y 245 (10, ls, st, h) = zz_Y 245 (11, ls, .int (nI 0) :: st, h)) ∧ (∀ ls a v st h, zz_Y 245 (11, ls, v :: .ref a :: st, h) = mo_pf (hp_g h a) 11 24 .int v a 245 14 ls st h) ∧ (∀ l1 l2 x st h, zz_Y 245 (14, [some (.ref x), l1, l2], st, h) = zz_Y 245 (15, [some (.ref x), l1, l2], .ref x :: st, h)) ∧ (∀ ls st h, zz_Y 245 (15, ls, st, h) = zz_Y 245 (16, ls, .int (nI 0) :: st, h)) ∧ (∀ ls a v st h, zz_Y 245 (16, ls, v :: .ref a :: st, h) = mo_pf (hp_g h a) 11 25 .int v a 245 19 ls st h) ∧ (∀ l1 l2 x st h, zz_Y 245 (19, [some (.ref x), l1, l2], st, h) = zz_Y 245 (20, [some (.ref x), l1, l2], .ref x :: st, h)) ∧ (∀ ls a0 h, zz_Y 245 (20, ls, [a0], h) = mo_k 245 23 ls [] (zz_run 246 [a0] h)) ∧ (∀ ls st h, zz_Y 245 (23, ls, st, h) = zz_Y 245 (24, ls, .int (nI 1) :: st, h)) ∧ (∀ l0 l1 l2 x st h, zz_nl l0 = true → zz_Y 245 (24, [l0, l1, l2], .int x :: st, h) = zz_Y 245 (25, [l0, some (.int x), l2], st, h)) ∧ (∀ ls a st h, zz_Y 245 (26, ls, .int a :: st, h) = if a = nI 0 then zz_Y 245 (51, ls, st, h) else zz_Y 245 (29, ls, st, h)) ∧ (∀ l1 l2 x st h, zz_Y 245 (29, [some (.ref x), l1, l2], st, h) = zz_Y 245 (30, [some (.ref x), l1, l2], .ref x :: st, h)) ∧ (∀ ls a0 h, zz_Y 245 (30, ls, [a0], h) = mo_k 245 33 ls [] (zz_run 227 [a0] h)) ∧ (∀ ls a st h, zz_Y 245 (33, ls, .int a :: st, h) = if a = nI 0 then zz_Y 245 (51, ls, st, h) else zz_Y 245 (36, ls, st, h)) ∧ (∀ l1 l2 x st h, zz_Y 245 (36, [some (.ref x), l1, l2], st, h) = zz_Y 245 (37, [some (.ref x), l1, l2], .ref x :: st, h)) ∧ (∀ ls a0 h, zz_Y 245 (37, ls, [a0], h) = mo_k 245 40 ls [] (zz_run 247 [a0] h)) ∧ (∀ ls a st h, zz_Y 245 (40, ls, .int a :: st, h) = if a = nI 0 then zz_Y 245 (25, ls, st, h) else zz_Y 245 (43, ls, st, h)) ∧ (∀ l1 l2 x st h, zz_Y 245 (43, [some (.ref x), l1, l2], st, h) = zz_Y 245 (44, [some (.ref x), l1, l2], .ref x :: st, h)) ∧ (∀ ls a0 h, zz_Y 245 (44, ls, [a0], h) = mo_k 245 47 ls [] (zz_run 251 [a0] h)) ∧ (∀ l0 l1 l2 x st h, zz_nl l0 = true → zz_Y 245 (47, [l0, l1, l2], .int x :: st, h) = zz_Y 245 (48, [l0, some (.int x), l2], st, h)) ∧ (∀ ls st h, zz_Y 245 (48, ls, st, h) = zz_Y 245 (25, ls, st, h)) ∧ (∀ l1 l2 x st h, zz_Y 245 (51, [some (.ref x), l1, l2], st, h) = zz_Y 245 (52, [some (.ref x), l1, l2], .ref x :: st, h)) ∧ (∀ ls a0 h, zz_Y 245 (52, ls, [a0], h) = mo_k 245 55 ls [] (zz_run 227 [a0] h)) ∧ (∀ ls a st h, zz_Y 245 (55, ls, .int a :: st, h) = if a = nI 0 then zz_Y 245 (58, ls, st, h) else zz_Y 245 (60, ls, st, h)) ∧ (∀ ls st h, zz_Y 245 (58, ls, st, h) = zz_Y 245 (59, ls, .int (-1) :: st, h)) ∧ (∀ ls v h, zz_Y 245 (59, ls, [.int v], h) = some (some (.int v), h)) ∧ (∀ l1 l2 x st h, zz_Y 245 (60, [some (.ref x), l1, l2], st, h) = zz_Y 245 (61, [some (.ref x), l1, l2], .ref x :: st, h)) ∧ (∀ ls a st h, zz_Y 245 (61, ls, .ref a :: st, h) = mo_gf (hp_g h a) 11 0 245 64 ls st h) ∧ (∀ ls st h, zz_Y 245 (64, ls, st, h) = zz_Y 245 (67, ls, .int (nI 718) :: st, h)) ∧ (∀ ls st h, zz_Y 245 (67, ls, st, h) = zz_Y 245 (68, ls, .int (nI 1) :: st, h)) ∧ (∀ ls a i x st h, zz_Y 245 (68, ls, .int x :: .int i :: .ref a :: st, h) = mo_is (hp_g h a) x i a 245 69 ls st h) ∧ (∀ l1 l2 x st h, zz_Y 245 (69, [some (.ref x), l1, l2], st, h) = zz_Y 245 (70, [some (.ref x), l1, l2], .ref x :: st, h)) ∧ (∀ ls a st h, zz_Y 245 (70, ls, .ref a :: st, h) = mo_gf (hp_g h a) 11 0 245 73 ls st h) ∧ (∀ ls st h, zz_Y 245 (73, ls, st, h) = zz_Y 245 (76, ls, .int (nI 719) :: st, h)) ∧ (∀ l1 l2 x st h, zz_Y 245 (76, [some (.ref x), l1, l2], st, h) = zz_Y 245 (77, [some (.ref x), l1, l2], .ref x :: st, h)) ∧ (∀ ls a st h, zz_Y 245 (77, ls, .ref a :: st, h) = mo_gf (hp_g h a) 11 25 245 80 ls st h) ∧ (∀ ls a i x st h, zz_Y 245 (80, ls, .int x :: .int i :: .ref a :: st, h) = mo_is (hp_g h a) x i a 245 81 ls st h) ∧ (∀ ls st h, zz_Y 245 (81, ls, st, h) = zz_Y 245 (82, ls, .int (nI 0) :: st, h)) ∧ (∀ l0 l1 l2 x st h, zz_nl l1 = true → zz_Y 245 (82, [l0, l1, l2], .int x :: st, h) = zz_Y 245 (83, [l0, l1, some (.int x)], st, h)) ∧ (∀ ls st h, zz_Y 245 (84, ls, st, h) = zz_Y 245 (86, ls, .int (nI 8) :: st, h)) ∧ (∀ ls a b st h, zz_Y 245 (86, ls, .int b :: .int a :: st, h) = if a < b then zz_Y 245 (89, ls, st, h) else zz_Y 245 (111, ls, st, h)) ∧ (∀ l1 l2 x st h, zz_Y 245 (89, [some (.ref x), l1, l2], st, h) = zz_Y 245 (90, [some (.ref x), l1, l2], .ref x :: st, h)) ∧ (∀ ls a st h, zz_Y 245 (90, ls, .ref a :: st, h) = mo_gf (hp_g h a) 11 0 245 93 ls st h) ∧ (∀ ls st h, zz_Y 245 (93, ls, st, h) = zz_Y 245 (96, ls, .int (nI 720) :: st, h)) ∧ (∀ l0 l1 x st h, zz_Y 245 (96, [l0, l1, some (.int x)], st, h) = zz_Y 245 (97, [l0, l1, some (.int x)], .int x :: st, h)) ∧ (∀ ls a b st h, zz_Y 245 (97, ls, .int b :: .int a :: st, h) = zz_Y 245 (98, ls, .int (a + b) :: st, h)) ∧ (∀ l1 l2 x st h, zz_Y 245 (98, [some (.ref x), l1, l2], st, h) = zz_Y 245 (99, [some (.ref x), l1, l2], .ref x :: st, h)) ∧ (∀ ls a st h, zz_Y 245 (99, ls, .ref a :: st, h) = mo_gf (hp_g h a) 11 10 245 102 ls st h) ∧ (∀ l0 l1 x st h, zz_Y 245 (102, [l0, l1, some (.int x)], st, h) = zz_Y 245 (103, [l0, l1, some (.int x)], .int x :: st, h)) ∧ (∀ ls a i st h, zz_Y 245 (103, ls, .int i :: .ref a :: st, h) = mo_ia (hp_g h a) i a 245 104 ls st h) ∧ (∀ ls a i x st h, zz_Y 245 (104, ls, .int x :: .int i :: .ref a :: st, h) = mo_is (hp_g h a) x i a 245 105 ls st h) ∧ (∀ l0 l1 x st h, zz_nl l1 = true → zz_Y 245 (105, [l0, l1, some (.int x)], st, h) = zz_Y 245 (108, [l0, l1, some (.int (x + nI 1))], st, h)) ∧ (∀ ls st h, zz_Y 245 (108, ls, st, h) = zz_Y 245 (83, ls, st, h)) ∧ (∀ l1 l2 x st h, zz_Y 245 (111, [some (.ref x), l1, l2], st, h) = zz_Y 245 (112, [some (.ref x), l1, l2], .ref x :: st, h)) ∧ (∀ ls a st h, zz_Y 245 (112, ls, .ref a :: st, h) = mo_gf (hp_g h a) 11 10 245 115 ls st h) :=
  ⟨fun _ _ _ _ _ => xl_aln d245_0 rfl,
   fun ls a0 h => xl_cv (As := [a0]) (st := []) d245_1 xco245 xm_11_322 (congrArg Nat.succ xnp222) (by decide +kernel) rfl,
   fun _ _ _ _ _ => xl_aln d245_4 rfl,
   fun _ _ _ => xl_ic d245_5 (by decide +kernel),
   fun _ _ _ _ _ => xl_pf d245_6 xco245 xf_11_328 (by decide +kernel) rfl,
   fun _ _ _ _ _ => xl_aln d245_9 rfl,
   fun _ _ _ => xl_ic d245_10 (by decide +kernel),
   fun _ _ _ _ _ => xl_pf d245_11 xco245 xf_11_341 (by decide +kernel) rfl,
   fun _ _ _ _ _ => xl_aln d245_14 rfl,
   fun _ _ _ => xl_ic d245_15 (by decide +kernel),
   fun _ _ _ _ _ => xl_pf d245_16 xco245 xf_11_338 (by decide +kernel) rfl,
   fun _ _ _ _ _ => xl_aln d245_19 rfl,
   fun ls a0 h => xl_cv (As := [a0]) (st := []) d245_20 xco245 xm_11_347 (congrArg Nat.succ xnp246) (by decide +kernel) rfl,
   fun _ _ _ => xl_ic d245_23 (by decide +kernel),
   fun _ _ _ _ _ _ hc => xl_isn d245_24 xml245 (by decide) (zz_nl_s1 hc),
   fun _ _ _ _ => xl_ifeq d245_26 rfl,
   fun _ _ _ _ _ => xl_aln d245_29 rfl,
   fun ls a0 h => xl_cv (As := [a0]) (st := []) d245_30 xco245 xm_11_247 (congrArg Nat.succ xnp227) (by decide +kernel) rfl,
   fun _ _ _ _ => xl_ifeq d245_33 rfl,
   fun _ _ _ _ _ => xl_aln d245_36 rfl,
   fun ls a0 h => xl_cv (As := [a0]) (st := []) d245_37 xco245 xm_11_353 (congrArg Nat.succ xnp247) (by decide +kernel) rfl,
   fun _ _ _ _ => xl_ifeq d245_40 rfl,
   fun _ _ _ _ _ => xl_aln d245_43 rfl,
   fun ls a0 h => xl_cv (As := [a0]) (st := []) d245_44 xco245 xm_11_356 (congrArg Nat.succ xnp251) (by decide +kernel) rfl,
   fun _ _ _ _ _ _ hc => xl_isn d245_47 xml245 (by decide) (zz_nl_s1 hc),
   fun _ _ _ => xl_goto d245_48 rfl,
   fun _ _ _ _ _ => xl_aln d245_51 rfl,
   fun ls a0 h => xl_cv (As := [a0]) (st := []) d245_52 xco245 xm_11_247 (congrArg Nat.succ xnp227) (by decide +kernel) rfl,
   fun _ _ _ _ => xl_ifne d245_55 rfl,
   fun _ _ _ => xl_ic d245_58 (by decide +kernel),
   fun _ _ _ => xl_iri d245_59 xrt245,
   fun _ _ _ _ _ => xl_aln d245_60 rfl,
   fun _ _ _ _ => xl_gf d245_61 xco245 xf_11_7,
   fun _ _ _ => xl_si d245_64 (by decide +kernel),
   fun _ _ _ => xl_ic d245_67 (by decide +kernel),
   fun _ _ _ _ _ _ => xl_ist d245_68,
   fun _ _ _ _ _ => xl_aln d245_69 rfl,
   fun _ _ _ _ => xl_gf d245_70 xco245 xf_11_7,
   fun _ _ _ => xl_si d245_73 (by decide +kernel),
   fun _ _ _ _ _ => xl_aln d245_76 rfl,
   fun _ _ _ _ => xl_gf d245_77 xco245 xf_11_338,
   fun _ _ _ _ _ _ => xl_ist d245_80,
   fun _ _ _ => xl_ic d245_81 (by decide +kernel),
   fun _ _ _ _ _ _ hc => xl_isn d245_82 xml245 (by decide) (zz_nl_s1 hc),
   fun _ _ _ => xl_bi d245_84 (by decide +kernel),
   fun _ _ _ _ _ => xl_icge d245_86 rfl,
   fun _ _ _ _ _ => xl_aln d245_89 rfl,
   fun _ _ _ _ => xl_gf d245_90 xco245 xf_11_7,
   fun _ _ _ => xl_si d245_93 (by decide +kernel),
   fun _ _ _ _ _ => xl_iln d245_96 rfl,
   fun _ _ _ _ _ => xl_iadd d245_97,
   fun _ _ _ _ _ => xl_aln d245_98 rfl,
   fun _ _ _ _ => xl_gf d245_99 xco245 xf_11_33,
   fun _ _ _ _ _ => xl_iln d245_102 rfl,
   fun _ _ _ _ _ => xl_ia d245_103,
   fun _ _ _ _ _ _ => xl_ist d245_104,
   fun _ _ _ _ _ hc => xl_inc d245_105 xml245 (by decide) rfl (by decide +kernel) (zz_nl_s1 hc),
   fun _ _ _ => xl_goto d245_108 rfl,
   fun _ _ _ _ _ => xl_aln d245_111 rfl,
   fun _ _ _ _ => xl_gf d245_112 xco245 xf_11_33⟩
theorem x245_p1 : (∀ ls a0 h, zz_Y 245 (115, ls, [a0], h) = mo_k 245 118 ls [] (zz_run 172 [a0] h)) ∧ (∀ ls v h, zz_Y 245 (118, ls, [.int v], h) = some (some (.int v), h)) :=
  ⟨fun ls a0 h => xl_cs (As := [a0]) (st := []) d245_115 xco245 xm_11_109 xnp172 (by decide +kernel) rfl,
   fun _ _ _ => xl_iri d245_118 xrt245⟩
theorem x245_c25 : ∀ l0 l2 x st h, zz_Y 245 (25, [l0, some (.int x), l2], st, h) = zz_Y 245 (26, [l0, some (.int x), l2], .int x :: st, h) := fun _ _ _ _ _ => xl_iln d245_25 rfl
theorem x245_c83 : ∀ l0 l1 x st h, zz_Y 245 (83, [l0, l1, some (.int x)], st, h) = zz_Y 245 (84, [l0, l1, some (.int x)], .int x :: st, h) := fun _ _ _ _ _ => xl_iln d245_83 rfl
/-! 246 FacetSieveModel.opens()V -/
theorem d246_0 : decode (zz_c 246) 0 = .ok (.aload_n 0, 1) := by decide +kernel
theorem d246_1 : decode (zz_c 246) 1 = .ok (.getfield 51, 3) := by decide +kernel
theorem d246_4 : decode (zz_c 246) 4 = .ok (.aload_n 0, 1) := by decide +kernel
theorem d246_5 : decode (zz_c 246) 5 = .ok (.getfield 328, 3) := by decide +kernel
theorem d246_8 : decode (zz_c 246) 8 = .ok (.iconst 0, 1) := by decide +kernel
theorem d246_9 : decode (zz_c 246) 9 = .ok (.bastore, 1) := by decide +kernel
theorem d246_10 : decode (zz_c 246) 10 = .ok (.aload_n 0, 1) := by decide +kernel
theorem d246_11 : decode (zz_c 246) 11 = .ok (.getfield 54, 3) := by decide +kernel
theorem d246_14 : decode (zz_c 246) 14 = .ok (.aload_n 0, 1) := by decide +kernel
theorem d246_15 : decode (zz_c 246) 15 = .ok (.getfield 328, 3) := by decide +kernel
theorem d246_18 : decode (zz_c 246) 18 = .ok (.iconst 0, 1) := by decide +kernel
theorem d246_19 : decode (zz_c 246) 19 = .ok (.bastore, 1) := by decide +kernel
theorem d246_20 : decode (zz_c 246) 20 = .ok (.aload_n 0, 1) := by decide +kernel
theorem d246_21 : decode (zz_c 246) 21 = .ok (.getfield 48, 3) := by decide +kernel
theorem d246_24 : decode (zz_c 246) 24 = .ok (.aload_n 0, 1) := by decide +kernel
theorem d246_25 : decode (zz_c 246) 25 = .ok (.getfield 328, 3) := by decide +kernel
theorem d246_28 : decode (zz_c 246) 28 = .ok (.iconst 0, 1) := by decide +kernel
theorem d246_29 : decode (zz_c 246) 29 = .ok (.iastore, 1) := by decide +kernel
theorem d246_30 : decode (zz_c 246) 30 = .ok (.return_, 1) := by decide +kernel
theorem x246 : (∀ x st h, zz_Y 246 (0, [some (.ref x)], st, h) = zz_Y 246 (1, [some (.ref x)], .ref x :: st, h)) ∧ (∀ ls a st h, zz_Y 246 (1, ls, .ref a :: st, h) = mo_gf (hp_g h a) 11 21 246 4 ls st h) ∧ (∀ x st h, zz_Y 246 (4, [some (.ref x)], st, h) = zz_Y 246 (5, [some (.ref x)], .ref x :: st, h)) ∧ (∀ ls a st h, zz_Y 246 (5, ls, .ref a :: st, h) = mo_gf (hp_g h a) 11 23 246 8 ls st h) ∧ (∀ ls st h, zz_Y 246 (8, ls, st, h) = zz_Y 246 (9, ls, .int (nI 0) :: st, h)) ∧ (∀ ls a i x st h, zz_Y 246 (9, ls, .int x :: .int i :: .ref a :: st, h) = mo_bs (hp_g h a) x i a 246 10 ls st h) ∧ (∀ x st h, zz_Y 246 (10, [some (.ref x)], st, h) = zz_Y 246 (11, [some (.ref x)], .ref x :: st, h)) ∧ (∀ ls a st h, zz_Y 246 (11, ls, .ref a :: st, h) = mo_gf (hp_g h a) 11 22 246 14 ls st h) ∧ (∀ x st h, zz_Y 246 (14, [some (.ref x)], st, h) = zz_Y 246 (15, [some (.ref x)], .ref x :: st, h)) ∧ (∀ ls a st h, zz_Y 246 (15, ls, .ref a :: st, h) = mo_gf (hp_g h a) 11 23 246 18 ls st h) ∧ (∀ ls st h, zz_Y 246 (18, ls, st, h) = zz_Y 246 (19, ls, .int (nI 0) :: st, h)) ∧ (∀ ls a i x st h, zz_Y 246 (19, ls, .int x :: .int i :: .ref a :: st, h) = mo_bs (hp_g h a) x i a 246 20 ls st h) ∧ (∀ x st h, zz_Y 246 (20, [some (.ref x)], st, h) = zz_Y 246 (21, [some (.ref x)], .ref x :: st, h)) ∧ (∀ ls a st h, zz_Y 246 (21, ls, .ref a :: st, h) = mo_gf (hp_g h a) 11 20 246 24 ls st h) ∧ (∀ x st h, zz_Y 246 (24, [some (.ref x)], st, h) = zz_Y 246 (25, [some (.ref x)], .ref x :: st, h)) ∧ (∀ ls a st h, zz_Y 246 (25, ls, .ref a :: st, h) = mo_gf (hp_g h a) 11 23 246 28 ls st h) ∧ (∀ ls st h, zz_Y 246 (28, ls, st, h) = zz_Y 246 (29, ls, .int (nI 0) :: st, h)) ∧ (∀ ls a i x st h, zz_Y 246 (29, ls, .int x :: .int i :: .ref a :: st, h) = mo_is (hp_g h a) x i a 246 30 ls st h) ∧ (∀ ls h, zz_Y 246 (30, ls, [], h) = some (none, h)) :=
  ⟨fun _ _ _ => xl_aln d246_0 rfl,
   fun _ _ _ _ => xl_gf d246_1 xco246 xf_11_51,
   fun _ _ _ => xl_aln d246_4 rfl,
   fun _ _ _ _ => xl_gf d246_5 xco246 xf_11_328,
   fun _ _ _ => xl_ic d246_8 (by decide +kernel),
   fun _ _ _ _ _ _ => xl_bst d246_9,
   fun _ _ _ => xl_aln d246_10 rfl,
   fun _ _ _ _ => xl_gf d246_11 xco246 xf_11_54,
   fun _ _ _ => xl_aln d246_14 rfl,
   fun _ _ _ _ => xl_gf d246_15 xco246 xf_11_328,
   fun _ _ _ => xl_ic d246_18 (by decide +kernel),
   fun _ _ _ _ _ _ => xl_bst d246_19,
   fun _ _ _ => xl_aln d246_20 rfl,
   fun _ _ _ _ => xl_gf d246_21 xco246 xf_11_48,
   fun _ _ _ => xl_aln d246_24 rfl,
   fun _ _ _ _ => xl_gf d246_25 xco246 xf_11_328,
   fun _ _ _ => xl_ic d246_28 (by decide +kernel),
   fun _ _ _ _ _ _ => xl_ist d246_29,
   fun _ _ => xl_r d246_30 xrt246⟩
/-! 247 FacetSieveModel.isFact()Z -/
theorem d247_0 : decode (zz_c 247) 0 = .ok (.aload_n 0, 1) := by decide +kernel
theorem d247_1 : decode (zz_c 247) 1 = .ok (.ldc2_w 276, 3) := by decide +kernel
theorem d247_4 : decode (zz_c 247) 4 = .ok (.invokevirtual 251, 3) := by decide +kernel
theorem d247_7 : decode (zz_c 247) 7 = .ok (.istore_n 1, 1) := by decide +kernel
theorem d247_8 : decode (zz_c 247) 8 = .ok (.iload_n 1, 1) := by decide +kernel
theorem d247_9 : decode (zz_c 247) 9 = .ok (.ifCond .ne 10, 3) := by decide +kernel
theorem d247_12 : decode (zz_c 247) 12 = .ok (.aload_n 0, 1) := by decide +kernel
theorem d247_13 : decode (zz_c 247) 13 = .ok (.invokevirtual 285, 3) := by decide +kernel
theorem d247_16 : decode (zz_c 247) 16 = .ok (.ifCond .eq 132, 3) := by decide +kernel
theorem d247_19 : decode (zz_c 247) 19 = .ok (.iload_n 1, 1) := by decide +kernel
theorem d247_20 : decode (zz_c 247) 20 = .ok (.ifCond .eq 7, 3) := by decide +kernel
theorem d247_23 : decode (zz_c 247) 23 = .ok (.iconst (-1), 1) := by decide +kernel
theorem d247_24 : decode (zz_c 247) 24 = .ok (.goto 12, 3) := by decide +kernel
theorem d247_27 : decode (zz_c 247) 27 = .ok (.aload_n 0, 1) := by decide +kernel
theorem d247_28 : decode (zz_c 247) 28 = .ok (.iconst 0, 1) := by decide +kernel
theorem d247_29 : decode (zz_c 247) 29 = .ok (.aload_n 0, 1) := by decide +kernel
theorem d247_30 : decode (zz_c 247) 30 = .ok (.getfield 223, 3) := by decide +kernel
theorem d247_33 : decode (zz_c 247) 33 = .ok (.invokevirtual 295, 3) := by decide +kernel
theorem d247_36 : decode (zz_c 247) 36 = .ok (.istore_n 2, 1) := by decide +kernel
theorem d247_37 : decode (zz_c 247) 37 = .ok (.iload_n 1, 1) := by decide +kernel
theorem d247_38 : decode (zz_c 247) 38 = .ok (.ifCond .ne 16, 3) := by decide +kernel
theorem d247_41 : decode (zz_c 247) 41 = .ok (.iload_n 2, 1) := by decide +kernel
theorem d247_42 : decode (zz_c 247) 42 = .ok (.ifCond .ge 12, 3) := by decide +kernel
theorem d247_45 : decode (zz_c 247) 45 = .ok (.aload_n 0, 1) := by decide +kernel
theorem d247_46 : decode (zz_c 247) 46 = .ok (.iconst 3, 1) := by decide +kernel
theorem d247_47 : decode (zz_c 247) 47 = .ok (.aload_n 0, 1) := by decide +kernel
theorem d247_48 : decode (zz_c 247) 48 = .ok (.getfield 220, 3) := by decide +kernel
theorem d247_51 : decode (zz_c 247) 51 = .ok (.invokevirtual 288, 3) := by decide +kernel
theorem d247_54 : decode (zz_c 247) 54 = .ok (.aload_n 0, 1) := by decide +kernel
theorem d247_55 : decode (zz_c 247) 55 = .ok (.getfield 341, 3) := by decide +kernel
theorem d247_58 : decode (zz_c 247) 58 = .ok (.bipush 30, 2) := by decide +kernel
theorem d247_60 : decode (zz_c 247) 60 = .ok (.if_icmp .ne 13, 3) := by decide +kernel
theorem d247_63 : decode (zz_c 247) 63 = .ok (.aload_n 0, 1) := by decide +kernel
theorem d247_64 : decode (zz_c 247) 64 = .ok (.bipush 7, 2) := by decide +kernel
theorem d247_66 : decode (zz_c 247) 66 = .ok (.aload_n 0, 1) := by decide +kernel
theorem d247_67 : decode (zz_c 247) 67 = .ok (.getfield 220, 3) := by decide +kernel
theorem d247_70 : decode (zz_c 247) 70 = .ok (.invokevirtual 288, 3) := by decide +kernel
theorem d247_73 : decode (zz_c 247) 73 = .ok (.aload_n 0, 1) := by decide +kernel
theorem d247_74 : decode (zz_c 247) 74 = .ok (.invokevirtual 247, 3) := by decide +kernel
theorem d247_77 : decode (zz_c 247) 77 = .ok (.ifCond .ne 5, 3) := by decide +kernel
theorem d247_80 : decode (zz_c 247) 80 = .ok (.iconst 1, 1) := by decide +kernel
theorem d247_81 : decode (zz_c 247) 81 = .ok (.ireturn, 1) := by decide +kernel
theorem d247_82 : decode (zz_c 247) 82 = .ok (.aload_n 0, 1) := by decide +kernel
theorem d247_83 : decode (zz_c 247) 83 = .ok (.dup, 1) := by decide +kernel
theorem d247_84 : decode (zz_c 247) 84 = .ok (.getfield 341, 3) := by decide +kernel
theorem d247_87 : decode (zz_c 247) 87 = .ok (.iconst 1, 1) := by decide +kernel
theorem d247_88 : decode (zz_c 247) 88 = .ok (.iadd, 1) := by decide +kernel
theorem d247_89 : decode (zz_c 247) 89 = .ok (.putfield 341, 3) := by decide +kernel
theorem d247_92 : decode (zz_c 247) 92 = .ok (.iload_n 1, 1) := by decide +kernel
theorem d247_93 : decode (zz_c 247) 93 = .ok (.ifCond .eq 36, 3) := by decide +kernel
theorem d247_96 : decode (zz_c 247) 96 = .ok (.iconst 0, 1) := by decide +kernel
theorem d247_97 : decode (zz_c 247) 97 = .ok (.istore_n 3, 1) := by decide +kernel
theorem d247_98 : decode (zz_c 247) 98 = .ok (.iload_n 3, 1) := by decide +kernel
theorem d247_99 : decode (zz_c 247) 99 = .ok (.bipush 8, 2) := by decide +kernel
theorem d247_101 : decode (zz_c 247) 101 = .ok (.if_icmp .ge 25, 3) := by decide +kernel
theorem d247_104 : decode (zz_c 247) 104 = .ok (.aload_n 0, 1) := by decide +kernel
theorem d247_105 : decode (zz_c 247) 105 = .ok (.getfield 33, 3) := by decide +kernel
theorem d247_108 : decode (zz_c 247) 108 = .ok (.iload_n 3, 1) := by decide +kernel
theorem d247_109 : decode (zz_c 247) 109 = .ok (.aload_n 0, 1) := by decide +kernel
theorem d247_110 : decode (zz_c 247) 110 = .ok (.getfield 7, 3) := by decide +kernel
theorem d247_113 : decode (zz_c 247) 113 = .ok (.sipush 294, 3) := by decide +kernel
theorem d247_116 : decode (zz_c 247) 116 = .ok (.iload_n 3, 1) := by decide +kernel
theorem d247_117 : decode (zz_c 247) 117 = .ok (.iadd, 1) := by decide +kernel
theorem d247_118 : decode (zz_c 247) 118 = .ok (.iaload, 1) := by decide +kernel
theorem d247_119 : decode (zz_c 247) 119 = .ok (.iastore, 1) := by decide +kernel
theorem d247_120 : decode (zz_c 247) 120 = .ok (.iinc 3 1, 3) := by decide +kernel
theorem d247_123 : decode (zz_c 247) 123 = .ok (.goto (-25), 3) := by decide +kernel
theorem d247_126 : decode (zz_c 247) 126 = .ok (.goto 12, 3) := by decide +kernel
theorem d247_129 : decode (zz_c 247) 129 = .ok (.aload_n 0, 1) := by decide +kernel
theorem d247_130 : decode (zz_c 247) 130 = .ok (.aload_n 0, 1) := by decide +kernel
theorem d247_131 : decode (zz_c 247) 131 = .ok (.getfield 33, 3) := by decide +kernel
theorem d247_134 : decode (zz_c 247) 134 = .ok (.iload_n 2, 1) := by decide +kernel
theorem d247_135 : decode (zz_c 247) 135 = .ok (.invokevirtual 96, 3) := by decide +kernel
theorem d247_138 : decode (zz_c 247) 138 = .ok (.aload_n 0, 1) := by decide +kernel
theorem d247_139 : decode (zz_c 247) 139 = .ok (.invokevirtual 244, 3) := by decide +kernel
theorem d247_142 : decode (zz_c 247) 142 = .ok (.aload_n 0, 1) := by decide +kernel
theorem d247_143 : decode (zz_c 247) 143 = .ok (.invokevirtual 344, 3) := by decide +kernel
theorem d247_146 : decode (zz_c 247) 146 = .ok (.iconst 1, 1) := by decide +kernel
theorem d247_147 : decode (zz_c 247) 147 = .ok (.ireturn, 1) := by decide +kernel
theorem d247_148 : decode (zz_c 247) 148 = .ok (.aload_n 0, 1) := by decide +kernel
theorem d247_149 : decode (zz_c 247) 149 = .ok (.bipush 91, 2) := by decide +kernel
theorem d247_151 : decode (zz_c 247) 151 = .ok (.invokevirtual 255, 3) := by decide +kernel
theorem d247_154 : decode (zz_c 247) 154 = .ok (.ifCond .ne 14, 3) := by decide +kernel
theorem d247_157 : decode (zz_c 247) 157 = .ok (.aload_n 0, 1) := by decide +kernel
theorem d247_158 : decode (zz_c 247) 158 = .ok (.iconst 1, 1) := by decide +kernel
theorem d247_159 : decode (zz_c 247) 159 = .ok (.aload_n 0, 1) := by decide +kernel
theorem d247_160 : decode (zz_c 247) 160 = .ok (.getfield 220, 3) := by decide +kernel
theorem d247_163 : decode (zz_c 247) 163 = .ok (.invokevirtual 288, 3) := by decide +kernel
theorem d247_166 : decode (zz_c 247) 166 = .ok (.iconst 1, 1) := by decide +kernel
theorem d247_167 : decode (zz_c 247) 167 = .ok (.ireturn, 1) := by decide +kernel
theorem d247_168 : decode (zz_c 247) 168 = .ok (.aload_n 0, 1) := by decide +kernel
theorem d247_169 : decode (zz_c 247) 169 = .ok (.getfield 328, 3) := by decide +kernel
theorem d247_172 : decode (zz_c 247) 172 = .ok (.bipush 6, 2) := by decide +kernel
theorem d247_174 : decode (zz_c 247) 174 = .ok (.if_icmp .ne 13, 3) := by decide +kernel
theorem d247_177 : decode (zz_c 247) 177 = .ok (.aload_n 0, 1) := by decide +kernel
theorem d247_178 : decode (zz_c 247) 178 = .ok (.bipush 8, 2) := by decide +kernel
theorem d247_180 : decode (zz_c 247) 180 = .ok (.aload_n 0, 1) := by decide +kernel
theorem d247_181 : decode (zz_c 247) 181 = .ok (.getfield 220, 3) := by decide +kernel
theorem d247_184 : decode (zz_c 247) 184 = .ok (.invokevirtual 288, 3) := by decide +kernel
theorem d247_187 : decode (zz_c 247) 187 = .ok (.aload_n 0, 1) := by decide +kernel
theorem d247_188 : decode (zz_c 247) 188 = .ok (.invokevirtual 247, 3) := by decide +kernel
theorem d247_191 : decode (zz_c 247) 191 = .ok (.ifCond .ne 5, 3) := by decide +kernel
theorem d247_194 : decode (zz_c 247) 194 = .ok (.iconst 1, 1) := by decide +kernel
theorem d247_195 : decode (zz_c 247) 195 = .ok (.ireturn, 1) := by decide +kernel
theorem d247_196 : decode (zz_c 247) 196 = .ok (.aload_n 0, 1) := by decide +kernel
theorem d247_197 : decode (zz_c 247) 197 = .ok (.invokevirtual 244, 3) := by decide +kernel
theorem d247_200 : decode (zz_c 247) 200 = .ok (.aload_n 0, 1) := by decide +kernel
theorem d247_201 : decode (zz_c 247) 201 = .ok (.dup, 1) := by decide +kernel
theorem d247_202 : decode (zz_c 247) 202 = .ok (.getfield 328, 3) := by decide +kernel
theorem d247_205 : decode (zz_c 247) 205 = .ok (.iconst 1, 1) := by decide +kernel
theorem d247_206 : decode (zz_c 247) 206 = .ok (.iadd, 1) := by decide +kernel
theorem d247_207 : decode (zz_c 247) 207 = .ok (.putfield 328, 3) := by decide +kernel
theorem d247_210 : decode (zz_c 247) 210 = .ok (.aload_n 0, 1) := by decide +kernel
theorem d247_211 : decode (zz_c 247) 211 = .ok (.invokevirtual 347, 3) := by decide +kernel
theorem d247_214 : decode (zz_c 247) 214 = .ok (.iconst 0, 1) := by decide +kernel
theorem d247_215 : decode (zz_c 247) 215 = .ok (.ireturn, 1) := by decide +kernel
theorem x247_p0 : (∀ l1 l2 l3 x st h, zz_Y 247 (0, [some (.ref x), l1, l2, l3], st, h) = zz_Y 247 (1, [some (.ref x), l1, l2, l3], .ref x :: st, h)) ∧ (∀ ls st h, zz_Y 247 (1, ls, st, h) = zz_Y 247 (4, ls, .long (lN 1065) :: st, h)) ∧ (∀ ls a0 a1 h, zz_Y 247 (4, ls, [a1, a0], h) = mo_k 247 7 ls [] (zz_run 229 [a0, a1] h)) ∧ (∀ l0 l1 l2 l3 x st h, zz_nl l0 = true → zz_Y 247 (7, [l0, l1, l2, l3], .int x :: st, h) = zz_Y 247 (8, [l0, some (.int x), l2, l3], st, h)) ∧ (∀ l0 l2 l3 x st h, zz_Y 247 (8, [l0, some (.int x), l2, l3], st, h) = zz_Y 247 (9, [l0, some (.int x), l2, l3], .int x :: st, h)) ∧ (∀ ls a st h, zz_Y 247 (9, ls, .int a :: st, h) = if a = nI 0 then zz_Y 247 (12, ls, st, h) else zz_Y 247 (19, ls, st, h)) ∧ (∀ l1 l2 l3 x st h, zz_Y 247 (12, [some (.ref x), l1, l2, l3], st, h) = zz_Y 247 (13, [some (.ref x), l1, l2, l3], .ref x :: st, h)) ∧ (∀ ls a0 h, zz_Y 247 (13, ls, [a0], h) = mo_k 247 16 ls [] (zz_run 233 [a0] h)) ∧ (∀ ls a st h, zz_Y 247 (16, ls, .int a :: st, h) = if a = nI 0 then zz_Y 247 (148, ls, st, h) else zz_Y 247 (19, ls, st, h)) ∧ (∀ l0 l2 l3 x st h, zz_Y 247 (19, [l0, some (.int x), l2, l3], st, h) = zz_Y 247 (20, [l0, some (.int x), l2, l3], .int x :: st, h)) ∧ (∀ ls a st h, zz_Y 247 (20, ls, .int a :: st, h) = if a = nI 0 then zz_Y 247 (27, ls, st, h) else zz_Y 247 (23, ls, st, h)) ∧ (∀ ls st h, zz_Y 247 (23, ls, st, h) = zz_Y 247 (24, ls, .int (-1) :: st, h)) ∧ (∀ ls st h, zz_Y 247 (24, ls, st, h) = zz_Y 247 (36, ls, st, h)) ∧ (∀ l1 l2 l3 x st h, zz_Y 247 (27, [some (.ref x), l1, l2, l3], st, h) = zz_Y 247 (28, [some (.ref x), l1, l2, l3], .ref x :: st, h)) ∧ (∀ ls st h, zz_Y 247 (28, ls, st, h) = zz_Y 247 (29, ls, .int (nI 0) :: st, h)) ∧ (∀ l1 l2 l3 x st h, zz_Y 247 (29, [some (.ref x), l1, l2, l3], st, h) = zz_Y 247 (30, [some (.ref x), l1, l2, l3], .ref x :: st, h)) ∧ (∀ ls a st h, zz_Y 247 (30, ls, .ref a :: st, h) = mo_gf (hp_g h a) 11 17 247 33 ls st h) ∧ (∀ ls a0 a1 a2 h, zz_Y 247 (33, ls, [a2, a1, a0], h) = mo_k 247 36 ls [] (zz_run 237 [a0, a1, a2] h)) ∧ (∀ l0 l1 l2 l3 x st h, zz_nl l1 = true → zz_Y 247 (36, [l0, l1, l2, l3], .int x :: st, h) = zz_Y 247 (37, [l0, l1, some (.int x), l3], st, h)) ∧ (∀ l0 l2 l3 x st h, zz_Y 247 (37, [l0, some (.int x), l2, l3], st, h) = zz_Y 247 (38, [l0, some (.int x), l2, l3], .int x :: st, h)) ∧ (∀ ls a st h, zz_Y 247 (38, ls, .int a :: st, h) = if a = nI 0 then zz_Y 247 (41, ls, st, h) else zz_Y 247 (54, ls, st, h)) ∧ (∀ l0 l1 l3 x st h, zz_Y 247 (41, [l0, l1, some (.int x), l3], st, h) = zz_Y 247 (42, [l0, l1, some (.int x), l3], .int x :: st, h)) ∧ (∀ ls a st h, zz_Y 247 (42, ls, .int a :: st, h) = if a < nI 0 then zz_Y 247 (45, ls, st, h) else zz_Y 247 (54, ls, st, h)) ∧ (∀ l1 l2 l3 x st h, zz_Y 247 (45, [some (.ref x), l1, l2, l3], st, h) = zz_Y 247 (46, [some (.ref x), l1, l2, l3], .ref x :: st, h)) ∧ (∀ ls st h, zz_Y 247 (46, ls, st, h) = zz_Y 247 (47, ls, .int (nI 3) :: st, h)) ∧ (∀ l1 l2 l3 x st h, zz_Y 247 (47, [some (.ref x), l1, l2, l3], st, h) = zz_Y 247 (48, [some (.ref x), l1, l2, l3], .ref x :: st, h)) ∧ (∀ ls a st h, zz_Y 247 (48, ls, .ref a :: st, h) = mo_gf (hp_g h a) 11 16 247 51 ls st h) ∧ (∀ ls a0 a1 a2 h, zz_Y 247 (51, ls, [a2, a1, a0], h) = mo_k 247 54 ls [] (zz_run 231 [a0, a1, a2] h)) ∧ (∀ l1 l2 l3 x st h, zz_Y 247 (54, [some (.ref x), l1, l2, l3], st, h) = zz_Y 247 (55, [some (.ref x), l1, l2, l3], .ref x :: st, h)) ∧ (∀ ls a st h, zz_Y 247 (55, ls, .ref a :: st, h) = mo_gf (hp_g h a) 11 24 247 58 ls st h) ∧ (∀ ls st h, zz_Y 247 (58, ls, st, h) = zz_Y 247 (60, ls, .int (nI 30) :: st, h)) ∧ (∀ ls a b st h, zz_Y 247 (60, ls, .int b :: .int a :: st, h) = if a = b then zz_Y 247 (63, ls, st, h) else zz_Y 247 (73, ls, st, h)) ∧ (∀ l1 l2 l3 x st h, zz_Y 247 (63, [some (.ref x), l1, l2, l3], st, h) = zz_Y 247 (64, [some (.ref x), l1, l2, l3], .ref x :: st, h)) ∧ (∀ ls st h, zz_Y 247 (64, ls, st, h) = zz_Y 247 (66, ls, .int (nI 7) :: st, h)) ∧ (∀ l1 l2 l3 x st h, zz_Y 247 (66, [some (.ref x), l1, l2, l3], st, h) = zz_Y 247 (67, [some (.ref x), l1, l2, l3], .ref x :: st, h)) ∧ (∀ ls a st h, zz_Y 247 (67, ls, .ref a :: st, h) = mo_gf (hp_g h a) 11 16 247 70 ls st h) ∧ (∀ ls a0 a1 a2 h, zz_Y 247 (70, ls, [a2, a1, a0], h) = mo_k 247 73 ls [] (zz_run 231 [a0, a1, a2] h)) ∧ (∀ l1 l2 l3 x st h, zz_Y 247 (73, [some (.ref x), l1, l2, l3], st, h) = zz_Y 247 (74, [some (.ref x), l1, l2, l3], .ref x :: st, h)) ∧ (∀ ls a0 h, zz_Y 247 (74, ls, [a0], h) = mo_k 247 77 ls [] (zz_run 227 [a0] h)) ∧ (∀ ls a st h, zz_Y 247 (77, ls, .int a :: st, h) = if a = nI 0 then zz_Y 247 (80, ls, st, h) else zz_Y 247 (82, ls, st, h)) ∧ (∀ ls st h, zz_Y 247 (80, ls, st, h) = zz_Y 247 (81, ls, .int (nI 1) :: st, h)) ∧ (∀ ls v h, v = nI 0 ∨ v = nI 1 → zz_Y 247 (81, ls, [.int v], h) = some (some (.int v), h)) ∧ (∀ l1 l2 l3 x st h, zz_Y 247 (82, [some (.ref x), l1, l2, l3], st, h) = zz_Y 247 (83, [some (.ref x), l1, l2, l3], .ref x :: st, h)) ∧ (∀ ls a st h, zz_Y 247 (83, ls, .ref a :: st, h) = zz_Y 247 (84, ls, .ref a :: .ref a :: st, h)) ∧ (∀ ls a st h, zz_Y 247 (84, ls, .ref a :: st, h) = mo_gf (hp_g h a) 11 24 247 87 ls st h) ∧ (∀ ls st h, zz_Y 247 (87, ls, st, h) = zz_Y 247 (88, ls, .int (nI 1) :: st, h)) ∧ (∀ ls a b st h, zz_Y 247 (88, ls, .int b :: .int a :: st, h) = zz_Y 247 (89, ls, .int (a + b) :: st, h)) ∧ (∀ ls a v st h, zz_Y 247 (89, ls, v :: .ref a :: st, h) = mo_pf (hp_g h a) 11 24 .int v a 247 92 ls st h) ∧ (∀ l0 l2 l3 x st h, zz_Y 247 (92, [l0, some (.int x), l2, l3], st, h) = zz_Y 247 (93, [l0, some (.int x), l2, l3], .int x :: st, h)) ∧ (∀ ls a st h, zz_Y 247 (93, ls, .int a :: st, h) = if a = nI 0 then zz_Y 247 (129, ls, st, h) else zz_Y 247 (96, ls, st, h)) ∧ (∀ ls st h, zz_Y 247 (96, ls, st, h) = zz_Y 247 (97, ls, .int (nI 0) :: st, h)) ∧ (∀ l0 l1 l2 l3 x st h, zz_nl l2 = true → zz_Y 247 (97, [l0, l1, l2, l3], .int x :: st, h) = zz_Y 247 (98, [l0, l1, l2, some (.int x)], st, h)) ∧ (∀ ls st h, zz_Y 247 (99, ls, st, h) = zz_Y 247 (101, ls, .int (nI 8) :: st, h)) ∧ (∀ ls a b st h, zz_Y 247 (101, ls, .int b :: .int a :: st, h) = if a < b then zz_Y 247 (104, ls, st, h) else zz_Y 247 (126, ls, st, h)) ∧ (∀ l1 l2 l3 x st h, zz_Y 247 (104, [some (.ref x), l1, l2, l3], st, h) = zz_Y 247 (105, [some (.ref x), l1, l2, l3], .ref x :: st, h)) ∧ (∀ ls a st h, zz_Y 247 (105, ls, .ref a :: st, h) = mo_gf (hp_g h a) 11 10 247 108 ls st h) ∧ (∀ l0 l1 l2 x st h, zz_Y 247 (108, [l0, l1, l2, some (.int x)], st, h) = zz_Y 247 (109, [l0, l1, l2, some (.int x)], .int x :: st, h)) ∧ (∀ l1 l2 l3 x st h, zz_Y 247 (109, [some (.ref x), l1, l2, l3], st, h) = zz_Y 247 (110, [some (.ref x), l1, l2, l3], .ref x :: st, h)) ∧ (∀ ls a st h, zz_Y 247 (110, ls, .ref a :: st, h) = mo_gf (hp_g h a) 11 0 247 113 ls st h) ∧ (∀ ls st h, zz_Y 247 (113, ls, st, h) = zz_Y 247 (116, ls, .int (nI 294) :: st, h)) :=
  ⟨fun _ _ _ _ _ _ => xl_aln d247_0 rfl,
   fun _ _ _ => xl_jw d247_1 xco247 (by decide +kernel),
   fun ls a0 a1 h => xl_cv (As := [a0, a1]) (st := []) d247_4 xco247 xm_11_251 (congrArg Nat.succ xnp229) (by decide +kernel) rfl,
   fun _ _ _ _ _ _ _ hc => xl_isn d247_7 xml247 (by decide) (zz_nl_s1 hc),
   fun _ _ _ _ _ _ => xl_iln d247_8 rfl,
   fun _ _ _ _ => xl_ifne d247_9 rfl,
   fun _ _ _ _ _ _ => xl_aln d247_12 rfl,
   fun ls a0 h => xl_cv (As := [a0]) (st := []) d247_13 xco247 xm_11_285 (congrArg Nat.succ xnp233) (by decide +kernel) rfl,
   fun _ _ _ _ => xl_ifeq d247_16 rfl,
   fun _ _ _ _ _ _ => xl_iln d247_19 rfl,
   fun _ _ _ _ => xl_ifeq d247_20 rfl,
   fun _ _ _ => xl_ic d247_23 (by decide +kernel),
   fun _ _ _ => xl_goto d247_24 rfl,
   fun _ _ _ _ _ _ => xl_aln d247_27 rfl,
   fun _ _ _ => xl_ic d247_28 (by decide +kernel),
   fun _ _ _ _ _ _ => xl_aln d247_29 rfl,
   fun _ _ _ _ => xl_gf d247_30 xco247 xf_11_223,
   fun ls a0 a1 a2 h => xl_cv (As := [a0, a1, a2]) (st := []) d247_33 xco247 xm_11_295 (congrArg Nat.succ xnp237) (by decide +kernel) rfl,
   fun _ _ _ _ _ _ _ hc => xl_isn d247_36 xml247 (by decide) (zz_nl_s1 hc),
   fun _ _ _ _ _ _ => xl_iln d247_37 rfl,
   fun _ _ _ _ => xl_ifne d247_38 rfl,
   fun _ _ _ _ _ _ => xl_iln d247_41 rfl,
   fun _ _ _ _ => xl_ifge d247_42 rfl,
   fun _ _ _ _ _ _ => xl_aln d247_45 rfl,
   fun _ _ _ => xl_ic d247_46 (by decide +kernel),
   fun _ _ _ _ _ _ => xl_aln d247_47 rfl,
   fun _ _ _ _ => xl_gf d247_48 xco247 xf_11_220,
   fun ls a0 a1 a2 h => xl_cv (As := [a0, a1, a2]) (st := []) d247_51 xco247 xm_11_288 (congrArg Nat.succ xnp231) (by decide +kernel) rfl,
   fun _ _ _ _ _ _ => xl_aln d247_54 rfl,
   fun _ _ _ _ => xl_gf d247_55 xco247 xf_11_341,
   fun _ _ _ => xl_bi d247_58 (by decide +kernel),
   fun _ _ _ _ _ => xl_icne d247_60 rfl,
   fun _ _ _ _ _ _ => xl_aln d247_63 rfl,
   fun _ _ _ => xl_bi d247_64 (by decide +kernel),
   fun _ _ _ _ _ _ => xl_aln d247_66 rfl,
   fun _ _ _ _ => xl_gf d247_67 xco247 xf_11_220,
   fun ls a0 a1 a2 h => xl_cv (As := [a0, a1, a2]) (st := []) d247_70 xco247 xm_11_288 (congrArg Nat.succ xnp231) (by decide +kernel) rfl,
   fun _ _ _ _ _ _ => xl_aln d247_73 rfl,
   fun ls a0 h => xl_cv (As := [a0]) (st := []) d247_74 xco247 xm_11_247 (congrArg Nat.succ xnp227) (by decide +kernel) rfl,
   fun _ _ _ _ => xl_ifne d247_77 rfl,
   fun _ _ _ => xl_ic d247_80 (by decide +kernel),
   fun _ _ _ hc => xl_irz d247_81 xrt247 hc,
   fun _ _ _ _ _ _ => xl_aln d247_82 rfl,
   fun _ _ _ _ => xl_dupr d247_83,
   fun _ _ _ _ => xl_gf d247_84 xco247 xf_11_341,
   fun _ _ _ => xl_ic d247_87 (by decide +kernel),
   fun _ _ _ _ _ => xl_iadd d247_88,
   fun _ _ _ _ _ => xl_pf d247_89 xco247 xf_11_341 (by decide +kernel) rfl,
   fun _ _ _ _ _ _ => xl_iln d247_92 rfl,
   fun _ _ _ _ => xl_ifeq d247_93 rfl,
   fun _ _ _ => xl_ic d247_96 (by decide +kernel),
   fun _ _ _ _ _ _ _ hc => xl_isn d247_97 xml247 (by decide) (zz_nl_s1 hc),
   fun _ _ _ => xl_bi d247_99 (by decide +kernel),
   fun _ _ _ _ _ => xl_icge d247_101 rfl,
   fun _ _ _ _ _ _ => xl_aln d247_104 rfl,
   fun _ _ _ _ => xl_gf d247_105 xco247 xf_11_33,
   fun _ _ _ _ _ _ => xl_iln d247_108 rfl,
   fun _ _ _ _ _ _ => xl_aln d247_109 rfl,
   fun _ _ _ _ => xl_gf d247_110 xco247 xf_11_7,
   fun _ _ _ => xl_si d247_113 (by decide +kernel)⟩
theorem x247_p1 : (∀ l0 l1 l2 x st h, zz_Y 247 (116, [l0, l1, l2, some (.int x)], st, h) = zz_Y 247 (117, [l0, l1, l2, some (.int x)], .int x :: st, h)) ∧ (∀ ls a b st h, zz_Y 247 (117, ls, .int b :: .int a :: st, h) = zz_Y 247 (118, ls, .int (a + b) :: st, h)) ∧ (∀ ls a i st h, zz_Y 247 (118, ls, .int i :: .ref a :: st, h) = mo_ia (hp_g h a) i a 247 119 ls st h) ∧ (∀ ls a i x st h, zz_Y 247 (119, ls, .int x :: .int i :: .ref a :: st, h) = mo_is (hp_g h a) x i a 247 120 ls st h) ∧ (∀ l0 l1 l2 x st h, zz_nl l2 = true → zz_Y 247 (120, [l0, l1, l2, some (.int x)], st, h) = zz_Y 247 (123, [l0, l1, l2, some (.int (x + nI 1))], st, h)) ∧ (∀ ls st h, zz_Y 247 (123, ls, st, h) = zz_Y 247 (98, ls, st, h)) ∧ (∀ ls st h, zz_Y 247 (126, ls, st, h) = zz_Y 247 (138, ls, st, h)) ∧ (∀ l1 l2 l3 x st h, zz_Y 247 (129, [some (.ref x), l1, l2, l3], st, h) = zz_Y 247 (130, [some (.ref x), l1, l2, l3], .ref x :: st, h)) ∧ (∀ l1 l2 l3 x st h, zz_Y 247 (130, [some (.ref x), l1, l2, l3], st, h) = zz_Y 247 (131, [some (.ref x), l1, l2, l3], .ref x :: st, h)) ∧ (∀ ls a st h, zz_Y 247 (131, ls, .ref a :: st, h) = mo_gf (hp_g h a) 11 10 247 134 ls st h) ∧ (∀ l0 l1 l3 x st h, zz_Y 247 (134, [l0, l1, some (.int x), l3], st, h) = zz_Y 247 (135, [l0, l1, some (.int x), l3], .int x :: st, h)) ∧ (∀ ls a0 a1 a2 h, zz_Y 247 (135, ls, [a2, a1, a0], h) = mo_k 247 138 ls [] (zz_run 156 [a0, a1, a2] h)) ∧ (∀ l1 l2 l3 x st h, zz_Y 247 (138, [some (.ref x), l1, l2, l3], st, h) = zz_Y 247 (139, [some (.ref x), l1, l2, l3], .ref x :: st, h)) ∧ (∀ ls a0 h, zz_Y 247 (139, ls, [a0], h) = mo_k 247 142 ls [] (zz_run 223 [a0] h)) ∧ (∀ l1 l2 l3 x st h, zz_Y 247 (142, [some (.ref x), l1, l2, l3], st, h) = zz_Y 247 (143, [some (.ref x), l1, l2, l3], .ref x :: st, h)) ∧ (∀ ls a0 h, zz_Y 247 (143, ls, [a0], h) = mo_k 247 146 ls [] (zz_run 248 [a0] h)) ∧ (∀ ls st h, zz_Y 247 (146, ls, st, h) = zz_Y 247 (147, ls, .int (nI 1) :: st, h)) ∧ (∀ ls v h, v = nI 0 ∨ v = nI 1 → zz_Y 247 (147, ls, [.int v], h) = some (some (.int v), h)) ∧ (∀ l1 l2 l3 x st h, zz_Y 247 (148, [some (.ref x), l1, l2, l3], st, h) = zz_Y 247 (149, [some (.ref x), l1, l2, l3], .ref x :: st, h)) ∧ (∀ ls st h, zz_Y 247 (149, ls, st, h) = zz_Y 247 (151, ls, .int (nI 91) :: st, h)) ∧ (∀ ls a0 a1 h, zz_Y 247 (151, ls, [a1, a0], h) = mo_k 247 154 ls [] (zz_run 244 [a0, a1] h)) ∧ (∀ ls a st h, zz_Y 247 (154, ls, .int a :: st, h) = if a = nI 0 then zz_Y 247 (157, ls, st, h) else zz_Y 247 (168, ls, st, h)) ∧ (∀ l1 l2 l3 x st h, zz_Y 247 (157, [some (.ref x), l1, l2, l3], st, h) = zz_Y 247 (158, [some (.ref x), l1, l2, l3], .ref x :: st, h)) ∧ (∀ ls st h, zz_Y 247 (158, ls, st, h) = zz_Y 247 (159, ls, .int (nI 1) :: st, h)) ∧ (∀ l1 l2 l3 x st h, zz_Y 247 (159, [some (.ref x), l1, l2, l3], st, h) = zz_Y 247 (160, [some (.ref x), l1, l2, l3], .ref x :: st, h)) ∧ (∀ ls a st h, zz_Y 247 (160, ls, .ref a :: st, h) = mo_gf (hp_g h a) 11 16 247 163 ls st h) ∧ (∀ ls a0 a1 a2 h, zz_Y 247 (163, ls, [a2, a1, a0], h) = mo_k 247 166 ls [] (zz_run 231 [a0, a1, a2] h)) ∧ (∀ ls st h, zz_Y 247 (166, ls, st, h) = zz_Y 247 (167, ls, .int (nI 1) :: st, h)) ∧ (∀ ls v h, v = nI 0 ∨ v = nI 1 → zz_Y 247 (167, ls, [.int v], h) = some (some (.int v), h)) ∧ (∀ l1 l2 l3 x st h, zz_Y 247 (168, [some (.ref x), l1, l2, l3], st, h) = zz_Y 247 (169, [some (.ref x), l1, l2, l3], .ref x :: st, h)) ∧ (∀ ls a st h, zz_Y 247 (169, ls, .ref a :: st, h) = mo_gf (hp_g h a) 11 23 247 172 ls st h) ∧ (∀ ls st h, zz_Y 247 (172, ls, st, h) = zz_Y 247 (174, ls, .int (nI 6) :: st, h)) ∧ (∀ ls a b st h, zz_Y 247 (174, ls, .int b :: .int a :: st, h) = if a = b then zz_Y 247 (177, ls, st, h) else zz_Y 247 (187, ls, st, h)) ∧ (∀ l1 l2 l3 x st h, zz_Y 247 (177, [some (.ref x), l1, l2, l3], st, h) = zz_Y 247 (178, [some (.ref x), l1, l2, l3], .ref x :: st, h)) ∧ (∀ ls st h, zz_Y 247 (178, ls, st, h) = zz_Y 247 (180, ls, .int (nI 8) :: st, h)) ∧ (∀ l1 l2 l3 x st h, zz_Y 247 (180, [some (.ref x), l1, l2, l3], st, h) = zz_Y 247 (181, [some (.ref x), l1, l2, l3], .ref x :: st, h)) ∧ (∀ ls a st h, zz_Y 247 (181, ls, .ref a :: st, h) = mo_gf (hp_g h a) 11 16 247 184 ls st h) ∧ (∀ ls a0 a1 a2 h, zz_Y 247 (184, ls, [a2, a1, a0], h) = mo_k 247 187 ls [] (zz_run 231 [a0, a1, a2] h)) ∧ (∀ l1 l2 l3 x st h, zz_Y 247 (187, [some (.ref x), l1, l2, l3], st, h) = zz_Y 247 (188, [some (.ref x), l1, l2, l3], .ref x :: st, h)) ∧ (∀ ls a0 h, zz_Y 247 (188, ls, [a0], h) = mo_k 247 191 ls [] (zz_run 227 [a0] h)) ∧ (∀ ls a st h, zz_Y 247 (191, ls, .int a :: st, h) = if a = nI 0 then zz_Y 247 (194, ls, st, h) else zz_Y 247 (196, ls, st, h)) ∧ (∀ ls st h, zz_Y 247 (194, ls, st, h) = zz_Y 247 (195, ls, .int (nI 1) :: st, h)) ∧ (∀ ls v h, v = nI 0 ∨ v = nI 1 → zz_Y 247 (195, ls, [.int v], h) = some (some (.int v), h)) ∧ (∀ l1 l2 l3 x st h, zz_Y 247 (196, [some (.ref x), l1, l2, l3], st, h) = zz_Y 247 (197, [some (.ref x), l1, l2, l3], .ref x :: st, h)) ∧ (∀ ls a0 h, zz_Y 247 (197, ls, [a0], h) = mo_k 247 200 ls [] (zz_run 223 [a0] h)) ∧ (∀ l1 l2 l3 x st h, zz_Y 247 (200, [some (.ref x), l1, l2, l3], st, h) = zz_Y 247 (201, [some (.ref x), l1, l2, l3], .ref x :: st, h)) ∧ (∀ ls a st h, zz_Y 247 (201, ls, .ref a :: st, h) = zz_Y 247 (202, ls, .ref a :: .ref a :: st, h)) ∧ (∀ ls a st h, zz_Y 247 (202, ls, .ref a :: st, h) = mo_gf (hp_g h a) 11 23 247 205 ls st h) ∧ (∀ ls st h, zz_Y 247 (205, ls, st, h) = zz_Y 247 (206, ls, .int (nI 1) :: st, h)) ∧ (∀ ls a b st h, zz_Y 247 (206, ls, .int b :: .int a :: st, h) = zz_Y 247 (207, ls, .int (a + b) :: st, h)) ∧ (∀ ls a v st h, zz_Y 247 (207, ls, v :: .ref a :: st, h) = mo_pf (hp_g h a) 11 23 .int v a 247 210 ls st h) ∧ (∀ l1 l2 l3 x st h, zz_Y 247 (210, [some (.ref x), l1, l2, l3], st, h) = zz_Y 247 (211, [some (.ref x), l1, l2, l3], .ref x :: st, h)) ∧ (∀ ls a0 h, zz_Y 247 (211, ls, [a0], h) = mo_k 247 214 ls [] (zz_run 246 [a0] h)) ∧ (∀ ls st h, zz_Y 247 (214, ls, st, h) = zz_Y 247 (215, ls, .int (nI 0) :: st, h)) ∧ (∀ ls v h, v = nI 0 ∨ v = nI 1 → zz_Y 247 (215, ls, [.int v], h) = some (some (.int v), h)) :=
  ⟨fun _ _ _ _ _ _ => xl_iln d247_116 rfl,
   fun _ _ _ _ _ => xl_iadd d247_117,
   fun _ _ _ _ _ => xl_ia d247_118,
   fun _ _ _ _ _ _ => xl_ist d247_119,
   fun _ _ _ _ _ _ hc => xl_inc d247_120 xml247 (by decide) rfl (by decide +kernel) (zz_nl_s1 hc),
   fun _ _ _ => xl_goto d247_123 rfl,
   fun _ _ _ => xl_goto d247_126 rfl,
   fun _ _ _ _ _ _ => xl_aln d247_129 rfl,
   fun _ _ _ _ _ _ => xl_aln d247_130 rfl,
   fun _ _ _ _ => xl_gf d247_131 xco247 xf_11_33,
   fun _ _ _ _ _ _ => xl_iln d247_134 rfl,
   fun ls a0 a1 a2 h => xl_cv (As := [a0, a1, a2]) (st := []) d247_135 xco247 xm_11_96 (congrArg Nat.succ xnp156) (by decide +kernel) rfl,
   fun _ _ _ _ _ _ => xl_aln d247_138 rfl,
   fun ls a0 h => xl_cv (As := [a0]) (st := []) d247_139 xco247 xm_11_244 (congrArg Nat.succ xnp223) (by decide +kernel) rfl,
   fun _ _ _ _ _ _ => xl_aln d247_142 rfl,
   fun ls a0 h => xl_cv (As := [a0]) (st := []) d247_143 xco247 xm_11_344 (congrArg Nat.succ xnp248) (by decide +kernel) rfl,
   fun _ _ _ => xl_ic d247_146 (by decide +kernel),
   fun _ _ _ hc => xl_irz d247_147 xrt247 hc,
   fun _ _ _ _ _ _ => xl_aln d247_148 rfl,
   fun _ _ _ => xl_bi d247_149 (by decide +kernel),
   fun ls a0 a1 h => xl_cv (As := [a0, a1]) (st := []) d247_151 xco247 xm_11_255 (congrArg Nat.succ xnp244) (by decide +kernel) rfl,
   fun _ _ _ _ => xl_ifne d247_154 rfl,
   fun _ _ _ _ _ _ => xl_aln d247_157 rfl,
   fun _ _ _ => xl_ic d247_158 (by decide +kernel),
   fun _ _ _ _ _ _ => xl_aln d247_159 rfl,
   fun _ _ _ _ => xl_gf d247_160 xco247 xf_11_220,
   fun ls a0 a1 a2 h => xl_cv (As := [a0, a1, a2]) (st := []) d247_163 xco247 xm_11_288 (congrArg Nat.succ xnp231) (by decide +kernel) rfl,
   fun _ _ _ => xl_ic d247_166 (by decide +kernel),
   fun _ _ _ hc => xl_irz d247_167 xrt247 hc,
   fun _ _ _ _ _ _ => xl_aln d247_168 rfl,
   fun _ _ _ _ => xl_gf d247_169 xco247 xf_11_328,
   fun _ _ _ => xl_bi d247_172 (by decide +kernel),
   fun _ _ _ _ _ => xl_icne d247_174 rfl,
   fun _ _ _ _ _ _ => xl_aln d247_177 rfl,
   fun _ _ _ => xl_bi d247_178 (by decide +kernel),
   fun _ _ _ _ _ _ => xl_aln d247_180 rfl,
   fun _ _ _ _ => xl_gf d247_181 xco247 xf_11_220,
   fun ls a0 a1 a2 h => xl_cv (As := [a0, a1, a2]) (st := []) d247_184 xco247 xm_11_288 (congrArg Nat.succ xnp231) (by decide +kernel) rfl,
   fun _ _ _ _ _ _ => xl_aln d247_187 rfl,
   fun ls a0 h => xl_cv (As := [a0]) (st := []) d247_188 xco247 xm_11_247 (congrArg Nat.succ xnp227) (by decide +kernel) rfl,
   fun _ _ _ _ => xl_ifne d247_191 rfl,
   fun _ _ _ => xl_ic d247_194 (by decide +kernel),
   fun _ _ _ hc => xl_irz d247_195 xrt247 hc,
   fun _ _ _ _ _ _ => xl_aln d247_196 rfl,
   fun ls a0 h => xl_cv (As := [a0]) (st := []) d247_197 xco247 xm_11_244 (congrArg Nat.succ xnp223) (by decide +kernel) rfl,
   fun _ _ _ _ _ _ => xl_aln d247_200 rfl,
   fun _ _ _ _ => xl_dupr d247_201,
   fun _ _ _ _ => xl_gf d247_202 xco247 xf_11_328,
   fun _ _ _ => xl_ic d247_205 (by decide +kernel),
   fun _ _ _ _ _ => xl_iadd d247_206,
   fun _ _ _ _ _ => xl_pf d247_207 xco247 xf_11_328 (by decide +kernel) rfl,
   fun _ _ _ _ _ _ => xl_aln d247_210 rfl,
   fun ls a0 h => xl_cv (As := [a0]) (st := []) d247_211 xco247 xm_11_347 (congrArg Nat.succ xnp246) (by decide +kernel) rfl,
   fun _ _ _ => xl_ic d247_214 (by decide +kernel),
   fun _ _ _ hc => xl_irz d247_215 xrt247 hc⟩
theorem x247_c98 : ∀ l0 l1 l2 x st h, zz_Y 247 (98, [l0, l1, l2, some (.int x)], st, h) = zz_Y 247 (99, [l0, l1, l2, some (.int x)], .int x :: st, h) := fun _ _ _ _ _ _ => xl_iln d247_98 rfl
/-! 248 FacetSieveModel.comes()V -/
theorem d248_0 : decode (zz_c 248) 0 = .ok (.aload_n 0, 1) := by decide +kernel
theorem d248_1 : decode (zz_c 248) 1 = .ok (.getfield 54, 3) := by decide +kernel
theorem d248_4 : decode (zz_c 248) 4 = .ok (.aload_n 0, 1) := by decide +kernel
theorem d248_5 : decode (zz_c 248) 5 = .ok (.getfield 328, 3) := by decide +kernel
theorem d248_8 : decode (zz_c 248) 8 = .ok (.baload, 1) := by decide +kernel
theorem d248_9 : decode (zz_c 248) 9 = .ok (.ifCond .ne 26, 3) := by decide +kernel
theorem d248_12 : decode (zz_c 248) 12 = .ok (.aload_n 0, 1) := by decide +kernel
theorem d248_13 : decode (zz_c 248) 13 = .ok (.getfield 54, 3) := by decide +kernel
theorem d248_16 : decode (zz_c 248) 16 = .ok (.aload_n 0, 1) := by decide +kernel
theorem d248_17 : decode (zz_c 248) 17 = .ok (.getfield 328, 3) := by decide +kernel
theorem d248_20 : decode (zz_c 248) 20 = .ok (.iconst 1, 1) := by decide +kernel
theorem d248_21 : decode (zz_c 248) 21 = .ok (.bastore, 1) := by decide +kernel
theorem d248_22 : decode (zz_c 248) 22 = .ok (.aload_n 0, 1) := by decide +kernel
theorem d248_23 : decode (zz_c 248) 23 = .ok (.aload_n 0, 1) := by decide +kernel
theorem d248_24 : decode (zz_c 248) 24 = .ok (.getfield 33, 3) := by decide +kernel
theorem d248_27 : decode (zz_c 248) 27 = .ok (.aload_n 0, 1) := by decide +kernel
theorem d248_28 : decode (zz_c 248) 28 = .ok (.getfield 45, 3) := by decide +kernel
theorem d248_31 : decode (zz_c 248) 31 = .ok (.invokevirtual 331, 3) := by decide +kernel
theorem d248_34 : decode (zz_c 248) 34 = .ok (.return_, 1) := by decide +kernel
theorem d248_35 : decode (zz_c 248) 35 = .ok (.aload_n 0, 1) := by decide +kernel
theorem d248_36 : decode (zz_c 248) 36 = .ok (.aload_n 0, 1) := by decide +kernel
theorem d248_37 : decode (zz_c 248) 37 = .ok (.getfield 45, 3) := by decide +kernel
theorem d248_40 : decode (zz_c 248) 40 = .ok (.aload_n 0, 1) := by decide +kernel
theorem d248_41 : decode (zz_c 248) 41 = .ok (.getfield 24, 3) := by decide +kernel
theorem d248_44 : decode (zz_c 248) 44 = .ok (.invokevirtual 335, 3) := by decide +kernel
theorem d248_47 : decode (zz_c 248) 47 = .ok (.aload_n 0, 1) := by decide +kernel
theorem d248_48 : decode (zz_c 248) 48 = .ok (.getfield 48, 3) := by decide +kernel
theorem d248_51 : decode (zz_c 248) 51 = .ok (.aload_n 0, 1) := by decide +kernel
theorem d248_52 : decode (zz_c 248) 52 = .ok (.getfield 328, 3) := by decide +kernel
theorem d248_55 : decode (zz_c 248) 55 = .ok (.iaload, 1) := by decide +kernel
theorem d248_56 : decode (zz_c 248) 56 = .ok (.istore_n 1, 1) := by decide +kernel
theorem d248_57 : decode (zz_c 248) 57 = .ok (.aload_n 0, 1) := by decide +kernel
theorem d248_58 : decode (zz_c 248) 58 = .ok (.dup, 1) := by decide +kernel
theorem d248_59 : decode (zz_c 248) 59 = .ok (.getfield 338, 3) := by decide +kernel
theorem d248_62 : decode (zz_c 248) 62 = .ok (.aload_n 0, 1) := by decide +kernel
theorem d248_63 : decode (zz_c 248) 63 = .ok (.getfield 24, 3) := by decide +kernel
theorem d248_66 : decode (zz_c 248) 66 = .ok (.aload_n 0, 1) := by decide +kernel
theorem d248_67 : decode (zz_c 248) 67 = .ok (.getfield 33, 3) := by decide +kernel
theorem d248_70 : decode (zz_c 248) 70 = .ok (.iload_n 1, 1) := by decide +kernel
theorem d248_71 : decode (zz_c 248) 71 = .ok (.invokestatic 180, 3) := by decide +kernel
theorem d248_74 : decode (zz_c 248) 74 = .ok (.iadd, 1) := by decide +kernel
theorem d248_75 : decode (zz_c 248) 75 = .ok (.putfield 338, 3) := by decide +kernel
theorem d248_78 : decode (zz_c 248) 78 = .ok (.iconst 0, 1) := by decide +kernel
theorem d248_79 : decode (zz_c 248) 79 = .ok (.istore_n 2, 1) := by decide +kernel
theorem d248_80 : decode (zz_c 248) 80 = .ok (.iload_n 2, 1) := by decide +kernel
theorem d248_81 : decode (zz_c 248) 81 = .ok (.bipush 8, 2) := by decide +kernel
theorem d248_83 : decode (zz_c 248) 83 = .ok (.if_icmp .ge 50, 3) := by decide +kernel
theorem d248_86 : decode (zz_c 248) 86 = .ok (.aload_n 0, 1) := by decide +kernel
theorem d248_87 : decode (zz_c 248) 87 = .ok (.getfield 24, 3) := by decide +kernel
theorem d248_90 : decode (zz_c 248) 90 = .ok (.iload_n 2, 1) := by decide +kernel
theorem d248_91 : decode (zz_c 248) 91 = .ok (.iload_n 1, 1) := by decide +kernel
theorem d248_92 : decode (zz_c 248) 92 = .ok (.ifCond .ne 19, 3) := by decide +kernel
theorem d248_95 : decode (zz_c 248) 95 = .ok (.aload_n 0, 1) := by decide +kernel
theorem d248_96 : decode (zz_c 248) 96 = .ok (.getfield 24, 3) := by decide +kernel
theorem d248_99 : decode (zz_c 248) 99 = .ok (.iload_n 2, 1) := by decide +kernel
theorem d248_100 : decode (zz_c 248) 100 = .ok (.iaload, 1) := by decide +kernel
theorem d248_101 : decode (zz_c 248) 101 = .ok (.aload_n 0, 1) := by decide +kernel
theorem d248_102 : decode (zz_c 248) 102 = .ok (.getfield 33, 3) := by decide +kernel
theorem d248_105 : decode (zz_c 248) 105 = .ok (.iload_n 2, 1) := by decide +kernel
theorem d248_106 : decode (zz_c 248) 106 = .ok (.iaload, 1) := by decide +kernel
theorem d248_107 : decode (zz_c 248) 107 = .ok (.iand, 1) := by decide +kernel
theorem d248_108 : decode (zz_c 248) 108 = .ok (.goto 18, 3) := by decide +kernel
theorem d248_111 : decode (zz_c 248) 111 = .ok (.aload_n 0, 1) := by decide +kernel
theorem d248_112 : decode (zz_c 248) 112 = .ok (.getfield 24, 3) := by decide +kernel
theorem d248_115 : decode (zz_c 248) 115 = .ok (.iload_n 2, 1) := by decide +kernel
theorem d248_116 : decode (zz_c 248) 116 = .ok (.iaload, 1) := by decide +kernel
theorem d248_117 : decode (zz_c 248) 117 = .ok (.aload_n 0, 1) := by decide +kernel
theorem d248_118 : decode (zz_c 248) 118 = .ok (.getfield 33, 3) := by decide +kernel
theorem d248_121 : decode (zz_c 248) 121 = .ok (.iload_n 2, 1) := by decide +kernel
theorem d248_122 : decode (zz_c 248) 122 = .ok (.iaload, 1) := by decide +kernel
theorem d248_123 : decode (zz_c 248) 123 = .ok (.iconst (-1), 1) := by decide +kernel
theorem d248_124 : decode (zz_c 248) 124 = .ok (.ixor, 1) := by decide +kernel
theorem d248_125 : decode (zz_c 248) 125 = .ok (.iand, 1) := by decide +kernel
theorem d248_126 : decode (zz_c 248) 126 = .ok (.iastore, 1) := by decide +kernel
theorem d248_127 : decode (zz_c 248) 127 = .ok (.iinc 2 1, 3) := by decide +kernel
theorem d248_130 : decode (zz_c 248) 130 = .ok (.goto (-50), 3) := by decide +kernel
theorem d248_133 : decode (zz_c 248) 133 = .ok (.aload_n 0, 1) := by decide +kernel
theorem d248_134 : decode (zz_c 248) 134 = .ok (.aload_n 0, 1) := by decide +kernel
theorem d248_135 : decode (zz_c 248) 135 = .ok (.getfield 24, 3) := by decide +kernel
theorem d248_138 : decode (zz_c 248) 138 = .ok (.aload_n 0, 1) := by decide +kernel
theorem d248_139 : decode (zz_c 248) 139 = .ok (.getfield 45, 3) := by decide +kernel
theorem d248_142 : decode (zz_c 248) 142 = .ok (.invokevirtual 331, 3) := by decide +kernel
theorem d248_145 : decode (zz_c 248) 145 = .ok (.return_, 1) := by decide +kernel
theorem x248_p0 : (∀ l1 l2 x st h, zz_Y 248 (0, [some (.ref x), l1, l2], st, h) = zz_Y 248 (1, [some (.ref x), l1, l2], .ref x :: st, h)) ∧ (∀ ls a st h, zz_Y 248 (1, ls, .ref a :: st, h) = mo_gf (hp_g h a) 11 22 248 4 ls st h) ∧ (∀ l1 l2 x st h, zz_Y 248 (4, [some (.ref x), l1, l2], st, h) = zz_Y 248 (5, [some (.ref x), l1, l2], .ref x :: st, h)) ∧ (∀ ls a st h, zz_Y 248 (5, ls, .ref a :: st, h) = mo_gf (hp_g h a) 11 23 248 8 ls st h) ∧ (∀ ls a i st h, zz_Y 248 (8, ls, .int i :: .ref a :: st, h) = mo_ba (hp_g h a) i 248 9 ls st h) ∧ (∀ ls a st h, zz_Y 248 (9, ls, .int a :: st, h) = if a = nI 0 then zz_Y 248 (12, ls, st, h) else zz_Y 248 (35, ls, st, h)) ∧ (∀ l1 l2 x st h, zz_Y 248 (12, [some (.ref x), l1, l2], st, h) = zz_Y 248 (13, [some (.ref x), l1, l2], .ref x :: st, h)) ∧ (∀ ls a st h, zz_Y 248 (13, ls, .ref a :: st, h) = mo_gf (hp_g h a) 11 22 248 16 ls st h) ∧ (∀ l1 l2 x st h, zz_Y 248 (16, [some (.ref x), l1, l2], st, h) = zz_Y 248 (17, [some (.ref x), l1, l2], .ref x :: st, h)) ∧ (∀ ls a st h, zz_Y 248 (17, ls, .ref a :: st, h) = mo_gf (hp_g h a) 11 23 248 20 ls st h) ∧ (∀ ls st h, zz_Y 248 (20, ls, st, h) = zz_Y 248 (21, ls, .int (nI 1) :: st, h)) ∧ (∀ ls a i x st h, zz_Y 248 (21, ls, .int x :: .int i :: .ref a :: st, h) = mo_bs (hp_g h a) x i a 248 22 ls st h) ∧ (∀ l1 l2 x st h, zz_Y 248 (22, [some (.ref x), l1, l2], st, h) = zz_Y 248 (23, [some (.ref x), l1, l2], .ref x :: st, h)) ∧ (∀ l1 l2 x st h, zz_Y 248 (23, [some (.ref x), l1, l2], st, h) = zz_Y 248 (24, [some (.ref x), l1, l2], .ref x :: st, h)) ∧ (∀ ls a st h, zz_Y 248 (24, ls, .ref a :: st, h) = mo_gf (hp_g h a) 11 10 248 27 ls st h) ∧ (∀ l1 l2 x st h, zz_Y 248 (27, [some (.ref x), l1, l2], st, h) = zz_Y 248 (28, [some (.ref x), l1, l2], .ref x :: st, h)) ∧ (∀ ls a st h, zz_Y 248 (28, ls, .ref a :: st, h) = mo_gf (hp_g h a) 11 19 248 31 ls st h) ∧ (∀ ls a0 a1 a2 h, zz_Y 248 (31, ls, [a2, a1, a0], h) = mo_k 248 34 ls [] (zz_run 249 [a0, a1, a2] h)) ∧ (∀ ls h, zz_Y 248 (34, ls, [], h) = some (none, h)) ∧ (∀ l1 l2 x st h, zz_Y 248 (35, [some (.ref x), l1, l2], st, h) = zz_Y 248 (36, [some (.ref x), l1, l2], .ref x :: st, h)) ∧ (∀ l1 l2 x st h, zz_Y 248 (36, [some (.ref x), l1, l2], st, h) = zz_Y 248 (37, [some (.ref x), l1, l2], .ref x :: st, h)) ∧ (∀ ls a st h, zz_Y 248 (37, ls, .ref a :: st, h) = mo_gf (hp_g h a) 11 19 248 40 ls st h) ∧ (∀ l1 l2 x st h, zz_Y 248 (40, [some (.ref x), l1, l2], st, h) = zz_Y 248 (41, [some (.ref x), l1, l2], .ref x :: st, h)) ∧ (∀ ls a st h, zz_Y 248 (41, ls, .ref a :: st, h) = mo_gf (hp_g h a) 11 7 248 44 ls st h) ∧ (∀ ls a0 a1 a2 h, zz_Y 248 (44, ls, [a2, a1, a0], h) = mo_k 248 47 ls [] (zz_run 250 [a0, a1, a2] h)) ∧ (∀ l1 l2 x st h, zz_Y 248 (47, [some (.ref x), l1, l2], st, h) = zz_Y 248 (48, [some (.ref x), l1, l2], .ref x :: st, h)) ∧ (∀ ls a st h, zz_Y 248 (48, ls, .ref a :: st, h) = mo_gf (hp_g h a) 11 20 248 51 ls st h) ∧ (∀ l1 l2 x st h, zz_Y 248 (51, [some (.ref x), l1, l2], st, h) = zz_Y 248 (52, [some (.ref x), l1, l2], .ref x :: st, h)) ∧ (∀ ls a st h, zz_Y 248 (52, ls, .ref a :: st, h) = mo_gf (hp_g h a) 11 23 248 55 ls st h) ∧ (∀ ls a i st h, zz_Y 248 (55, ls, .int i :: .ref a :: st, h) = mo_ia (hp_g h a) i a 248 56 ls st h) ∧ (∀ l0 l1 l2 x st h, zz_nl l0 = true → zz_Y 248 (56, [l0, l1, l2], .int x :: st, h) = zz_Y 248 (57, [l0, some (.int x), l2], st, h)) ∧ (∀ l1 l2 x st h, zz_Y 248 (57, [some (.ref x), l1, l2], st, h) = zz_Y 248 (58, [some (.ref x), l1, l2], .ref x :: st, h)) ∧ (∀ ls a st h, zz_Y 248 (58, ls, .ref a :: st, h) = zz_Y 248 (59, ls, .ref a :: .ref a :: st, h)) ∧ (∀ ls a st h, zz_Y 248 (59, ls, .ref a :: st, h) = mo_gf (hp_g h a) 11 25 248 62 ls st h) ∧ (∀ l1 l2 x st h, zz_Y 248 (62, [some (.ref x), l1, l2], st, h) = zz_Y 248 (63, [some (.ref x), l1, l2], .ref x :: st, h)) ∧ (∀ ls a st h, zz_Y 248 (63, ls, .ref a :: st, h) = mo_gf (hp_g h a) 11 7 248 66 ls st h) ∧ (∀ l1 l2 x st h, zz_Y 248 (66, [some (.ref x), l1, l2], st, h) = zz_Y 248 (67, [some (.ref x), l1, l2], .ref x :: st, h)) ∧ (∀ ls a st h, zz_Y 248 (67, ls, .ref a :: st, h) = mo_gf (hp_g h a) 11 10 248 70 ls st h) ∧ (∀ l0 l2 x st h, zz_Y 248 (70, [l0, some (.int x), l2], st, h) = zz_Y 248 (71, [l0, some (.int x), l2], .int x :: st, h)) ∧ (∀ ls a0 a1 a2 s0 s1 h, zz_Y 248 (71, ls, [a2, a1, a0, s0, s1], h) = mo_k 248 74 ls [s0, s1] (zz_run 197 [a0, a1, a2] h)) ∧ (∀ ls a b st h, zz_Y 248 (74, ls, .int b :: .int a :: st, h) = zz_Y 248 (75, ls, .int (a + b) :: st, h)) ∧ (∀ ls a v st h, zz_Y 248 (75, ls, v :: .ref a :: st, h) = mo_pf (hp_g h a) 11 25 .int v a 248 78 ls st h) ∧ (∀ ls st h, zz_Y 248 (78, ls, st, h) = zz_Y 248 (79, ls, .int (nI 0) :: st, h)) ∧ (∀ l0 l1 l2 x st h, zz_nl l1 = true → zz_Y 248 (79, [l0, l1, l2], .int x :: st, h) = zz_Y 248 (80, [l0, l1, some (.int x)], st, h)) ∧ (∀ ls st h, zz_Y 248 (81, ls, st, h) = zz_Y 248 (83, ls, .int (nI 8) :: st, h)) ∧ (∀ ls a b st h, zz_Y 248 (83, ls, .int b :: .int a :: st, h) = if a < b then zz_Y 248 (86, ls, st, h) else zz_Y 248 (133, ls, st, h)) ∧ (∀ l1 l2 x st h, zz_Y 248 (86, [some (.ref x), l1, l2], st, h) = zz_Y 248 (87, [some (.ref x), l1, l2], .ref x :: st, h)) ∧ (∀ ls a st h, zz_Y 248 (87, ls, .ref a :: st, h) = mo_gf (hp_g h a) 11 7 248 90 ls st h) ∧ (∀ l0 l1 x st h, zz_Y 248 (90, [l0, l1, some (.int x)], st, h) = zz_Y 248 (91, [l0, l1, some (.int x)], .int x :: st, h)) ∧ (∀ l0 l2 x st h, zz_Y 248 (91, [l0, some (.int x), l2], st, h) = zz_Y 248 (92, [l0, some (.int x), l2], .int x :: st, h)) ∧ (∀ ls a st h, zz_Y 248 (92, ls, .int a :: st, h) = if a = nI 0 then zz_Y 248 (95, ls, st, h) else zz_Y 248 (111, ls, st, h)) ∧ (∀ l1 l2 x st h, zz_Y 248 (95, [some (.ref x), l1, l2], st, h) = zz_Y 248 (96, [some (.ref x), l1, l2], .ref x :: st, h)) ∧ (∀ ls a st h, zz_Y 248 (96, ls, .ref a :: st, h) = mo_gf (hp_g h a) 11 7 248 99 ls st h) ∧ (∀ l0 l1 x st h, zz_Y 248 (99, [l0, l1, some (.int x)], st, h) = zz_Y 248 (100, [l0, l1, some (.int x)], .int x :: st, h)) ∧ (∀ ls a i st h, zz_Y 248 (100, ls, .int i :: .ref a :: st, h) = mo_ia (hp_g h a) i a 248 101 ls st h) ∧ (∀ l1 l2 x st h, zz_Y 248 (101, [some (.ref x), l1, l2], st, h) = zz_Y 248 (102, [some (.ref x), l1, l2], .ref x :: st, h)) ∧ (∀ ls a st h, zz_Y 248 (102, ls, .ref a :: st, h) = mo_gf (hp_g h a) 11 10 248 105 ls st h) ∧ (∀ l0 l1 x st h, zz_Y 248 (105, [l0, l1, some (.int x)], st, h) = zz_Y 248 (106, [l0, l1, some (.int x)], .int x :: st, h)) ∧ (∀ ls a i st h, zz_Y 248 (106, ls, .int i :: .ref a :: st, h) = mo_ia (hp_g h a) i a 248 107 ls st h) ∧ (∀ ls a b st h, zz_Y 248 (107, ls, .int b :: .int a :: st, h) = zz_Y 248 (108, ls, .int (a &&& b) :: st, h)) :=
  ⟨fun _ _ _ _ _ => xl_aln d248_0 rfl,
   fun _ _ _ _ => xl_gf d248_1 xco248 xf_11_54,
   fun _ _ _ _ _ => xl_aln d248_4 rfl,
   fun _ _ _ _ => xl_gf d248_5 xco248 xf_11_328,
   fun _ _ _ _ _ => xl_ba d248_8,
   fun _ _ _ _ => xl_ifne d248_9 rfl,
   fun _ _ _ _ _ => xl_aln d248_12 rfl,
   fun _ _ _ _ => xl_gf d248_13 xco248 xf_11_54,
   fun _ _ _ _ _ => xl_aln d248_16 rfl,
   fun _ _ _ _ => xl_gf d248_17 xco248 xf_11_328,
   fun _ _ _ => xl_ic d248_20 (by decide +kernel),
   fun _ _ _ _ _ _ => xl_bst d248_21,
   fun _ _ _ _ _ => xl_aln d248_22 rfl,
   fun _ _ _ _ _ => xl_aln d248_23 rfl,
   fun _ _ _ _ => xl_gf d248_24 xco248 xf_11_33,
   fun _ _ _ _ _ => xl_aln d248_27 rfl,
   fun _ _ _ _ => xl_gf d248_28 xco248 xf_11_45,
   fun ls a0 a1 a2 h => xl_cv (As := [a0, a1, a2]) (st := []) d248_31 xco248 xm_11_331 (congrArg Nat.succ xnp249) (by decide +kernel) rfl,
   fun _ _ => xl_r d248_34 xrt248,
   fun _ _ _ _ _ => xl_aln d248_35 rfl,
   fun _ _ _ _ _ => xl_aln d248_36 rfl,
   fun _ _ _ _ => xl_gf d248_37 xco248 xf_11_45,
   fun _ _ _ _ _ => xl_aln d248_40 rfl,
   fun _ _ _ _ => xl_gf d248_41 xco248 xf_11_24,
   fun ls a0 a1 a2 h => xl_cv (As := [a0, a1, a2]) (st := []) d248_44 xco248 xm_11_335 (congrArg Nat.succ xnp250) (by decide +kernel) rfl,
   fun _ _ _ _ _ => xl_aln d248_47 rfl,
   fun _ _ _ _ => xl_gf d248_48 xco248 xf_11_48,
   fun _ _ _ _ _ => xl_aln d248_51 rfl,
   fun _ _ _ _ => xl_gf d248_52 xco248 xf_11_328,
   fun _ _ _ _ _ => xl_ia d248_55,
   fun _ _ _ _ _ _ hc => xl_isn d248_56 xml248 (by decide) (zz_nl_s1 hc),
   fun _ _ _ _ _ => xl_aln d248_57 rfl,
   fun _ _ _ _ => xl_dupr d248_58,
   fun _ _ _ _ => xl_gf d248_59 xco248 xf_11_338,
   fun _ _ _ _ _ => xl_aln d248_62 rfl,
   fun _ _ _ _ => xl_gf d248_63 xco248 xf_11_24,
   fun _ _ _ _ _ => xl_aln d248_66 rfl,
   fun _ _ _ _ => xl_gf d248_67 xco248 xf_11_33,
   fun _ _ _ _ _ => xl_iln d248_70 rfl,
   fun ls a0 a1 a2 s0 s1 h => xl_cs (As := [a0, a1, a2]) (st := [s0, s1]) d248_71 xco248 xm_11_180 xnp197 (by decide +kernel) rfl,
   fun _ _ _ _ _ => xl_iadd d248_74,
   fun _ _ _ _ _ => xl_pf d248_75 xco248 xf_11_338 (by decide +kernel) rfl,
   fun _ _ _ => xl_ic d248_78 (by decide +kernel),
   fun _ _ _ _ _ _ hc => xl_isn d248_79 xml248 (by decide) (zz_nl_s1 hc),
   fun _ _ _ => xl_bi d248_81 (by decide +kernel),
   fun _ _ _ _ _ => xl_icge d248_83 rfl,
   fun _ _ _ _ _ => xl_aln d248_86 rfl,
   fun _ _ _ _ => xl_gf d248_87 xco248 xf_11_24,
   fun _ _ _ _ _ => xl_iln d248_90 rfl,
   fun _ _ _ _ _ => xl_iln d248_91 rfl,
   fun _ _ _ _ => xl_ifne d248_92 rfl,
   fun _ _ _ _ _ => xl_aln d248_95 rfl,
   fun _ _ _ _ => xl_gf d248_96 xco248 xf_11_24,
   fun _ _ _ _ _ => xl_iln d248_99 rfl,
   fun _ _ _ _ _ => xl_ia d248_100,
   fun _ _ _ _ _ => xl_aln d248_101 rfl,
   fun _ _ _ _ => xl_gf d248_102 xco248 xf_11_33,
   fun _ _ _ _ _ => xl_iln d248_105 rfl,
   fun _ _ _ _ _ => xl_ia d248_106,
   fun _ _ _ _ _ => xl_iand d248_107⟩
theorem x248_p1 : (∀ ls st h, zz_Y 248 (108, ls, st, h) = zz_Y 248 (126, ls, st, h)) ∧ (∀ l1 l2 x st h, zz_Y 248 (111, [some (.ref x), l1, l2], st, h) = zz_Y 248 (112, [some (.ref x), l1, l2], .ref x :: st, h)) ∧ (∀ ls a st h, zz_Y 248 (112, ls, .ref a :: st, h) = mo_gf (hp_g h a) 11 7 248 115 ls st h) ∧ (∀ l0 l1 x st h, zz_Y 248 (115, [l0, l1, some (.int x)], st, h) = zz_Y 248 (116, [l0, l1, some (.int x)], .int x :: st, h)) ∧ (∀ ls a i st h, zz_Y 248 (116, ls, .int i :: .ref a :: st, h) = mo_ia (hp_g h a) i a 248 117 ls st h) ∧ (∀ l1 l2 x st h, zz_Y 248 (117, [some (.ref x), l1, l2], st, h) = zz_Y 248 (118, [some (.ref x), l1, l2], .ref x :: st, h)) ∧ (∀ ls a st h, zz_Y 248 (118, ls, .ref a :: st, h) = mo_gf (hp_g h a) 11 10 248 121 ls st h) ∧ (∀ l0 l1 x st h, zz_Y 248 (121, [l0, l1, some (.int x)], st, h) = zz_Y 248 (122, [l0, l1, some (.int x)], .int x :: st, h)) ∧ (∀ ls a i st h, zz_Y 248 (122, ls, .int i :: .ref a :: st, h) = mo_ia (hp_g h a) i a 248 123 ls st h) ∧ (∀ ls st h, zz_Y 248 (123, ls, st, h) = zz_Y 248 (124, ls, .int (-1) :: st, h)) ∧ (∀ ls a b st h, zz_Y 248 (124, ls, .int b :: .int a :: st, h) = zz_Y 248 (125, ls, .int (a ^^^ b) :: st, h)) ∧ (∀ ls a b st h, zz_Y 248 (125, ls, .int b :: .int a :: st, h) = zz_Y 248 (126, ls, .int (a &&& b) :: st, h)) ∧ (∀ ls a i x st h, zz_Y 248 (126, ls, .int x :: .int i :: .ref a :: st, h) = mo_is (hp_g h a) x i a 248 127 ls st h) ∧ (∀ l0 l1 x st h, zz_nl l1 = true → zz_Y 248 (127, [l0, l1, some (.int x)], st, h) = zz_Y 248 (130, [l0, l1, some (.int (x + nI 1))], st, h)) ∧ (∀ ls st h, zz_Y 248 (130, ls, st, h) = zz_Y 248 (80, ls, st, h)) ∧ (∀ l1 l2 x st h, zz_Y 248 (133, [some (.ref x), l1, l2], st, h) = zz_Y 248 (134, [some (.ref x), l1, l2], .ref x :: st, h)) ∧ (∀ l1 l2 x st h, zz_Y 248 (134, [some (.ref x), l1, l2], st, h) = zz_Y 248 (135, [some (.ref x), l1, l2], .ref x :: st, h)) ∧ (∀ ls a st h, zz_Y 248 (135, ls, .ref a :: st, h) = mo_gf (hp_g h a) 11 7 248 138 ls st h) ∧ (∀ l1 l2 x st h, zz_Y 248 (138, [some (.ref x), l1, l2], st, h) = zz_Y 248 (139, [some (.ref x), l1, l2], .ref x :: st, h)) ∧ (∀ ls a st h, zz_Y 248 (139, ls, .ref a :: st, h) = mo_gf (hp_g h a) 11 19 248 142 ls st h) ∧ (∀ ls a0 a1 a2 h, zz_Y 248 (142, ls, [a2, a1, a0], h) = mo_k 248 145 ls [] (zz_run 249 [a0, a1, a2] h)) ∧ (∀ ls h, zz_Y 248 (145, ls, [], h) = some (none, h)) :=
  ⟨fun _ _ _ => xl_goto d248_108 rfl,
   fun _ _ _ _ _ => xl_aln d248_111 rfl,
   fun _ _ _ _ => xl_gf d248_112 xco248 xf_11_24,
   fun _ _ _ _ _ => xl_iln d248_115 rfl,
   fun _ _ _ _ _ => xl_ia d248_116,
   fun _ _ _ _ _ => xl_aln d248_117 rfl,
   fun _ _ _ _ => xl_gf d248_118 xco248 xf_11_33,
   fun _ _ _ _ _ => xl_iln d248_121 rfl,
   fun _ _ _ _ _ => xl_ia d248_122,
   fun _ _ _ => xl_ic d248_123 (by decide +kernel),
   fun _ _ _ _ _ => xl_ixor d248_124,
   fun _ _ _ _ _ => xl_iand d248_125,
   fun _ _ _ _ _ _ => xl_ist d248_126,
   fun _ _ _ _ _ hc => xl_inc d248_127 xml248 (by decide) rfl (by decide +kernel) (zz_nl_s1 hc),
   fun _ _ _ => xl_goto d248_130 rfl,
   fun _ _ _ _ _ => xl_aln d248_133 rfl,
   fun _ _ _ _ _ => xl_aln d248_134 rfl,
   fun _ _ _ _ => xl_gf d248_135 xco248 xf_11_24,
   fun _ _ _ _ _ => xl_aln d248_138 rfl,
   fun _ _ _ _ => xl_gf d248_139 xco248 xf_11_45,
   fun ls a0 a1 a2 h => xl_cv (As := [a0, a1, a2]) (st := []) d248_142 xco248 xm_11_331 (congrArg Nat.succ xnp249) (by decide +kernel) rfl,
   fun _ _ => xl_r d248_145 xrt248⟩
theorem x248_c80 : ∀ l0 l1 x st h, zz_Y 248 (80, [l0, l1, some (.int x)], st, h) = zz_Y 248 (81, [l0, l1, some (.int x)], .int x :: st, h) := fun _ _ _ _ _ => xl_iln d248_80 rfl
/-! 249 FacetSieveModel.laysLevel([I[I)V -/
theorem d249_0 : decode (zz_c 249) 0 = .ok (.iconst 0, 1) := by decide +kernel
theorem d249_1 : decode (zz_c 249) 1 = .ok (.istore_n 3, 1) := by decide +kernel
theorem d249_2 : decode (zz_c 249) 2 = .ok (.iload_n 3, 1) := by decide +kernel
theorem d249_3 : decode (zz_c 249) 3 = .ok (.bipush 8, 2) := by decide +kernel
theorem d249_5 : decode (zz_c 249) 5 = .ok (.if_icmp .ge 23, 3) := by decide +kernel
theorem d249_8 : decode (zz_c 249) 8 = .ok (.aload_n 2, 1) := by decide +kernel
theorem d249_9 : decode (zz_c 249) 9 = .ok (.bipush 8, 2) := by decide +kernel
theorem d249_11 : decode (zz_c 249) 11 = .ok (.aload_n 0, 1) := by decide +kernel
theorem d249_12 : decode (zz_c 249) 12 = .ok (.getfield 328, 3) := by decide +kernel
theorem d249_15 : decode (zz_c 249) 15 = .ok (.imul, 1) := by decide +kernel
theorem d249_16 : decode (zz_c 249) 16 = .ok (.iload_n 3, 1) := by decide +kernel
theorem d249_17 : decode (zz_c 249) 17 = .ok (.iadd, 1) := by decide +kernel
theorem d249_18 : decode (zz_c 249) 18 = .ok (.aload_n 1, 1) := by decide +kernel
theorem d249_19 : decode (zz_c 249) 19 = .ok (.iload_n 3, 1) := by decide +kernel
theorem d249_20 : decode (zz_c 249) 20 = .ok (.iaload, 1) := by decide +kernel
theorem d249_21 : decode (zz_c 249) 21 = .ok (.iastore, 1) := by decide +kernel
theorem d249_22 : decode (zz_c 249) 22 = .ok (.iinc 3 1, 3) := by decide +kernel
theorem d249_25 : decode (zz_c 249) 25 = .ok (.goto (-23), 3) := by decide +kernel
theorem d249_28 : decode (zz_c 249) 28 = .ok (.return_, 1) := by decide +kernel
theorem x249 : (∀ ls st h, zz_Y 249 (0, ls, st, h) = zz_Y 249 (1, ls, .int (nI 0) :: st, h)) ∧ (∀ l0 l1 l2 l3 x st h, zz_nl l2 = true → zz_Y 249 (1, [l0, l1, l2, l3], .int x :: st, h) = zz_Y 249 (2, [l0, l1, l2, some (.int x)], st, h)) ∧ (∀ ls st h, zz_Y 249 (3, ls, st, h) = zz_Y 249 (5, ls, .int (nI 8) :: st, h)) ∧ (∀ ls a b st h, zz_Y 249 (5, ls, .int b :: .int a :: st, h) = if a < b then zz_Y 249 (8, ls, st, h) else zz_Y 249 (28, ls, st, h)) ∧ (∀ l0 l1 l3 x st h, zz_Y 249 (8, [l0, l1, some (.ref x), l3], st, h) = zz_Y 249 (9, [l0, l1, some (.ref x), l3], .ref x :: st, h)) ∧ (∀ ls st h, zz_Y 249 (9, ls, st, h) = zz_Y 249 (11, ls, .int (nI 8) :: st, h)) ∧ (∀ l1 l2 l3 x st h, zz_Y 249 (11, [some (.ref x), l1, l2, l3], st, h) = zz_Y 249 (12, [some (.ref x), l1, l2, l3], .ref x :: st, h)) ∧ (∀ ls a st h, zz_Y 249 (12, ls, .ref a :: st, h) = mo_gf (hp_g h a) 11 23 249 15 ls st h) ∧ (∀ ls a b st h, zz_Y 249 (15, ls, .int b :: .int a :: st, h) = zz_Y 249 (16, ls, .int (a * b) :: st, h)) ∧ (∀ l0 l1 l2 x st h, zz_Y 249 (16, [l0, l1, l2, some (.int x)], st, h) = zz_Y 249 (17, [l0, l1, l2, some (.int x)], .int x :: st, h)) ∧ (∀ ls a b st h, zz_Y 249 (17, ls, .int b :: .int a :: st, h) = zz_Y 249 (18, ls, .int (a + b) :: st, h)) ∧ (∀ l0 l2 l3 x st h, zz_Y 249 (18, [l0, some (.ref x), l2, l3], st, h) = zz_Y 249 (19, [l0, some (.ref x), l2, l3], .ref x :: st, h)) ∧ (∀ l0 l1 l2 x st h, zz_Y 249 (19, [l0, l1, l2, some (.int x)], st, h) = zz_Y 249 (20, [l0, l1, l2, some (.int x)], .int x :: st, h)) ∧ (∀ ls a i st h, zz_Y 249 (20, ls, .int i :: .ref a :: st, h) = mo_ia (hp_g h a) i a 249 21 ls st h) ∧ (∀ ls a i x st h, zz_Y 249 (21, ls, .int x :: .int i :: .ref a :: st, h) = mo_is (hp_g h a) x i a 249 22 ls st h) ∧ (∀ l0 l1 l2 x st h, zz_nl l2 = true → zz_Y 249 (22, [l0, l1, l2, some (.int x)], st, h) = zz_Y 249 (25, [l0, l1, l2, some (.int (x + nI 1))], st, h)) ∧ (∀ ls st h, zz_Y 249 (25, ls, st, h) = zz_Y 249 (2, ls, st, h)) ∧ (∀ ls h, zz_Y 249 (28, ls, [], h) = some (none, h)) :=
  ⟨fun _ _ _ => xl_ic d249_0 (by decide +kernel),
   fun _ _ _ _ _ _ _ hc => xl_isn d249_1 xml249 (by decide) (zz_nl_s1 hc),
   fun _ _ _ => xl_bi d249_3 (by decide +kernel),
   fun _ _ _ _ _ => xl_icge d249_5 rfl,
   fun _ _ _ _ _ _ => xl_aln d249_8 rfl,
   fun _ _ _ => xl_bi d249_9 (by decide +kernel),
   fun _ _ _ _ _ _ => xl_aln d249_11 rfl,
   fun _ _ _ _ => xl_gf d249_12 xco249 xf_11_328,
   fun _ _ _ _ _ => xl_imul d249_15,
   fun _ _ _ _ _ _ => xl_iln d249_16 rfl,
   fun _ _ _ _ _ => xl_iadd d249_17,
   fun _ _ _ _ _ _ => xl_aln d249_18 rfl,
   fun _ _ _ _ _ _ => xl_iln d249_19 rfl,
   fun _ _ _ _ _ => xl_ia d249_20,
   fun _ _ _ _ _ _ => xl_ist d249_21,
   fun _ _ _ _ _ _ hc => xl_inc d249_22 xml249 (by decide) rfl (by decide +kernel) (zz_nl_s1 hc),
   fun _ _ _ => xl_goto d249_25 rfl,
   fun _ _ => xl_r d249_28 xrt249⟩
theorem x249_c2 : ∀ l0 l1 l2 x st h, zz_Y 249 (2, [l0, l1, l2, some (.int x)], st, h) = zz_Y 249 (3, [l0, l1, l2, some (.int x)], .int x :: st, h) := fun _ _ _ _ _ _ => xl_iln d249_2 rfl
/-! 250 FacetSieveModel.takesLevel([I[I)V -/
theorem d250_0 : decode (zz_c 250) 0 = .ok (.iconst 0, 1) := by decide +kernel
theorem d250_1 : decode (zz_c 250) 1 = .ok (.istore_n 3, 1) := by decide +kernel
theorem d250_2 : decode (zz_c 250) 2 = .ok (.iload_n 3, 1) := by decide +kernel
theorem d250_3 : decode (zz_c 250) 3 = .ok (.bipush 8, 2) := by decide +kernel
theorem d250_5 : decode (zz_c 250) 5 = .ok (.if_icmp .ge 23, 3) := by decide +kernel
theorem d250_8 : decode (zz_c 250) 8 = .ok (.aload_n 2, 1) := by decide +kernel
theorem d250_9 : decode (zz_c 250) 9 = .ok (.iload_n 3, 1) := by decide +kernel
theorem d250_10 : decode (zz_c 250) 10 = .ok (.aload_n 1, 1) := by decide +kernel
theorem d250_11 : decode (zz_c 250) 11 = .ok (.bipush 8, 2) := by decide +kernel
theorem d250_13 : decode (zz_c 250) 13 = .ok (.aload_n 0, 1) := by decide +kernel
theorem d250_14 : decode (zz_c 250) 14 = .ok (.getfield 328, 3) := by decide +kernel
theorem d250_17 : decode (zz_c 250) 17 = .ok (.imul, 1) := by decide +kernel
theorem d250_18 : decode (zz_c 250) 18 = .ok (.iload_n 3, 1) := by decide +kernel
theorem d250_19 : decode (zz_c 250) 19 = .ok (.iadd, 1) := by decide +kernel
theorem d250_20 : decode (zz_c 250) 20 = .ok (.iaload, 1) := by decide +kernel
theorem d250_21 : decode (zz_c 250) 21 = .ok (.iastore, 1) := by decide +kernel
theorem d250_22 : decode (zz_c 250) 22 = .ok (.iinc 3 1, 3) := by decide +kernel
theorem d250_25 : decode (zz_c 250) 25 = .ok (.goto (-23), 3) := by decide +kernel
theorem d250_28 : decode (zz_c 250) 28 = .ok (.return_, 1) := by decide +kernel
theorem x250 : (∀ ls st h, zz_Y 250 (0, ls, st, h) = zz_Y 250 (1, ls, .int (nI 0) :: st, h)) ∧ (∀ l0 l1 l2 l3 x st h, zz_nl l2 = true → zz_Y 250 (1, [l0, l1, l2, l3], .int x :: st, h) = zz_Y 250 (2, [l0, l1, l2, some (.int x)], st, h)) ∧ (∀ ls st h, zz_Y 250 (3, ls, st, h) = zz_Y 250 (5, ls, .int (nI 8) :: st, h)) ∧ (∀ ls a b st h, zz_Y 250 (5, ls, .int b :: .int a :: st, h) = if a < b then zz_Y 250 (8, ls, st, h) else zz_Y 250 (28, ls, st, h)) ∧ (∀ l0 l1 l3 x st h, zz_Y 250 (8, [l0, l1, some (.ref x), l3], st, h) = zz_Y 250 (9, [l0, l1, some (.ref x), l3], .ref x :: st, h)) ∧ (∀ l0 l1 l2 x st h, zz_Y 250 (9, [l0, l1, l2, some (.int x)], st, h) = zz_Y 250 (10, [l0, l1, l2, some (.int x)], .int x :: st, h)) ∧ (∀ l0 l2 l3 x st h, zz_Y 250 (10, [l0, some (.ref x), l2, l3], st, h) = zz_Y 250 (11, [l0, some (.ref x), l2, l3], .ref x :: st, h)) ∧ (∀ ls st h, zz_Y 250 (11, ls, st, h) = zz_Y 250 (13, ls, .int (nI 8) :: st, h)) ∧ (∀ l1 l2 l3 x st h, zz_Y 250 (13, [some (.ref x), l1, l2, l3], st, h) = zz_Y 250 (14, [some (.ref x), l1, l2, l3], .ref x :: st, h)) ∧ (∀ ls a st h, zz_Y 250 (14, ls, .ref a :: st, h) = mo_gf (hp_g h a) 11 23 250 17 ls st h) ∧ (∀ ls a b st h, zz_Y 250 (17, ls, .int b :: .int a :: st, h) = zz_Y 250 (18, ls, .int (a * b) :: st, h)) ∧ (∀ l0 l1 l2 x st h, zz_Y 250 (18, [l0, l1, l2, some (.int x)], st, h) = zz_Y 250 (19, [l0, l1, l2, some (.int x)], .int x :: st, h)) ∧ (∀ ls a b st h, zz_Y 250 (19, ls, .int b :: .int a :: st, h) = zz_Y 250 (20, ls, .int (a + b) :: st, h)) ∧ (∀ ls a i st h, zz_Y 250 (20, ls, .int i :: .ref a :: st, h) = mo_ia (hp_g h a) i a 250 21 ls st h) ∧ (∀ ls a i x st h, zz_Y 250 (21, ls, .int x :: .int i :: .ref a :: st, h) = mo_is (hp_g h a) x i a 250 22 ls st h) ∧ (∀ l0 l1 l2 x st h, zz_nl l2 = true → zz_Y 250 (22, [l0, l1, l2, some (.int x)], st, h) = zz_Y 250 (25, [l0, l1, l2, some (.int (x + nI 1))], st, h)) ∧ (∀ ls st h, zz_Y 250 (25, ls, st, h) = zz_Y 250 (2, ls, st, h)) ∧ (∀ ls h, zz_Y 250 (28, ls, [], h) = some (none, h)) :=
  ⟨fun _ _ _ => xl_ic d250_0 (by decide +kernel),
   fun _ _ _ _ _ _ _ hc => xl_isn d250_1 xml250 (by decide) (zz_nl_s1 hc),
   fun _ _ _ => xl_bi d250_3 (by decide +kernel),
   fun _ _ _ _ _ => xl_icge d250_5 rfl,
   fun _ _ _ _ _ _ => xl_aln d250_8 rfl,
   fun _ _ _ _ _ _ => xl_iln d250_9 rfl,
   fun _ _ _ _ _ _ => xl_aln d250_10 rfl,
   fun _ _ _ => xl_bi d250_11 (by decide +kernel),
   fun _ _ _ _ _ _ => xl_aln d250_13 rfl,
   fun _ _ _ _ => xl_gf d250_14 xco250 xf_11_328,
   fun _ _ _ _ _ => xl_imul d250_17,
   fun _ _ _ _ _ _ => xl_iln d250_18 rfl,
   fun _ _ _ _ _ => xl_iadd d250_19,
   fun _ _ _ _ _ => xl_ia d250_20,
   fun _ _ _ _ _ _ => xl_ist d250_21,
   fun _ _ _ _ _ _ hc => xl_inc d250_22 xml250 (by decide) rfl (by decide +kernel) (zz_nl_s1 hc),
   fun _ _ _ => xl_goto d250_25 rfl,
   fun _ _ => xl_r d250_28 xrt250⟩
theorem x250_c2 : ∀ l0 l1 l2 x st h, zz_Y 250 (2, [l0, l1, l2, some (.int x)], st, h) = zz_Y 250 (3, [l0, l1, l2, some (.int x)], .int x :: st, h) := fun _ _ _ _ _ _ => xl_iln d250_2 rfl
/-! 251 FacetSieveModel.goesOn()Z -/
theorem d251_0 : decode (zz_c 251) 0 = .ok (.aload_n 0, 1) := by decide +kernel
theorem d251_1 : decode (zz_c 251) 1 = .ok (.invokevirtual 247, 3) := by decide +kernel
theorem d251_4 : decode (zz_c 251) 4 = .ok (.ifCond .eq 179, 3) := by decide +kernel
theorem d251_7 : decode (zz_c 251) 7 = .ok (.aload_n 0, 1) := by decide +kernel
theorem d251_8 : decode (zz_c 251) 8 = .ok (.ldc2_w 272, 3) := by decide +kernel
theorem d251_11 : decode (zz_c 251) 11 = .ok (.invokevirtual 251, 3) := by decide +kernel
theorem d251_14 : decode (zz_c 251) 14 = .ok (.ifCond .ne 13, 3) := by decide +kernel
theorem d251_17 : decode (zz_c 251) 17 = .ok (.aload_n 0, 1) := by decide +kernel
theorem d251_18 : decode (zz_c 251) 18 = .ok (.ldc2_w 274, 3) := by decide +kernel
theorem d251_21 : decode (zz_c 251) 21 = .ok (.invokevirtual 251, 3) := by decide +kernel
theorem d251_24 : decode (zz_c 251) 24 = .ok (.ifCond .eq 33, 3) := by decide +kernel
theorem d251_27 : decode (zz_c 251) 27 = .ok (.aload_n 0, 1) := by decide +kernel
theorem d251_28 : decode (zz_c 251) 28 = .ok (.getfield 48, 3) := by decide +kernel
theorem d251_31 : decode (zz_c 251) 31 = .ok (.aload_n 0, 1) := by decide +kernel
theorem d251_32 : decode (zz_c 251) 32 = .ok (.getfield 328, 3) := by decide +kernel
theorem d251_35 : decode (zz_c 251) 35 = .ok (.aload_n 0, 1) := by decide +kernel
theorem d251_36 : decode (zz_c 251) 36 = .ok (.ldc2_w 272, 3) := by decide +kernel
theorem d251_39 : decode (zz_c 251) 39 = .ok (.invokevirtual 251, 3) := by decide +kernel
theorem d251_42 : decode (zz_c 251) 42 = .ok (.ifCond .eq 7, 3) := by decide +kernel
theorem d251_45 : decode (zz_c 251) 45 = .ok (.iconst 0, 1) := by decide +kernel
theorem d251_46 : decode (zz_c 251) 46 = .ok (.goto 4, 3) := by decide +kernel
theorem d251_49 : decode (zz_c 251) 49 = .ok (.iconst 2, 1) := by decide +kernel
theorem d251_50 : decode (zz_c 251) 50 = .ok (.iastore, 1) := by decide +kernel
theorem d251_51 : decode (zz_c 251) 51 = .ok (.aload_n 0, 1) := by decide +kernel
theorem d251_52 : decode (zz_c 251) 52 = .ok (.invokevirtual 244, 3) := by decide +kernel
theorem d251_55 : decode (zz_c 251) 55 = .ok (.iconst 1, 1) := by decide +kernel
theorem d251_56 : decode (zz_c 251) 56 = .ok (.ireturn, 1) := by decide +kernel
theorem d251_57 : decode (zz_c 251) 57 = .ok (.aload_n 0, 1) := by decide +kernel
theorem d251_58 : decode (zz_c 251) 58 = .ok (.ldc2_w 270, 3) := by decide +kernel
theorem d251_61 : decode (zz_c 251) 61 = .ok (.invokevirtual 251, 3) := by decide +kernel
theorem d251_64 : decode (zz_c 251) 64 = .ok (.ifCond .eq 45, 3) := by decide +kernel
theorem d251_67 : decode (zz_c 251) 67 = .ok (.aload_n 0, 1) := by decide +kernel
theorem d251_68 : decode (zz_c 251) 68 = .ok (.invokevirtual 350, 3) := by decide +kernel
theorem d251_71 : decode (zz_c 251) 71 = .ok (.aload_n 0, 1) := by decide +kernel
theorem d251_72 : decode (zz_c 251) 72 = .ok (.aload_n 0, 1) := by decide +kernel
theorem d251_73 : decode (zz_c 251) 73 = .ok (.getfield 33, 3) := by decide +kernel
theorem d251_76 : decode (zz_c 251) 76 = .ok (.aload_n 0, 1) := by decide +kernel
theorem d251_77 : decode (zz_c 251) 77 = .ok (.getfield 42, 3) := by decide +kernel
theorem d251_80 : decode (zz_c 251) 80 = .ok (.invokevirtual 331, 3) := by decide +kernel
theorem d251_83 : decode (zz_c 251) 83 = .ok (.aload_n 0, 1) := by decide +kernel
theorem d251_84 : decode (zz_c 251) 84 = .ok (.getfield 51, 3) := by decide +kernel
theorem d251_87 : decode (zz_c 251) 87 = .ok (.aload_n 0, 1) := by decide +kernel
theorem d251_88 : decode (zz_c 251) 88 = .ok (.getfield 328, 3) := by decide +kernel
theorem d251_91 : decode (zz_c 251) 91 = .ok (.iconst 1, 1) := by decide +kernel
theorem d251_92 : decode (zz_c 251) 92 = .ok (.bastore, 1) := by decide +kernel
theorem d251_93 : decode (zz_c 251) 93 = .ok (.aload_n 0, 1) := by decide +kernel
theorem d251_94 : decode (zz_c 251) 94 = .ok (.getfield 54, 3) := by decide +kernel
theorem d251_97 : decode (zz_c 251) 97 = .ok (.aload_n 0, 1) := by decide +kernel
theorem d251_98 : decode (zz_c 251) 98 = .ok (.getfield 328, 3) := by decide +kernel
theorem d251_101 : decode (zz_c 251) 101 = .ok (.iconst 0, 1) := by decide +kernel
theorem d251_102 : decode (zz_c 251) 102 = .ok (.bastore, 1) := by decide +kernel
theorem d251_103 : decode (zz_c 251) 103 = .ok (.aload_n 0, 1) := by decide +kernel
theorem d251_104 : decode (zz_c 251) 104 = .ok (.invokevirtual 244, 3) := by decide +kernel
theorem d251_107 : decode (zz_c 251) 107 = .ok (.iconst 1, 1) := by decide +kernel
theorem d251_108 : decode (zz_c 251) 108 = .ok (.ireturn, 1) := by decide +kernel
theorem d251_109 : decode (zz_c 251) 109 = .ok (.aload_n 0, 1) := by decide +kernel
theorem d251_110 : decode (zz_c 251) 110 = .ok (.getfield 328, 3) := by decide +kernel
theorem d251_113 : decode (zz_c 251) 113 = .ok (.ifCond .ne 25, 3) := by decide +kernel
theorem d251_116 : decode (zz_c 251) 116 = .ok (.aload_n 0, 1) := by decide +kernel
theorem d251_117 : decode (zz_c 251) 117 = .ok (.getfield 227, 3) := by decide +kernel
theorem d251_120 : decode (zz_c 251) 120 = .ok (.ifCond .eq 12, 3) := by decide +kernel
theorem d251_123 : decode (zz_c 251) 123 = .ok (.aload_n 0, 1) := by decide +kernel
theorem d251_124 : decode (zz_c 251) 124 = .ok (.iconst 1, 1) := by decide +kernel
theorem d251_125 : decode (zz_c 251) 125 = .ok (.aload_n 0, 1) := by decide +kernel
theorem d251_126 : decode (zz_c 251) 126 = .ok (.getfield 220, 3) := by decide +kernel
theorem d251_129 : decode (zz_c 251) 129 = .ok (.invokevirtual 288, 3) := by decide +kernel
theorem d251_132 : decode (zz_c 251) 132 = .ok (.aload_n 0, 1) := by decide +kernel
theorem d251_133 : decode (zz_c 251) 133 = .ok (.invokevirtual 350, 3) := by decide +kernel
theorem d251_136 : decode (zz_c 251) 136 = .ok (.iconst 0, 1) := by decide +kernel
theorem d251_137 : decode (zz_c 251) 137 = .ok (.ireturn, 1) := by decide +kernel
theorem d251_138 : decode (zz_c 251) 138 = .ok (.aload_n 0, 1) := by decide +kernel
theorem d251_139 : decode (zz_c 251) 139 = .ok (.bipush 93, 2) := by decide +kernel
theorem d251_141 : decode (zz_c 251) 141 = .ok (.invokevirtual 255, 3) := by decide +kernel
theorem d251_144 : decode (zz_c 251) 144 = .ok (.ifCond .ne 14, 3) := by decide +kernel
theorem d251_147 : decode (zz_c 251) 147 = .ok (.aload_n 0, 1) := by decide +kernel
theorem d251_148 : decode (zz_c 251) 148 = .ok (.iconst 1, 1) := by decide +kernel
theorem d251_149 : decode (zz_c 251) 149 = .ok (.aload_n 0, 1) := by decide +kernel
theorem d251_150 : decode (zz_c 251) 150 = .ok (.getfield 220, 3) := by decide +kernel
theorem d251_153 : decode (zz_c 251) 153 = .ok (.invokevirtual 288, 3) := by decide +kernel
theorem d251_156 : decode (zz_c 251) 156 = .ok (.iconst 0, 1) := by decide +kernel
theorem d251_157 : decode (zz_c 251) 157 = .ok (.ireturn, 1) := by decide +kernel
theorem d251_158 : decode (zz_c 251) 158 = .ok (.aload_n 0, 1) := by decide +kernel
theorem d251_159 : decode (zz_c 251) 159 = .ok (.invokevirtual 350, 3) := by decide +kernel
theorem d251_162 : decode (zz_c 251) 162 = .ok (.aload_n 0, 1) := by decide +kernel
theorem d251_163 : decode (zz_c 251) 163 = .ok (.invokevirtual 244, 3) := by decide +kernel
theorem d251_166 : decode (zz_c 251) 166 = .ok (.aload_n 0, 1) := by decide +kernel
theorem d251_167 : decode (zz_c 251) 167 = .ok (.dup, 1) := by decide +kernel
theorem d251_168 : decode (zz_c 251) 168 = .ok (.getfield 328, 3) := by decide +kernel
theorem d251_171 : decode (zz_c 251) 171 = .ok (.iconst 1, 1) := by decide +kernel
theorem d251_172 : decode (zz_c 251) 172 = .ok (.isub, 1) := by decide +kernel
theorem d251_173 : decode (zz_c 251) 173 = .ok (.putfield 328, 3) := by decide +kernel
theorem d251_176 : decode (zz_c 251) 176 = .ok (.aload_n 0, 1) := by decide +kernel
theorem d251_177 : decode (zz_c 251) 177 = .ok (.invokevirtual 344, 3) := by decide +kernel
theorem d251_180 : decode (zz_c 251) 180 = .ok (.goto (-180), 3) := by decide +kernel
theorem d251_183 : decode (zz_c 251) 183 = .ok (.iconst 0, 1) := by decide +kernel
theorem d251_184 : decode (zz_c 251) 184 = .ok (.ireturn, 1) := by decide +kernel
theorem x251_p0 : (∀ ls a0 h, zz_Y 251 (1, ls, [a0], h) = mo_k 251 4 ls [] (zz_run 227 [a0] h)) ∧ (∀ ls a st h, zz_Y 251 (4, ls, .int a :: st, h) = if a = nI 0 then zz_Y 251 (183, ls, st, h) else zz_Y 251 (7, ls, st, h)) ∧ (∀ x st h, zz_Y 251 (7, [some (.ref x)], st, h) = zz_Y 251 (8, [some (.ref x)], .ref x :: st, h)) ∧ (∀ ls st h, zz_Y 251 (8, ls, st, h) = zz_Y 251 (11, ls, .long (lN 1111) :: st, h)) ∧ (∀ ls a0 a1 h, zz_Y 251 (11, ls, [a1, a0], h) = mo_k 251 14 ls [] (zz_run 229 [a0, a1] h)) ∧ (∀ ls a st h, zz_Y 251 (14, ls, .int a :: st, h) = if a = nI 0 then zz_Y 251 (17, ls, st, h) else zz_Y 251 (27, ls, st, h)) ∧ (∀ x st h, zz_Y 251 (17, [some (.ref x)], st, h) = zz_Y 251 (18, [some (.ref x)], .ref x :: st, h)) ∧ (∀ ls st h, zz_Y 251 (18, ls, st, h) = zz_Y 251 (21, ls, .long (lN 240373) :: st, h)) ∧ (∀ ls a0 a1 h, zz_Y 251 (21, ls, [a1, a0], h) = mo_k 251 24 ls [] (zz_run 229 [a0, a1] h)) ∧ (∀ ls a st h, zz_Y 251 (24, ls, .int a :: st, h) = if a = nI 0 then zz_Y 251 (57, ls, st, h) else zz_Y 251 (27, ls, st, h)) ∧ (∀ x st h, zz_Y 251 (27, [some (.ref x)], st, h) = zz_Y 251 (28, [some (.ref x)], .ref x :: st, h)) ∧ (∀ ls a st h, zz_Y 251 (28, ls, .ref a :: st, h) = mo_gf (hp_g h a) 11 20 251 31 ls st h) ∧ (∀ x st h, zz_Y 251 (31, [some (.ref x)], st, h) = zz_Y 251 (32, [some (.ref x)], .ref x :: st, h)) ∧ (∀ ls a st h, zz_Y 251 (32, ls, .ref a :: st, h) = mo_gf (hp_g h a) 11 23 251 35 ls st h) ∧ (∀ x st h, zz_Y 251 (35, [some (.ref x)], st, h) = zz_Y 251 (36, [some (.ref x)], .ref x :: st, h)) ∧ (∀ ls st h, zz_Y 251 (36, ls, st, h) = zz_Y 251 (39, ls, .long (lN 1111) :: st, h)) ∧ (∀ ls a0 a1 s0 s1 h, zz_Y 251 (39, ls, [a1, a0, s0, s1], h) = mo_k 251 42 ls [s0, s1] (zz_run 229 [a0, a1] h)) ∧ (∀ ls a st h, zz_Y 251 (42, ls, .int a :: st, h) = if a = nI 0 then zz_Y 251 (49, ls, st, h) else zz_Y 251 (45, ls, st, h)) ∧ (∀ ls st h, zz_Y 251 (45, ls, st, h) = zz_Y 251 (46, ls, .int (nI 0) :: st, h)) ∧ (∀ ls st h, zz_Y 251 (46, ls, st, h) = zz_Y 251 (50, ls, st, h)) ∧ (∀ ls st h, zz_Y 251 (49, ls, st, h) = zz_Y 251 (50, ls, .int (nI 2) :: st, h)) ∧ (∀ ls a i x st h, zz_Y 251 (50, ls, .int x :: .int i :: .ref a :: st, h) = mo_is (hp_g h a) x i a 251 51 ls st h) ∧ (∀ x st h, zz_Y 251 (51, [some (.ref x)], st, h) = zz_Y 251 (52, [some (.ref x)], .ref x :: st, h)) ∧ (∀ ls a0 h, zz_Y 251 (52, ls, [a0], h) = mo_k 251 55 ls [] (zz_run 223 [a0] h)) ∧ (∀ ls st h, zz_Y 251 (55, ls, st, h) = zz_Y 251 (56, ls, .int (nI 1) :: st, h)) ∧ (∀ ls v h, v = nI 0 ∨ v = nI 1 → zz_Y 251 (56, ls, [.int v], h) = some (some (.int v), h)) ∧ (∀ x st h, zz_Y 251 (57, [some (.ref x)], st, h) = zz_Y 251 (58, [some (.ref x)], .ref x :: st, h)) ∧ (∀ ls st h, zz_Y 251 (58, ls, st, h) = zz_Y 251 (61, ls, .long (lN 423) :: st, h)) ∧ (∀ ls a0 a1 h, zz_Y 251 (61, ls, [a1, a0], h) = mo_k 251 64 ls [] (zz_run 229 [a0, a1] h)) ∧ (∀ ls a st h, zz_Y 251 (64, ls, .int a :: st, h) = if a = nI 0 then zz_Y 251 (109, ls, st, h) else zz_Y 251 (67, ls, st, h)) ∧ (∀ x st h, zz_Y 251 (67, [some (.ref x)], st, h) = zz_Y 251 (68, [some (.ref x)], .ref x :: st, h)) ∧ (∀ ls a0 h, zz_Y 251 (68, ls, [a0], h) = mo_k 251 71 ls [] (zz_run 252 [a0] h)) ∧ (∀ x st h, zz_Y 251 (71, [some (.ref x)], st, h) = zz_Y 251 (72, [some (.ref x)], .ref x :: st, h)) ∧ (∀ x st h, zz_Y 251 (72, [some (.ref x)], st, h) = zz_Y 251 (73, [some (.ref x)], .ref x :: st, h)) ∧ (∀ ls a st h, zz_Y 251 (73, ls, .ref a :: st, h) = mo_gf (hp_g h a) 11 10 251 76 ls st h) ∧ (∀ x st h, zz_Y 251 (76, [some (.ref x)], st, h) = zz_Y 251 (77, [some (.ref x)], .ref x :: st, h)) ∧ (∀ ls a st h, zz_Y 251 (77, ls, .ref a :: st, h) = mo_gf (hp_g h a) 11 18 251 80 ls st h) ∧ (∀ ls a0 a1 a2 h, zz_Y 251 (80, ls, [a2, a1, a0], h) = mo_k 251 83 ls [] (zz_run 249 [a0, a1, a2] h)) ∧ (∀ x st h, zz_Y 251 (83, [some (.ref x)], st, h) = zz_Y 251 (84, [some (.ref x)], .ref x :: st, h)) ∧ (∀ ls a st h, zz_Y 251 (84, ls, .ref a :: st, h) = mo_gf (hp_g h a) 11 21 251 87 ls st h) ∧ (∀ x st h, zz_Y 251 (87, [some (.ref x)], st, h) = zz_Y 251 (88, [some (.ref x)], .ref x :: st, h)) ∧ (∀ ls a st h, zz_Y 251 (88, ls, .ref a :: st, h) = mo_gf (hp_g h a) 11 23 251 91 ls st h) ∧ (∀ ls st h, zz_Y 251 (91, ls, st, h) = zz_Y 251 (92, ls, .int (nI 1) :: st, h)) ∧ (∀ ls a i x st h, zz_Y 251 (92, ls, .int x :: .int i :: .ref a :: st, h) = mo_bs (hp_g h a) x i a 251 93 ls st h) ∧ (∀ x st h, zz_Y 251 (93, [some (.ref x)], st, h) = zz_Y 251 (94, [some (.ref x)], .ref x :: st, h)) ∧ (∀ ls a st h, zz_Y 251 (94, ls, .ref a :: st, h) = mo_gf (hp_g h a) 11 22 251 97 ls st h) ∧ (∀ x st h, zz_Y 251 (97, [some (.ref x)], st, h) = zz_Y 251 (98, [some (.ref x)], .ref x :: st, h)) ∧ (∀ ls a st h, zz_Y 251 (98, ls, .ref a :: st, h) = mo_gf (hp_g h a) 11 23 251 101 ls st h) ∧ (∀ ls st h, zz_Y 251 (101, ls, st, h) = zz_Y 251 (102, ls, .int (nI 0) :: st, h)) ∧ (∀ ls a i x st h, zz_Y 251 (102, ls, .int x :: .int i :: .ref a :: st, h) = mo_bs (hp_g h a) x i a 251 103 ls st h) ∧ (∀ x st h, zz_Y 251 (103, [some (.ref x)], st, h) = zz_Y 251 (104, [some (.ref x)], .ref x :: st, h)) ∧ (∀ ls a0 h, zz_Y 251 (104, ls, [a0], h) = mo_k 251 107 ls [] (zz_run 223 [a0] h)) ∧ (∀ ls st h, zz_Y 251 (107, ls, st, h) = zz_Y 251 (108, ls, .int (nI 1) :: st, h)) ∧ (∀ ls v h, v = nI 0 ∨ v = nI 1 → zz_Y 251 (108, ls, [.int v], h) = some (some (.int v), h)) ∧ (∀ x st h, zz_Y 251 (109, [some (.ref x)], st, h) = zz_Y 251 (110, [some (.ref x)], .ref x :: st, h)) ∧ (∀ ls a st h, zz_Y 251 (110, ls, .ref a :: st, h) = mo_gf (hp_g h a) 11 23 251 113 ls st h) ∧ (∀ ls a st h, zz_Y 251 (113, ls, .int a :: st, h) = if a = nI 0 then zz_Y 251 (116, ls, st, h) else zz_Y 251 (138, ls, st, h)) ∧ (∀ x st h, zz_Y 251 (116, [some (.ref x)], st, h) = zz_Y 251 (117, [some (.ref x)], .ref x :: st, h)) ∧ (∀ ls a st h, zz_Y 251 (117, ls, .ref a :: st, h) = mo_gf (hp_g h a) 11 15 251 120 ls st h) ∧ (∀ ls a st h, zz_Y 251 (120, ls, .int a :: st, h) = if a = nI 0 then zz_Y 251 (132, ls, st, h) else zz_Y 251 (123, ls, st, h)) :=
  ⟨fun ls a0 h => xl_cv (As := [a0]) (st := []) d251_1 xco251 xm_11_247 (congrArg Nat.succ xnp227) (by decide +kernel) rfl,
   fun _ _ _ _ => xl_ifeq d251_4 rfl,
   fun _ _ _ => xl_aln d251_7 rfl,
   fun _ _ _ => xl_jw d251_8 xco251 (by decide +kernel),
   fun ls a0 a1 h => xl_cv (As := [a0, a1]) (st := []) d251_11 xco251 xm_11_251 (congrArg Nat.succ xnp229) (by decide +kernel) rfl,
   fun _ _ _ _ => xl_ifne d251_14 rfl,
   fun _ _ _ => xl_aln d251_17 rfl,
   fun _ _ _ => xl_jw d251_18 xco251 (by decide +kernel),
   fun ls a0 a1 h => xl_cv (As := [a0, a1]) (st := []) d251_21 xco251 xm_11_251 (congrArg Nat.succ xnp229) (by decide +kernel) rfl,
   fun _ _ _ _ => xl_ifeq d251_24 rfl,
   fun _ _ _ => xl_aln d251_27 rfl,
   fun _ _ _ _ => xl_gf d251_28 xco251 xf_11_48,
   fun _ _ _ => xl_aln d251_31 rfl,
   fun _ _ _ _ => xl_gf d251_32 xco251 xf_11_328,
   fun _ _ _ => xl_aln d251_35 rfl,
   fun _ _ _ => xl_jw d251_36 xco251 (by decide +kernel),
   fun ls a0 a1 s0 s1 h => xl_cv (As := [a0, a1]) (st := [s0, s1]) d251_39 xco251 xm_11_251 (congrArg Nat.succ xnp229) (by decide +kernel) rfl,
   fun _ _ _ _ => xl_ifeq d251_42 rfl,
   fun _ _ _ => xl_ic d251_45 (by decide +kernel),
   fun _ _ _ => xl_goto d251_46 rfl,
   fun _ _ _ => xl_ic d251_49 (by decide +kernel),
   fun _ _ _ _ _ _ => xl_ist d251_50,
   fun _ _ _ => xl_aln d251_51 rfl,
   fun ls a0 h => xl_cv (As := [a0]) (st := []) d251_52 xco251 xm_11_244 (congrArg Nat.succ xnp223) (by decide +kernel) rfl,
   fun _ _ _ => xl_ic d251_55 (by decide +kernel),
   fun _ _ _ hc => xl_irz d251_56 xrt251 hc,
   fun _ _ _ => xl_aln d251_57 rfl,
   fun _ _ _ => xl_jw d251_58 xco251 (by decide +kernel),
   fun ls a0 a1 h => xl_cv (As := [a0, a1]) (st := []) d251_61 xco251 xm_11_251 (congrArg Nat.succ xnp229) (by decide +kernel) rfl,
   fun _ _ _ _ => xl_ifeq d251_64 rfl,
   fun _ _ _ => xl_aln d251_67 rfl,
   fun ls a0 h => xl_cv (As := [a0]) (st := []) d251_68 xco251 xm_11_350 (congrArg Nat.succ xnp252) (by decide +kernel) rfl,
   fun _ _ _ => xl_aln d251_71 rfl,
   fun _ _ _ => xl_aln d251_72 rfl,
   fun _ _ _ _ => xl_gf d251_73 xco251 xf_11_33,
   fun _ _ _ => xl_aln d251_76 rfl,
   fun _ _ _ _ => xl_gf d251_77 xco251 xf_11_42,
   fun ls a0 a1 a2 h => xl_cv (As := [a0, a1, a2]) (st := []) d251_80 xco251 xm_11_331 (congrArg Nat.succ xnp249) (by decide +kernel) rfl,
   fun _ _ _ => xl_aln d251_83 rfl,
   fun _ _ _ _ => xl_gf d251_84 xco251 xf_11_51,
   fun _ _ _ => xl_aln d251_87 rfl,
   fun _ _ _ _ => xl_gf d251_88 xco251 xf_11_328,
   fun _ _ _ => xl_ic d251_91 (by decide +kernel),
   fun _ _ _ _ _ _ => xl_bst d251_92,
   fun _ _ _ => xl_aln d251_93 rfl,
   fun _ _ _ _ => xl_gf d251_94 xco251 xf_11_54,
   fun _ _ _ => xl_aln d251_97 rfl,
   fun _ _ _ _ => xl_gf d251_98 xco251 xf_11_328,
   fun _ _ _ => xl_ic d251_101 (by decide +kernel),
   fun _ _ _ _ _ _ => xl_bst d251_102,
   fun _ _ _ => xl_aln d251_103 rfl,
   fun ls a0 h => xl_cv (As := [a0]) (st := []) d251_104 xco251 xm_11_244 (congrArg Nat.succ xnp223) (by decide +kernel) rfl,
   fun _ _ _ => xl_ic d251_107 (by decide +kernel),
   fun _ _ _ hc => xl_irz d251_108 xrt251 hc,
   fun _ _ _ => xl_aln d251_109 rfl,
   fun _ _ _ _ => xl_gf d251_110 xco251 xf_11_328,
   fun _ _ _ _ => xl_ifne d251_113 rfl,
   fun _ _ _ => xl_aln d251_116 rfl,
   fun _ _ _ _ => xl_gf d251_117 xco251 xf_11_227,
   fun _ _ _ _ => xl_ifeq d251_120 rfl⟩
theorem x251_p1 : (∀ x st h, zz_Y 251 (123, [some (.ref x)], st, h) = zz_Y 251 (124, [some (.ref x)], .ref x :: st, h)) ∧ (∀ ls st h, zz_Y 251 (124, ls, st, h) = zz_Y 251 (125, ls, .int (nI 1) :: st, h)) ∧ (∀ x st h, zz_Y 251 (125, [some (.ref x)], st, h) = zz_Y 251 (126, [some (.ref x)], .ref x :: st, h)) ∧ (∀ ls a st h, zz_Y 251 (126, ls, .ref a :: st, h) = mo_gf (hp_g h a) 11 16 251 129 ls st h) ∧ (∀ ls a0 a1 a2 h, zz_Y 251 (129, ls, [a2, a1, a0], h) = mo_k 251 132 ls [] (zz_run 231 [a0, a1, a2] h)) ∧ (∀ x st h, zz_Y 251 (132, [some (.ref x)], st, h) = zz_Y 251 (133, [some (.ref x)], .ref x :: st, h)) ∧ (∀ ls a0 h, zz_Y 251 (133, ls, [a0], h) = mo_k 251 136 ls [] (zz_run 252 [a0] h)) ∧ (∀ ls st h, zz_Y 251 (136, ls, st, h) = zz_Y 251 (137, ls, .int (nI 0) :: st, h)) ∧ (∀ ls v h, v = nI 0 ∨ v = nI 1 → zz_Y 251 (137, ls, [.int v], h) = some (some (.int v), h)) ∧ (∀ x st h, zz_Y 251 (138, [some (.ref x)], st, h) = zz_Y 251 (139, [some (.ref x)], .ref x :: st, h)) ∧ (∀ ls st h, zz_Y 251 (139, ls, st, h) = zz_Y 251 (141, ls, .int (nI 93) :: st, h)) ∧ (∀ ls a0 a1 h, zz_Y 251 (141, ls, [a1, a0], h) = mo_k 251 144 ls [] (zz_run 244 [a0, a1] h)) ∧ (∀ ls a st h, zz_Y 251 (144, ls, .int a :: st, h) = if a = nI 0 then zz_Y 251 (147, ls, st, h) else zz_Y 251 (158, ls, st, h)) ∧ (∀ x st h, zz_Y 251 (147, [some (.ref x)], st, h) = zz_Y 251 (148, [some (.ref x)], .ref x :: st, h)) ∧ (∀ ls st h, zz_Y 251 (148, ls, st, h) = zz_Y 251 (149, ls, .int (nI 1) :: st, h)) ∧ (∀ x st h, zz_Y 251 (149, [some (.ref x)], st, h) = zz_Y 251 (150, [some (.ref x)], .ref x :: st, h)) ∧ (∀ ls a st h, zz_Y 251 (150, ls, .ref a :: st, h) = mo_gf (hp_g h a) 11 16 251 153 ls st h) ∧ (∀ ls a0 a1 a2 h, zz_Y 251 (153, ls, [a2, a1, a0], h) = mo_k 251 156 ls [] (zz_run 231 [a0, a1, a2] h)) ∧ (∀ ls st h, zz_Y 251 (156, ls, st, h) = zz_Y 251 (157, ls, .int (nI 0) :: st, h)) ∧ (∀ ls v h, v = nI 0 ∨ v = nI 1 → zz_Y 251 (157, ls, [.int v], h) = some (some (.int v), h)) ∧ (∀ x st h, zz_Y 251 (158, [some (.ref x)], st, h) = zz_Y 251 (159, [some (.ref x)], .ref x :: st, h)) ∧ (∀ ls a0 h, zz_Y 251 (159, ls, [a0], h) = mo_k 251 162 ls [] (zz_run 252 [a0] h)) ∧ (∀ x st h, zz_Y 251 (162, [some (.ref x)], st, h) = zz_Y 251 (163, [some (.ref x)], .ref x :: st, h)) ∧ (∀ ls a0 h, zz_Y 251 (163, ls, [a0], h) = mo_k 251 166 ls [] (zz_run 223 [a0] h)) ∧ (∀ x st h, zz_Y 251 (166, [some (.ref x)], st, h) = zz_Y 251 (167, [some (.ref x)], .ref x :: st, h)) ∧ (∀ ls a st h, zz_Y 251 (167, ls, .ref a :: st, h) = zz_Y 251 (168, ls, .ref a :: .ref a :: st, h)) ∧ (∀ ls a st h, zz_Y 251 (168, ls, .ref a :: st, h) = mo_gf (hp_g h a) 11 23 251 171 ls st h) ∧ (∀ ls st h, zz_Y 251 (171, ls, st, h) = zz_Y 251 (172, ls, .int (nI 1) :: st, h)) ∧ (∀ ls a b st h, zz_Y 251 (172, ls, .int b :: .int a :: st, h) = zz_Y 251 (173, ls, .int (a - b) :: st, h)) ∧ (∀ ls a v st h, zz_Y 251 (173, ls, v :: .ref a :: st, h) = mo_pf (hp_g h a) 11 23 .int v a 251 176 ls st h) ∧ (∀ x st h, zz_Y 251 (176, [some (.ref x)], st, h) = zz_Y 251 (177, [some (.ref x)], .ref x :: st, h)) ∧ (∀ ls a0 h, zz_Y 251 (177, ls, [a0], h) = mo_k 251 180 ls [] (zz_run 248 [a0] h)) ∧ (∀ ls st h, zz_Y 251 (180, ls, st, h) = zz_Y 251 (0, ls, st, h)) ∧ (∀ ls st h, zz_Y 251 (183, ls, st, h) = zz_Y 251 (184, ls, .int (nI 0) :: st, h)) ∧ (∀ ls v h, v = nI 0 ∨ v = nI 1 → zz_Y 251 (184, ls, [.int v], h) = some (some (.int v), h)) :=
  ⟨fun _ _ _ => xl_aln d251_123 rfl,
   fun _ _ _ => xl_ic d251_124 (by decide +kernel),
   fun _ _ _ => xl_aln d251_125 rfl,
   fun _ _ _ _ => xl_gf d251_126 xco251 xf_11_220,
   fun ls a0 a1 a2 h => xl_cv (As := [a0, a1, a2]) (st := []) d251_129 xco251 xm_11_288 (congrArg Nat.succ xnp231) (by decide +kernel) rfl,
   fun _ _ _ => xl_aln d251_132 rfl,
   fun ls a0 h => xl_cv (As := [a0]) (st := []) d251_133 xco251 xm_11_350 (congrArg Nat.succ xnp252) (by decide +kernel) rfl,
   fun _ _ _ => xl_ic d251_136 (by decide +kernel),
   fun _ _ _ hc => xl_irz d251_137 xrt251 hc,
   fun _ _ _ => xl_aln d251_138 rfl,
   fun _ _ _ => xl_bi d251_139 (by decide +kernel),
   fun ls a0 a1 h => xl_cv (As := [a0, a1]) (st := []) d251_141 xco251 xm_11_255 (congrArg Nat.succ xnp244) (by decide +kernel) rfl,
   fun _ _ _ _ => xl_ifne d251_144 rfl,
   fun _ _ _ => xl_aln d251_147 rfl,
   fun _ _ _ => xl_ic d251_148 (by decide +kernel),
   fun _ _ _ => xl_aln d251_149 rfl,
   fun _ _ _ _ => xl_gf d251_150 xco251 xf_11_220,
   fun ls a0 a1 a2 h => xl_cv (As := [a0, a1, a2]) (st := []) d251_153 xco251 xm_11_288 (congrArg Nat.succ xnp231) (by decide +kernel) rfl,
   fun _ _ _ => xl_ic d251_156 (by decide +kernel),
   fun _ _ _ hc => xl_irz d251_157 xrt251 hc,
   fun _ _ _ => xl_aln d251_158 rfl,
   fun ls a0 h => xl_cv (As := [a0]) (st := []) d251_159 xco251 xm_11_350 (congrArg Nat.succ xnp252) (by decide +kernel) rfl,
   fun _ _ _ => xl_aln d251_162 rfl,
   fun ls a0 h => xl_cv (As := [a0]) (st := []) d251_163 xco251 xm_11_244 (congrArg Nat.succ xnp223) (by decide +kernel) rfl,
   fun _ _ _ => xl_aln d251_166 rfl,
   fun _ _ _ _ => xl_dupr d251_167,
   fun _ _ _ _ => xl_gf d251_168 xco251 xf_11_328,
   fun _ _ _ => xl_ic d251_171 (by decide +kernel),
   fun _ _ _ _ _ => xl_isub d251_172,
   fun _ _ _ _ _ => xl_pf d251_173 xco251 xf_11_328 (by decide +kernel) rfl,
   fun _ _ _ => xl_aln d251_176 rfl,
   fun ls a0 h => xl_cv (As := [a0]) (st := []) d251_177 xco251 xm_11_344 (congrArg Nat.succ xnp248) (by decide +kernel) rfl,
   fun _ _ _ => xl_goto d251_180 rfl,
   fun _ _ _ => xl_ic d251_183 (by decide +kernel),
   fun _ _ _ hc => xl_irz d251_184 xrt251 hc⟩
theorem x251_c0 : ∀ x st h, zz_Y 251 (0, [some (.ref x)], st, h) = zz_Y 251 (1, [some (.ref x)], .ref x :: st, h) := fun _ _ _ => xl_aln d251_0 rfl
/-! 252 FacetSieveModel.ends()V -/
theorem d252_0 : decode (zz_c 252) 0 = .ok (.aload_n 0, 1) := by decide +kernel
theorem d252_1 : decode (zz_c 252) 1 = .ok (.aload_n 0, 1) := by decide +kernel
theorem d252_2 : decode (zz_c 252) 2 = .ok (.getfield 45, 3) := by decide +kernel
theorem d252_5 : decode (zz_c 252) 5 = .ok (.aload_n 0, 1) := by decide +kernel
theorem d252_6 : decode (zz_c 252) 6 = .ok (.getfield 33, 3) := by decide +kernel
theorem d252_9 : decode (zz_c 252) 9 = .ok (.invokevirtual 335, 3) := by decide +kernel
theorem d252_12 : decode (zz_c 252) 12 = .ok (.aload_n 0, 1) := by decide +kernel
theorem d252_13 : decode (zz_c 252) 13 = .ok (.getfield 51, 3) := by decide +kernel
theorem d252_16 : decode (zz_c 252) 16 = .ok (.aload_n 0, 1) := by decide +kernel
theorem d252_17 : decode (zz_c 252) 17 = .ok (.getfield 328, 3) := by decide +kernel
theorem d252_20 : decode (zz_c 252) 20 = .ok (.baload, 1) := by decide +kernel
theorem d252_21 : decode (zz_c 252) 21 = .ok (.ifCond .eq 65, 3) := by decide +kernel
theorem d252_24 : decode (zz_c 252) 24 = .ok (.aload_n 0, 1) := by decide +kernel
theorem d252_25 : decode (zz_c 252) 25 = .ok (.aload_n 0, 1) := by decide +kernel
theorem d252_26 : decode (zz_c 252) 26 = .ok (.getfield 42, 3) := by decide +kernel
theorem d252_29 : decode (zz_c 252) 29 = .ok (.aload_n 0, 1) := by decide +kernel
theorem d252_30 : decode (zz_c 252) 30 = .ok (.getfield 24, 3) := by decide +kernel
theorem d252_33 : decode (zz_c 252) 33 = .ok (.invokevirtual 335, 3) := by decide +kernel
theorem d252_36 : decode (zz_c 252) 36 = .ok (.aload_n 0, 1) := by decide +kernel
theorem d252_37 : decode (zz_c 252) 37 = .ok (.dup, 1) := by decide +kernel
theorem d252_38 : decode (zz_c 252) 38 = .ok (.getfield 338, 3) := by decide +kernel
theorem d252_41 : decode (zz_c 252) 41 = .ok (.aload_n 0, 1) := by decide +kernel
theorem d252_42 : decode (zz_c 252) 42 = .ok (.getfield 24, 3) := by decide +kernel
theorem d252_45 : decode (zz_c 252) 45 = .ok (.aload_n 0, 1) := by decide +kernel
theorem d252_46 : decode (zz_c 252) 46 = .ok (.getfield 33, 3) := by decide +kernel
theorem d252_49 : decode (zz_c 252) 49 = .ok (.iconst 1, 1) := by decide +kernel
theorem d252_50 : decode (zz_c 252) 50 = .ok (.invokestatic 180, 3) := by decide +kernel
theorem d252_53 : decode (zz_c 252) 53 = .ok (.iadd, 1) := by decide +kernel
theorem d252_54 : decode (zz_c 252) 54 = .ok (.putfield 338, 3) := by decide +kernel
theorem d252_57 : decode (zz_c 252) 57 = .ok (.iconst 0, 1) := by decide +kernel
theorem d252_58 : decode (zz_c 252) 58 = .ok (.istore_n 1, 1) := by decide +kernel
theorem d252_59 : decode (zz_c 252) 59 = .ok (.iload_n 1, 1) := by decide +kernel
theorem d252_60 : decode (zz_c 252) 60 = .ok (.bipush 8, 2) := by decide +kernel
theorem d252_62 : decode (zz_c 252) 62 = .ok (.if_icmp .ge 24, 3) := by decide +kernel
theorem d252_65 : decode (zz_c 252) 65 = .ok (.aload_n 0, 1) := by decide +kernel
theorem d252_66 : decode (zz_c 252) 66 = .ok (.getfield 33, 3) := by decide +kernel
theorem d252_69 : decode (zz_c 252) 69 = .ok (.iload_n 1, 1) := by decide +kernel
theorem d252_70 : decode (zz_c 252) 70 = .ok (.dup2, 1) := by decide +kernel
theorem d252_71 : decode (zz_c 252) 71 = .ok (.iaload, 1) := by decide +kernel
theorem d252_72 : decode (zz_c 252) 72 = .ok (.aload_n 0, 1) := by decide +kernel
theorem d252_73 : decode (zz_c 252) 73 = .ok (.getfield 24, 3) := by decide +kernel
theorem d252_76 : decode (zz_c 252) 76 = .ok (.iload_n 1, 1) := by decide +kernel
theorem d252_77 : decode (zz_c 252) 77 = .ok (.iaload, 1) := by decide +kernel
theorem d252_78 : decode (zz_c 252) 78 = .ok (.ior, 1) := by decide +kernel
theorem d252_79 : decode (zz_c 252) 79 = .ok (.iastore, 1) := by decide +kernel
theorem d252_80 : decode (zz_c 252) 80 = .ok (.iinc 1 1, 3) := by decide +kernel
theorem d252_83 : decode (zz_c 252) 83 = .ok (.goto (-24), 3) := by decide +kernel
theorem d252_86 : decode (zz_c 252) 86 = .ok (.return_, 1) := by decide +kernel
theorem x252 : (∀ l1 x st h, zz_Y 252 (0, [some (.ref x), l1], st, h) = zz_Y 252 (1, [some (.ref x), l1], .ref x :: st, h)) ∧ (∀ l1 x st h, zz_Y 252 (1, [some (.ref x), l1], st, h) = zz_Y 252 (2, [some (.ref x), l1], .ref x :: st, h)) ∧ (∀ ls a st h, zz_Y 252 (2, ls, .ref a :: st, h) = mo_gf (hp_g h a) 11 19 252 5 ls st h) ∧ (∀ l1 x st h, zz_Y 252 (5, [some (.ref x), l1], st, h) = zz_Y 252 (6, [some (.ref x), l1], .ref x :: st, h)) ∧ (∀ ls a st h, zz_Y 252 (6, ls, .ref a :: st, h) = mo_gf (hp_g h a) 11 10 252 9 ls st h) ∧ (∀ ls a0 a1 a2 h, zz_Y 252 (9, ls, [a2, a1, a0], h) = mo_k 252 12 ls [] (zz_run 250 [a0, a1, a2] h)) ∧ (∀ l1 x st h, zz_Y 252 (12, [some (.ref x), l1], st, h) = zz_Y 252 (13, [some (.ref x), l1], .ref x :: st, h)) ∧ (∀ ls a st h, zz_Y 252 (13, ls, .ref a :: st, h) = mo_gf (hp_g h a) 11 21 252 16 ls st h) ∧ (∀ l1 x st h, zz_Y 252 (16, [some (.ref x), l1], st, h) = zz_Y 252 (17, [some (.ref x), l1], .ref x :: st, h)) ∧ (∀ ls a st h, zz_Y 252 (17, ls, .ref a :: st, h) = mo_gf (hp_g h a) 11 23 252 20 ls st h) ∧ (∀ ls a i st h, zz_Y 252 (20, ls, .int i :: .ref a :: st, h) = mo_ba (hp_g h a) i 252 21 ls st h) ∧ (∀ ls a st h, zz_Y 252 (21, ls, .int a :: st, h) = if a = nI 0 then zz_Y 252 (86, ls, st, h) else zz_Y 252 (24, ls, st, h)) ∧ (∀ l1 x st h, zz_Y 252 (24, [some (.ref x), l1], st, h) = zz_Y 252 (25, [some (.ref x), l1], .ref x :: st, h)) ∧ (∀ l1 x st h, zz_Y 252 (25, [some (.ref x), l1], st, h) = zz_Y 252 (26, [some (.ref x), l1], .ref x :: st, h)) ∧ (∀ ls a st h, zz_Y 252 (26, ls, .ref a :: st, h) = mo_gf (hp_g h a) 11 18 252 29 ls st h) ∧ (∀ l1 x st h, zz_Y 252 (29, [some (.ref x), l1], st, h) = zz_Y 252 (30, [some (.ref x), l1], .ref x :: st, h)) ∧ (∀ ls a st h, zz_Y 252 (30, ls, .ref a :: st, h) = mo_gf (hp_g h a) 11 7 252 33 ls st h) ∧ (∀ ls a0 a1 a2 h, zz_Y 252 (33, ls, [a2, a1, a0], h) = mo_k 252 36 ls [] (zz_run 250 [a0, a1, a2] h)) ∧ (∀ l1 x st h, zz_Y 252 (36, [some (.ref x), l1], st, h) = zz_Y 252 (37, [some (.ref x), l1], .ref x :: st, h)) ∧ (∀ ls a st h, zz_Y 252 (37, ls, .ref a :: st, h) = zz_Y 252 (38, ls, .ref a :: .ref a :: st, h)) ∧ (∀ ls a st h, zz_Y 252 (38, ls, .ref a :: st, h) = mo_gf (hp_g h a) 11 25 252 41 ls st h) ∧ (∀ l1 x st h, zz_Y 252 (41, [some (.ref x), l1], st, h) = zz_Y 252 (42, [some (.ref x), l1], .ref x :: st, h)) ∧ (∀ ls a st h, zz_Y 252 (42, ls, .ref a :: st, h) = mo_gf (hp_g h a) 11 7 252 45 ls st h) ∧ (∀ l1 x st h, zz_Y 252 (45, [some (.ref x), l1], st, h) = zz_Y 252 (46, [some (.ref x), l1], .ref x :: st, h)) ∧ (∀ ls a st h, zz_Y 252 (46, ls, .ref a :: st, h) = mo_gf (hp_g h a) 11 10 252 49 ls st h) ∧ (∀ ls st h, zz_Y 252 (49, ls, st, h) = zz_Y 252 (50, ls, .int (nI 1) :: st, h)) ∧ (∀ ls a0 a1 a2 s0 s1 h, zz_Y 252 (50, ls, [a2, a1, a0, s0, s1], h) = mo_k 252 53 ls [s0, s1] (zz_run 197 [a0, a1, a2] h)) ∧ (∀ ls a b st h, zz_Y 252 (53, ls, .int b :: .int a :: st, h) = zz_Y 252 (54, ls, .int (a + b) :: st, h)) ∧ (∀ ls a v st h, zz_Y 252 (54, ls, v :: .ref a :: st, h) = mo_pf (hp_g h a) 11 25 .int v a 252 57 ls st h) ∧ (∀ ls st h, zz_Y 252 (57, ls, st, h) = zz_Y 252 (58, ls, .int (nI 0) :: st, h)) ∧ (∀ l0 l1 x st h, zz_nl l0 = true → zz_Y 252 (58, [l0, l1], .int x :: st, h) = zz_Y 252 (59, [l0, some (.int x)], st, h)) ∧ (∀ ls st h, zz_Y 252 (60, ls, st, h) = zz_Y 252 (62, ls, .int (nI 8) :: st, h)) ∧ (∀ ls a b st h, zz_Y 252 (62, ls, .int b :: .int a :: st, h) = if a < b then zz_Y 252 (65, ls, st, h) else zz_Y 252 (86, ls, st, h)) ∧ (∀ l1 x st h, zz_Y 252 (65, [some (.ref x), l1], st, h) = zz_Y 252 (66, [some (.ref x), l1], .ref x :: st, h)) ∧ (∀ ls a st h, zz_Y 252 (66, ls, .ref a :: st, h) = mo_gf (hp_g h a) 11 10 252 69 ls st h) ∧ (∀ l0 x st h, zz_Y 252 (69, [l0, some (.int x)], st, h) = zz_Y 252 (70, [l0, some (.int x)], .int x :: st, h)) ∧ (∀ ls a b st h, zz_Y 252 (70, ls, .int b :: .ref a :: st, h) = zz_Y 252 (71, ls, .int b :: .ref a :: .int b :: .ref a :: st, h)) ∧ (∀ ls a i st h, zz_Y 252 (71, ls, .int i :: .ref a :: st, h) = mo_ia (hp_g h a) i a 252 72 ls st h) ∧ (∀ l1 x st h, zz_Y 252 (72, [some (.ref x), l1], st, h) = zz_Y 252 (73, [some (.ref x), l1], .ref x :: st, h)) ∧ (∀ ls a st h, zz_Y 252 (73, ls, .ref a :: st, h) = mo_gf (hp_g h a) 11 7 252 76 ls st h) ∧ (∀ l0 x st h, zz_Y 252 (76, [l0, some (.int x)], st, h) = zz_Y 252 (77, [l0, some (.int x)], .int x :: st, h)) ∧ (∀ ls a i st h, zz_Y 252 (77, ls, .int i :: .ref a :: st, h) = mo_ia (hp_g h a) i a 252 78 ls st h) ∧ (∀ ls a b st h, zz_Y 252 (78, ls, .int b :: .int a :: st, h) = zz_Y 252 (79, ls, .int (a ||| b) :: st, h)) ∧ (∀ ls a i x st h, zz_Y 252 (79, ls, .int x :: .int i :: .ref a :: st, h) = mo_is (hp_g h a) x i a 252 80 ls st h) ∧ (∀ l0 x st h, zz_nl l0 = true → zz_Y 252 (80, [l0, some (.int x)], st, h) = zz_Y 252 (83, [l0, some (.int (x + nI 1))], st, h)) ∧ (∀ ls st h, zz_Y 252 (83, ls, st, h) = zz_Y 252 (59, ls, st, h)) ∧ (∀ ls h, zz_Y 252 (86, ls, [], h) = some (none, h)) :=
  ⟨fun _ _ _ _ => xl_aln d252_0 rfl,
   fun _ _ _ _ => xl_aln d252_1 rfl,
   fun _ _ _ _ => xl_gf d252_2 xco252 xf_11_45,
   fun _ _ _ _ => xl_aln d252_5 rfl,
   fun _ _ _ _ => xl_gf d252_6 xco252 xf_11_33,
   fun ls a0 a1 a2 h => xl_cv (As := [a0, a1, a2]) (st := []) d252_9 xco252 xm_11_335 (congrArg Nat.succ xnp250) (by decide +kernel) rfl,
   fun _ _ _ _ => xl_aln d252_12 rfl,
   fun _ _ _ _ => xl_gf d252_13 xco252 xf_11_51,
   fun _ _ _ _ => xl_aln d252_16 rfl,
   fun _ _ _ _ => xl_gf d252_17 xco252 xf_11_328,
   fun _ _ _ _ _ => xl_ba d252_20,
   fun _ _ _ _ => xl_ifeq d252_21 rfl,
   fun _ _ _ _ => xl_aln d252_24 rfl,
   fun _ _ _ _ => xl_aln d252_25 rfl,
   fun _ _ _ _ => xl_gf d252_26 xco252 xf_11_42,
   fun _ _ _ _ => xl_aln d252_29 rfl,
   fun _ _ _ _ => xl_gf d252_30 xco252 xf_11_24,
   fun ls a0 a1 a2 h => xl_cv (As := [a0, a1, a2]) (st := []) d252_33 xco252 xm_11_335 (congrArg Nat.succ xnp250) (by decide +kernel) rfl,
   fun _ _ _ _ => xl_aln d252_36 rfl,
   fun _ _ _ _ => xl_dupr d252_37,
   fun _ _ _ _ => xl_gf d252_38 xco252 xf_11_338,
   fun _ _ _ _ => xl_aln d252_41 rfl,
   fun _ _ _ _ => xl_gf d252_42 xco252 xf_11_24,
   fun _ _ _ _ => xl_aln d252_45 rfl,
   fun _ _ _ _ => xl_gf d252_46 xco252 xf_11_33,
   fun _ _ _ => xl_ic d252_49 (by decide +kernel),
   fun ls a0 a1 a2 s0 s1 h => xl_cs (As := [a0, a1, a2]) (st := [s0, s1]) d252_50 xco252 xm_11_180 xnp197 (by decide +kernel) rfl,
   fun _ _ _ _ _ => xl_iadd d252_53,
   fun _ _ _ _ _ => xl_pf d252_54 xco252 xf_11_338 (by decide +kernel) rfl,
   fun _ _ _ => xl_ic d252_57 (by decide +kernel),
   fun _ _ _ _ _ hc => xl_isn d252_58 xml252 (by decide) (zz_nl_s1 hc),
   fun _ _ _ => xl_bi d252_60 (by decide +kernel),
   fun _ _ _ _ _ => xl_icge d252_62 rfl,
   fun _ _ _ _ => xl_aln d252_65 rfl,
   fun _ _ _ _ => xl_gf d252_66 xco252 xf_11_33,
   fun _ _ _ _ => xl_iln d252_69 rfl,
   fun _ _ _ _ _ => xl_dup2 d252_70,
   fun _ _ _ _ _ => xl_ia d252_71,
   fun _ _ _ _ => xl_aln d252_72 rfl,
   fun _ _ _ _ => xl_gf d252_73 xco252 xf_11_24,
   fun _ _ _ _ => xl_iln d252_76 rfl,
   fun _ _ _ _ _ => xl_ia d252_77,
   fun _ _ _ _ _ => xl_ior d252_78,
   fun _ _ _ _ _ _ => xl_ist d252_79,
   fun _ _ _ _ hc => xl_inc d252_80 xml252 (by decide) rfl (by decide +kernel) (zz_nl_s1 hc),
   fun _ _ _ => xl_goto d252_83 rfl,
   fun _ _ => xl_r d252_86 xrt252⟩
theorem x252_c59 : ∀ l0 x st h, zz_Y 252 (59, [l0, some (.int x)], st, h) = zz_Y 252 (60, [l0, some (.int x)], .int x :: st, h) := fun _ _ _ _ => xl_iln d252_59 rfl
/-! 253 FacetSieveModel.asked(I)I -/
theorem d253_0 : decode (zz_c 253) 0 = .ok (.aload_n 0, 1) := by decide +kernel
theorem d253_1 : decode (zz_c 253) 1 = .ok (.getfield 7, 3) := by decide +kernel
theorem d253_4 : decode (zz_c 253) 4 = .ok (.sipush 718, 3) := by decide +kernel
theorem d253_7 : decode (zz_c 253) 7 = .ok (.iaload, 1) := by decide +kernel
theorem d253_8 : decode (zz_c 253) 8 = .ok (.ifCond .ne 5, 3) := by decide +kernel
theorem d253_11 : decode (zz_c 253) 11 = .ok (.iconst (-1), 1) := by decide +kernel
theorem d253_12 : decode (zz_c 253) 12 = .ok (.ireturn, 1) := by decide +kernel
theorem d253_13 : decode (zz_c 253) 13 = .ok (.iconst 0, 1) := by decide +kernel
theorem d253_14 : decode (zz_c 253) 14 = .ok (.istore_n 2, 1) := by decide +kernel
theorem d253_15 : decode (zz_c 253) 15 = .ok (.iload_n 2, 1) := by decide +kernel
theorem d253_16 : decode (zz_c 253) 16 = .ok (.bipush 8, 2) := by decide +kernel
theorem d253_18 : decode (zz_c 253) 18 = .ok (.if_icmp .ge 25, 3) := by decide +kernel
theorem d253_21 : decode (zz_c 253) 21 = .ok (.aload_n 0, 1) := by decide +kernel
theorem d253_22 : decode (zz_c 253) 22 = .ok (.getfield 24, 3) := by decide +kernel
theorem d253_25 : decode (zz_c 253) 25 = .ok (.iload_n 2, 1) := by decide +kernel
theorem d253_26 : decode (zz_c 253) 26 = .ok (.aload_n 0, 1) := by decide +kernel
theorem d253_27 : decode (zz_c 253) 27 = .ok (.getfield 7, 3) := by decide +kernel
theorem d253_30 : decode (zz_c 253) 30 = .ok (.sipush 720, 3) := by decide +kernel
theorem d253_33 : decode (zz_c 253) 33 = .ok (.iload_n 2, 1) := by decide +kernel
theorem d253_34 : decode (zz_c 253) 34 = .ok (.iadd, 1) := by decide +kernel
theorem d253_35 : decode (zz_c 253) 35 = .ok (.iaload, 1) := by decide +kernel
theorem d253_36 : decode (zz_c 253) 36 = .ok (.iastore, 1) := by decide +kernel
theorem d253_37 : decode (zz_c 253) 37 = .ok (.iinc 2 1, 3) := by decide +kernel
theorem d253_40 : decode (zz_c 253) 40 = .ok (.goto (-25), 3) := by decide +kernel
theorem d253_43 : decode (zz_c 253) 43 = .ok (.iload_n 1, 1) := by decide +kernel
theorem d253_44 : decode (zz_c 253) 44 = .ok (.bipush 10, 2) := by decide +kernel
theorem d253_46 : decode (zz_c 253) 46 = .ok (.if_icmp .lt 16, 3) := by decide +kernel
theorem d253_49 : decode (zz_c 253) 49 = .ok (.aload_n 0, 1) := by decide +kernel
theorem d253_50 : decode (zz_c 253) 50 = .ok (.aload_n 0, 1) := by decide +kernel
theorem d253_51 : decode (zz_c 253) 51 = .ok (.getfield 24, 3) := by decide +kernel
theorem d253_54 : decode (zz_c 253) 54 = .ok (.iload_n 1, 1) := by decide +kernel
theorem d253_55 : decode (zz_c 253) 55 = .ok (.bipush 10, 2) := by decide +kernel
theorem d253_57 : decode (zz_c 253) 57 = .ok (.isub, 1) := by decide +kernel
theorem d253_58 : decode (zz_c 253) 58 = .ok (.invokevirtual 173, 3) := by decide +kernel
theorem d253_61 : decode (zz_c 253) 61 = .ok (.ireturn, 1) := by decide +kernel
theorem d253_62 : decode (zz_c 253) 62 = .ok (.iload_n 1, 1) := by decide +kernel
theorem d253_63 : decode (zz_c 253) 63 = .ok (.ifCond .ne 13, 3) := by decide +kernel
theorem d253_66 : decode (zz_c 253) 66 = .ok (.aload_n 0, 1) := by decide +kernel
theorem d253_67 : decode (zz_c 253) 67 = .ok (.getfield 24, 3) := by decide +kernel
theorem d253_70 : decode (zz_c 253) 70 = .ok (.invokestatic 109, 3) := by decide +kernel
theorem d253_73 : decode (zz_c 253) 73 = .ok (.goto 35, 3) := by decide +kernel
theorem d253_76 : decode (zz_c 253) 76 = .ok (.iload_n 1, 1) := by decide +kernel
theorem d253_77 : decode (zz_c 253) 77 = .ok (.iconst 1, 1) := by decide +kernel
theorem d253_78 : decode (zz_c 253) 78 = .ok (.if_icmp .ne 14, 3) := by decide +kernel
theorem d253_81 : decode (zz_c 253) 81 = .ok (.aload_n 0, 1) := by decide +kernel
theorem d253_82 : decode (zz_c 253) 82 = .ok (.getfield 7, 3) := by decide +kernel
theorem d253_85 : decode (zz_c 253) 85 = .ok (.sipush 719, 3) := by decide +kernel
theorem d253_88 : decode (zz_c 253) 88 = .ok (.iaload, 1) := by decide +kernel
theorem d253_89 : decode (zz_c 253) 89 = .ok (.goto 19, 3) := by decide +kernel
theorem d253_92 : decode (zz_c 253) 92 = .ok (.iload_n 1, 1) := by decide +kernel
theorem d253_93 : decode (zz_c 253) 93 = .ok (.iconst 2, 1) := by decide +kernel
theorem d253_94 : decode (zz_c 253) 94 = .ok (.if_icmp .ne 13, 3) := by decide +kernel
theorem d253_97 : decode (zz_c 253) 97 = .ok (.aload_n 0, 1) := by decide +kernel
theorem d253_98 : decode (zz_c 253) 98 = .ok (.getfield 24, 3) := by decide +kernel
theorem d253_101 : decode (zz_c 253) 101 = .ok (.invokestatic 132, 3) := by decide +kernel
theorem d253_104 : decode (zz_c 253) 104 = .ok (.goto 4, 3) := by decide +kernel
theorem d253_107 : decode (zz_c 253) 107 = .ok (.iconst (-1), 1) := by decide +kernel
theorem d253_108 : decode (zz_c 253) 108 = .ok (.ireturn, 1) := by decide +kernel
theorem x253 : (∀ l1 l2 x st h, zz_Y 253 (0, [some (.ref x), l1, l2], st, h) = zz_Y 253 (1, [some (.ref x), l1, l2], .ref x :: st, h)) ∧ (∀ ls a st h, zz_Y 253 (1, ls, .ref a :: st, h) = mo_gf (hp_g h a) 11 0 253 4 ls st h) ∧ (∀ ls st h, zz_Y 253 (4, ls, st, h) = zz_Y 253 (7, ls, .int (nI 718) :: st, h)) ∧ (∀ ls a i st h, zz_Y 253 (7, ls, .int i :: .ref a :: st, h) = mo_ia (hp_g h a) i a 253 8 ls st h) ∧ (∀ ls a st h, zz_Y 253 (8, ls, .int a :: st, h) = if a = nI 0 then zz_Y 253 (11, ls, st, h) else zz_Y 253 (13, ls, st, h)) ∧ (∀ ls st h, zz_Y 253 (11, ls, st, h) = zz_Y 253 (12, ls, .int (-1) :: st, h)) ∧ (∀ ls v h, zz_Y 253 (12, ls, [.int v], h) = some (some (.int v), h)) ∧ (∀ ls st h, zz_Y 253 (13, ls, st, h) = zz_Y 253 (14, ls, .int (nI 0) :: st, h)) ∧ (∀ l0 l1 l2 x st h, zz_nl l1 = true → zz_Y 253 (14, [l0, l1, l2], .int x :: st, h) = zz_Y 253 (15, [l0, l1, some (.int x)], st, h)) ∧ (∀ ls st h, zz_Y 253 (16, ls, st, h) = zz_Y 253 (18, ls, .int (nI 8) :: st, h)) ∧ (∀ ls a b st h, zz_Y 253 (18, ls, .int b :: .int a :: st, h) = if a < b then zz_Y 253 (21, ls, st, h) else zz_Y 253 (43, ls, st, h)) ∧ (∀ l1 l2 x st h, zz_Y 253 (21, [some (.ref x), l1, l2], st, h) = zz_Y 253 (22, [some (.ref x), l1, l2], .ref x :: st, h)) ∧ (∀ ls a st h, zz_Y 253 (22, ls, .ref a :: st, h) = mo_gf (hp_g h a) 11 7 253 25 ls st h) ∧ (∀ l0 l1 x st h, zz_Y 253 (25, [l0, l1, some (.int x)], st, h) = zz_Y 253 (26, [l0, l1, some (.int x)], .int x :: st, h)) ∧ (∀ l1 l2 x st h, zz_Y 253 (26, [some (.ref x), l1, l2], st, h) = zz_Y 253 (27, [some (.ref x), l1, l2], .ref x :: st, h)) ∧ (∀ ls a st h, zz_Y 253 (27, ls, .ref a :: st, h) = mo_gf (hp_g h a) 11 0 253 30 ls st h) ∧ (∀ ls st h, zz_Y 253 (30, ls, st, h) = zz_Y 253 (33, ls, .int (nI 720) :: st, h)) ∧ (∀ l0 l1 x st h, zz_Y 253 (33, [l0, l1, some (.int x)], st, h) = zz_Y 253 (34, [l0, l1, some (.int x)], .int x :: st, h)) ∧ (∀ ls a b st h, zz_Y 253 (34, ls, .int b :: .int a :: st, h) = zz_Y 253 (35, ls, .int (a + b) :: st, h)) ∧ (∀ ls a i st h, zz_Y 253 (35, ls, .int i :: .ref a :: st, h) = mo_ia (hp_g h a) i a 253 36 ls st h) ∧ (∀ ls a i x st h, zz_Y 253 (36, ls, .int x :: .int i :: .ref a :: st, h) = mo_is (hp_g h a) x i a 253 37 ls st h) ∧ (∀ l0 l1 x st h, zz_nl l1 = true → zz_Y 253 (37, [l0, l1, some (.int x)], st, h) = zz_Y 253 (40, [l0, l1, some (.int (x + nI 1))], st, h)) ∧ (∀ ls st h, zz_Y 253 (40, ls, st, h) = zz_Y 253 (15, ls, st, h)) ∧ (∀ l0 l2 x st h, zz_Y 253 (43, [l0, some (.int x), l2], st, h) = zz_Y 253 (44, [l0, some (.int x), l2], .int x :: st, h)) ∧ (∀ ls st h, zz_Y 253 (44, ls, st, h) = zz_Y 253 (46, ls, .int (nI 10) :: st, h)) ∧ (∀ ls a b st h, zz_Y 253 (46, ls, .int b :: .int a :: st, h) = if a < b then zz_Y 253 (62, ls, st, h) else zz_Y 253 (49, ls, st, h)) ∧ (∀ l1 l2 x st h, zz_Y 253 (49, [some (.ref x), l1, l2], st, h) = zz_Y 253 (50, [some (.ref x), l1, l2], .ref x :: st, h)) ∧ (∀ l1 l2 x st h, zz_Y 253 (50, [some (.ref x), l1, l2], st, h) = zz_Y 253 (51, [some (.ref x), l1, l2], .ref x :: st, h)) ∧ (∀ ls a st h, zz_Y 253 (51, ls, .ref a :: st, h) = mo_gf (hp_g h a) 11 7 253 54 ls st h) ∧ (∀ l0 l2 x st h, zz_Y 253 (54, [l0, some (.int x), l2], st, h) = zz_Y 253 (55, [l0, some (.int x), l2], .int x :: st, h)) ∧ (∀ ls st h, zz_Y 253 (55, ls, st, h) = zz_Y 253 (57, ls, .int (nI 10) :: st, h)) ∧ (∀ ls a b st h, zz_Y 253 (57, ls, .int b :: .int a :: st, h) = zz_Y 253 (58, ls, .int (a - b) :: st, h)) ∧ (∀ ls a0 a1 a2 h, zz_Y 253 (58, ls, [a2, a1, a0], h) = mo_k 253 61 ls [] (zz_run 193 [a0, a1, a2] h)) ∧ (∀ ls v h, zz_Y 253 (61, ls, [.int v], h) = some (some (.int v), h)) ∧ (∀ l0 l2 x st h, zz_Y 253 (62, [l0, some (.int x), l2], st, h) = zz_Y 253 (63, [l0, some (.int x), l2], .int x :: st, h)) ∧ (∀ ls a st h, zz_Y 253 (63, ls, .int a :: st, h) = if a = nI 0 then zz_Y 253 (66, ls, st, h) else zz_Y 253 (76, ls, st, h)) ∧ (∀ l1 l2 x st h, zz_Y 253 (66, [some (.ref x), l1, l2], st, h) = zz_Y 253 (67, [some (.ref x), l1, l2], .ref x :: st, h)) ∧ (∀ ls a st h, zz_Y 253 (67, ls, .ref a :: st, h) = mo_gf (hp_g h a) 11 7 253 70 ls st h) ∧ (∀ ls a0 h, zz_Y 253 (70, ls, [a0], h) = mo_k 253 73 ls [] (zz_run 172 [a0] h)) ∧ (∀ ls st h, zz_Y 253 (73, ls, st, h) = zz_Y 253 (108, ls, st, h)) ∧ (∀ l0 l2 x st h, zz_Y 253 (76, [l0, some (.int x), l2], st, h) = zz_Y 253 (77, [l0, some (.int x), l2], .int x :: st, h)) ∧ (∀ ls st h, zz_Y 253 (77, ls, st, h) = zz_Y 253 (78, ls, .int (nI 1) :: st, h)) ∧ (∀ ls a b st h, zz_Y 253 (78, ls, .int b :: .int a :: st, h) = if a = b then zz_Y 253 (81, ls, st, h) else zz_Y 253 (92, ls, st, h)) ∧ (∀ l1 l2 x st h, zz_Y 253 (81, [some (.ref x), l1, l2], st, h) = zz_Y 253 (82, [some (.ref x), l1, l2], .ref x :: st, h)) ∧ (∀ ls a st h, zz_Y 253 (82, ls, .ref a :: st, h) = mo_gf (hp_g h a) 11 0 253 85 ls st h) ∧ (∀ ls st h, zz_Y 253 (85, ls, st, h) = zz_Y 253 (88, ls, .int (nI 719) :: st, h)) ∧ (∀ ls a i st h, zz_Y 253 (88, ls, .int i :: .ref a :: st, h) = mo_ia (hp_g h a) i a 253 89 ls st h) ∧ (∀ ls st h, zz_Y 253 (89, ls, st, h) = zz_Y 253 (108, ls, st, h)) ∧ (∀ l0 l2 x st h, zz_Y 253 (92, [l0, some (.int x), l2], st, h) = zz_Y 253 (93, [l0, some (.int x), l2], .int x :: st, h)) ∧ (∀ ls st h, zz_Y 253 (93, ls, st, h) = zz_Y 253 (94, ls, .int (nI 2) :: st, h)) ∧ (∀ ls a b st h, zz_Y 253 (94, ls, .int b :: .int a :: st, h) = if a = b then zz_Y 253 (97, ls, st, h) else zz_Y 253 (107, ls, st, h)) ∧ (∀ l1 l2 x st h, zz_Y 253 (97, [some (.ref x), l1, l2], st, h) = zz_Y 253 (98, [some (.ref x), l1, l2], .ref x :: st, h)) ∧ (∀ ls a st h, zz_Y 253 (98, ls, .ref a :: st, h) = mo_gf (hp_g h a) 11 7 253 101 ls st h) ∧ (∀ ls a0 h, zz_Y 253 (101, ls, [a0], h) = mo_k 253 104 ls [] (zz_run 161 [a0] h)) ∧ (∀ ls st h, zz_Y 253 (104, ls, st, h) = zz_Y 253 (108, ls, st, h)) ∧ (∀ ls st h, zz_Y 253 (107, ls, st, h) = zz_Y 253 (108, ls, .int (-1) :: st, h)) ∧ (∀ ls v h, zz_Y 253 (108, ls, [.int v], h) = some (some (.int v), h)) :=
  ⟨fun _ _ _ _ _ => xl_aln d253_0 rfl,
   fun _ _ _ _ => xl_gf d253_1 xco253 xf_11_7,
   fun _ _ _ => xl_si d253_4 (by decide +kernel),
   fun _ _ _ _ _ => xl_ia d253_7,
   fun _ _ _ _ => xl_ifne d253_8 rfl,
   fun _ _ _ => xl_ic d253_11 (by decide +kernel),
   fun _ _ _ => xl_iri d253_12 xrt253,
   fun _ _ _ => xl_ic d253_13 (by decide +kernel),
   fun _ _ _ _ _ _ hc => xl_isn d253_14 xml253 (by decide) (zz_nl_s1 hc),
   fun _ _ _ => xl_bi d253_16 (by decide +kernel),
   fun _ _ _ _ _ => xl_icge d253_18 rfl,
   fun _ _ _ _ _ => xl_aln d253_21 rfl,
   fun _ _ _ _ => xl_gf d253_22 xco253 xf_11_24,
   fun _ _ _ _ _ => xl_iln d253_25 rfl,
   fun _ _ _ _ _ => xl_aln d253_26 rfl,
   fun _ _ _ _ => xl_gf d253_27 xco253 xf_11_7,
   fun _ _ _ => xl_si d253_30 (by decide +kernel),
   fun _ _ _ _ _ => xl_iln d253_33 rfl,
   fun _ _ _ _ _ => xl_iadd d253_34,
   fun _ _ _ _ _ => xl_ia d253_35,
   fun _ _ _ _ _ _ => xl_ist d253_36,
   fun _ _ _ _ _ hc => xl_inc d253_37 xml253 (by decide) rfl (by decide +kernel) (zz_nl_s1 hc),
   fun _ _ _ => xl_goto d253_40 rfl,
   fun _ _ _ _ _ => xl_iln d253_43 rfl,
   fun _ _ _ => xl_bi d253_44 (by decide +kernel),
   fun _ _ _ _ _ => xl_iclt d253_46 rfl,
   fun _ _ _ _ _ => xl_aln d253_49 rfl,
   fun _ _ _ _ _ => xl_aln d253_50 rfl,
   fun _ _ _ _ => xl_gf d253_51 xco253 xf_11_24,
   fun _ _ _ _ _ => xl_iln d253_54 rfl,
   fun _ _ _ => xl_bi d253_55 (by decide +kernel),
   fun _ _ _ _ _ => xl_isub d253_57,
   fun ls a0 a1 a2 h => xl_cv (As := [a0, a1, a2]) (st := []) d253_58 xco253 xm_11_173 (congrArg Nat.succ xnp193) (by decide +kernel) rfl,
   fun _ _ _ => xl_iri d253_61 xrt253,
   fun _ _ _ _ _ => xl_iln d253_62 rfl,
   fun _ _ _ _ => xl_ifne d253_63 rfl,
   fun _ _ _ _ _ => xl_aln d253_66 rfl,
   fun _ _ _ _ => xl_gf d253_67 xco253 xf_11_24,
   fun ls a0 h => xl_cs (As := [a0]) (st := []) d253_70 xco253 xm_11_109 xnp172 (by decide +kernel) rfl,
   fun _ _ _ => xl_goto d253_73 rfl,
   fun _ _ _ _ _ => xl_iln d253_76 rfl,
   fun _ _ _ => xl_ic d253_77 (by decide +kernel),
   fun _ _ _ _ _ => xl_icne d253_78 rfl,
   fun _ _ _ _ _ => xl_aln d253_81 rfl,
   fun _ _ _ _ => xl_gf d253_82 xco253 xf_11_7,
   fun _ _ _ => xl_si d253_85 (by decide +kernel),
   fun _ _ _ _ _ => xl_ia d253_88,
   fun _ _ _ => xl_goto d253_89 rfl,
   fun _ _ _ _ _ => xl_iln d253_92 rfl,
   fun _ _ _ => xl_ic d253_93 (by decide +kernel),
   fun _ _ _ _ _ => xl_icne d253_94 rfl,
   fun _ _ _ _ _ => xl_aln d253_97 rfl,
   fun _ _ _ _ => xl_gf d253_98 xco253 xf_11_24,
   fun ls a0 h => xl_cs (As := [a0]) (st := []) d253_101 xco253 xm_11_132 xnp161 (by decide +kernel) rfl,
   fun _ _ _ => xl_goto d253_104 rfl,
   fun _ _ _ => xl_ic d253_107 (by decide +kernel),
   fun _ _ _ => xl_iri d253_108 xrt253⟩
theorem x253_c15 : ∀ l0 l1 x st h, zz_Y 253 (15, [l0, l1, some (.int x)], st, h) = zz_Y 253 (16, [l0, l1, some (.int x)], .int x :: st, h) := fun _ _ _ _ _ => xl_iln d253_15 rfl
