/-! 254 FacetSieveModel.image(I)Z -/
theorem d254_0 : decode (zz_c 254) 0 = .ok (.iload_n 1, 1) := by decide +kernel
theorem d254_1 : decode (zz_c 254) 1 = .ok (.iconst 0, 1) := by decide +kernel
theorem d254_2 : decode (zz_c 254) 2 = .ok (.iconst 2, 1) := by decide +kernel
theorem d254_3 : decode (zz_c 254) 3 = .ok (.invokestatic 57, 3) := by decide +kernel
theorem d254_6 : decode (zz_c 254) 6 = .ok (.ifCond .ne 5, 3) := by decide +kernel
theorem d254_9 : decode (zz_c 254) 9 = .ok (.iconst 0, 1) := by decide +kernel
theorem d254_10 : decode (zz_c 254) 10 = .ok (.ireturn, 1) := by decide +kernel
theorem d254_11 : decode (zz_c 254) 11 = .ok (.sipush 8640, 3) := by decide +kernel
theorem d254_14 : decode (zz_c 254) 14 = .ok (.sipush 1333, 3) := by decide +kernel
theorem d254_17 : decode (zz_c 254) 17 = .ok (.iload_n 1, 1) := by decide +kernel
theorem d254_18 : decode (zz_c 254) 18 = .ok (.imul, 1) := by decide +kernel
theorem d254_19 : decode (zz_c 254) 19 = .ok (.iadd, 1) := by decide +kernel
theorem d254_20 : decode (zz_c 254) 20 = .ok (.istore_n 2, 1) := by decide +kernel
theorem d254_21 : decode (zz_c 254) 21 = .ok (.aload_n 0, 1) := by decide +kernel
theorem d254_22 : decode (zz_c 254) 22 = .ok (.iconst 0, 1) := by decide +kernel
theorem d254_23 : decode (zz_c 254) 23 = .ok (.iload_n 2, 1) := by decide +kernel
theorem d254_24 : decode (zz_c 254) 24 = .ok (.sipush 730, 3) := by decide +kernel
theorem d254_27 : decode (zz_c 254) 27 = .ok (.invokevirtual 190, 3) := by decide +kernel
theorem d254_30 : decode (zz_c 254) 30 = .ok (.iconst 0, 1) := by decide +kernel
theorem d254_31 : decode (zz_c 254) 31 = .ok (.istore_n 3, 1) := by decide +kernel
theorem d254_32 : decode (zz_c 254) 32 = .ok (.iload_n 3, 1) := by decide +kernel
theorem d254_33 : decode (zz_c 254) 33 = .ok (.sipush 600, 3) := by decide +kernel
theorem d254_36 : decode (zz_c 254) 36 = .ok (.if_icmp .ge 27, 3) := by decide +kernel
theorem d254_39 : decode (zz_c 254) 39 = .ok (.aload_n 0, 1) := by decide +kernel
theorem d254_40 : decode (zz_c 254) 40 = .ok (.getfield 7, 3) := by decide +kernel
theorem d254_43 : decode (zz_c 254) 43 = .ok (.iload_n 2, 1) := by decide +kernel
theorem d254_44 : decode (zz_c 254) 44 = .ok (.sipush 730, 3) := by decide +kernel
theorem d254_47 : decode (zz_c 254) 47 = .ok (.iadd, 1) := by decide +kernel
theorem d254_48 : decode (zz_c 254) 48 = .ok (.iload_n 3, 1) := by decide +kernel
theorem d254_49 : decode (zz_c 254) 49 = .ok (.iadd, 1) := by decide +kernel
theorem d254_50 : decode (zz_c 254) 50 = .ok (.aload_n 0, 1) := by decide +kernel
theorem d254_51 : decode (zz_c 254) 51 = .ok (.getfield 13, 3) := by decide +kernel
theorem d254_54 : decode (zz_c 254) 54 = .ok (.iload_n 3, 1) := by decide +kernel
theorem d254_55 : decode (zz_c 254) 55 = .ok (.iaload, 1) := by decide +kernel
theorem d254_56 : decode (zz_c 254) 56 = .ok (.iastore, 1) := by decide +kernel
theorem d254_57 : decode (zz_c 254) 57 = .ok (.iinc 3 1, 3) := by decide +kernel
theorem d254_60 : decode (zz_c 254) 60 = .ok (.goto (-28), 3) := by decide +kernel
theorem d254_63 : decode (zz_c 254) 63 = .ok (.aload_n 0, 1) := by decide +kernel
theorem d254_64 : decode (zz_c 254) 64 = .ok (.getfield 7, 3) := by decide +kernel
theorem d254_67 : decode (zz_c 254) 67 = .ok (.iload_n 2, 1) := by decide +kernel
theorem d254_68 : decode (zz_c 254) 68 = .ok (.sipush 730, 3) := by decide +kernel
theorem d254_71 : decode (zz_c 254) 71 = .ok (.iadd, 1) := by decide +kernel
theorem d254_72 : decode (zz_c 254) 72 = .ok (.sipush 600, 3) := by decide +kernel
theorem d254_75 : decode (zz_c 254) 75 = .ok (.iadd, 1) := by decide +kernel
theorem d254_76 : decode (zz_c 254) 76 = .ok (.aload_n 0, 1) := by decide +kernel
theorem d254_77 : decode (zz_c 254) 77 = .ok (.getfield 147, 3) := by decide +kernel
theorem d254_80 : decode (zz_c 254) 80 = .ok (.iastore, 1) := by decide +kernel
theorem d254_81 : decode (zz_c 254) 81 = .ok (.aload_n 0, 1) := by decide +kernel
theorem d254_82 : decode (zz_c 254) 82 = .ok (.getfield 7, 3) := by decide +kernel
theorem d254_85 : decode (zz_c 254) 85 = .ok (.iload_n 2, 1) := by decide +kernel
theorem d254_86 : decode (zz_c 254) 86 = .ok (.sipush 730, 3) := by decide +kernel
theorem d254_89 : decode (zz_c 254) 89 = .ok (.iadd, 1) := by decide +kernel
theorem d254_90 : decode (zz_c 254) 90 = .ok (.sipush 600, 3) := by decide +kernel
theorem d254_93 : decode (zz_c 254) 93 = .ok (.iadd, 1) := by decide +kernel
theorem d254_94 : decode (zz_c 254) 94 = .ok (.iconst 1, 1) := by decide +kernel
theorem d254_95 : decode (zz_c 254) 95 = .ok (.iadd, 1) := by decide +kernel
theorem d254_96 : decode (zz_c 254) 96 = .ok (.aload_n 0, 1) := by decide +kernel
theorem d254_97 : decode (zz_c 254) 97 = .ok (.getfield 208, 3) := by decide +kernel
theorem d254_100 : decode (zz_c 254) 100 = .ok (.iastore, 1) := by decide +kernel
theorem d254_101 : decode (zz_c 254) 101 = .ok (.aload_n 0, 1) := by decide +kernel
theorem d254_102 : decode (zz_c 254) 102 = .ok (.getfield 7, 3) := by decide +kernel
theorem d254_105 : decode (zz_c 254) 105 = .ok (.iload_n 2, 1) := by decide +kernel
theorem d254_106 : decode (zz_c 254) 106 = .ok (.sipush 730, 3) := by decide +kernel
theorem d254_109 : decode (zz_c 254) 109 = .ok (.iadd, 1) := by decide +kernel
theorem d254_110 : decode (zz_c 254) 110 = .ok (.sipush 600, 3) := by decide +kernel
theorem d254_113 : decode (zz_c 254) 113 = .ok (.iadd, 1) := by decide +kernel
theorem d254_114 : decode (zz_c 254) 114 = .ok (.iconst 2, 1) := by decide +kernel
theorem d254_115 : decode (zz_c 254) 115 = .ok (.iadd, 1) := by decide +kernel
theorem d254_116 : decode (zz_c 254) 116 = .ok (.aload_n 0, 1) := by decide +kernel
theorem d254_117 : decode (zz_c 254) 117 = .ok (.getfield 20, 3) := by decide +kernel
theorem d254_120 : decode (zz_c 254) 120 = .ok (.iastore, 1) := by decide +kernel
theorem d254_121 : decode (zz_c 254) 121 = .ok (.aload_n 0, 1) := by decide +kernel
theorem d254_122 : decode (zz_c 254) 122 = .ok (.getfield 16, 3) := by decide +kernel
theorem d254_125 : decode (zz_c 254) 125 = .ok (.iload_n 1, 1) := by decide +kernel
theorem d254_126 : decode (zz_c 254) 126 = .ok (.iconst 1, 1) := by decide +kernel
theorem d254_127 : decode (zz_c 254) 127 = .ok (.bastore, 1) := by decide +kernel
theorem d254_128 : decode (zz_c 254) 128 = .ok (.iconst 1, 1) := by decide +kernel
theorem d254_129 : decode (zz_c 254) 129 = .ok (.ireturn, 1) := by decide +kernel
theorem x254_p0 : (∀ l0 l2 l3 x st h, zz_Y 254 (0, [l0, some (.int x), l2, l3], st, h) = zz_Y 254 (1, [l0, some (.int x), l2, l3], .int x :: st, h)) ∧ (∀ ls st h, zz_Y 254 (1, ls, st, h) = zz_Y 254 (2, ls, .int (nI 0) :: st, h)) ∧ (∀ ls st h, zz_Y 254 (2, ls, st, h) = zz_Y 254 (3, ls, .int (nI 2) :: st, h)) ∧ (∀ ls a0 a1 a2 h, zz_Y 254 (3, ls, [a2, a1, a0], h) = mo_k 254 6 ls [] (zz_run 154 [a0, a1, a2] h)) ∧ (∀ ls a st h, zz_Y 254 (6, ls, .int a :: st, h) = if a = nI 0 then zz_Y 254 (9, ls, st, h) else zz_Y 254 (11, ls, st, h)) ∧ (∀ ls st h, zz_Y 254 (9, ls, st, h) = zz_Y 254 (10, ls, .int (nI 0) :: st, h)) ∧ (∀ ls v h, v = nI 0 ∨ v = nI 1 → zz_Y 254 (10, ls, [.int v], h) = some (some (.int v), h)) ∧ (∀ ls st h, zz_Y 254 (11, ls, st, h) = zz_Y 254 (14, ls, .int (nI 8640) :: st, h)) ∧ (∀ ls st h, zz_Y 254 (14, ls, st, h) = zz_Y 254 (17, ls, .int (nI 1333) :: st, h)) ∧ (∀ l0 l2 l3 x st h, zz_Y 254 (17, [l0, some (.int x), l2, l3], st, h) = zz_Y 254 (18, [l0, some (.int x), l2, l3], .int x :: st, h)) ∧ (∀ ls a b st h, zz_Y 254 (18, ls, .int b :: .int a :: st, h) = zz_Y 254 (19, ls, .int (a * b) :: st, h)) ∧ (∀ ls a b st h, zz_Y 254 (19, ls, .int b :: .int a :: st, h) = zz_Y 254 (20, ls, .int (a + b) :: st, h)) ∧ (∀ l0 l1 l2 l3 x st h, zz_nl l1 = true → zz_Y 254 (20, [l0, l1, l2, l3], .int x :: st, h) = zz_Y 254 (21, [l0, l1, some (.int x), l3], st, h)) ∧ (∀ l1 l2 l3 x st h, zz_Y 254 (21, [some (.ref x), l1, l2, l3], st, h) = zz_Y 254 (22, [some (.ref x), l1, l2, l3], .ref x :: st, h)) ∧ (∀ ls st h, zz_Y 254 (22, ls, st, h) = zz_Y 254 (23, ls, .int (nI 0) :: st, h)) ∧ (∀ l0 l1 l3 x st h, zz_Y 254 (23, [l0, l1, some (.int x), l3], st, h) = zz_Y 254 (24, [l0, l1, some (.int x), l3], .int x :: st, h)) ∧ (∀ ls st h, zz_Y 254 (24, ls, st, h) = zz_Y 254 (27, ls, .int (nI 730) :: st, h)) ∧ (∀ ls a0 a1 a2 a3 h, zz_Y 254 (27, ls, [a3, a2, a1, a0], h) = mo_k 254 30 ls [] (zz_run 207 [a0, a1, a2, a3] h)) ∧ (∀ ls st h, zz_Y 254 (30, ls, st, h) = zz_Y 254 (31, ls, .int (nI 0) :: st, h)) ∧ (∀ l0 l1 l2 l3 x st h, zz_nl l2 = true → zz_Y 254 (31, [l0, l1, l2, l3], .int x :: st, h) = zz_Y 254 (32, [l0, l1, l2, some (.int x)], st, h)) ∧ (∀ ls st h, zz_Y 254 (33, ls, st, h) = zz_Y 254 (36, ls, .int (nI 600) :: st, h)) ∧ (∀ ls a b st h, zz_Y 254 (36, ls, .int b :: .int a :: st, h) = if a < b then zz_Y 254 (39, ls, st, h) else zz_Y 254 (63, ls, st, h)) ∧ (∀ l1 l2 l3 x st h, zz_Y 254 (39, [some (.ref x), l1, l2, l3], st, h) = zz_Y 254 (40, [some (.ref x), l1, l2, l3], .ref x :: st, h)) ∧ (∀ ls a st h, zz_Y 254 (40, ls, .ref a :: st, h) = mo_gf (hp_g h a) 11 0 254 43 ls st h) ∧ (∀ l0 l1 l3 x st h, zz_Y 254 (43, [l0, l1, some (.int x), l3], st, h) = zz_Y 254 (44, [l0, l1, some (.int x), l3], .int x :: st, h)) ∧ (∀ ls st h, zz_Y 254 (44, ls, st, h) = zz_Y 254 (47, ls, .int (nI 730) :: st, h)) ∧ (∀ ls a b st h, zz_Y 254 (47, ls, .int b :: .int a :: st, h) = zz_Y 254 (48, ls, .int (a + b) :: st, h)) ∧ (∀ l0 l1 l2 x st h, zz_Y 254 (48, [l0, l1, l2, some (.int x)], st, h) = zz_Y 254 (49, [l0, l1, l2, some (.int x)], .int x :: st, h)) ∧ (∀ ls a b st h, zz_Y 254 (49, ls, .int b :: .int a :: st, h) = zz_Y 254 (50, ls, .int (a + b) :: st, h)) ∧ (∀ l1 l2 l3 x st h, zz_Y 254 (50, [some (.ref x), l1, l2, l3], st, h) = zz_Y 254 (51, [some (.ref x), l1, l2, l3], .ref x :: st, h)) ∧ (∀ ls a st h, zz_Y 254 (51, ls, .ref a :: st, h) = mo_gf (hp_g h a) 11 1 254 54 ls st h) ∧ (∀ l0 l1 l2 x st h, zz_Y 254 (54, [l0, l1, l2, some (.int x)], st, h) = zz_Y 254 (55, [l0, l1, l2, some (.int x)], .int x :: st, h)) ∧ (∀ ls a i st h, zz_Y 254 (55, ls, .int i :: .ref a :: st, h) = mo_ia (hp_g h a) i a 254 56 ls st h) ∧ (∀ ls a i x st h, zz_Y 254 (56, ls, .int x :: .int i :: .ref a :: st, h) = mo_is (hp_g h a) x i a 254 57 ls st h) ∧ (∀ l0 l1 l2 x st h, zz_nl l2 = true → zz_Y 254 (57, [l0, l1, l2, some (.int x)], st, h) = zz_Y 254 (60, [l0, l1, l2, some (.int (x + nI 1))], st, h)) ∧ (∀ ls st h, zz_Y 254 (60, ls, st, h) = zz_Y 254 (32, ls, st, h)) ∧ (∀ l1 l2 l3 x st h, zz_Y 254 (63, [some (.ref x), l1, l2, l3], st, h) = zz_Y 254 (64, [some (.ref x), l1, l2, l3], .ref x :: st, h)) ∧ (∀ ls a st h, zz_Y 254 (64, ls, .ref a :: st, h) = mo_gf (hp_g h a) 11 0 254 67 ls st h) ∧ (∀ l0 l1 l3 x st h, zz_Y 254 (67, [l0, l1, some (.int x), l3], st, h) = zz_Y 254 (68, [l0, l1, some (.int x), l3], .int x :: st, h)) ∧ (∀ ls st h, zz_Y 254 (68, ls, st, h) = zz_Y 254 (71, ls, .int (nI 730) :: st, h)) ∧ (∀ ls a b st h, zz_Y 254 (71, ls, .int b :: .int a :: st, h) = zz_Y 254 (72, ls, .int (a + b) :: st, h)) ∧ (∀ ls st h, zz_Y 254 (72, ls, st, h) = zz_Y 254 (75, ls, .int (nI 600) :: st, h)) ∧ (∀ ls a b st h, zz_Y 254 (75, ls, .int b :: .int a :: st, h) = zz_Y 254 (76, ls, .int (a + b) :: st, h)) ∧ (∀ l1 l2 l3 x st h, zz_Y 254 (76, [some (.ref x), l1, l2, l3], st, h) = zz_Y 254 (77, [some (.ref x), l1, l2, l3], .ref x :: st, h)) ∧ (∀ ls a st h, zz_Y 254 (77, ls, .ref a :: st, h) = mo_gf (hp_g h a) 11 3 254 80 ls st h) ∧ (∀ ls a i x st h, zz_Y 254 (80, ls, .int x :: .int i :: .ref a :: st, h) = mo_is (hp_g h a) x i a 254 81 ls st h) ∧ (∀ l1 l2 l3 x st h, zz_Y 254 (81, [some (.ref x), l1, l2, l3], st, h) = zz_Y 254 (82, [some (.ref x), l1, l2, l3], .ref x :: st, h)) ∧ (∀ ls a st h, zz_Y 254 (82, ls, .ref a :: st, h) = mo_gf (hp_g h a) 11 0 254 85 ls st h) ∧ (∀ l0 l1 l3 x st h, zz_Y 254 (85, [l0, l1, some (.int x), l3], st, h) = zz_Y 254 (86, [l0, l1, some (.int x), l3], .int x :: st, h)) ∧ (∀ ls st h, zz_Y 254 (86, ls, st, h) = zz_Y 254 (89, ls, .int (nI 730) :: st, h)) ∧ (∀ ls a b st h, zz_Y 254 (89, ls, .int b :: .int a :: st, h) = zz_Y 254 (90, ls, .int (a + b) :: st, h)) ∧ (∀ ls st h, zz_Y 254 (90, ls, st, h) = zz_Y 254 (93, ls, .int (nI 600) :: st, h)) ∧ (∀ ls a b st h, zz_Y 254 (93, ls, .int b :: .int a :: st, h) = zz_Y 254 (94, ls, .int (a + b) :: st, h)) ∧ (∀ ls st h, zz_Y 254 (94, ls, st, h) = zz_Y 254 (95, ls, .int (nI 1) :: st, h)) ∧ (∀ ls a b st h, zz_Y 254 (95, ls, .int b :: .int a :: st, h) = zz_Y 254 (96, ls, .int (a + b) :: st, h)) ∧ (∀ l1 l2 l3 x st h, zz_Y 254 (96, [some (.ref x), l1, l2, l3], st, h) = zz_Y 254 (97, [some (.ref x), l1, l2, l3], .ref x :: st, h)) ∧ (∀ ls a st h, zz_Y 254 (97, ls, .ref a :: st, h) = mo_gf (hp_g h a) 11 4 254 100 ls st h) ∧ (∀ ls a i x st h, zz_Y 254 (100, ls, .int x :: .int i :: .ref a :: st, h) = mo_is (hp_g h a) x i a 254 101 ls st h) ∧ (∀ l1 l2 l3 x st h, zz_Y 254 (101, [some (.ref x), l1, l2, l3], st, h) = zz_Y 254 (102, [some (.ref x), l1, l2, l3], .ref x :: st, h)) ∧ (∀ ls a st h, zz_Y 254 (102, ls, .ref a :: st, h) = mo_gf (hp_g h a) 11 0 254 105 ls st h) :=
  ⟨fun _ _ _ _ _ _ => xl_iln d254_0 rfl,
   fun _ _ _ => xl_ic d254_1 (by decide +kernel),
   fun _ _ _ => xl_ic d254_2 (by decide +kernel),
   fun ls a0 a1 a2 h => xl_cs (As := [a0, a1, a2]) (st := []) d254_3 xco254 xm_11_57 xnp154 (by decide +kernel) rfl,
   fun _ _ _ _ => xl_ifne d254_6 rfl,
   fun _ _ _ => xl_ic d254_9 (by decide +kernel),
   fun _ _ _ hc => xl_irz d254_10 xrt254 hc,
   fun _ _ _ => xl_si d254_11 (by decide +kernel),
   fun _ _ _ => xl_si d254_14 (by decide +kernel),
   fun _ _ _ _ _ _ => xl_iln d254_17 rfl,
   fun _ _ _ _ _ => xl_imul d254_18,
   fun _ _ _ _ _ => xl_iadd d254_19,
   fun _ _ _ _ _ _ _ hc => xl_isn d254_20 xml254 (by decide) (zz_nl_s1 hc),
   fun _ _ _ _ _ _ => xl_aln d254_21 rfl,
   fun _ _ _ => xl_ic d254_22 (by decide +kernel),
   fun _ _ _ _ _ _ => xl_iln d254_23 rfl,
   fun _ _ _ => xl_si d254_24 (by decide +kernel),
   fun ls a0 a1 a2 a3 h => xl_cv (As := [a0, a1, a2, a3]) (st := []) d254_27 xco254 xm_11_190 (congrArg Nat.succ xnp207) (by decide +kernel) rfl,
   fun _ _ _ => xl_ic d254_30 (by decide +kernel),
   fun _ _ _ _ _ _ _ hc => xl_isn d254_31 xml254 (by decide) (zz_nl_s1 hc),
   fun _ _ _ => xl_si d254_33 (by decide +kernel),
   fun _ _ _ _ _ => xl_icge d254_36 rfl,
   fun _ _ _ _ _ _ => xl_aln d254_39 rfl,
   fun _ _ _ _ => xl_gf d254_40 xco254 xf_11_7,
   fun _ _ _ _ _ _ => xl_iln d254_43 rfl,
   fun _ _ _ => xl_si d254_44 (by decide +kernel),
   fun _ _ _ _ _ => xl_iadd d254_47,
   fun _ _ _ _ _ _ => xl_iln d254_48 rfl,
   fun _ _ _ _ _ => xl_iadd d254_49,
   fun _ _ _ _ _ _ => xl_aln d254_50 rfl,
   fun _ _ _ _ => xl_gf d254_51 xco254 xf_11_13,
   fun _ _ _ _ _ _ => xl_iln d254_54 rfl,
   fun _ _ _ _ _ => xl_ia d254_55,
   fun _ _ _ _ _ _ => xl_ist d254_56,
   fun _ _ _ _ _ _ hc => xl_inc d254_57 xml254 (by decide) rfl (by decide +kernel) (zz_nl_s1 hc),
   fun _ _ _ => xl_goto d254_60 rfl,
   fun _ _ _ _ _ _ => xl_aln d254_63 rfl,
   fun _ _ _ _ => xl_gf d254_64 xco254 xf_11_7,
   fun _ _ _ _ _ _ => xl_iln d254_67 rfl,
   fun _ _ _ => xl_si d254_68 (by decide +kernel),
   fun _ _ _ _ _ => xl_iadd d254_71,
   fun _ _ _ => xl_si d254_72 (by decide +kernel),
   fun _ _ _ _ _ => xl_iadd d254_75,
   fun _ _ _ _ _ _ => xl_aln d254_76 rfl,
   fun _ _ _ _ => xl_gf d254_77 xco254 xf_11_147,
   fun _ _ _ _ _ _ => xl_ist d254_80,
   fun _ _ _ _ _ _ => xl_aln d254_81 rfl,
   fun _ _ _ _ => xl_gf d254_82 xco254 xf_11_7,
   fun _ _ _ _ _ _ => xl_iln d254_85 rfl,
   fun _ _ _ => xl_si d254_86 (by decide +kernel),
   fun _ _ _ _ _ => xl_iadd d254_89,
   fun _ _ _ => xl_si d254_90 (by decide +kernel),
   fun _ _ _ _ _ => xl_iadd d254_93,
   fun _ _ _ => xl_ic d254_94 (by decide +kernel),
   fun _ _ _ _ _ => xl_iadd d254_95,
   fun _ _ _ _ _ _ => xl_aln d254_96 rfl,
   fun _ _ _ _ => xl_gf d254_97 xco254 xf_11_208,
   fun _ _ _ _ _ _ => xl_ist d254_100,
   fun _ _ _ _ _ _ => xl_aln d254_101 rfl,
   fun _ _ _ _ => xl_gf d254_102 xco254 xf_11_7⟩
theorem x254_p1 : (∀ l0 l1 l3 x st h, zz_Y 254 (105, [l0, l1, some (.int x), l3], st, h) = zz_Y 254 (106, [l0, l1, some (.int x), l3], .int x :: st, h)) ∧ (∀ ls st h, zz_Y 254 (106, ls, st, h) = zz_Y 254 (109, ls, .int (nI 730) :: st, h)) ∧ (∀ ls a b st h, zz_Y 254 (109, ls, .int b :: .int a :: st, h) = zz_Y 254 (110, ls, .int (a + b) :: st, h)) ∧ (∀ ls st h, zz_Y 254 (110, ls, st, h) = zz_Y 254 (113, ls, .int (nI 600) :: st, h)) ∧ (∀ ls a b st h, zz_Y 254 (113, ls, .int b :: .int a :: st, h) = zz_Y 254 (114, ls, .int (a + b) :: st, h)) ∧ (∀ ls st h, zz_Y 254 (114, ls, st, h) = zz_Y 254 (115, ls, .int (nI 2) :: st, h)) ∧ (∀ ls a b st h, zz_Y 254 (115, ls, .int b :: .int a :: st, h) = zz_Y 254 (116, ls, .int (a + b) :: st, h)) ∧ (∀ l1 l2 l3 x st h, zz_Y 254 (116, [some (.ref x), l1, l2, l3], st, h) = zz_Y 254 (117, [some (.ref x), l1, l2, l3], .ref x :: st, h)) ∧ (∀ ls a st h, zz_Y 254 (117, ls, .ref a :: st, h) = mo_gf (hp_g h a) 11 5 254 120 ls st h) ∧ (∀ ls a i x st h, zz_Y 254 (120, ls, .int x :: .int i :: .ref a :: st, h) = mo_is (hp_g h a) x i a 254 121 ls st h) ∧ (∀ l1 l2 l3 x st h, zz_Y 254 (121, [some (.ref x), l1, l2, l3], st, h) = zz_Y 254 (122, [some (.ref x), l1, l2, l3], .ref x :: st, h)) ∧ (∀ ls a st h, zz_Y 254 (122, ls, .ref a :: st, h) = mo_gf (hp_g h a) 11 2 254 125 ls st h) ∧ (∀ l0 l2 l3 x st h, zz_Y 254 (125, [l0, some (.int x), l2, l3], st, h) = zz_Y 254 (126, [l0, some (.int x), l2, l3], .int x :: st, h)) ∧ (∀ ls st h, zz_Y 254 (126, ls, st, h) = zz_Y 254 (127, ls, .int (nI 1) :: st, h)) ∧ (∀ ls a i x st h, zz_Y 254 (127, ls, .int x :: .int i :: .ref a :: st, h) = mo_bs (hp_g h a) x i a 254 128 ls st h) ∧ (∀ ls st h, zz_Y 254 (128, ls, st, h) = zz_Y 254 (129, ls, .int (nI 1) :: st, h)) ∧ (∀ ls v h, v = nI 0 ∨ v = nI 1 → zz_Y 254 (129, ls, [.int v], h) = some (some (.int v), h)) :=
  ⟨fun _ _ _ _ _ _ => xl_iln d254_105 rfl,
   fun _ _ _ => xl_si d254_106 (by decide +kernel),
   fun _ _ _ _ _ => xl_iadd d254_109,
   fun _ _ _ => xl_si d254_110 (by decide +kernel),
   fun _ _ _ _ _ => xl_iadd d254_113,
   fun _ _ _ => xl_ic d254_114 (by decide +kernel),
   fun _ _ _ _ _ => xl_iadd d254_115,
   fun _ _ _ _ _ _ => xl_aln d254_116 rfl,
   fun _ _ _ _ => xl_gf d254_117 xco254 xf_11_20,
   fun _ _ _ _ _ _ => xl_ist d254_120,
   fun _ _ _ _ _ _ => xl_aln d254_121 rfl,
   fun _ _ _ _ => xl_gf d254_122 xco254 xf_11_16,
   fun _ _ _ _ _ _ => xl_iln d254_125 rfl,
   fun _ _ _ => xl_ic d254_126 (by decide +kernel),
   fun _ _ _ _ _ _ => xl_bst d254_127,
   fun _ _ _ => xl_ic d254_128 (by decide +kernel),
   fun _ _ _ hc => xl_irz d254_129 xrt254 hc⟩
theorem x254_c32 : ∀ l0 l1 l2 x st h, zz_Y 254 (32, [l0, l1, l2, some (.int x)], st, h) = zz_Y 254 (33, [l0, l1, l2, some (.int x)], .int x :: st, h) := fun _ _ _ _ _ _ => xl_iln d254_32 rfl
/-! 255 FacetSieveModel.again(I)Z -/
theorem d255_0 : decode (zz_c 255) 0 = .ok (.iload_n 1, 1) := by decide +kernel
theorem d255_1 : decode (zz_c 255) 1 = .ok (.iconst 0, 1) := by decide +kernel
theorem d255_2 : decode (zz_c 255) 2 = .ok (.iconst 2, 1) := by decide +kernel
theorem d255_3 : decode (zz_c 255) 3 = .ok (.invokestatic 57, 3) := by decide +kernel
theorem d255_6 : decode (zz_c 255) 6 = .ok (.ifCond .eq 12, 3) := by decide +kernel
theorem d255_9 : decode (zz_c 255) 9 = .ok (.aload_n 0, 1) := by decide +kernel
theorem d255_10 : decode (zz_c 255) 10 = .ok (.getfield 16, 3) := by decide +kernel
theorem d255_13 : decode (zz_c 255) 13 = .ok (.iload_n 1, 1) := by decide +kernel
theorem d255_14 : decode (zz_c 255) 14 = .ok (.baload, 1) := by decide +kernel
theorem d255_15 : decode (zz_c 255) 15 = .ok (.ifCond .ne 5, 3) := by decide +kernel
theorem d255_18 : decode (zz_c 255) 18 = .ok (.iconst 0, 1) := by decide +kernel
theorem d255_19 : decode (zz_c 255) 19 = .ok (.ireturn, 1) := by decide +kernel
theorem d255_20 : decode (zz_c 255) 20 = .ok (.sipush 8640, 3) := by decide +kernel
theorem d255_23 : decode (zz_c 255) 23 = .ok (.sipush 1333, 3) := by decide +kernel
theorem d255_26 : decode (zz_c 255) 26 = .ok (.iload_n 1, 1) := by decide +kernel
theorem d255_27 : decode (zz_c 255) 27 = .ok (.imul, 1) := by decide +kernel
theorem d255_28 : decode (zz_c 255) 28 = .ok (.iadd, 1) := by decide +kernel
theorem d255_29 : decode (zz_c 255) 29 = .ok (.istore_n 2, 1) := by decide +kernel
theorem d255_30 : decode (zz_c 255) 30 = .ok (.aload_n 0, 1) := by decide +kernel
theorem d255_31 : decode (zz_c 255) 31 = .ok (.iload_n 2, 1) := by decide +kernel
theorem d255_32 : decode (zz_c 255) 32 = .ok (.iconst 0, 1) := by decide +kernel
theorem d255_33 : decode (zz_c 255) 33 = .ok (.sipush 730, 3) := by decide +kernel
theorem d255_36 : decode (zz_c 255) 36 = .ok (.invokevirtual 190, 3) := by decide +kernel
theorem d255_39 : decode (zz_c 255) 39 = .ok (.iconst 0, 1) := by decide +kernel
theorem d255_40 : decode (zz_c 255) 40 = .ok (.istore_n 3, 1) := by decide +kernel
theorem d255_41 : decode (zz_c 255) 41 = .ok (.iload_n 3, 1) := by decide +kernel
theorem d255_42 : decode (zz_c 255) 42 = .ok (.sipush 600, 3) := by decide +kernel
theorem d255_45 : decode (zz_c 255) 45 = .ok (.if_icmp .ge 27, 3) := by decide +kernel
theorem d255_48 : decode (zz_c 255) 48 = .ok (.aload_n 0, 1) := by decide +kernel
theorem d255_49 : decode (zz_c 255) 49 = .ok (.getfield 13, 3) := by decide +kernel
theorem d255_52 : decode (zz_c 255) 52 = .ok (.iload_n 3, 1) := by decide +kernel
theorem d255_53 : decode (zz_c 255) 53 = .ok (.aload_n 0, 1) := by decide +kernel
theorem d255_54 : decode (zz_c 255) 54 = .ok (.getfield 7, 3) := by decide +kernel
theorem d255_57 : decode (zz_c 255) 57 = .ok (.iload_n 2, 1) := by decide +kernel
theorem d255_58 : decode (zz_c 255) 58 = .ok (.sipush 730, 3) := by decide +kernel
theorem d255_61 : decode (zz_c 255) 61 = .ok (.iadd, 1) := by decide +kernel
theorem d255_62 : decode (zz_c 255) 62 = .ok (.iload_n 3, 1) := by decide +kernel
theorem d255_63 : decode (zz_c 255) 63 = .ok (.iadd, 1) := by decide +kernel
theorem d255_64 : decode (zz_c 255) 64 = .ok (.iaload, 1) := by decide +kernel
theorem d255_65 : decode (zz_c 255) 65 = .ok (.iastore, 1) := by decide +kernel
theorem d255_66 : decode (zz_c 255) 66 = .ok (.iinc 3 1, 3) := by decide +kernel
theorem d255_69 : decode (zz_c 255) 69 = .ok (.goto (-28), 3) := by decide +kernel
theorem d255_72 : decode (zz_c 255) 72 = .ok (.aload_n 0, 1) := by decide +kernel
theorem d255_73 : decode (zz_c 255) 73 = .ok (.aload_n 0, 1) := by decide +kernel
theorem d255_74 : decode (zz_c 255) 74 = .ok (.getfield 7, 3) := by decide +kernel
theorem d255_77 : decode (zz_c 255) 77 = .ok (.iload_n 2, 1) := by decide +kernel
theorem d255_78 : decode (zz_c 255) 78 = .ok (.sipush 730, 3) := by decide +kernel
theorem d255_81 : decode (zz_c 255) 81 = .ok (.iadd, 1) := by decide +kernel
theorem d255_82 : decode (zz_c 255) 82 = .ok (.sipush 600, 3) := by decide +kernel
theorem d255_85 : decode (zz_c 255) 85 = .ok (.iadd, 1) := by decide +kernel
theorem d255_86 : decode (zz_c 255) 86 = .ok (.iaload, 1) := by decide +kernel
theorem d255_87 : decode (zz_c 255) 87 = .ok (.putfield 147, 3) := by decide +kernel
theorem d255_90 : decode (zz_c 255) 90 = .ok (.aload_n 0, 1) := by decide +kernel
theorem d255_91 : decode (zz_c 255) 91 = .ok (.aload_n 0, 1) := by decide +kernel
theorem d255_92 : decode (zz_c 255) 92 = .ok (.getfield 7, 3) := by decide +kernel
theorem d255_95 : decode (zz_c 255) 95 = .ok (.iload_n 2, 1) := by decide +kernel
theorem d255_96 : decode (zz_c 255) 96 = .ok (.sipush 730, 3) := by decide +kernel
theorem d255_99 : decode (zz_c 255) 99 = .ok (.iadd, 1) := by decide +kernel
theorem d255_100 : decode (zz_c 255) 100 = .ok (.sipush 600, 3) := by decide +kernel
theorem d255_103 : decode (zz_c 255) 103 = .ok (.iadd, 1) := by decide +kernel
theorem d255_104 : decode (zz_c 255) 104 = .ok (.iconst 1, 1) := by decide +kernel
theorem d255_105 : decode (zz_c 255) 105 = .ok (.iadd, 1) := by decide +kernel
theorem d255_106 : decode (zz_c 255) 106 = .ok (.iaload, 1) := by decide +kernel
theorem d255_107 : decode (zz_c 255) 107 = .ok (.putfield 208, 3) := by decide +kernel
theorem d255_110 : decode (zz_c 255) 110 = .ok (.aload_n 0, 1) := by decide +kernel
theorem d255_111 : decode (zz_c 255) 111 = .ok (.aload_n 0, 1) := by decide +kernel
theorem d255_112 : decode (zz_c 255) 112 = .ok (.getfield 7, 3) := by decide +kernel
theorem d255_115 : decode (zz_c 255) 115 = .ok (.iload_n 2, 1) := by decide +kernel
theorem d255_116 : decode (zz_c 255) 116 = .ok (.sipush 730, 3) := by decide +kernel
theorem d255_119 : decode (zz_c 255) 119 = .ok (.iadd, 1) := by decide +kernel
theorem d255_120 : decode (zz_c 255) 120 = .ok (.sipush 600, 3) := by decide +kernel
theorem d255_123 : decode (zz_c 255) 123 = .ok (.iadd, 1) := by decide +kernel
theorem d255_124 : decode (zz_c 255) 124 = .ok (.iconst 2, 1) := by decide +kernel
theorem d255_125 : decode (zz_c 255) 125 = .ok (.iadd, 1) := by decide +kernel
theorem d255_126 : decode (zz_c 255) 126 = .ok (.iaload, 1) := by decide +kernel
theorem d255_127 : decode (zz_c 255) 127 = .ok (.putfield 20, 3) := by decide +kernel
theorem d255_130 : decode (zz_c 255) 130 = .ok (.aload_n 0, 1) := by decide +kernel
theorem d255_131 : decode (zz_c 255) 131 = .ok (.iconst 0, 1) := by decide +kernel
theorem d255_132 : decode (zz_c 255) 132 = .ok (.putfield 144, 3) := by decide +kernel
theorem d255_135 : decode (zz_c 255) 135 = .ok (.iconst 1, 1) := by decide +kernel
theorem d255_136 : decode (zz_c 255) 136 = .ok (.ireturn, 1) := by decide +kernel
theorem x255_p0 : (∀ l0 l2 l3 x st h, zz_Y 255 (0, [l0, some (.int x), l2, l3], st, h) = zz_Y 255 (1, [l0, some (.int x), l2, l3], .int x :: st, h)) ∧ (∀ ls st h, zz_Y 255 (1, ls, st, h) = zz_Y 255 (2, ls, .int (nI 0) :: st, h)) ∧ (∀ ls st h, zz_Y 255 (2, ls, st, h) = zz_Y 255 (3, ls, .int (nI 2) :: st, h)) ∧ (∀ ls a0 a1 a2 h, zz_Y 255 (3, ls, [a2, a1, a0], h) = mo_k 255 6 ls [] (zz_run 154 [a0, a1, a2] h)) ∧ (∀ ls a st h, zz_Y 255 (6, ls, .int a :: st, h) = if a = nI 0 then zz_Y 255 (18, ls, st, h) else zz_Y 255 (9, ls, st, h)) ∧ (∀ l1 l2 l3 x st h, zz_Y 255 (9, [some (.ref x), l1, l2, l3], st, h) = zz_Y 255 (10, [some (.ref x), l1, l2, l3], .ref x :: st, h)) ∧ (∀ ls a st h, zz_Y 255 (10, ls, .ref a :: st, h) = mo_gf (hp_g h a) 11 2 255 13 ls st h) ∧ (∀ l0 l2 l3 x st h, zz_Y 255 (13, [l0, some (.int x), l2, l3], st, h) = zz_Y 255 (14, [l0, some (.int x), l2, l3], .int x :: st, h)) ∧ (∀ ls a i st h, zz_Y 255 (14, ls, .int i :: .ref a :: st, h) = mo_ba (hp_g h a) i 255 15 ls st h) ∧ (∀ ls a st h, zz_Y 255 (15, ls, .int a :: st, h) = if a = nI 0 then zz_Y 255 (18, ls, st, h) else zz_Y 255 (20, ls, st, h)) ∧ (∀ ls st h, zz_Y 255 (18, ls, st, h) = zz_Y 255 (19, ls, .int (nI 0) :: st, h)) ∧ (∀ ls v h, v = nI 0 ∨ v = nI 1 → zz_Y 255 (19, ls, [.int v], h) = some (some (.int v), h)) ∧ (∀ ls st h, zz_Y 255 (20, ls, st, h) = zz_Y 255 (23, ls, .int (nI 8640) :: st, h)) ∧ (∀ ls st h, zz_Y 255 (23, ls, st, h) = zz_Y 255 (26, ls, .int (nI 1333) :: st, h)) ∧ (∀ l0 l2 l3 x st h, zz_Y 255 (26, [l0, some (.int x), l2, l3], st, h) = zz_Y 255 (27, [l0, some (.int x), l2, l3], .int x :: st, h)) ∧ (∀ ls a b st h, zz_Y 255 (27, ls, .int b :: .int a :: st, h) = zz_Y 255 (28, ls, .int (a * b) :: st, h)) ∧ (∀ ls a b st h, zz_Y 255 (28, ls, .int b :: .int a :: st, h) = zz_Y 255 (29, ls, .int (a + b) :: st, h)) ∧ (∀ l0 l1 l2 l3 x st h, zz_nl l1 = true → zz_Y 255 (29, [l0, l1, l2, l3], .int x :: st, h) = zz_Y 255 (30, [l0, l1, some (.int x), l3], st, h)) ∧ (∀ l1 l2 l3 x st h, zz_Y 255 (30, [some (.ref x), l1, l2, l3], st, h) = zz_Y 255 (31, [some (.ref x), l1, l2, l3], .ref x :: st, h)) ∧ (∀ l0 l1 l3 x st h, zz_Y 255 (31, [l0, l1, some (.int x), l3], st, h) = zz_Y 255 (32, [l0, l1, some (.int x), l3], .int x :: st, h)) ∧ (∀ ls st h, zz_Y 255 (32, ls, st, h) = zz_Y 255 (33, ls, .int (nI 0) :: st, h)) ∧ (∀ ls st h, zz_Y 255 (33, ls, st, h) = zz_Y 255 (36, ls, .int (nI 730) :: st, h)) ∧ (∀ ls a0 a1 a2 a3 h, zz_Y 255 (36, ls, [a3, a2, a1, a0], h) = mo_k 255 39 ls [] (zz_run 207 [a0, a1, a2, a3] h)) ∧ (∀ ls st h, zz_Y 255 (39, ls, st, h) = zz_Y 255 (40, ls, .int (nI 0) :: st, h)) ∧ (∀ l0 l1 l2 l3 x st h, zz_nl l2 = true → zz_Y 255 (40, [l0, l1, l2, l3], .int x :: st, h) = zz_Y 255 (41, [l0, l1, l2, some (.int x)], st, h)) ∧ (∀ ls st h, zz_Y 255 (42, ls, st, h) = zz_Y 255 (45, ls, .int (nI 600) :: st, h)) ∧ (∀ ls a b st h, zz_Y 255 (45, ls, .int b :: .int a :: st, h) = if a < b then zz_Y 255 (48, ls, st, h) else zz_Y 255 (72, ls, st, h)) ∧ (∀ l1 l2 l3 x st h, zz_Y 255 (48, [some (.ref x), l1, l2, l3], st, h) = zz_Y 255 (49, [some (.ref x), l1, l2, l3], .ref x :: st, h)) ∧ (∀ ls a st h, zz_Y 255 (49, ls, .ref a :: st, h) = mo_gf (hp_g h a) 11 1 255 52 ls st h) ∧ (∀ l0 l1 l2 x st h, zz_Y 255 (52, [l0, l1, l2, some (.int x)], st, h) = zz_Y 255 (53, [l0, l1, l2, some (.int x)], .int x :: st, h)) ∧ (∀ l1 l2 l3 x st h, zz_Y 255 (53, [some (.ref x), l1, l2, l3], st, h) = zz_Y 255 (54, [some (.ref x), l1, l2, l3], .ref x :: st, h)) ∧ (∀ ls a st h, zz_Y 255 (54, ls, .ref a :: st, h) = mo_gf (hp_g h a) 11 0 255 57 ls st h) ∧ (∀ l0 l1 l3 x st h, zz_Y 255 (57, [l0, l1, some (.int x), l3], st, h) = zz_Y 255 (58, [l0, l1, some (.int x), l3], .int x :: st, h)) ∧ (∀ ls st h, zz_Y 255 (58, ls, st, h) = zz_Y 255 (61, ls, .int (nI 730) :: st, h)) ∧ (∀ ls a b st h, zz_Y 255 (61, ls, .int b :: .int a :: st, h) = zz_Y 255 (62, ls, .int (a + b) :: st, h)) ∧ (∀ l0 l1 l2 x st h, zz_Y 255 (62, [l0, l1, l2, some (.int x)], st, h) = zz_Y 255 (63, [l0, l1, l2, some (.int x)], .int x :: st, h)) ∧ (∀ ls a b st h, zz_Y 255 (63, ls, .int b :: .int a :: st, h) = zz_Y 255 (64, ls, .int (a + b) :: st, h)) ∧ (∀ ls a i st h, zz_Y 255 (64, ls, .int i :: .ref a :: st, h) = mo_ia (hp_g h a) i a 255 65 ls st h) ∧ (∀ ls a i x st h, zz_Y 255 (65, ls, .int x :: .int i :: .ref a :: st, h) = mo_is (hp_g h a) x i a 255 66 ls st h) ∧ (∀ l0 l1 l2 x st h, zz_nl l2 = true → zz_Y 255 (66, [l0, l1, l2, some (.int x)], st, h) = zz_Y 255 (69, [l0, l1, l2, some (.int (x + nI 1))], st, h)) ∧ (∀ ls st h, zz_Y 255 (69, ls, st, h) = zz_Y 255 (41, ls, st, h)) ∧ (∀ l1 l2 l3 x st h, zz_Y 255 (72, [some (.ref x), l1, l2, l3], st, h) = zz_Y 255 (73, [some (.ref x), l1, l2, l3], .ref x :: st, h)) ∧ (∀ l1 l2 l3 x st h, zz_Y 255 (73, [some (.ref x), l1, l2, l3], st, h) = zz_Y 255 (74, [some (.ref x), l1, l2, l3], .ref x :: st, h)) ∧ (∀ ls a st h, zz_Y 255 (74, ls, .ref a :: st, h) = mo_gf (hp_g h a) 11 0 255 77 ls st h) ∧ (∀ l0 l1 l3 x st h, zz_Y 255 (77, [l0, l1, some (.int x), l3], st, h) = zz_Y 255 (78, [l0, l1, some (.int x), l3], .int x :: st, h)) ∧ (∀ ls st h, zz_Y 255 (78, ls, st, h) = zz_Y 255 (81, ls, .int (nI 730) :: st, h)) ∧ (∀ ls a b st h, zz_Y 255 (81, ls, .int b :: .int a :: st, h) = zz_Y 255 (82, ls, .int (a + b) :: st, h)) ∧ (∀ ls st h, zz_Y 255 (82, ls, st, h) = zz_Y 255 (85, ls, .int (nI 600) :: st, h)) ∧ (∀ ls a b st h, zz_Y 255 (85, ls, .int b :: .int a :: st, h) = zz_Y 255 (86, ls, .int (a + b) :: st, h)) ∧ (∀ ls a i st h, zz_Y 255 (86, ls, .int i :: .ref a :: st, h) = mo_ia (hp_g h a) i a 255 87 ls st h) ∧ (∀ ls a v st h, zz_Y 255 (87, ls, v :: .ref a :: st, h) = mo_pf (hp_g h a) 11 3 .int v a 255 90 ls st h) ∧ (∀ l1 l2 l3 x st h, zz_Y 255 (90, [some (.ref x), l1, l2, l3], st, h) = zz_Y 255 (91, [some (.ref x), l1, l2, l3], .ref x :: st, h)) ∧ (∀ l1 l2 l3 x st h, zz_Y 255 (91, [some (.ref x), l1, l2, l3], st, h) = zz_Y 255 (92, [some (.ref x), l1, l2, l3], .ref x :: st, h)) ∧ (∀ ls a st h, zz_Y 255 (92, ls, .ref a :: st, h) = mo_gf (hp_g h a) 11 0 255 95 ls st h) ∧ (∀ l0 l1 l3 x st h, zz_Y 255 (95, [l0, l1, some (.int x), l3], st, h) = zz_Y 255 (96, [l0, l1, some (.int x), l3], .int x :: st, h)) ∧ (∀ ls st h, zz_Y 255 (96, ls, st, h) = zz_Y 255 (99, ls, .int (nI 730) :: st, h)) ∧ (∀ ls a b st h, zz_Y 255 (99, ls, .int b :: .int a :: st, h) = zz_Y 255 (100, ls, .int (a + b) :: st, h)) ∧ (∀ ls st h, zz_Y 255 (100, ls, st, h) = zz_Y 255 (103, ls, .int (nI 600) :: st, h)) ∧ (∀ ls a b st h, zz_Y 255 (103, ls, .int b :: .int a :: st, h) = zz_Y 255 (104, ls, .int (a + b) :: st, h)) ∧ (∀ ls st h, zz_Y 255 (104, ls, st, h) = zz_Y 255 (105, ls, .int (nI 1) :: st, h)) :=
  ⟨fun _ _ _ _ _ _ => xl_iln d255_0 rfl,
   fun _ _ _ => xl_ic d255_1 (by decide +kernel),
   fun _ _ _ => xl_ic d255_2 (by decide +kernel),
   fun ls a0 a1 a2 h => xl_cs (As := [a0, a1, a2]) (st := []) d255_3 xco255 xm_11_57 xnp154 (by decide +kernel) rfl,
   fun _ _ _ _ => xl_ifeq d255_6 rfl,
   fun _ _ _ _ _ _ => xl_aln d255_9 rfl,
   fun _ _ _ _ => xl_gf d255_10 xco255 xf_11_16,
   fun _ _ _ _ _ _ => xl_iln d255_13 rfl,
   fun _ _ _ _ _ => xl_ba d255_14,
   fun _ _ _ _ => xl_ifne d255_15 rfl,
   fun _ _ _ => xl_ic d255_18 (by decide +kernel),
   fun _ _ _ hc => xl_irz d255_19 xrt255 hc,
   fun _ _ _ => xl_si d255_20 (by decide +kernel),
   fun _ _ _ => xl_si d255_23 (by decide +kernel),
   fun _ _ _ _ _ _ => xl_iln d255_26 rfl,
   fun _ _ _ _ _ => xl_imul d255_27,
   fun _ _ _ _ _ => xl_iadd d255_28,
   fun _ _ _ _ _ _ _ hc => xl_isn d255_29 xml255 (by decide) (zz_nl_s1 hc),
   fun _ _ _ _ _ _ => xl_aln d255_30 rfl,
   fun _ _ _ _ _ _ => xl_iln d255_31 rfl,
   fun _ _ _ => xl_ic d255_32 (by decide +kernel),
   fun _ _ _ => xl_si d255_33 (by decide +kernel),
   fun ls a0 a1 a2 a3 h => xl_cv (As := [a0, a1, a2, a3]) (st := []) d255_36 xco255 xm_11_190 (congrArg Nat.succ xnp207) (by decide +kernel) rfl,
   fun _ _ _ => xl_ic d255_39 (by decide +kernel),
   fun _ _ _ _ _ _ _ hc => xl_isn d255_40 xml255 (by decide) (zz_nl_s1 hc),
   fun _ _ _ => xl_si d255_42 (by decide +kernel),
   fun _ _ _ _ _ => xl_icge d255_45 rfl,
   fun _ _ _ _ _ _ => xl_aln d255_48 rfl,
   fun _ _ _ _ => xl_gf d255_49 xco255 xf_11_13,
   fun _ _ _ _ _ _ => xl_iln d255_52 rfl,
   fun _ _ _ _ _ _ => xl_aln d255_53 rfl,
   fun _ _ _ _ => xl_gf d255_54 xco255 xf_11_7,
   fun _ _ _ _ _ _ => xl_iln d255_57 rfl,
   fun _ _ _ => xl_si d255_58 (by decide +kernel),
   fun _ _ _ _ _ => xl_iadd d255_61,
   fun _ _ _ _ _ _ => xl_iln d255_62 rfl,
   fun _ _ _ _ _ => xl_iadd d255_63,
   fun _ _ _ _ _ => xl_ia d255_64,
   fun _ _ _ _ _ _ => xl_ist d255_65,
   fun _ _ _ _ _ _ hc => xl_inc d255_66 xml255 (by decide) rfl (by decide +kernel) (zz_nl_s1 hc),
   fun _ _ _ => xl_goto d255_69 rfl,
   fun _ _ _ _ _ _ => xl_aln d255_72 rfl,
   fun _ _ _ _ _ _ => xl_aln d255_73 rfl,
   fun _ _ _ _ => xl_gf d255_74 xco255 xf_11_7,
   fun _ _ _ _ _ _ => xl_iln d255_77 rfl,
   fun _ _ _ => xl_si d255_78 (by decide +kernel),
   fun _ _ _ _ _ => xl_iadd d255_81,
   fun _ _ _ => xl_si d255_82 (by decide +kernel),
   fun _ _ _ _ _ => xl_iadd d255_85,
   fun _ _ _ _ _ => xl_ia d255_86,
   fun _ _ _ _ _ => xl_pf d255_87 xco255 xf_11_147 (by decide +kernel) rfl,
   fun _ _ _ _ _ _ => xl_aln d255_90 rfl,
   fun _ _ _ _ _ _ => xl_aln d255_91 rfl,
   fun _ _ _ _ => xl_gf d255_92 xco255 xf_11_7,
   fun _ _ _ _ _ _ => xl_iln d255_95 rfl,
   fun _ _ _ => xl_si d255_96 (by decide +kernel),
   fun _ _ _ _ _ => xl_iadd d255_99,
   fun _ _ _ => xl_si d255_100 (by decide +kernel),
   fun _ _ _ _ _ => xl_iadd d255_103,
   fun _ _ _ => xl_ic d255_104 (by decide +kernel)⟩
theorem x255_p1 : (∀ ls a b st h, zz_Y 255 (105, ls, .int b :: .int a :: st, h) = zz_Y 255 (106, ls, .int (a + b) :: st, h)) ∧ (∀ ls a i st h, zz_Y 255 (106, ls, .int i :: .ref a :: st, h) = mo_ia (hp_g h a) i a 255 107 ls st h) ∧ (∀ ls a v st h, zz_Y 255 (107, ls, v :: .ref a :: st, h) = mo_pf (hp_g h a) 11 4 .int v a 255 110 ls st h) ∧ (∀ l1 l2 l3 x st h, zz_Y 255 (110, [some (.ref x), l1, l2, l3], st, h) = zz_Y 255 (111, [some (.ref x), l1, l2, l3], .ref x :: st, h)) ∧ (∀ l1 l2 l3 x st h, zz_Y 255 (111, [some (.ref x), l1, l2, l3], st, h) = zz_Y 255 (112, [some (.ref x), l1, l2, l3], .ref x :: st, h)) ∧ (∀ ls a st h, zz_Y 255 (112, ls, .ref a :: st, h) = mo_gf (hp_g h a) 11 0 255 115 ls st h) ∧ (∀ l0 l1 l3 x st h, zz_Y 255 (115, [l0, l1, some (.int x), l3], st, h) = zz_Y 255 (116, [l0, l1, some (.int x), l3], .int x :: st, h)) ∧ (∀ ls st h, zz_Y 255 (116, ls, st, h) = zz_Y 255 (119, ls, .int (nI 730) :: st, h)) ∧ (∀ ls a b st h, zz_Y 255 (119, ls, .int b :: .int a :: st, h) = zz_Y 255 (120, ls, .int (a + b) :: st, h)) ∧ (∀ ls st h, zz_Y 255 (120, ls, st, h) = zz_Y 255 (123, ls, .int (nI 600) :: st, h)) ∧ (∀ ls a b st h, zz_Y 255 (123, ls, .int b :: .int a :: st, h) = zz_Y 255 (124, ls, .int (a + b) :: st, h)) ∧ (∀ ls st h, zz_Y 255 (124, ls, st, h) = zz_Y 255 (125, ls, .int (nI 2) :: st, h)) ∧ (∀ ls a b st h, zz_Y 255 (125, ls, .int b :: .int a :: st, h) = zz_Y 255 (126, ls, .int (a + b) :: st, h)) ∧ (∀ ls a i st h, zz_Y 255 (126, ls, .int i :: .ref a :: st, h) = mo_ia (hp_g h a) i a 255 127 ls st h) ∧ (∀ ls a v st h, zz_Y 255 (127, ls, v :: .ref a :: st, h) = mo_pf (hp_g h a) 11 5 .int v a 255 130 ls st h) ∧ (∀ l1 l2 l3 x st h, zz_Y 255 (130, [some (.ref x), l1, l2, l3], st, h) = zz_Y 255 (131, [some (.ref x), l1, l2, l3], .ref x :: st, h)) ∧ (∀ ls st h, zz_Y 255 (131, ls, st, h) = zz_Y 255 (132, ls, .int (nI 0) :: st, h)) ∧ (∀ ls a v st h, zz_Y 255 (132, ls, v :: .ref a :: st, h) = mo_pf (hp_g h a) 11 6 .int v a 255 135 ls st h) ∧ (∀ ls st h, zz_Y 255 (135, ls, st, h) = zz_Y 255 (136, ls, .int (nI 1) :: st, h)) ∧ (∀ ls v h, v = nI 0 ∨ v = nI 1 → zz_Y 255 (136, ls, [.int v], h) = some (some (.int v), h)) :=
  ⟨fun _ _ _ _ _ => xl_iadd d255_105,
   fun _ _ _ _ _ => xl_ia d255_106,
   fun _ _ _ _ _ => xl_pf d255_107 xco255 xf_11_208 (by decide +kernel) rfl,
   fun _ _ _ _ _ _ => xl_aln d255_110 rfl,
   fun _ _ _ _ _ _ => xl_aln d255_111 rfl,
   fun _ _ _ _ => xl_gf d255_112 xco255 xf_11_7,
   fun _ _ _ _ _ _ => xl_iln d255_115 rfl,
   fun _ _ _ => xl_si d255_116 (by decide +kernel),
   fun _ _ _ _ _ => xl_iadd d255_119,
   fun _ _ _ => xl_si d255_120 (by decide +kernel),
   fun _ _ _ _ _ => xl_iadd d255_123,
   fun _ _ _ => xl_ic d255_124 (by decide +kernel),
   fun _ _ _ _ _ => xl_iadd d255_125,
   fun _ _ _ _ _ => xl_ia d255_126,
   fun _ _ _ _ _ => xl_pf d255_127 xco255 xf_11_20 (by decide +kernel) rfl,
   fun _ _ _ _ _ _ => xl_aln d255_130 rfl,
   fun _ _ _ => xl_ic d255_131 (by decide +kernel),
   fun _ _ _ _ _ => xl_pf d255_132 xco255 xf_11_144 (by decide +kernel) rfl,
   fun _ _ _ => xl_ic d255_135 (by decide +kernel),
   fun _ _ _ hc => xl_irz d255_136 xrt255 hc⟩
theorem x255_c41 : ∀ l0 l1 l2 x st h, zz_Y 255 (41, [l0, l1, l2, some (.int x)], st, h) = zz_Y 255 (42, [l0, l1, l2, some (.int x)], .int x :: st, h) := fun _ _ _ _ _ _ => xl_iln d255_41 rfl
