/-! 104 FacetSieve$Choice.passedBy(LFacetSieve$Stock;IIZI)I -/
theorem d104_0 : decode (zz_c 104) 0 = .ok (.aload_n 1, 1) := by decide +kernel
theorem d104_1 : decode (zz_c 104) 1 = .ok (.getfield 38, 3) := by decide +kernel
theorem d104_4 : decode (zz_c 104) 4 = .ok (.astore 6, 2) := by decide +kernel
theorem d104_6 : decode (zz_c 104) 6 = .ok (.iconst 0, 1) := by decide +kernel
theorem d104_7 : decode (zz_c 104) 7 = .ok (.istore 7, 2) := by decide +kernel
theorem d104_9 : decode (zz_c 104) 9 = .ok (.iconst (-1), 1) := by decide +kernel
theorem d104_10 : decode (zz_c 104) 10 = .ok (.istore 8, 2) := by decide +kernel
theorem d104_12 : decode (zz_c 104) 12 = .ok (.iconst 0, 1) := by decide +kernel
theorem d104_13 : decode (zz_c 104) 13 = .ok (.istore 9, 2) := by decide +kernel
theorem d104_15 : decode (zz_c 104) 15 = .ok (.iconst 0, 1) := by decide +kernel
theorem d104_16 : decode (zz_c 104) 16 = .ok (.istore 10, 2) := by decide +kernel
theorem d104_18 : decode (zz_c 104) 18 = .ok (.aload 6, 2) := by decide +kernel
theorem d104_20 : decode (zz_c 104) 20 = .ok (.getfield 30, 3) := by decide +kernel
theorem d104_23 : decode (zz_c 104) 23 = .ok (.iload_n 2, 1) := by decide +kernel
theorem d104_24 : decode (zz_c 104) 24 = .ok (.iaload, 1) := by decide +kernel
theorem d104_25 : decode (zz_c 104) 25 = .ok (.istore 11, 2) := by decide +kernel
theorem d104_27 : decode (zz_c 104) 27 = .ok (.iload 11, 2) := by decide +kernel
theorem d104_29 : decode (zz_c 104) 29 = .ok (.aload 6, 2) := by decide +kernel
theorem d104_31 : decode (zz_c 104) 31 = .ok (.getfield 30, 3) := by decide +kernel
theorem d104_34 : decode (zz_c 104) 34 = .ok (.iload_n 2, 1) := by decide +kernel
theorem d104_35 : decode (zz_c 104) 35 = .ok (.iaload, 1) := by decide +kernel
theorem d104_36 : decode (zz_c 104) 36 = .ok (.aload 6, 2) := by decide +kernel
theorem d104_38 : decode (zz_c 104) 38 = .ok (.getfield 35, 3) := by decide +kernel
theorem d104_41 : decode (zz_c 104) 41 = .ok (.iload_n 2, 1) := by decide +kernel
theorem d104_42 : decode (zz_c 104) 42 = .ok (.iaload, 1) := by decide +kernel
theorem d104_43 : decode (zz_c 104) 43 = .ok (.iadd, 1) := by decide +kernel
theorem d104_44 : decode (zz_c 104) 44 = .ok (.if_icmp .ge 97, 3) := by decide +kernel
theorem d104_47 : decode (zz_c 104) 47 = .ok (.iload 11, 2) := by decide +kernel
theorem d104_49 : decode (zz_c 104) 49 = .ok (.iload 5, 2) := by decide +kernel
theorem d104_51 : decode (zz_c 104) 51 = .ok (.if_icmp .ne 7, 3) := by decide +kernel
theorem d104_54 : decode (zz_c 104) 54 = .ok (.iconst 1, 1) := by decide +kernel
theorem d104_55 : decode (zz_c 104) 55 = .ok (.goto 10, 3) := by decide +kernel
theorem d104_58 : decode (zz_c 104) 58 = .ok (.aload_n 0, 1) := by decide +kernel
theorem d104_59 : decode (zz_c 104) 59 = .ok (.getfield 9, 3) := by decide +kernel
theorem d104_62 : decode (zz_c 104) 62 = .ok (.iload 11, 2) := by decide +kernel
theorem d104_64 : decode (zz_c 104) 64 = .ok (.iaload, 1) := by decide +kernel
theorem d104_65 : decode (zz_c 104) 65 = .ok (.istore 12, 2) := by decide +kernel
theorem d104_67 : decode (zz_c 104) 67 = .ok (.iload 12, 2) := by decide +kernel
theorem d104_69 : decode (zz_c 104) 69 = .ok (.iconst 2, 1) := by decide +kernel
theorem d104_70 : decode (zz_c 104) 70 = .ok (.if_icmp .ne 21, 3) := by decide +kernel
theorem d104_73 : decode (zz_c 104) 73 = .ok (.iload 9, 2) := by decide +kernel
theorem d104_75 : decode (zz_c 104) 75 = .ok (.aload_n 1, 1) := by decide +kernel
theorem d104_76 : decode (zz_c 104) 76 = .ok (.getfield 44, 3) := by decide +kernel
theorem d104_79 : decode (zz_c 104) 79 = .ok (.iload 11, 2) := by decide +kernel
theorem d104_81 : decode (zz_c 104) 81 = .ok (.iload_n 3, 1) := by decide +kernel
theorem d104_82 : decode (zz_c 104) 82 = .ok (.invokevirtual 48, 3) := by decide +kernel
theorem d104_85 : decode (zz_c 104) 85 = .ok (.ior, 1) := by decide +kernel
theorem d104_86 : decode (zz_c 104) 86 = .ok (.istore 9, 2) := by decide +kernel
theorem d104_88 : decode (zz_c 104) 88 = .ok (.goto 47, 3) := by decide +kernel
theorem d104_91 : decode (zz_c 104) 91 = .ok (.iload 12, 2) := by decide +kernel
theorem d104_93 : decode (zz_c 104) 93 = .ok (.iconst 1, 1) := by decide +kernel
theorem d104_94 : decode (zz_c 104) 94 = .ok (.if_icmp .ne 41, 3) := by decide +kernel
theorem d104_97 : decode (zz_c 104) 97 = .ok (.iload 4, 2) := by decide +kernel
theorem d104_99 : decode (zz_c 104) 99 = .ok (.ifCond .ne 36, 3) := by decide +kernel
theorem d104_102 : decode (zz_c 104) 102 = .ok (.iconst 1, 1) := by decide +kernel
theorem d104_103 : decode (zz_c 104) 103 = .ok (.istore 10, 2) := by decide +kernel
theorem d104_105 : decode (zz_c 104) 105 = .ok (.iload 7, 2) := by decide +kernel
theorem d104_107 : decode (zz_c 104) 107 = .ok (.aload_n 1, 1) := by decide +kernel
theorem d104_108 : decode (zz_c 104) 108 = .ok (.getfield 44, 3) := by decide +kernel
theorem d104_111 : decode (zz_c 104) 111 = .ok (.iload 11, 2) := by decide +kernel
theorem d104_113 : decode (zz_c 104) 113 = .ok (.iload_n 3, 1) := by decide +kernel
theorem d104_114 : decode (zz_c 104) 114 = .ok (.invokevirtual 48, 3) := by decide +kernel
theorem d104_117 : decode (zz_c 104) 117 = .ok (.ior, 1) := by decide +kernel
theorem d104_118 : decode (zz_c 104) 118 = .ok (.istore 7, 2) := by decide +kernel
theorem d104_120 : decode (zz_c 104) 120 = .ok (.iload 8, 2) := by decide +kernel
theorem d104_122 : decode (zz_c 104) 122 = .ok (.aload_n 1, 1) := by decide +kernel
theorem d104_123 : decode (zz_c 104) 123 = .ok (.getfield 44, 3) := by decide +kernel
theorem d104_126 : decode (zz_c 104) 126 = .ok (.iload 11, 2) := by decide +kernel
theorem d104_128 : decode (zz_c 104) 128 = .ok (.iload_n 3, 1) := by decide +kernel
theorem d104_129 : decode (zz_c 104) 129 = .ok (.invokevirtual 48, 3) := by decide +kernel
theorem d104_132 : decode (zz_c 104) 132 = .ok (.iand, 1) := by decide +kernel
theorem d104_133 : decode (zz_c 104) 133 = .ok (.istore 8, 2) := by decide +kernel
theorem d104_135 : decode (zz_c 104) 135 = .ok (.iinc 11 1, 3) := by decide +kernel
theorem d104_138 : decode (zz_c 104) 138 = .ok (.goto (-111), 3) := by decide +kernel
theorem d104_141 : decode (zz_c 104) 141 = .ok (.iload 10, 2) := by decide +kernel
theorem d104_143 : decode (zz_c 104) 143 = .ok (.ifCond .ne 8, 3) := by decide +kernel
theorem d104_146 : decode (zz_c 104) 146 = .ok (.iload 9, 2) := by decide +kernel
theorem d104_148 : decode (zz_c 104) 148 = .ok (.iconst (-1), 1) := by decide +kernel
theorem d104_149 : decode (zz_c 104) 149 = .ok (.ixor, 1) := by decide +kernel
theorem d104_150 : decode (zz_c 104) 150 = .ok (.ireturn, 1) := by decide +kernel
theorem d104_151 : decode (zz_c 104) 151 = .ok (.aload_n 0, 1) := by decide +kernel
theorem d104_152 : decode (zz_c 104) 152 = .ok (.getfield 15, 3) := by decide +kernel
theorem d104_155 : decode (zz_c 104) 155 = .ok (.iload_n 2, 1) := by decide +kernel
theorem d104_156 : decode (zz_c 104) 156 = .ok (.iaload, 1) := by decide +kernel
theorem d104_157 : decode (zz_c 104) 157 = .ok (.iconst 1, 1) := by decide +kernel
theorem d104_158 : decode (zz_c 104) 158 = .ok (.if_icmp .ne 8, 3) := by decide +kernel
theorem d104_161 : decode (zz_c 104) 161 = .ok (.iload 8, 2) := by decide +kernel
theorem d104_163 : decode (zz_c 104) 163 = .ok (.goto 5, 3) := by decide +kernel
theorem d104_166 : decode (zz_c 104) 166 = .ok (.iload 7, 2) := by decide +kernel
theorem d104_168 : decode (zz_c 104) 168 = .ok (.iload 9, 2) := by decide +kernel
theorem d104_170 : decode (zz_c 104) 170 = .ok (.iconst (-1), 1) := by decide +kernel
theorem d104_171 : decode (zz_c 104) 171 = .ok (.ixor, 1) := by decide +kernel
theorem d104_172 : decode (zz_c 104) 172 = .ok (.iand, 1) := by decide +kernel
theorem d104_173 : decode (zz_c 104) 173 = .ok (.ireturn, 1) := by decide +kernel
theorem x104_p0 : (∀ l0 l2 l3 l4 l5 l6 l7 l8 l9 l10 l11 l12 x st h, zz_Y 104 (0, [l0, some (.ref x), l2, l3, l4, l5, l6, l7, l8, l9, l10, l11, l12], st, h) = zz_Y 104 (1, [l0, some (.ref x), l2, l3, l4, l5, l6, l7, l8, l9, l10, l11, l12], .ref x :: st, h)) ∧ (∀ ls a st h, zz_Y 104 (1, ls, .ref a :: st, h) = mo_gf (hp_g h a) 7 0 104 4 ls st h) ∧ (∀ l0 l1 l2 l3 l4 l5 l6 l7 l8 l9 l10 l11 l12 x st h, zz_nl l5 = true → zz_Y 104 (4, [l0, l1, l2, l3, l4, l5, l6, l7, l8, l9, l10, l11, l12], .ref x :: st, h) = zz_Y 104 (6, [l0, l1, l2, l3, l4, l5, some (.ref x), l7, l8, l9, l10, l11, l12], st, h)) ∧ (∀ ls st h, zz_Y 104 (6, ls, st, h) = zz_Y 104 (7, ls, .int (nI 0) :: st, h)) ∧ (∀ l0 l1 l2 l3 l4 l5 l6 l7 l8 l9 l10 l11 l12 x st h, zz_nl l6 = true → zz_Y 104 (7, [l0, l1, l2, l3, l4, l5, l6, l7, l8, l9, l10, l11, l12], .int x :: st, h) = zz_Y 104 (9, [l0, l1, l2, l3, l4, l5, l6, some (.int x), l8, l9, l10, l11, l12], st, h)) ∧ (∀ ls st h, zz_Y 104 (9, ls, st, h) = zz_Y 104 (10, ls, .int (-1) :: st, h)) ∧ (∀ l0 l1 l2 l3 l4 l5 l6 l7 l8 l9 l10 l11 l12 x st h, zz_nl l7 = true → zz_Y 104 (10, [l0, l1, l2, l3, l4, l5, l6, l7, l8, l9, l10, l11, l12], .int x :: st, h) = zz_Y 104 (12, [l0, l1, l2, l3, l4, l5, l6, l7, some (.int x), l9, l10, l11, l12], st, h)) ∧ (∀ ls st h, zz_Y 104 (12, ls, st, h) = zz_Y 104 (13, ls, .int (nI 0) :: st, h)) ∧ (∀ l0 l1 l2 l3 l4 l5 l6 l7 l8 l9 l10 l11 l12 x st h, zz_nl l8 = true → zz_Y 104 (13, [l0, l1, l2, l3, l4, l5, l6, l7, l8, l9, l10, l11, l12], .int x :: st, h) = zz_Y 104 (15, [l0, l1, l2, l3, l4, l5, l6, l7, l8, some (.int x), l10, l11, l12], st, h)) ∧ (∀ ls st h, zz_Y 104 (15, ls, st, h) = zz_Y 104 (16, ls, .int (nI 0) :: st, h)) ∧ (∀ l0 l1 l2 l3 l4 l5 l6 l7 l8 l9 l10 l11 l12 x st h, zz_nl l9 = true → zz_Y 104 (16, [l0, l1, l2, l3, l4, l5, l6, l7, l8, l9, l10, l11, l12], .int x :: st, h) = zz_Y 104 (18, [l0, l1, l2, l3, l4, l5, l6, l7, l8, l9, some (.int x), l11, l12], st, h)) ∧ (∀ l0 l1 l2 l3 l4 l5 l7 l8 l9 l10 l11 l12 x st h, zz_Y 104 (18, [l0, l1, l2, l3, l4, l5, some (.ref x), l7, l8, l9, l10, l11, l12], st, h) = zz_Y 104 (20, [l0, l1, l2, l3, l4, l5, some (.ref x), l7, l8, l9, l10, l11, l12], .ref x :: st, h)) ∧ (∀ ls a st h, zz_Y 104 (20, ls, .ref a :: st, h) = mo_gf (hp_g h a) 3 3 104 23 ls st h) ∧ (∀ l0 l1 l3 l4 l5 l6 l7 l8 l9 l10 l11 l12 x st h, zz_Y 104 (23, [l0, l1, some (.int x), l3, l4, l5, l6, l7, l8, l9, l10, l11, l12], st, h) = zz_Y 104 (24, [l0, l1, some (.int x), l3, l4, l5, l6, l7, l8, l9, l10, l11, l12], .int x :: st, h)) ∧ (∀ ls a i st h, zz_Y 104 (24, ls, .int i :: .ref a :: st, h) = mo_ia (hp_g h a) i a 104 25 ls st h) ∧ (∀ l0 l1 l2 l3 l4 l5 l6 l7 l8 l9 l10 l11 l12 x st h, zz_nl l10 = true → zz_Y 104 (25, [l0, l1, l2, l3, l4, l5, l6, l7, l8, l9, l10, l11, l12], .int x :: st, h) = zz_Y 104 (27, [l0, l1, l2, l3, l4, l5, l6, l7, l8, l9, l10, some (.int x), l12], st, h)) ∧ (∀ l0 l1 l2 l3 l4 l5 l7 l8 l9 l10 l11 l12 x st h, zz_Y 104 (29, [l0, l1, l2, l3, l4, l5, some (.ref x), l7, l8, l9, l10, l11, l12], st, h) = zz_Y 104 (31, [l0, l1, l2, l3, l4, l5, some (.ref x), l7, l8, l9, l10, l11, l12], .ref x :: st, h)) ∧ (∀ ls a st h, zz_Y 104 (31, ls, .ref a :: st, h) = mo_gf (hp_g h a) 3 3 104 34 ls st h) ∧ (∀ l0 l1 l3 l4 l5 l6 l7 l8 l9 l10 l11 l12 x st h, zz_Y 104 (34, [l0, l1, some (.int x), l3, l4, l5, l6, l7, l8, l9, l10, l11, l12], st, h) = zz_Y 104 (35, [l0, l1, some (.int x), l3, l4, l5, l6, l7, l8, l9, l10, l11, l12], .int x :: st, h)) ∧ (∀ ls a i st h, zz_Y 104 (35, ls, .int i :: .ref a :: st, h) = mo_ia (hp_g h a) i a 104 36 ls st h) ∧ (∀ l0 l1 l2 l3 l4 l5 l7 l8 l9 l10 l11 l12 x st h, zz_Y 104 (36, [l0, l1, l2, l3, l4, l5, some (.ref x), l7, l8, l9, l10, l11, l12], st, h) = zz_Y 104 (38, [l0, l1, l2, l3, l4, l5, some (.ref x), l7, l8, l9, l10, l11, l12], .ref x :: st, h)) ∧ (∀ ls a st h, zz_Y 104 (38, ls, .ref a :: st, h) = mo_gf (hp_g h a) 3 4 104 41 ls st h) ∧ (∀ l0 l1 l3 l4 l5 l6 l7 l8 l9 l10 l11 l12 x st h, zz_Y 104 (41, [l0, l1, some (.int x), l3, l4, l5, l6, l7, l8, l9, l10, l11, l12], st, h) = zz_Y 104 (42, [l0, l1, some (.int x), l3, l4, l5, l6, l7, l8, l9, l10, l11, l12], .int x :: st, h)) ∧ (∀ ls a i st h, zz_Y 104 (42, ls, .int i :: .ref a :: st, h) = mo_ia (hp_g h a) i a 104 43 ls st h) ∧ (∀ ls a b st h, zz_Y 104 (43, ls, .int b :: .int a :: st, h) = zz_Y 104 (44, ls, .int (a + b) :: st, h)) ∧ (∀ ls a b st h, zz_Y 104 (44, ls, .int b :: .int a :: st, h) = if a < b then zz_Y 104 (47, ls, st, h) else zz_Y 104 (141, ls, st, h)) ∧ (∀ l0 l1 l2 l3 l4 l5 l6 l7 l8 l9 l10 l12 x st h, zz_Y 104 (47, [l0, l1, l2, l3, l4, l5, l6, l7, l8, l9, l10, some (.int x), l12], st, h) = zz_Y 104 (49, [l0, l1, l2, l3, l4, l5, l6, l7, l8, l9, l10, some (.int x), l12], .int x :: st, h)) ∧ (∀ l0 l1 l2 l3 l4 l6 l7 l8 l9 l10 l11 l12 x st h, zz_Y 104 (49, [l0, l1, l2, l3, l4, some (.int x), l6, l7, l8, l9, l10, l11, l12], st, h) = zz_Y 104 (51, [l0, l1, l2, l3, l4, some (.int x), l6, l7, l8, l9, l10, l11, l12], .int x :: st, h)) ∧ (∀ ls a b st h, zz_Y 104 (51, ls, .int b :: .int a :: st, h) = if a = b then zz_Y 104 (54, ls, st, h) else zz_Y 104 (58, ls, st, h)) ∧ (∀ ls st h, zz_Y 104 (54, ls, st, h) = zz_Y 104 (55, ls, .int (nI 1) :: st, h)) ∧ (∀ ls st h, zz_Y 104 (55, ls, st, h) = zz_Y 104 (65, ls, st, h)) ∧ (∀ l1 l2 l3 l4 l5 l6 l7 l8 l9 l10 l11 l12 x st h, zz_Y 104 (58, [some (.ref x), l1, l2, l3, l4, l5, l6, l7, l8, l9, l10, l11, l12], st, h) = zz_Y 104 (59, [some (.ref x), l1, l2, l3, l4, l5, l6, l7, l8, l9, l10, l11, l12], .ref x :: st, h)) ∧ (∀ ls a st h, zz_Y 104 (59, ls, .ref a :: st, h) = mo_gf (hp_g h a) 0 0 104 62 ls st h) ∧ (∀ l0 l1 l2 l3 l4 l5 l6 l7 l8 l9 l10 l12 x st h, zz_Y 104 (62, [l0, l1, l2, l3, l4, l5, l6, l7, l8, l9, l10, some (.int x), l12], st, h) = zz_Y 104 (64, [l0, l1, l2, l3, l4, l5, l6, l7, l8, l9, l10, some (.int x), l12], .int x :: st, h)) ∧ (∀ ls a i st h, zz_Y 104 (64, ls, .int i :: .ref a :: st, h) = mo_ia (hp_g h a) i a 104 65 ls st h) ∧ (∀ l0 l1 l2 l3 l4 l5 l6 l7 l8 l9 l10 l11 l12 x st h, zz_nl l11 = true → zz_Y 104 (65, [l0, l1, l2, l3, l4, l5, l6, l7, l8, l9, l10, l11, l12], .int x :: st, h) = zz_Y 104 (67, [l0, l1, l2, l3, l4, l5, l6, l7, l8, l9, l10, l11, some (.int x)], st, h)) ∧ (∀ l0 l1 l2 l3 l4 l5 l6 l7 l8 l9 l10 l11 x st h, zz_Y 104 (67, [l0, l1, l2, l3, l4, l5, l6, l7, l8, l9, l10, l11, some (.int x)], st, h) = zz_Y 104 (69, [l0, l1, l2, l3, l4, l5, l6, l7, l8, l9, l10, l11, some (.int x)], .int x :: st, h)) ∧ (∀ ls st h, zz_Y 104 (69, ls, st, h) = zz_Y 104 (70, ls, .int (nI 2) :: st, h)) ∧ (∀ ls a b st h, zz_Y 104 (70, ls, .int b :: .int a :: st, h) = if a = b then zz_Y 104 (73, ls, st, h) else zz_Y 104 (91, ls, st, h)) ∧ (∀ l0 l1 l2 l3 l4 l5 l6 l7 l8 l10 l11 l12 x st h, zz_Y 104 (73, [l0, l1, l2, l3, l4, l5, l6, l7, l8, some (.int x), l10, l11, l12], st, h) = zz_Y 104 (75, [l0, l1, l2, l3, l4, l5, l6, l7, l8, some (.int x), l10, l11, l12], .int x :: st, h)) ∧ (∀ l0 l2 l3 l4 l5 l6 l7 l8 l9 l10 l11 l12 x st h, zz_Y 104 (75, [l0, some (.ref x), l2, l3, l4, l5, l6, l7, l8, l9, l10, l11, l12], st, h) = zz_Y 104 (76, [l0, some (.ref x), l2, l3, l4, l5, l6, l7, l8, l9, l10, l11, l12], .ref x :: st, h)) ∧ (∀ ls a st h, zz_Y 104 (76, ls, .ref a :: st, h) = mo_gf (hp_g h a) 7 3 104 79 ls st h) ∧ (∀ l0 l1 l2 l3 l4 l5 l6 l7 l8 l9 l10 l12 x st h, zz_Y 104 (79, [l0, l1, l2, l3, l4, l5, l6, l7, l8, l9, l10, some (.int x), l12], st, h) = zz_Y 104 (81, [l0, l1, l2, l3, l4, l5, l6, l7, l8, l9, l10, some (.int x), l12], .int x :: st, h)) ∧ (∀ l0 l1 l2 l4 l5 l6 l7 l8 l9 l10 l11 l12 x st h, zz_Y 104 (81, [l0, l1, l2, some (.int x), l4, l5, l6, l7, l8, l9, l10, l11, l12], st, h) = zz_Y 104 (82, [l0, l1, l2, some (.int x), l4, l5, l6, l7, l8, l9, l10, l11, l12], .int x :: st, h)) ∧ (∀ ls a0 a1 a2 s0 h, zz_Y 104 (82, ls, [a2, a1, a0, s0], h) = mo_k 104 85 ls [s0] (zz_run 63 [a0, a1, a2] h)) ∧ (∀ ls a b st h, zz_Y 104 (85, ls, .int b :: .int a :: st, h) = zz_Y 104 (86, ls, .int (a ||| b) :: st, h)) ∧ (∀ l0 l1 l2 l3 l4 l5 l6 l7 l8 l9 l10 l11 l12 x st h, zz_nl l8 = true → zz_Y 104 (86, [l0, l1, l2, l3, l4, l5, l6, l7, l8, l9, l10, l11, l12], .int x :: st, h) = zz_Y 104 (88, [l0, l1, l2, l3, l4, l5, l6, l7, l8, some (.int x), l10, l11, l12], st, h)) ∧ (∀ ls st h, zz_Y 104 (88, ls, st, h) = zz_Y 104 (135, ls, st, h)) ∧ (∀ l0 l1 l2 l3 l4 l5 l6 l7 l8 l9 l10 l11 x st h, zz_Y 104 (91, [l0, l1, l2, l3, l4, l5, l6, l7, l8, l9, l10, l11, some (.int x)], st, h) = zz_Y 104 (93, [l0, l1, l2, l3, l4, l5, l6, l7, l8, l9, l10, l11, some (.int x)], .int x :: st, h)) ∧ (∀ ls st h, zz_Y 104 (93, ls, st, h) = zz_Y 104 (94, ls, .int (nI 1) :: st, h)) ∧ (∀ ls a b st h, zz_Y 104 (94, ls, .int b :: .int a :: st, h) = if a = b then zz_Y 104 (97, ls, st, h) else zz_Y 104 (135, ls, st, h)) ∧ (∀ l0 l1 l2 l3 l5 l6 l7 l8 l9 l10 l11 l12 x st h, zz_Y 104 (97, [l0, l1, l2, l3, some (.int x), l5, l6, l7, l8, l9, l10, l11, l12], st, h) = zz_Y 104 (99, [l0, l1, l2, l3, some (.int x), l5, l6, l7, l8, l9, l10, l11, l12], .int x :: st, h)) ∧ (∀ ls a st h, zz_Y 104 (99, ls, .int a :: st, h) = if a = nI 0 then zz_Y 104 (102, ls, st, h) else zz_Y 104 (135, ls, st, h)) ∧ (∀ ls st h, zz_Y 104 (102, ls, st, h) = zz_Y 104 (103, ls, .int (nI 1) :: st, h)) ∧ (∀ l0 l1 l2 l3 l4 l5 l6 l7 l8 l9 l10 l11 l12 x st h, zz_nl l9 = true → zz_Y 104 (103, [l0, l1, l2, l3, l4, l5, l6, l7, l8, l9, l10, l11, l12], .int x :: st, h) = zz_Y 104 (105, [l0, l1, l2, l3, l4, l5, l6, l7, l8, l9, some (.int x), l11, l12], st, h)) ∧ (∀ l0 l1 l2 l3 l4 l5 l6 l8 l9 l10 l11 l12 x st h, zz_Y 104 (105, [l0, l1, l2, l3, l4, l5, l6, some (.int x), l8, l9, l10, l11, l12], st, h) = zz_Y 104 (107, [l0, l1, l2, l3, l4, l5, l6, some (.int x), l8, l9, l10, l11, l12], .int x :: st, h)) ∧ (∀ l0 l2 l3 l4 l5 l6 l7 l8 l9 l10 l11 l12 x st h, zz_Y 104 (107, [l0, some (.ref x), l2, l3, l4, l5, l6, l7, l8, l9, l10, l11, l12], st, h) = zz_Y 104 (108, [l0, some (.ref x), l2, l3, l4, l5, l6, l7, l8, l9, l10, l11, l12], .ref x :: st, h)) ∧ (∀ ls a st h, zz_Y 104 (108, ls, .ref a :: st, h) = mo_gf (hp_g h a) 7 3 104 111 ls st h) ∧ (∀ l0 l1 l2 l3 l4 l5 l6 l7 l8 l9 l10 l12 x st h, zz_Y 104 (111, [l0, l1, l2, l3, l4, l5, l6, l7, l8, l9, l10, some (.int x), l12], st, h) = zz_Y 104 (113, [l0, l1, l2, l3, l4, l5, l6, l7, l8, l9, l10, some (.int x), l12], .int x :: st, h)) ∧ (∀ l0 l1 l2 l4 l5 l6 l7 l8 l9 l10 l11 l12 x st h, zz_Y 104 (113, [l0, l1, l2, some (.int x), l4, l5, l6, l7, l8, l9, l10, l11, l12], st, h) = zz_Y 104 (114, [l0, l1, l2, some (.int x), l4, l5, l6, l7, l8, l9, l10, l11, l12], .int x :: st, h)) :=
  ⟨fun _ _ _ _ _ _ _ _ _ _ _ _ _ _ _ => xl_aln d104_0 rfl,
   fun _ _ _ _ => xl_gf d104_1 xco104 xf_0_38,
   fun _ _ _ _ _ _ _ _ _ _ _ _ _ _ _ _ hc => xl_as d104_4 xml104 (by decide) (zz_nl_s1 hc),
   fun _ _ _ => xl_ic d104_6 (by decide +kernel),
   fun _ _ _ _ _ _ _ _ _ _ _ _ _ _ _ _ hc => xl_is d104_7 xml104 (by decide) (zz_nl_s1 hc),
   fun _ _ _ => xl_ic d104_9 (by decide +kernel),
   fun _ _ _ _ _ _ _ _ _ _ _ _ _ _ _ _ hc => xl_is d104_10 xml104 (by decide) (zz_nl_s1 hc),
   fun _ _ _ => xl_ic d104_12 (by decide +kernel),
   fun _ _ _ _ _ _ _ _ _ _ _ _ _ _ _ _ hc => xl_is d104_13 xml104 (by decide) (zz_nl_s1 hc),
   fun _ _ _ => xl_ic d104_15 (by decide +kernel),
   fun _ _ _ _ _ _ _ _ _ _ _ _ _ _ _ _ hc => xl_is d104_16 xml104 (by decide) (zz_nl_s1 hc),
   fun _ _ _ _ _ _ _ _ _ _ _ _ _ _ _ => xl_al d104_18 rfl,
   fun _ _ _ _ => xl_gf d104_20 xco104 xf_0_30,
   fun _ _ _ _ _ _ _ _ _ _ _ _ _ _ _ => xl_iln d104_23 rfl,
   fun _ _ _ _ _ => xl_ia d104_24,
   fun _ _ _ _ _ _ _ _ _ _ _ _ _ _ _ _ hc => xl_is d104_25 xml104 (by decide) (zz_nl_s1 hc),
   fun _ _ _ _ _ _ _ _ _ _ _ _ _ _ _ => xl_al d104_29 rfl,
   fun _ _ _ _ => xl_gf d104_31 xco104 xf_0_30,
   fun _ _ _ _ _ _ _ _ _ _ _ _ _ _ _ => xl_iln d104_34 rfl,
   fun _ _ _ _ _ => xl_ia d104_35,
   fun _ _ _ _ _ _ _ _ _ _ _ _ _ _ _ => xl_al d104_36 rfl,
   fun _ _ _ _ => xl_gf d104_38 xco104 xf_0_35,
   fun _ _ _ _ _ _ _ _ _ _ _ _ _ _ _ => xl_iln d104_41 rfl,
   fun _ _ _ _ _ => xl_ia d104_42,
   fun _ _ _ _ _ => xl_iadd d104_43,
   fun _ _ _ _ _ => xl_icge d104_44 rfl,
   fun _ _ _ _ _ _ _ _ _ _ _ _ _ _ _ => xl_il d104_47 rfl,
   fun _ _ _ _ _ _ _ _ _ _ _ _ _ _ _ => xl_il d104_49 rfl,
   fun _ _ _ _ _ => xl_icne d104_51 rfl,
   fun _ _ _ => xl_ic d104_54 (by decide +kernel),
   fun _ _ _ => xl_goto d104_55 rfl,
   fun _ _ _ _ _ _ _ _ _ _ _ _ _ _ _ => xl_aln d104_58 rfl,
   fun _ _ _ _ => xl_gf d104_59 xco104 xf_0_9,
   fun _ _ _ _ _ _ _ _ _ _ _ _ _ _ _ => xl_il d104_62 rfl,
   fun _ _ _ _ _ => xl_ia d104_64,
   fun _ _ _ _ _ _ _ _ _ _ _ _ _ _ _ _ hc => xl_is d104_65 xml104 (by decide) (zz_nl_s1 hc),
   fun _ _ _ _ _ _ _ _ _ _ _ _ _ _ _ => xl_il d104_67 rfl,
   fun _ _ _ => xl_ic d104_69 (by decide +kernel),
   fun _ _ _ _ _ => xl_icne d104_70 rfl,
   fun _ _ _ _ _ _ _ _ _ _ _ _ _ _ _ => xl_il d104_73 rfl,
   fun _ _ _ _ _ _ _ _ _ _ _ _ _ _ _ => xl_aln d104_75 rfl,
   fun _ _ _ _ => xl_gf d104_76 xco104 xf_0_44,
   fun _ _ _ _ _ _ _ _ _ _ _ _ _ _ _ => xl_il d104_79 rfl,
   fun _ _ _ _ _ _ _ _ _ _ _ _ _ _ _ => xl_iln d104_81 rfl,
   fun ls a0 a1 a2 s0 h => xl_cv (As := [a0, a1, a2]) (st := [s0]) d104_82 xco104 xm_0_48 (congrArg Nat.succ xnp63) (by decide +kernel) rfl,
   fun _ _ _ _ _ => xl_ior d104_85,
   fun _ _ _ _ _ _ _ _ _ _ _ _ _ _ _ _ hc => xl_is d104_86 xml104 (by decide) (zz_nl_s1 hc),
   fun _ _ _ => xl_goto d104_88 rfl,
   fun _ _ _ _ _ _ _ _ _ _ _ _ _ _ _ => xl_il d104_91 rfl,
   fun _ _ _ => xl_ic d104_93 (by decide +kernel),
   fun _ _ _ _ _ => xl_icne d104_94 rfl,
   fun _ _ _ _ _ _ _ _ _ _ _ _ _ _ _ => xl_il d104_97 rfl,
   fun _ _ _ _ => xl_ifne d104_99 rfl,
   fun _ _ _ => xl_ic d104_102 (by decide +kernel),
   fun _ _ _ _ _ _ _ _ _ _ _ _ _ _ _ _ hc => xl_is d104_103 xml104 (by decide) (zz_nl_s1 hc),
   fun _ _ _ _ _ _ _ _ _ _ _ _ _ _ _ => xl_il d104_105 rfl,
   fun _ _ _ _ _ _ _ _ _ _ _ _ _ _ _ => xl_aln d104_107 rfl,
   fun _ _ _ _ => xl_gf d104_108 xco104 xf_0_44,
   fun _ _ _ _ _ _ _ _ _ _ _ _ _ _ _ => xl_il d104_111 rfl,
   fun _ _ _ _ _ _ _ _ _ _ _ _ _ _ _ => xl_iln d104_113 rfl⟩
theorem x104_p1 : (∀ ls a0 a1 a2 s0 h, zz_Y 104 (114, ls, [a2, a1, a0, s0], h) = mo_k 104 117 ls [s0] (zz_run 63 [a0, a1, a2] h)) ∧ (∀ ls a b st h, zz_Y 104 (117, ls, .int b :: .int a :: st, h) = zz_Y 104 (118, ls, .int (a ||| b) :: st, h)) ∧ (∀ l0 l1 l2 l3 l4 l5 l6 l7 l8 l9 l10 l11 l12 x st h, zz_nl l6 = true → zz_Y 104 (118, [l0, l1, l2, l3, l4, l5, l6, l7, l8, l9, l10, l11, l12], .int x :: st, h) = zz_Y 104 (120, [l0, l1, l2, l3, l4, l5, l6, some (.int x), l8, l9, l10, l11, l12], st, h)) ∧ (∀ l0 l1 l2 l3 l4 l5 l6 l7 l9 l10 l11 l12 x st h, zz_Y 104 (120, [l0, l1, l2, l3, l4, l5, l6, l7, some (.int x), l9, l10, l11, l12], st, h) = zz_Y 104 (122, [l0, l1, l2, l3, l4, l5, l6, l7, some (.int x), l9, l10, l11, l12], .int x :: st, h)) ∧ (∀ l0 l2 l3 l4 l5 l6 l7 l8 l9 l10 l11 l12 x st h, zz_Y 104 (122, [l0, some (.ref x), l2, l3, l4, l5, l6, l7, l8, l9, l10, l11, l12], st, h) = zz_Y 104 (123, [l0, some (.ref x), l2, l3, l4, l5, l6, l7, l8, l9, l10, l11, l12], .ref x :: st, h)) ∧ (∀ ls a st h, zz_Y 104 (123, ls, .ref a :: st, h) = mo_gf (hp_g h a) 7 3 104 126 ls st h) ∧ (∀ l0 l1 l2 l3 l4 l5 l6 l7 l8 l9 l10 l12 x st h, zz_Y 104 (126, [l0, l1, l2, l3, l4, l5, l6, l7, l8, l9, l10, some (.int x), l12], st, h) = zz_Y 104 (128, [l0, l1, l2, l3, l4, l5, l6, l7, l8, l9, l10, some (.int x), l12], .int x :: st, h)) ∧ (∀ l0 l1 l2 l4 l5 l6 l7 l8 l9 l10 l11 l12 x st h, zz_Y 104 (128, [l0, l1, l2, some (.int x), l4, l5, l6, l7, l8, l9, l10, l11, l12], st, h) = zz_Y 104 (129, [l0, l1, l2, some (.int x), l4, l5, l6, l7, l8, l9, l10, l11, l12], .int x :: st, h)) ∧ (∀ ls a0 a1 a2 s0 h, zz_Y 104 (129, ls, [a2, a1, a0, s0], h) = mo_k 104 132 ls [s0] (zz_run 63 [a0, a1, a2] h)) ∧ (∀ ls a b st h, zz_Y 104 (132, ls, .int b :: .int a :: st, h) = zz_Y 104 (133, ls, .int (a &&& b) :: st, h)) ∧ (∀ l0 l1 l2 l3 l4 l5 l6 l7 l8 l9 l10 l11 l12 x st h, zz_nl l7 = true → zz_Y 104 (133, [l0, l1, l2, l3, l4, l5, l6, l7, l8, l9, l10, l11, l12], .int x :: st, h) = zz_Y 104 (135, [l0, l1, l2, l3, l4, l5, l6, l7, some (.int x), l9, l10, l11, l12], st, h)) ∧ (∀ l0 l1 l2 l3 l4 l5 l6 l7 l8 l9 l10 l12 x st h, zz_nl l10 = true → zz_Y 104 (135, [l0, l1, l2, l3, l4, l5, l6, l7, l8, l9, l10, some (.int x), l12], st, h) = zz_Y 104 (138, [l0, l1, l2, l3, l4, l5, l6, l7, l8, l9, l10, some (.int (x + nI 1)), l12], st, h)) ∧ (∀ ls st h, zz_Y 104 (138, ls, st, h) = zz_Y 104 (27, ls, st, h)) ∧ (∀ l0 l1 l2 l3 l4 l5 l6 l7 l8 l9 l11 l12 x st h, zz_Y 104 (141, [l0, l1, l2, l3, l4, l5, l6, l7, l8, l9, some (.int x), l11, l12], st, h) = zz_Y 104 (143, [l0, l1, l2, l3, l4, l5, l6, l7, l8, l9, some (.int x), l11, l12], .int x :: st, h)) ∧ (∀ ls a st h, zz_Y 104 (143, ls, .int a :: st, h) = if a = nI 0 then zz_Y 104 (146, ls, st, h) else zz_Y 104 (151, ls, st, h)) ∧ (∀ l0 l1 l2 l3 l4 l5 l6 l7 l8 l10 l11 l12 x st h, zz_Y 104 (146, [l0, l1, l2, l3, l4, l5, l6, l7, l8, some (.int x), l10, l11, l12], st, h) = zz_Y 104 (148, [l0, l1, l2, l3, l4, l5, l6, l7, l8, some (.int x), l10, l11, l12], .int x :: st, h)) ∧ (∀ ls st h, zz_Y 104 (148, ls, st, h) = zz_Y 104 (149, ls, .int (-1) :: st, h)) ∧ (∀ ls a b st h, zz_Y 104 (149, ls, .int b :: .int a :: st, h) = zz_Y 104 (150, ls, .int (a ^^^ b) :: st, h)) ∧ (∀ ls v h, zz_Y 104 (150, ls, [.int v], h) = some (some (.int v), h)) ∧ (∀ l1 l2 l3 l4 l5 l6 l7 l8 l9 l10 l11 l12 x st h, zz_Y 104 (151, [some (.ref x), l1, l2, l3, l4, l5, l6, l7, l8, l9, l10, l11, l12], st, h) = zz_Y 104 (152, [some (.ref x), l1, l2, l3, l4, l5, l6, l7, l8, l9, l10, l11, l12], .ref x :: st, h)) ∧ (∀ ls a st h, zz_Y 104 (152, ls, .ref a :: st, h) = mo_gf (hp_g h a) 0 1 104 155 ls st h) ∧ (∀ l0 l1 l3 l4 l5 l6 l7 l8 l9 l10 l11 l12 x st h, zz_Y 104 (155, [l0, l1, some (.int x), l3, l4, l5, l6, l7, l8, l9, l10, l11, l12], st, h) = zz_Y 104 (156, [l0, l1, some (.int x), l3, l4, l5, l6, l7, l8, l9, l10, l11, l12], .int x :: st, h)) ∧ (∀ ls a i st h, zz_Y 104 (156, ls, .int i :: .ref a :: st, h) = mo_ia (hp_g h a) i a 104 157 ls st h) ∧ (∀ ls st h, zz_Y 104 (157, ls, st, h) = zz_Y 104 (158, ls, .int (nI 1) :: st, h)) ∧ (∀ ls a b st h, zz_Y 104 (158, ls, .int b :: .int a :: st, h) = if a = b then zz_Y 104 (161, ls, st, h) else zz_Y 104 (166, ls, st, h)) ∧ (∀ l0 l1 l2 l3 l4 l5 l6 l7 l9 l10 l11 l12 x st h, zz_Y 104 (161, [l0, l1, l2, l3, l4, l5, l6, l7, some (.int x), l9, l10, l11, l12], st, h) = zz_Y 104 (163, [l0, l1, l2, l3, l4, l5, l6, l7, some (.int x), l9, l10, l11, l12], .int x :: st, h)) ∧ (∀ ls st h, zz_Y 104 (163, ls, st, h) = zz_Y 104 (168, ls, st, h)) ∧ (∀ l0 l1 l2 l3 l4 l5 l6 l8 l9 l10 l11 l12 x st h, zz_Y 104 (166, [l0, l1, l2, l3, l4, l5, l6, some (.int x), l8, l9, l10, l11, l12], st, h) = zz_Y 104 (168, [l0, l1, l2, l3, l4, l5, l6, some (.int x), l8, l9, l10, l11, l12], .int x :: st, h)) ∧ (∀ l0 l1 l2 l3 l4 l5 l6 l7 l8 l10 l11 l12 x st h, zz_Y 104 (168, [l0, l1, l2, l3, l4, l5, l6, l7, l8, some (.int x), l10, l11, l12], st, h) = zz_Y 104 (170, [l0, l1, l2, l3, l4, l5, l6, l7, l8, some (.int x), l10, l11, l12], .int x :: st, h)) ∧ (∀ ls st h, zz_Y 104 (170, ls, st, h) = zz_Y 104 (171, ls, .int (-1) :: st, h)) ∧ (∀ ls a b st h, zz_Y 104 (171, ls, .int b :: .int a :: st, h) = zz_Y 104 (172, ls, .int (a ^^^ b) :: st, h)) ∧ (∀ ls a b st h, zz_Y 104 (172, ls, .int b :: .int a :: st, h) = zz_Y 104 (173, ls, .int (a &&& b) :: st, h)) ∧ (∀ ls v h, zz_Y 104 (173, ls, [.int v], h) = some (some (.int v), h)) :=
  ⟨fun ls a0 a1 a2 s0 h => xl_cv (As := [a0, a1, a2]) (st := [s0]) d104_114 xco104 xm_0_48 (congrArg Nat.succ xnp63) (by decide +kernel) rfl,
   fun _ _ _ _ _ => xl_ior d104_117,
   fun _ _ _ _ _ _ _ _ _ _ _ _ _ _ _ _ hc => xl_is d104_118 xml104 (by decide) (zz_nl_s1 hc),
   fun _ _ _ _ _ _ _ _ _ _ _ _ _ _ _ => xl_il d104_120 rfl,
   fun _ _ _ _ _ _ _ _ _ _ _ _ _ _ _ => xl_aln d104_122 rfl,
   fun _ _ _ _ => xl_gf d104_123 xco104 xf_0_44,
   fun _ _ _ _ _ _ _ _ _ _ _ _ _ _ _ => xl_il d104_126 rfl,
   fun _ _ _ _ _ _ _ _ _ _ _ _ _ _ _ => xl_iln d104_128 rfl,
   fun ls a0 a1 a2 s0 h => xl_cv (As := [a0, a1, a2]) (st := [s0]) d104_129 xco104 xm_0_48 (congrArg Nat.succ xnp63) (by decide +kernel) rfl,
   fun _ _ _ _ _ => xl_iand d104_132,
   fun _ _ _ _ _ _ _ _ _ _ _ _ _ _ _ _ hc => xl_is d104_133 xml104 (by decide) (zz_nl_s1 hc),
   fun _ _ _ _ _ _ _ _ _ _ _ _ _ _ _ hc => xl_inc d104_135 xml104 (by decide) rfl (by decide +kernel) (zz_nl_s1 hc),
   fun _ _ _ => xl_goto d104_138 rfl,
   fun _ _ _ _ _ _ _ _ _ _ _ _ _ _ _ => xl_il d104_141 rfl,
   fun _ _ _ _ => xl_ifne d104_143 rfl,
   fun _ _ _ _ _ _ _ _ _ _ _ _ _ _ _ => xl_il d104_146 rfl,
   fun _ _ _ => xl_ic d104_148 (by decide +kernel),
   fun _ _ _ _ _ => xl_ixor d104_149,
   fun _ _ _ => xl_iri d104_150 xrt104,
   fun _ _ _ _ _ _ _ _ _ _ _ _ _ _ _ => xl_aln d104_151 rfl,
   fun _ _ _ _ => xl_gf d104_152 xco104 xf_0_15,
   fun _ _ _ _ _ _ _ _ _ _ _ _ _ _ _ => xl_iln d104_155 rfl,
   fun _ _ _ _ _ => xl_ia d104_156,
   fun _ _ _ => xl_ic d104_157 (by decide +kernel),
   fun _ _ _ _ _ => xl_icne d104_158 rfl,
   fun _ _ _ _ _ _ _ _ _ _ _ _ _ _ _ => xl_il d104_161 rfl,
   fun _ _ _ => xl_goto d104_163 rfl,
   fun _ _ _ _ _ _ _ _ _ _ _ _ _ _ _ => xl_il d104_166 rfl,
   fun _ _ _ _ _ _ _ _ _ _ _ _ _ _ _ => xl_il d104_168 rfl,
   fun _ _ _ => xl_ic d104_170 (by decide +kernel),
   fun _ _ _ _ _ => xl_ixor d104_171,
   fun _ _ _ _ _ => xl_iand d104_172,
   fun _ _ _ => xl_iri d104_173 xrt104⟩
theorem x104_c27 : ∀ l0 l1 l2 l3 l4 l5 l6 l7 l8 l9 l10 l12 x st h, zz_Y 104 (27, [l0, l1, l2, l3, l4, l5, l6, l7, l8, l9, l10, some (.int x), l12], st, h) = zz_Y 104 (29, [l0, l1, l2, l3, l4, l5, l6, l7, l8, l9, l10, some (.int x), l12], .int x :: st, h) := fun _ _ _ _ _ _ _ _ _ _ _ _ _ _ _ => xl_il d104_27 rfl
/-! 105 FacetSieve$Stock.costOfAll()I -/
theorem d105_0 : decode (zz_c 105) 0 = .ok (.iconst 0, 1) := by decide +kernel
theorem d105_1 : decode (zz_c 105) 1 = .ok (.istore_n 1, 1) := by decide +kernel
theorem d105_2 : decode (zz_c 105) 2 = .ok (.iconst 0, 1) := by decide +kernel
theorem d105_3 : decode (zz_c 105) 3 = .ok (.istore_n 2, 1) := by decide +kernel
theorem d105_4 : decode (zz_c 105) 4 = .ok (.iload_n 2, 1) := by decide +kernel
theorem d105_5 : decode (zz_c 105) 5 = .ok (.aload_n 0, 1) := by decide +kernel
theorem d105_6 : decode (zz_c 105) 6 = .ok (.getfield 12, 3) := by decide +kernel
theorem d105_9 : decode (zz_c 105) 9 = .ok (.getfield 69, 3) := by decide +kernel
theorem d105_12 : decode (zz_c 105) 12 = .ok (.if_icmp .ge 20, 3) := by decide +kernel
theorem d105_15 : decode (zz_c 105) 15 = .ok (.iload_n 1, 1) := by decide +kernel
theorem d105_16 : decode (zz_c 105) 16 = .ok (.aload_n 0, 1) := by decide +kernel
theorem d105_17 : decode (zz_c 105) 17 = .ok (.getfield 30, 3) := by decide +kernel
theorem d105_20 : decode (zz_c 105) 20 = .ok (.iload_n 2, 1) := by decide +kernel
theorem d105_21 : decode (zz_c 105) 21 = .ok (.invokevirtual 77, 3) := by decide +kernel
theorem d105_24 : decode (zz_c 105) 24 = .ok (.iadd, 1) := by decide +kernel
theorem d105_25 : decode (zz_c 105) 25 = .ok (.istore_n 1, 1) := by decide +kernel
theorem d105_26 : decode (zz_c 105) 26 = .ok (.iinc 2 1, 3) := by decide +kernel
theorem d105_29 : decode (zz_c 105) 29 = .ok (.goto (-25), 3) := by decide +kernel
theorem d105_32 : decode (zz_c 105) 32 = .ok (.iload_n 1, 1) := by decide +kernel
theorem d105_33 : decode (zz_c 105) 33 = .ok (.ireturn, 1) := by decide +kernel
theorem x105 : (∀ ls st h, zz_Y 105 (0, ls, st, h) = zz_Y 105 (1, ls, .int (nI 0) :: st, h)) ∧ (∀ l0 l1 l2 x st h, zz_nl l0 = true → zz_Y 105 (1, [l0, l1, l2], .int x :: st, h) = zz_Y 105 (2, [l0, some (.int x), l2], st, h)) ∧ (∀ ls st h, zz_Y 105 (2, ls, st, h) = zz_Y 105 (3, ls, .int (nI 0) :: st, h)) ∧ (∀ l0 l1 l2 x st h, zz_nl l1 = true → zz_Y 105 (3, [l0, l1, l2], .int x :: st, h) = zz_Y 105 (4, [l0, l1, some (.int x)], st, h)) ∧ (∀ l1 l2 x st h, zz_Y 105 (5, [some (.ref x), l1, l2], st, h) = zz_Y 105 (6, [some (.ref x), l1, l2], .ref x :: st, h)) ∧ (∀ ls a st h, zz_Y 105 (6, ls, .ref a :: st, h) = mo_gf (hp_g h a) 7 0 105 9 ls st h) ∧ (∀ ls a st h, zz_Y 105 (9, ls, .ref a :: st, h) = mo_gf (hp_g h a) 3 5 105 12 ls st h) ∧ (∀ ls a b st h, zz_Y 105 (12, ls, .int b :: .int a :: st, h) = if a < b then zz_Y 105 (15, ls, st, h) else zz_Y 105 (32, ls, st, h)) ∧ (∀ l0 l2 x st h, zz_Y 105 (15, [l0, some (.int x), l2], st, h) = zz_Y 105 (16, [l0, some (.int x), l2], .int x :: st, h)) ∧ (∀ l1 l2 x st h, zz_Y 105 (16, [some (.ref x), l1, l2], st, h) = zz_Y 105 (17, [some (.ref x), l1, l2], .ref x :: st, h)) ∧ (∀ ls a st h, zz_Y 105 (17, ls, .ref a :: st, h) = mo_gf (hp_g h a) 7 3 105 20 ls st h) ∧ (∀ l0 l1 x st h, zz_Y 105 (20, [l0, l1, some (.int x)], st, h) = zz_Y 105 (21, [l0, l1, some (.int x)], .int x :: st, h)) ∧ (∀ ls a0 a1 s0 h, zz_Y 105 (21, ls, [a1, a0, s0], h) = mo_k 105 24 ls [s0] (zz_run 80 [a0, a1] h)) ∧ (∀ ls a b st h, zz_Y 105 (24, ls, .int b :: .int a :: st, h) = zz_Y 105 (25, ls, .int (a + b) :: st, h)) ∧ (∀ l0 l1 l2 x st h, zz_nl l0 = true → zz_Y 105 (25, [l0, l1, l2], .int x :: st, h) = zz_Y 105 (26, [l0, some (.int x), l2], st, h)) ∧ (∀ l0 l1 x st h, zz_nl l1 = true → zz_Y 105 (26, [l0, l1, some (.int x)], st, h) = zz_Y 105 (29, [l0, l1, some (.int (x + nI 1))], st, h)) ∧ (∀ ls st h, zz_Y 105 (29, ls, st, h) = zz_Y 105 (4, ls, st, h)) ∧ (∀ l0 l2 x st h, zz_Y 105 (32, [l0, some (.int x), l2], st, h) = zz_Y 105 (33, [l0, some (.int x), l2], .int x :: st, h)) ∧ (∀ ls v h, zz_Y 105 (33, ls, [.int v], h) = some (some (.int v), h)) :=
  ⟨fun _ _ _ => xl_ic d105_0 (by decide +kernel),
   fun _ _ _ _ _ _ hc => xl_isn d105_1 xml105 (by decide) (zz_nl_s1 hc),
   fun _ _ _ => xl_ic d105_2 (by decide +kernel),
   fun _ _ _ _ _ _ hc => xl_isn d105_3 xml105 (by decide) (zz_nl_s1 hc),
   fun _ _ _ _ _ => xl_aln d105_5 rfl,
   fun _ _ _ _ => xl_gf d105_6 xco105 xf_7_12,
   fun _ _ _ _ => xl_gf d105_9 xco105 xf_7_69,
   fun _ _ _ _ _ => xl_icge d105_12 rfl,
   fun _ _ _ _ _ => xl_iln d105_15 rfl,
   fun _ _ _ _ _ => xl_aln d105_16 rfl,
   fun _ _ _ _ => xl_gf d105_17 xco105 xf_7_30,
   fun _ _ _ _ _ => xl_iln d105_20 rfl,
   fun ls a0 a1 s0 h => xl_cv (As := [a0, a1]) (st := [s0]) d105_21 xco105 xm_7_77 (congrArg Nat.succ xnp80) (by decide +kernel) rfl,
   fun _ _ _ _ _ => xl_iadd d105_24,
   fun _ _ _ _ _ _ hc => xl_isn d105_25 xml105 (by decide) (zz_nl_s1 hc),
   fun _ _ _ _ _ hc => xl_inc d105_26 xml105 (by decide) rfl (by decide +kernel) (zz_nl_s1 hc),
   fun _ _ _ => xl_goto d105_29 rfl,
   fun _ _ _ _ _ => xl_iln d105_32 rfl,
   fun _ _ _ => xl_iri d105_33 xrt105⟩
theorem x105_c4 : ∀ l0 l1 x st h, zz_Y 105 (4, [l0, l1, some (.int x)], st, h) = zz_Y 105 (5, [l0, l1, some (.int x)], .int x :: st, h) := fun _ _ _ _ _ => xl_iln d105_4 rfl
/-! 106 FacetSieve$Stock.boxesOfAll(I)I -/
theorem d106_0 : decode (zz_c 106) 0 = .ok (.iconst 0, 1) := by decide +kernel
theorem d106_1 : decode (zz_c 106) 1 = .ok (.istore_n 2, 1) := by decide +kernel
theorem d106_2 : decode (zz_c 106) 2 = .ok (.iconst 0, 1) := by decide +kernel
theorem d106_3 : decode (zz_c 106) 3 = .ok (.istore_n 3, 1) := by decide +kernel
theorem d106_4 : decode (zz_c 106) 4 = .ok (.iload_n 3, 1) := by decide +kernel
theorem d106_5 : decode (zz_c 106) 5 = .ok (.aload_n 0, 1) := by decide +kernel
theorem d106_6 : decode (zz_c 106) 6 = .ok (.getfield 12, 3) := by decide +kernel
theorem d106_9 : decode (zz_c 106) 9 = .ok (.getfield 69, 3) := by decide +kernel
theorem d106_12 : decode (zz_c 106) 12 = .ok (.if_icmp .ge 21, 3) := by decide +kernel
theorem d106_15 : decode (zz_c 106) 15 = .ok (.iload_n 2, 1) := by decide +kernel
theorem d106_16 : decode (zz_c 106) 16 = .ok (.aload_n 0, 1) := by decide +kernel
theorem d106_17 : decode (zz_c 106) 17 = .ok (.getfield 30, 3) := by decide +kernel
theorem d106_20 : decode (zz_c 106) 20 = .ok (.iload_n 3, 1) := by decide +kernel
theorem d106_21 : decode (zz_c 106) 21 = .ok (.iload_n 1, 1) := by decide +kernel
theorem d106_22 : decode (zz_c 106) 22 = .ok (.invokevirtual 80, 3) := by decide +kernel
theorem d106_25 : decode (zz_c 106) 25 = .ok (.iadd, 1) := by decide +kernel
theorem d106_26 : decode (zz_c 106) 26 = .ok (.istore_n 2, 1) := by decide +kernel
theorem d106_27 : decode (zz_c 106) 27 = .ok (.iinc 3 1, 3) := by decide +kernel
theorem d106_30 : decode (zz_c 106) 30 = .ok (.goto (-26), 3) := by decide +kernel
theorem d106_33 : decode (zz_c 106) 33 = .ok (.iload_n 2, 1) := by decide +kernel
theorem d106_34 : decode (zz_c 106) 34 = .ok (.ireturn, 1) := by decide +kernel
theorem x106 : (∀ ls st h, zz_Y 106 (0, ls, st, h) = zz_Y 106 (1, ls, .int (nI 0) :: st, h)) ∧ (∀ l0 l1 l2 l3 x st h, zz_nl l1 = true → zz_Y 106 (1, [l0, l1, l2, l3], .int x :: st, h) = zz_Y 106 (2, [l0, l1, some (.int x), l3], st, h)) ∧ (∀ ls st h, zz_Y 106 (2, ls, st, h) = zz_Y 106 (3, ls, .int (nI 0) :: st, h)) ∧ (∀ l0 l1 l2 l3 x st h, zz_nl l2 = true → zz_Y 106 (3, [l0, l1, l2, l3], .int x :: st, h) = zz_Y 106 (4, [l0, l1, l2, some (.int x)], st, h)) ∧ (∀ l1 l2 l3 x st h, zz_Y 106 (5, [some (.ref x), l1, l2, l3], st, h) = zz_Y 106 (6, [some (.ref x), l1, l2, l3], .ref x :: st, h)) ∧ (∀ ls a st h, zz_Y 106 (6, ls, .ref a :: st, h) = mo_gf (hp_g h a) 7 0 106 9 ls st h) ∧ (∀ ls a st h, zz_Y 106 (9, ls, .ref a :: st, h) = mo_gf (hp_g h a) 3 5 106 12 ls st h) ∧ (∀ ls a b st h, zz_Y 106 (12, ls, .int b :: .int a :: st, h) = if a < b then zz_Y 106 (15, ls, st, h) else zz_Y 106 (33, ls, st, h)) ∧ (∀ l0 l1 l3 x st h, zz_Y 106 (15, [l0, l1, some (.int x), l3], st, h) = zz_Y 106 (16, [l0, l1, some (.int x), l3], .int x :: st, h)) ∧ (∀ l1 l2 l3 x st h, zz_Y 106 (16, [some (.ref x), l1, l2, l3], st, h) = zz_Y 106 (17, [some (.ref x), l1, l2, l3], .ref x :: st, h)) ∧ (∀ ls a st h, zz_Y 106 (17, ls, .ref a :: st, h) = mo_gf (hp_g h a) 7 3 106 20 ls st h) ∧ (∀ l0 l1 l2 x st h, zz_Y 106 (20, [l0, l1, l2, some (.int x)], st, h) = zz_Y 106 (21, [l0, l1, l2, some (.int x)], .int x :: st, h)) ∧ (∀ l0 l2 l3 x st h, zz_Y 106 (21, [l0, some (.int x), l2, l3], st, h) = zz_Y 106 (22, [l0, some (.int x), l2, l3], .int x :: st, h)) ∧ (∀ ls a0 a1 a2 s0 h, zz_Y 106 (22, ls, [a2, a1, a0, s0], h) = mo_k 106 25 ls [s0] (zz_run 107 [a0, a1, a2] h)) ∧ (∀ ls a b st h, zz_Y 106 (25, ls, .int b :: .int a :: st, h) = zz_Y 106 (26, ls, .int (a + b) :: st, h)) ∧ (∀ l0 l1 l2 l3 x st h, zz_nl l1 = true → zz_Y 106 (26, [l0, l1, l2, l3], .int x :: st, h) = zz_Y 106 (27, [l0, l1, some (.int x), l3], st, h)) ∧ (∀ l0 l1 l2 x st h, zz_nl l2 = true → zz_Y 106 (27, [l0, l1, l2, some (.int x)], st, h) = zz_Y 106 (30, [l0, l1, l2, some (.int (x + nI 1))], st, h)) ∧ (∀ ls st h, zz_Y 106 (30, ls, st, h) = zz_Y 106 (4, ls, st, h)) ∧ (∀ l0 l1 l3 x st h, zz_Y 106 (33, [l0, l1, some (.int x), l3], st, h) = zz_Y 106 (34, [l0, l1, some (.int x), l3], .int x :: st, h)) ∧ (∀ ls v h, zz_Y 106 (34, ls, [.int v], h) = some (some (.int v), h)) :=
  ⟨fun _ _ _ => xl_ic d106_0 (by decide +kernel),
   fun _ _ _ _ _ _ _ hc => xl_isn d106_1 xml106 (by decide) (zz_nl_s1 hc),
   fun _ _ _ => xl_ic d106_2 (by decide +kernel),
   fun _ _ _ _ _ _ _ hc => xl_isn d106_3 xml106 (by decide) (zz_nl_s1 hc),
   fun _ _ _ _ _ _ => xl_aln d106_5 rfl,
   fun _ _ _ _ => xl_gf d106_6 xco106 xf_7_12,
   fun _ _ _ _ => xl_gf d106_9 xco106 xf_7_69,
   fun _ _ _ _ _ => xl_icge d106_12 rfl,
   fun _ _ _ _ _ _ => xl_iln d106_15 rfl,
   fun _ _ _ _ _ _ => xl_aln d106_16 rfl,
   fun _ _ _ _ => xl_gf d106_17 xco106 xf_7_30,
   fun _ _ _ _ _ _ => xl_iln d106_20 rfl,
   fun _ _ _ _ _ _ => xl_iln d106_21 rfl,
   fun ls a0 a1 a2 s0 h => xl_cv (As := [a0, a1, a2]) (st := [s0]) d106_22 xco106 xm_7_80 (congrArg Nat.succ xnp107) (by decide +kernel) rfl,
   fun _ _ _ _ _ => xl_iadd d106_25,
   fun _ _ _ _ _ _ _ hc => xl_isn d106_26 xml106 (by decide) (zz_nl_s1 hc),
   fun _ _ _ _ _ _ hc => xl_inc d106_27 xml106 (by decide) rfl (by decide +kernel) (zz_nl_s1 hc),
   fun _ _ _ => xl_goto d106_30 rfl,
   fun _ _ _ _ _ _ => xl_iln d106_33 rfl,
   fun _ _ _ => xl_iri d106_34 xrt106⟩
theorem x106_c4 : ∀ l0 l1 l2 x st h, zz_Y 106 (4, [l0, l1, l2, some (.int x)], st, h) = zz_Y 106 (5, [l0, l1, l2, some (.int x)], .int x :: st, h) := fun _ _ _ _ _ _ => xl_iln d106_4 rfl
/-! 107 FacetSieve$Sets.boxes(II)I -/
theorem d107_0 : decode (zz_c 107) 0 = .ok (.iconst 0, 1) := by decide +kernel
theorem d107_1 : decode (zz_c 107) 1 = .ok (.istore_n 3, 1) := by decide +kernel
theorem d107_2 : decode (zz_c 107) 2 = .ok (.iconst 0, 1) := by decide +kernel
theorem d107_3 : decode (zz_c 107) 3 = .ok (.istore 4, 2) := by decide +kernel
theorem d107_5 : decode (zz_c 107) 5 = .ok (.iload 4, 2) := by decide +kernel
theorem d107_7 : decode (zz_c 107) 7 = .ok (.bipush 8, 2) := by decide +kernel
theorem d107_9 : decode (zz_c 107) 9 = .ok (.if_icmp .ge 40, 3) := by decide +kernel
theorem d107_12 : decode (zz_c 107) 12 = .ok (.aload_n 0, 1) := by decide +kernel
theorem d107_13 : decode (zz_c 107) 13 = .ok (.iload_n 1, 1) := by decide +kernel
theorem d107_14 : decode (zz_c 107) 14 = .ok (.iload 4, 2) := by decide +kernel
theorem d107_16 : decode (zz_c 107) 16 = .ok (.invokevirtual 29, 3) := by decide +kernel
theorem d107_19 : decode (zz_c 107) 19 = .ok (.istore 5, 2) := by decide +kernel
theorem d107_21 : decode (zz_c 107) 21 = .ok (.iload 5, 2) := by decide +kernel
theorem d107_23 : decode (zz_c 107) 23 = .ok (.ifCond .eq 20, 3) := by decide +kernel
theorem d107_26 : decode (zz_c 107) 26 = .ok (.iload_n 2, 1) := by decide +kernel
theorem d107_27 : decode (zz_c 107) 27 = .ok (.iconst (-1), 1) := by decide +kernel
theorem d107_28 : decode (zz_c 107) 28 = .ok (.if_icmp .eq 12, 3) := by decide +kernel
theorem d107_31 : decode (zz_c 107) 31 = .ok (.iload_n 2, 1) := by decide +kernel
theorem d107_32 : decode (zz_c 107) 32 = .ok (.iload 5, 2) := by decide +kernel
theorem d107_34 : decode (zz_c 107) 34 = .ok (.invokestatic 65, 3) := by decide +kernel
theorem d107_37 : decode (zz_c 107) 37 = .ok (.if_icmp .ne 6, 3) := by decide +kernel
theorem d107_40 : decode (zz_c 107) 40 = .ok (.iinc 3 1, 3) := by decide +kernel
theorem d107_43 : decode (zz_c 107) 43 = .ok (.iinc 4 1, 3) := by decide +kernel
theorem d107_46 : decode (zz_c 107) 46 = .ok (.goto (-41), 3) := by decide +kernel
theorem d107_49 : decode (zz_c 107) 49 = .ok (.iload_n 3, 1) := by decide +kernel
theorem d107_50 : decode (zz_c 107) 50 = .ok (.ireturn, 1) := by decide +kernel
theorem x107 : (∀ ls st h, zz_Y 107 (0, ls, st, h) = zz_Y 107 (1, ls, .int (nI 0) :: st, h)) ∧ (∀ l0 l1 l2 l3 l4 l5 x st h, zz_nl l2 = true → zz_Y 107 (1, [l0, l1, l2, l3, l4, l5], .int x :: st, h) = zz_Y 107 (2, [l0, l1, l2, some (.int x), l4, l5], st, h)) ∧ (∀ ls st h, zz_Y 107 (2, ls, st, h) = zz_Y 107 (3, ls, .int (nI 0) :: st, h)) ∧ (∀ l0 l1 l2 l3 l4 l5 x st h, zz_nl l3 = true → zz_Y 107 (3, [l0, l1, l2, l3, l4, l5], .int x :: st, h) = zz_Y 107 (5, [l0, l1, l2, l3, some (.int x), l5], st, h)) ∧ (∀ ls st h, zz_Y 107 (7, ls, st, h) = zz_Y 107 (9, ls, .int (nI 8) :: st, h)) ∧ (∀ ls a b st h, zz_Y 107 (9, ls, .int b :: .int a :: st, h) = if a < b then zz_Y 107 (12, ls, st, h) else zz_Y 107 (49, ls, st, h)) ∧ (∀ l1 l2 l3 l4 l5 x st h, zz_Y 107 (12, [some (.ref x), l1, l2, l3, l4, l5], st, h) = zz_Y 107 (13, [some (.ref x), l1, l2, l3, l4, l5], .ref x :: st, h)) ∧ (∀ l0 l2 l3 l4 l5 x st h, zz_Y 107 (13, [l0, some (.int x), l2, l3, l4, l5], st, h) = zz_Y 107 (14, [l0, some (.int x), l2, l3, l4, l5], .int x :: st, h)) ∧ (∀ l0 l1 l2 l3 l5 x st h, zz_Y 107 (14, [l0, l1, l2, l3, some (.int x), l5], st, h) = zz_Y 107 (16, [l0, l1, l2, l3, some (.int x), l5], .int x :: st, h)) ∧ (∀ ls a0 a1 a2 h, zz_Y 107 (16, ls, [a2, a1, a0], h) = mo_k 107 19 ls [] (zz_run 63 [a0, a1, a2] h)) ∧ (∀ l0 l1 l2 l3 l4 l5 x st h, zz_nl l4 = true → zz_Y 107 (19, [l0, l1, l2, l3, l4, l5], .int x :: st, h) = zz_Y 107 (21, [l0, l1, l2, l3, l4, some (.int x)], st, h)) ∧ (∀ l0 l1 l2 l3 l4 x st h, zz_Y 107 (21, [l0, l1, l2, l3, l4, some (.int x)], st, h) = zz_Y 107 (23, [l0, l1, l2, l3, l4, some (.int x)], .int x :: st, h)) ∧ (∀ ls a st h, zz_Y 107 (23, ls, .int a :: st, h) = if a = nI 0 then zz_Y 107 (43, ls, st, h) else zz_Y 107 (26, ls, st, h)) ∧ (∀ l0 l1 l3 l4 l5 x st h, zz_Y 107 (26, [l0, l1, some (.int x), l3, l4, l5], st, h) = zz_Y 107 (27, [l0, l1, some (.int x), l3, l4, l5], .int x :: st, h)) ∧ (∀ ls st h, zz_Y 107 (27, ls, st, h) = zz_Y 107 (28, ls, .int (-1) :: st, h)) ∧ (∀ ls a b st h, zz_Y 107 (28, ls, .int b :: .int a :: st, h) = if a = b then zz_Y 107 (40, ls, st, h) else zz_Y 107 (31, ls, st, h)) ∧ (∀ l0 l1 l3 l4 l5 x st h, zz_Y 107 (31, [l0, l1, some (.int x), l3, l4, l5], st, h) = zz_Y 107 (32, [l0, l1, some (.int x), l3, l4, l5], .int x :: st, h)) ∧ (∀ l0 l1 l2 l3 l4 x st h, zz_Y 107 (32, [l0, l1, l2, l3, l4, some (.int x)], st, h) = zz_Y 107 (34, [l0, l1, l2, l3, l4, some (.int x)], .int x :: st, h)) ∧ (∀ ls a0 s0 h, zz_Y 107 (34, ls, [a0, s0], h) = mo_k 107 37 ls [s0] (zz_run 108 [a0] h)) ∧ (∀ ls a b st h, zz_Y 107 (37, ls, .int b :: .int a :: st, h) = if a = b then zz_Y 107 (40, ls, st, h) else zz_Y 107 (43, ls, st, h)) ∧ (∀ l0 l1 l2 l4 l5 x st h, zz_nl l2 = true → zz_Y 107 (40, [l0, l1, l2, some (.int x), l4, l5], st, h) = zz_Y 107 (43, [l0, l1, l2, some (.int (x + nI 1)), l4, l5], st, h)) ∧ (∀ l0 l1 l2 l3 l5 x st h, zz_nl l3 = true → zz_Y 107 (43, [l0, l1, l2, l3, some (.int x), l5], st, h) = zz_Y 107 (46, [l0, l1, l2, l3, some (.int (x + nI 1)), l5], st, h)) ∧ (∀ ls st h, zz_Y 107 (46, ls, st, h) = zz_Y 107 (5, ls, st, h)) ∧ (∀ l0 l1 l2 l4 l5 x st h, zz_Y 107 (49, [l0, l1, l2, some (.int x), l4, l5], st, h) = zz_Y 107 (50, [l0, l1, l2, some (.int x), l4, l5], .int x :: st, h)) ∧ (∀ ls v h, zz_Y 107 (50, ls, [.int v], h) = some (some (.int v), h)) :=
  ⟨fun _ _ _ => xl_ic d107_0 (by decide +kernel),
   fun _ _ _ _ _ _ _ _ _ hc => xl_isn d107_1 xml107 (by decide) (zz_nl_s1 hc),
   fun _ _ _ => xl_ic d107_2 (by decide +kernel),
   fun _ _ _ _ _ _ _ _ _ hc => xl_is d107_3 xml107 (by decide) (zz_nl_s1 hc),
   fun _ _ _ => xl_bi d107_7 (by decide +kernel),
   fun _ _ _ _ _ => xl_icge d107_9 rfl,
   fun _ _ _ _ _ _ _ _ => xl_aln d107_12 rfl,
   fun _ _ _ _ _ _ _ _ => xl_iln d107_13 rfl,
   fun _ _ _ _ _ _ _ _ => xl_il d107_14 rfl,
   fun ls a0 a1 a2 h => xl_cv (As := [a0, a1, a2]) (st := []) d107_16 xco107 xm_6_29 (congrArg Nat.succ xnp63) (by decide +kernel) rfl,
   fun _ _ _ _ _ _ _ _ _ hc => xl_is d107_19 xml107 (by decide) (zz_nl_s1 hc),
   fun _ _ _ _ _ _ _ _ => xl_il d107_21 rfl,
   fun _ _ _ _ => xl_ifeq d107_23 rfl,
   fun _ _ _ _ _ _ _ _ => xl_iln d107_26 rfl,
   fun _ _ _ => xl_ic d107_27 (by decide +kernel),
   fun _ _ _ _ _ => xl_iceq d107_28 rfl,
   fun _ _ _ _ _ _ _ _ => xl_iln d107_31 rfl,
   fun _ _ _ _ _ _ _ _ => xl_il d107_32 rfl,
   fun ls a0 s0 h => xl_cs (As := [a0]) (st := [s0]) d107_34 xco107 xm_6_65 xnp108 (by decide +kernel) rfl,
   fun _ _ _ _ _ => xl_icne d107_37 rfl,
   fun _ _ _ _ _ _ _ _ hc => xl_inc d107_40 xml107 (by decide) rfl (by decide +kernel) (zz_nl_s1 hc),
   fun _ _ _ _ _ _ _ _ hc => xl_inc d107_43 xml107 (by decide) rfl (by decide +kernel) (zz_nl_s1 hc),
   fun _ _ _ => xl_goto d107_46 rfl,
   fun _ _ _ _ _ _ _ _ => xl_iln d107_49 rfl,
   fun _ _ _ => xl_iri d107_50 xrt107⟩
theorem x107_c5 : ∀ l0 l1 l2 l3 l5 x st h, zz_Y 107 (5, [l0, l1, l2, l3, some (.int x), l5], st, h) = zz_Y 107 (7, [l0, l1, l2, l3, some (.int x), l5], .int x :: st, h) := fun _ _ _ _ _ _ _ _ => xl_il d107_5 rfl
/-! 108 FacetSieve$Boxes.kind(I)I -/
theorem d108_0 : decode (zz_c 108) 0 = .ok (.iload_n 0, 1) := by decide +kernel
theorem d108_1 : decode (zz_c 108) 1 = .ok (.invokestatic 13, 3) := by decide +kernel
theorem d108_4 : decode (zz_c 108) 4 = .ok (.istore_n 1, 1) := by decide +kernel
theorem d108_5 : decode (zz_c 108) 5 = .ok (.iload_n 1, 1) := by decide +kernel
theorem d108_6 : decode (zz_c 108) 6 = .ok (.iload_n 0, 1) := by decide +kernel
theorem d108_7 : decode (zz_c 108) 7 = .ok (.invokestatic 7, 3) := by decide +kernel
theorem d108_10 : decode (zz_c 108) 10 = .ok (.if_icmp .ne 5, 3) := by decide +kernel
theorem d108_13 : decode (zz_c 108) 13 = .ok (.iconst 0, 1) := by decide +kernel
theorem d108_14 : decode (zz_c 108) 14 = .ok (.ireturn, 1) := by decide +kernel
theorem d108_15 : decode (zz_c 108) 15 = .ok (.iload_n 1, 1) := by decide +kernel
theorem d108_16 : decode (zz_c 108) 16 = .ok (.iconst 2, 1) := by decide +kernel
theorem d108_17 : decode (zz_c 108) 17 = .ok (.iload_n 0, 1) := by decide +kernel
theorem d108_18 : decode (zz_c 108) 18 = .ok (.invokestatic 18, 3) := by decide +kernel
theorem d108_21 : decode (zz_c 108) 21 = .ok (.imul, 1) := by decide +kernel
theorem d108_22 : decode (zz_c 108) 22 = .ok (.if_icmp .ne 7, 3) := by decide +kernel
theorem d108_25 : decode (zz_c 108) 25 = .ok (.iconst 1, 1) := by decide +kernel
theorem d108_26 : decode (zz_c 108) 26 = .ok (.goto 4, 3) := by decide +kernel
theorem d108_29 : decode (zz_c 108) 29 = .ok (.iconst 2, 1) := by decide +kernel
theorem d108_30 : decode (zz_c 108) 30 = .ok (.ireturn, 1) := by decide +kernel
theorem x108 : (∀ l1 x st h, zz_Y 108 (0, [some (.int x), l1], st, h) = zz_Y 108 (1, [some (.int x), l1], .int x :: st, h)) ∧ (∀ ls a0 h, zz_Y 108 (1, ls, [a0], h) = mo_k 108 4 ls [] (zz_run 75 [a0] h)) ∧ (∀ l0 l1 x st h, zz_nl l0 = true → zz_Y 108 (4, [l0, l1], .int x :: st, h) = zz_Y 108 (5, [l0, some (.int x)], st, h)) ∧ (∀ l0 x st h, zz_Y 108 (5, [l0, some (.int x)], st, h) = zz_Y 108 (6, [l0, some (.int x)], .int x :: st, h)) ∧ (∀ l1 x st h, zz_Y 108 (6, [some (.int x), l1], st, h) = zz_Y 108 (7, [some (.int x), l1], .int x :: st, h)) ∧ (∀ ls a0 s0 h, zz_Y 108 (7, ls, [a0, s0], h) = mo_k 108 10 ls [s0] (zz_run 64 [a0] h)) ∧ (∀ ls a b st h, zz_Y 108 (10, ls, .int b :: .int a :: st, h) = if a = b then zz_Y 108 (13, ls, st, h) else zz_Y 108 (15, ls, st, h)) ∧ (∀ ls st h, zz_Y 108 (13, ls, st, h) = zz_Y 108 (14, ls, .int (nI 0) :: st, h)) ∧ (∀ ls v h, zz_Y 108 (14, ls, [.int v], h) = some (some (.int v), h)) ∧ (∀ l0 x st h, zz_Y 108 (15, [l0, some (.int x)], st, h) = zz_Y 108 (16, [l0, some (.int x)], .int x :: st, h)) ∧ (∀ ls st h, zz_Y 108 (16, ls, st, h) = zz_Y 108 (17, ls, .int (nI 2) :: st, h)) ∧ (∀ l1 x st h, zz_Y 108 (17, [some (.int x), l1], st, h) = zz_Y 108 (18, [some (.int x), l1], .int x :: st, h)) ∧ (∀ ls a0 s0 s1 h, zz_Y 108 (18, ls, [a0, s0, s1], h) = mo_k 108 21 ls [s0, s1] (zz_run 109 [a0] h)) ∧ (∀ ls a b st h, zz_Y 108 (21, ls, .int b :: .int a :: st, h) = zz_Y 108 (22, ls, .int (a * b) :: st, h)) ∧ (∀ ls a b st h, zz_Y 108 (22, ls, .int b :: .int a :: st, h) = if a = b then zz_Y 108 (25, ls, st, h) else zz_Y 108 (29, ls, st, h)) ∧ (∀ ls st h, zz_Y 108 (25, ls, st, h) = zz_Y 108 (26, ls, .int (nI 1) :: st, h)) ∧ (∀ ls st h, zz_Y 108 (26, ls, st, h) = zz_Y 108 (30, ls, st, h)) ∧ (∀ ls st h, zz_Y 108 (29, ls, st, h) = zz_Y 108 (30, ls, .int (nI 2) :: st, h)) ∧ (∀ ls v h, zz_Y 108 (30, ls, [.int v], h) = some (some (.int v), h)) :=
  ⟨fun _ _ _ _ => xl_iln d108_0 rfl,
   fun ls a0 h => xl_cs (As := [a0]) (st := []) d108_1 xco108 xm_12_13 xnp75 (by decide +kernel) rfl,
   fun _ _ _ _ _ hc => xl_isn d108_4 xml108 (by decide) (zz_nl_s1 hc),
   fun _ _ _ _ => xl_iln d108_5 rfl,
   fun _ _ _ _ => xl_iln d108_6 rfl,
   fun ls a0 s0 h => xl_cs (As := [a0]) (st := [s0]) d108_7 xco108 xm_12_7 xnp64 (by decide +kernel) rfl,
   fun _ _ _ _ _ => xl_icne d108_10 rfl,
   fun _ _ _ => xl_ic d108_13 (by decide +kernel),
   fun _ _ _ => xl_iri d108_14 xrt108,
   fun _ _ _ _ => xl_iln d108_15 rfl,
   fun _ _ _ => xl_ic d108_16 (by decide +kernel),
   fun _ _ _ _ => xl_iln d108_17 rfl,
   fun ls a0 s0 s1 h => xl_cs (As := [a0]) (st := [s0, s1]) d108_18 xco108 xm_12_18 xnp109 (by decide +kernel) rfl,
   fun _ _ _ _ _ => xl_imul d108_21,
   fun _ _ _ _ _ => xl_icne d108_22 rfl,
   fun _ _ _ => xl_ic d108_25 (by decide +kernel),
   fun _ _ _ => xl_goto d108_26 rfl,
   fun _ _ _ => xl_ic d108_29 (by decide +kernel),
   fun _ _ _ => xl_iri d108_30 xrt108⟩
/-! 109 FacetSieve$Boxes.runs(I)I -/
theorem d109_0 : decode (zz_c 109) 0 = .ok (.iload_n 0, 1) := by decide +kernel
theorem d109_1 : decode (zz_c 109) 1 = .ok (.iload_n 0, 1) := by decide +kernel
theorem d109_2 : decode (zz_c 109) 2 = .ok (.iconst 1, 1) := by decide +kernel
theorem d109_3 : decode (zz_c 109) 3 = .ok (.ishl, 1) := by decide +kernel
theorem d109_4 : decode (zz_c 109) 4 = .ok (.iconst (-1), 1) := by decide +kernel
theorem d109_5 : decode (zz_c 109) 5 = .ok (.ixor, 1) := by decide +kernel
theorem d109_6 : decode (zz_c 109) 6 = .ok (.iand, 1) := by decide +kernel
theorem d109_7 : decode (zz_c 109) 7 = .ok (.invokestatic 7, 3) := by decide +kernel
theorem d109_10 : decode (zz_c 109) 10 = .ok (.ireturn, 1) := by decide +kernel
theorem x109 : (∀ x st h, zz_Y 109 (0, [some (.int x)], st, h) = zz_Y 109 (1, [some (.int x)], .int x :: st, h)) ∧ (∀ x st h, zz_Y 109 (1, [some (.int x)], st, h) = zz_Y 109 (2, [some (.int x)], .int x :: st, h)) ∧ (∀ ls st h, zz_Y 109 (2, ls, st, h) = zz_Y 109 (3, ls, .int (nI 1) :: st, h)) ∧ (∀ ls a b st h, zz_Y 109 (3, ls, .int b :: .int a :: st, h) = zz_Y 109 (4, ls, .int (a <<< (b &&& 31)) :: st, h)) ∧ (∀ ls st h, zz_Y 109 (4, ls, st, h) = zz_Y 109 (5, ls, .int (-1) :: st, h)) ∧ (∀ ls a b st h, zz_Y 109 (5, ls, .int b :: .int a :: st, h) = zz_Y 109 (6, ls, .int (a ^^^ b) :: st, h)) ∧ (∀ ls a b st h, zz_Y 109 (6, ls, .int b :: .int a :: st, h) = zz_Y 109 (7, ls, .int (a &&& b) :: st, h)) ∧ (∀ ls a0 h, zz_Y 109 (7, ls, [a0], h) = mo_k 109 10 ls [] (zz_run 64 [a0] h)) ∧ (∀ ls v h, zz_Y 109 (10, ls, [.int v], h) = some (some (.int v), h)) :=
  ⟨fun _ _ _ => xl_iln d109_0 rfl,
   fun _ _ _ => xl_iln d109_1 rfl,
   fun _ _ _ => xl_ic d109_2 (by decide +kernel),
   fun _ _ _ _ _ => xl_ishl d109_3,
   fun _ _ _ => xl_ic d109_4 (by decide +kernel),
   fun _ _ _ _ _ => xl_ixor d109_5,
   fun _ _ _ _ _ => xl_iand d109_6,
   fun ls a0 h => xl_cs (As := [a0]) (st := []) d109_7 xco109 xm_12_7 xnp64 (by decide +kernel) rfl,
   fun _ _ _ => xl_iri d109_10 xrt109⟩
/-! 110 FacetSieve$Stock.allTags()I -/
theorem d110_0 : decode (zz_c 110) 0 = .ok (.iconst 0, 1) := by decide +kernel
theorem d110_1 : decode (zz_c 110) 1 = .ok (.istore_n 1, 1) := by decide +kernel
theorem d110_2 : decode (zz_c 110) 2 = .ok (.iconst 0, 1) := by decide +kernel
theorem d110_3 : decode (zz_c 110) 3 = .ok (.istore_n 2, 1) := by decide +kernel
theorem d110_4 : decode (zz_c 110) 4 = .ok (.iload_n 2, 1) := by decide +kernel
theorem d110_5 : decode (zz_c 110) 5 = .ok (.sipush 256, 3) := by decide +kernel
theorem d110_8 : decode (zz_c 110) 8 = .ok (.if_icmp .ge 21, 3) := by decide +kernel
theorem d110_11 : decode (zz_c 110) 11 = .ok (.iload_n 1, 1) := by decide +kernel
theorem d110_12 : decode (zz_c 110) 12 = .ok (.aload_n 0, 1) := by decide +kernel
theorem d110_13 : decode (zz_c 110) 13 = .ok (.getfield 22, 3) := by decide +kernel
theorem d110_16 : decode (zz_c 110) 16 = .ok (.iload_n 2, 1) := by decide +kernel
theorem d110_17 : decode (zz_c 110) 17 = .ok (.iaload, 1) := by decide +kernel
theorem d110_18 : decode (zz_c 110) 18 = .ok (.invokestatic 84, 3) := by decide +kernel
theorem d110_21 : decode (zz_c 110) 21 = .ok (.iadd, 1) := by decide +kernel
theorem d110_22 : decode (zz_c 110) 22 = .ok (.istore_n 1, 1) := by decide +kernel
theorem d110_23 : decode (zz_c 110) 23 = .ok (.iinc 2 1, 3) := by decide +kernel
theorem d110_26 : decode (zz_c 110) 26 = .ok (.goto (-22), 3) := by decide +kernel
theorem d110_29 : decode (zz_c 110) 29 = .ok (.iload_n 1, 1) := by decide +kernel
theorem d110_30 : decode (zz_c 110) 30 = .ok (.ireturn, 1) := by decide +kernel
theorem x110 : (∀ ls st h, zz_Y 110 (0, ls, st, h) = zz_Y 110 (1, ls, .int (nI 0) :: st, h)) ∧ (∀ l0 l1 l2 x st h, zz_nl l0 = true → zz_Y 110 (1, [l0, l1, l2], .int x :: st, h) = zz_Y 110 (2, [l0, some (.int x), l2], st, h)) ∧ (∀ ls st h, zz_Y 110 (2, ls, st, h) = zz_Y 110 (3, ls, .int (nI 0) :: st, h)) ∧ (∀ l0 l1 l2 x st h, zz_nl l1 = true → zz_Y 110 (3, [l0, l1, l2], .int x :: st, h) = zz_Y 110 (4, [l0, l1, some (.int x)], st, h)) ∧ (∀ ls st h, zz_Y 110 (5, ls, st, h) = zz_Y 110 (8, ls, .int (nI 256) :: st, h)) ∧ (∀ ls a b st h, zz_Y 110 (8, ls, .int b :: .int a :: st, h) = if a < b then zz_Y 110 (11, ls, st, h) else zz_Y 110 (29, ls, st, h)) ∧ (∀ l0 l2 x st h, zz_Y 110 (11, [l0, some (.int x), l2], st, h) = zz_Y 110 (12, [l0, some (.int x), l2], .int x :: st, h)) ∧ (∀ l1 l2 x st h, zz_Y 110 (12, [some (.ref x), l1, l2], st, h) = zz_Y 110 (13, [some (.ref x), l1, l2], .ref x :: st, h)) ∧ (∀ ls a st h, zz_Y 110 (13, ls, .ref a :: st, h) = mo_gf (hp_g h a) 7 2 110 16 ls st h) ∧ (∀ l0 l1 x st h, zz_Y 110 (16, [l0, l1, some (.int x)], st, h) = zz_Y 110 (17, [l0, l1, some (.int x)], .int x :: st, h)) ∧ (∀ ls a i st h, zz_Y 110 (17, ls, .int i :: .ref a :: st, h) = mo_ia (hp_g h a) i a 110 18 ls st h) ∧ (∀ ls a0 s0 h, zz_Y 110 (18, ls, [a0, s0], h) = mo_k 110 21 ls [s0] (zz_run 64 [a0] h)) ∧ (∀ ls a b st h, zz_Y 110 (21, ls, .int b :: .int a :: st, h) = zz_Y 110 (22, ls, .int (a + b) :: st, h)) ∧ (∀ l0 l1 l2 x st h, zz_nl l0 = true → zz_Y 110 (22, [l0, l1, l2], .int x :: st, h) = zz_Y 110 (23, [l0, some (.int x), l2], st, h)) ∧ (∀ l0 l1 x st h, zz_nl l1 = true → zz_Y 110 (23, [l0, l1, some (.int x)], st, h) = zz_Y 110 (26, [l0, l1, some (.int (x + nI 1))], st, h)) ∧ (∀ ls st h, zz_Y 110 (26, ls, st, h) = zz_Y 110 (4, ls, st, h)) ∧ (∀ l0 l2 x st h, zz_Y 110 (29, [l0, some (.int x), l2], st, h) = zz_Y 110 (30, [l0, some (.int x), l2], .int x :: st, h)) ∧ (∀ ls v h, zz_Y 110 (30, ls, [.int v], h) = some (some (.int v), h)) :=
  ⟨fun _ _ _ => xl_ic d110_0 (by decide +kernel),
   fun _ _ _ _ _ _ hc => xl_isn d110_1 xml110 (by decide) (zz_nl_s1 hc),
   fun _ _ _ => xl_ic d110_2 (by decide +kernel),
   fun _ _ _ _ _ _ hc => xl_isn d110_3 xml110 (by decide) (zz_nl_s1 hc),
   fun _ _ _ => xl_si d110_5 (by decide +kernel),
   fun _ _ _ _ _ => xl_icge d110_8 rfl,
   fun _ _ _ _ _ => xl_iln d110_11 rfl,
   fun _ _ _ _ _ => xl_aln d110_12 rfl,
   fun _ _ _ _ => xl_gf d110_13 xco110 xf_7_22,
   fun _ _ _ _ _ => xl_iln d110_16 rfl,
   fun _ _ _ _ _ => xl_ia d110_17,
   fun ls a0 s0 h => xl_cs (As := [a0]) (st := [s0]) d110_18 xco110 xm_7_84 xnp64 (by decide +kernel) rfl,
   fun _ _ _ _ _ => xl_iadd d110_21,
   fun _ _ _ _ _ _ hc => xl_isn d110_22 xml110 (by decide) (zz_nl_s1 hc),
   fun _ _ _ _ _ hc => xl_inc d110_23 xml110 (by decide) rfl (by decide +kernel) (zz_nl_s1 hc),
   fun _ _ _ => xl_goto d110_26 rfl,
   fun _ _ _ _ _ => xl_iln d110_29 rfl,
   fun _ _ _ => xl_iri d110_30 xrt110⟩
theorem x110_c4 : ∀ l0 l1 x st h, zz_Y 110 (4, [l0, l1, some (.int x)], st, h) = zz_Y 110 (5, [l0, l1, some (.int x)], .int x :: st, h) := fun _ _ _ _ _ => xl_iln d110_4 rfl
/-! 111 FacetSieve.sureValues()I -/
theorem d111_0 : decode (zz_c 111) 0 = .ok (.aload_n 0, 1) := by decide +kernel
theorem d111_1 : decode (zz_c 111) 1 = .ok (.invokevirtual 312, 3) := by decide +kernel
theorem d111_4 : decode (zz_c 111) 4 = .ok (.aload_n 0, 1) := by decide +kernel
theorem d111_5 : decode (zz_c 111) 5 = .ok (.getfield 46, 3) := by decide +kernel
theorem d111_8 : decode (zz_c 111) 8 = .ok (.iconst 0, 1) := by decide +kernel
theorem d111_9 : decode (zz_c 111) 9 = .ok (.invokevirtual 105, 3) := by decide +kernel
theorem d111_12 : decode (zz_c 111) 12 = .ok (.istore_n 1, 1) := by decide +kernel
theorem d111_13 : decode (zz_c 111) 13 = .ok (.iconst 0, 1) := by decide +kernel
theorem d111_14 : decode (zz_c 111) 14 = .ok (.istore_n 2, 1) := by decide +kernel
theorem d111_15 : decode (zz_c 111) 15 = .ok (.iconst 0, 1) := by decide +kernel
theorem d111_16 : decode (zz_c 111) 16 = .ok (.istore_n 3, 1) := by decide +kernel
theorem d111_17 : decode (zz_c 111) 17 = .ok (.iload_n 1, 1) := by decide +kernel
theorem d111_18 : decode (zz_c 111) 18 = .ok (.ifCond .le 56, 3) := by decide +kernel
theorem d111_21 : decode (zz_c 111) 21 = .ok (.iload_n 3, 1) := by decide +kernel
theorem d111_22 : decode (zz_c 111) 22 = .ok (.aload_n 0, 1) := by decide +kernel
theorem d111_23 : decode (zz_c 111) 23 = .ok (.getfield 12, 3) := by decide +kernel
theorem d111_26 : decode (zz_c 111) 26 = .ok (.getfield 79, 3) := by decide +kernel
theorem d111_29 : decode (zz_c 111) 29 = .ok (.getfield 163, 3) := by decide +kernel
theorem d111_32 : decode (zz_c 111) 32 = .ok (.getfield 221, 3) := by decide +kernel
theorem d111_35 : decode (zz_c 111) 35 = .ok (.if_icmp .ge 39, 3) := by decide +kernel
theorem d111_38 : decode (zz_c 111) 38 = .ok (.aload_n 0, 1) := by decide +kernel
theorem d111_39 : decode (zz_c 111) 39 = .ok (.getfield 12, 3) := by decide +kernel
theorem d111_42 : decode (zz_c 111) 42 = .ok (.getfield 92, 3) := by decide +kernel
theorem d111_45 : decode (zz_c 111) 45 = .ok (.getfield 189, 3) := by decide +kernel
theorem d111_48 : decode (zz_c 111) 48 = .ok (.iload_n 3, 1) := by decide +kernel
theorem d111_49 : decode (zz_c 111) 49 = .ok (.iaload, 1) := by decide +kernel
theorem d111_50 : decode (zz_c 111) 50 = .ok (.ifCond .ne 18, 3) := by decide +kernel
theorem d111_53 : decode (zz_c 111) 53 = .ok (.aload_n 0, 1) := by decide +kernel
theorem d111_54 : decode (zz_c 111) 54 = .ok (.iload_n 3, 1) := by decide +kernel
theorem d111_55 : decode (zz_c 111) 55 = .ok (.invokevirtual 345, 3) := by decide +kernel
theorem d111_58 : decode (zz_c 111) 58 = .ok (.iload_n 1, 1) := by decide +kernel
theorem d111_59 : decode (zz_c 111) 59 = .ok (.if_icmp .ne 9, 3) := by decide +kernel
theorem d111_62 : decode (zz_c 111) 62 = .ok (.iload_n 2, 1) := by decide +kernel
theorem d111_63 : decode (zz_c 111) 63 = .ok (.iconst 1, 1) := by decide +kernel
theorem d111_64 : decode (zz_c 111) 64 = .ok (.iload_n 3, 1) := by decide +kernel
theorem d111_65 : decode (zz_c 111) 65 = .ok (.ishl, 1) := by decide +kernel
theorem d111_66 : decode (zz_c 111) 66 = .ok (.ior, 1) := by decide +kernel
theorem d111_67 : decode (zz_c 111) 67 = .ok (.istore_n 2, 1) := by decide +kernel
theorem d111_68 : decode (zz_c 111) 68 = .ok (.iinc 3 1, 3) := by decide +kernel
theorem d111_71 : decode (zz_c 111) 71 = .ok (.goto (-54), 3) := by decide +kernel
theorem d111_74 : decode (zz_c 111) 74 = .ok (.iload_n 2, 1) := by decide +kernel
theorem d111_75 : decode (zz_c 111) 75 = .ok (.ireturn, 1) := by decide +kernel
theorem x111 : (∀ l1 l2 l3 x st h, zz_Y 111 (0, [some (.ref x), l1, l2, l3], st, h) = zz_Y 111 (1, [some (.ref x), l1, l2, l3], .ref x :: st, h)) ∧ (∀ ls a0 h, zz_Y 111 (1, ls, [a0], h) = mo_k 111 4 ls [] (zz_run 112 [a0] h)) ∧ (∀ l1 l2 l3 x st h, zz_Y 111 (4, [some (.ref x), l1, l2, l3], st, h) = zz_Y 111 (5, [some (.ref x), l1, l2, l3], .ref x :: st, h)) ∧ (∀ ls a st h, zz_Y 111 (5, ls, .ref a :: st, h) = mo_gf (hp_g h a) 10 5 111 8 ls st h) ∧ (∀ ls st h, zz_Y 111 (8, ls, st, h) = zz_Y 111 (9, ls, .int (nI 0) :: st, h)) ∧ (∀ ls a0 a1 h, zz_Y 111 (9, ls, [a1, a0], h) = mo_k 111 12 ls [] (zz_run 62 [a0, a1] h)) ∧ (∀ l0 l1 l2 l3 x st h, zz_nl l0 = true → zz_Y 111 (12, [l0, l1, l2, l3], .int x :: st, h) = zz_Y 111 (13, [l0, some (.int x), l2, l3], st, h)) ∧ (∀ ls st h, zz_Y 111 (13, ls, st, h) = zz_Y 111 (14, ls, .int (nI 0) :: st, h)) ∧ (∀ l0 l1 l2 l3 x st h, zz_nl l1 = true → zz_Y 111 (14, [l0, l1, l2, l3], .int x :: st, h) = zz_Y 111 (15, [l0, l1, some (.int x), l3], st, h)) ∧ (∀ ls st h, zz_Y 111 (15, ls, st, h) = zz_Y 111 (16, ls, .int (nI 0) :: st, h)) ∧ (∀ l0 l1 l2 l3 x st h, zz_nl l2 = true → zz_Y 111 (16, [l0, l1, l2, l3], .int x :: st, h) = zz_Y 111 (17, [l0, l1, l2, some (.int x)], st, h)) ∧ (∀ ls a st h, zz_Y 111 (18, ls, .int a :: st, h) = if nI 0 < a then zz_Y 111 (21, ls, st, h) else zz_Y 111 (74, ls, st, h)) ∧ (∀ l0 l1 l2 x st h, zz_Y 111 (21, [l0, l1, l2, some (.int x)], st, h) = zz_Y 111 (22, [l0, l1, l2, some (.int x)], .int x :: st, h)) ∧ (∀ l1 l2 l3 x st h, zz_Y 111 (22, [some (.ref x), l1, l2, l3], st, h) = zz_Y 111 (23, [some (.ref x), l1, l2, l3], .ref x :: st, h)) ∧ (∀ ls a st h, zz_Y 111 (23, ls, .ref a :: st, h) = mo_gf (hp_g h a) 10 0 111 26 ls st h) ∧ (∀ ls a st h, zz_Y 111 (26, ls, .ref a :: st, h) = mo_gf (hp_g h a) 1 1 111 29 ls st h) ∧ (∀ ls a st h, zz_Y 111 (29, ls, .ref a :: st, h) = mo_gf (hp_g h a) 7 0 111 32 ls st h) ∧ (∀ ls a st h, zz_Y 111 (32, ls, .ref a :: st, h) = mo_gf (hp_g h a) 3 5 111 35 ls st h) ∧ (∀ ls a b st h, zz_Y 111 (35, ls, .int b :: .int a :: st, h) = if a < b then zz_Y 111 (38, ls, st, h) else zz_Y 111 (74, ls, st, h)) ∧ (∀ l1 l2 l3 x st h, zz_Y 111 (38, [some (.ref x), l1, l2, l3], st, h) = zz_Y 111 (39, [some (.ref x), l1, l2, l3], .ref x :: st, h)) ∧ (∀ ls a st h, zz_Y 111 (39, ls, .ref a :: st, h) = mo_gf (hp_g h a) 10 0 111 42 ls st h) ∧ (∀ ls a st h, zz_Y 111 (42, ls, .ref a :: st, h) = mo_gf (hp_g h a) 1 2 111 45 ls st h) ∧ (∀ ls a st h, zz_Y 111 (45, ls, .ref a :: st, h) = mo_gf (hp_g h a) 0 0 111 48 ls st h) ∧ (∀ l0 l1 l2 x st h, zz_Y 111 (48, [l0, l1, l2, some (.int x)], st, h) = zz_Y 111 (49, [l0, l1, l2, some (.int x)], .int x :: st, h)) ∧ (∀ ls a i st h, zz_Y 111 (49, ls, .int i :: .ref a :: st, h) = mo_ia (hp_g h a) i a 111 50 ls st h) ∧ (∀ ls a st h, zz_Y 111 (50, ls, .int a :: st, h) = if a = nI 0 then zz_Y 111 (53, ls, st, h) else zz_Y 111 (68, ls, st, h)) ∧ (∀ l1 l2 l3 x st h, zz_Y 111 (53, [some (.ref x), l1, l2, l3], st, h) = zz_Y 111 (54, [some (.ref x), l1, l2, l3], .ref x :: st, h)) ∧ (∀ l0 l1 l2 x st h, zz_Y 111 (54, [l0, l1, l2, some (.int x)], st, h) = zz_Y 111 (55, [l0, l1, l2, some (.int x)], .int x :: st, h)) ∧ (∀ ls a0 a1 h, zz_Y 111 (55, ls, [a1, a0], h) = mo_k 111 58 ls [] (zz_run 113 [a0, a1] h)) ∧ (∀ l0 l2 l3 x st h, zz_Y 111 (58, [l0, some (.int x), l2, l3], st, h) = zz_Y 111 (59, [l0, some (.int x), l2, l3], .int x :: st, h)) ∧ (∀ ls a b st h, zz_Y 111 (59, ls, .int b :: .int a :: st, h) = if a = b then zz_Y 111 (62, ls, st, h) else zz_Y 111 (68, ls, st, h)) ∧ (∀ l0 l1 l3 x st h, zz_Y 111 (62, [l0, l1, some (.int x), l3], st, h) = zz_Y 111 (63, [l0, l1, some (.int x), l3], .int x :: st, h)) ∧ (∀ ls st h, zz_Y 111 (63, ls, st, h) = zz_Y 111 (64, ls, .int (nI 1) :: st, h)) ∧ (∀ l0 l1 l2 x st h, zz_Y 111 (64, [l0, l1, l2, some (.int x)], st, h) = zz_Y 111 (65, [l0, l1, l2, some (.int x)], .int x :: st, h)) ∧ (∀ ls a b st h, zz_Y 111 (65, ls, .int b :: .int a :: st, h) = zz_Y 111 (66, ls, .int (a <<< (b &&& 31)) :: st, h)) ∧ (∀ ls a b st h, zz_Y 111 (66, ls, .int b :: .int a :: st, h) = zz_Y 111 (67, ls, .int (a ||| b) :: st, h)) ∧ (∀ l0 l1 l2 l3 x st h, zz_nl l1 = true → zz_Y 111 (67, [l0, l1, l2, l3], .int x :: st, h) = zz_Y 111 (68, [l0, l1, some (.int x), l3], st, h)) ∧ (∀ l0 l1 l2 x st h, zz_nl l2 = true → zz_Y 111 (68, [l0, l1, l2, some (.int x)], st, h) = zz_Y 111 (71, [l0, l1, l2, some (.int (x + nI 1))], st, h)) ∧ (∀ ls st h, zz_Y 111 (71, ls, st, h) = zz_Y 111 (17, ls, st, h)) ∧ (∀ l0 l1 l3 x st h, zz_Y 111 (74, [l0, l1, some (.int x), l3], st, h) = zz_Y 111 (75, [l0, l1, some (.int x), l3], .int x :: st, h)) ∧ (∀ ls v h, zz_Y 111 (75, ls, [.int v], h) = some (some (.int v), h)) :=
  ⟨fun _ _ _ _ _ _ => xl_aln d111_0 rfl,
   fun ls a0 h => xl_cv (As := [a0]) (st := []) d111_1 xco111 xm_10_312 (congrArg Nat.succ xnp112) (by decide +kernel) rfl,
   fun _ _ _ _ _ _ => xl_aln d111_4 rfl,
   fun _ _ _ _ => xl_gf d111_5 xco111 xf_10_46,
   fun _ _ _ => xl_ic d111_8 (by decide +kernel),
   fun ls a0 a1 h => xl_cv (As := [a0, a1]) (st := []) d111_9 xco111 xm_10_105 (congrArg Nat.succ xnp62) (by decide +kernel) rfl,
   fun _ _ _ _ _ _ _ hc => xl_isn d111_12 xml111 (by decide) (zz_nl_s1 hc),
   fun _ _ _ => xl_ic d111_13 (by decide +kernel),
   fun _ _ _ _ _ _ _ hc => xl_isn d111_14 xml111 (by decide) (zz_nl_s1 hc),
   fun _ _ _ => xl_ic d111_15 (by decide +kernel),
   fun _ _ _ _ _ _ _ hc => xl_isn d111_16 xml111 (by decide) (zz_nl_s1 hc),
   fun _ _ _ _ => xl_ifle d111_18 rfl,
   fun _ _ _ _ _ _ => xl_iln d111_21 rfl,
   fun _ _ _ _ _ _ => xl_aln d111_22 rfl,
   fun _ _ _ _ => xl_gf d111_23 xco111 xf_10_12,
   fun _ _ _ _ => xl_gf d111_26 xco111 xf_10_79,
   fun _ _ _ _ => xl_gf d111_29 xco111 xf_10_163,
   fun _ _ _ _ => xl_gf d111_32 xco111 xf_10_221,
   fun _ _ _ _ _ => xl_icge d111_35 rfl,
   fun _ _ _ _ _ _ => xl_aln d111_38 rfl,
   fun _ _ _ _ => xl_gf d111_39 xco111 xf_10_12,
   fun _ _ _ _ => xl_gf d111_42 xco111 xf_10_92,
   fun _ _ _ _ => xl_gf d111_45 xco111 xf_10_189,
   fun _ _ _ _ _ _ => xl_iln d111_48 rfl,
   fun _ _ _ _ _ => xl_ia d111_49,
   fun _ _ _ _ => xl_ifne d111_50 rfl,
   fun _ _ _ _ _ _ => xl_aln d111_53 rfl,
   fun _ _ _ _ _ _ => xl_iln d111_54 rfl,
   fun ls a0 a1 h => xl_cv (As := [a0, a1]) (st := []) d111_55 xco111 xm_10_345 (congrArg Nat.succ xnp113) (by decide +kernel) rfl,
   fun _ _ _ _ _ _ => xl_iln d111_58 rfl,
   fun _ _ _ _ _ => xl_icne d111_59 rfl,
   fun _ _ _ _ _ _ => xl_iln d111_62 rfl,
   fun _ _ _ => xl_ic d111_63 (by decide +kernel),
   fun _ _ _ _ _ _ => xl_iln d111_64 rfl,
   fun _ _ _ _ _ => xl_ishl d111_65,
   fun _ _ _ _ _ => xl_ior d111_66,
   fun _ _ _ _ _ _ _ hc => xl_isn d111_67 xml111 (by decide) (zz_nl_s1 hc),
   fun _ _ _ _ _ _ hc => xl_inc d111_68 xml111 (by decide) rfl (by decide +kernel) (zz_nl_s1 hc),
   fun _ _ _ => xl_goto d111_71 rfl,
   fun _ _ _ _ _ _ => xl_iln d111_74 rfl,
   fun _ _ _ => xl_iri d111_75 xrt111⟩
theorem x111_c17 : ∀ l0 l2 l3 x st h, zz_Y 111 (17, [l0, some (.int x), l2, l3], st, h) = zz_Y 111 (18, [l0, some (.int x), l2, l3], .int x :: st, h) := fun _ _ _ _ _ _ => xl_iln d111_17 rfl
/-! 112 FacetSieve.lookWhatIsLeft()V -/
theorem d112_0 : decode (zz_c 112) 0 = .ok (.iconst 0, 1) := by decide +kernel
theorem d112_1 : decode (zz_c 112) 1 = .ok (.istore_n 1, 1) := by decide +kernel
theorem d112_2 : decode (zz_c 112) 2 = .ok (.iload_n 1, 1) := by decide +kernel
theorem d112_3 : decode (zz_c 112) 3 = .ok (.bipush 8, 2) := by decide +kernel
theorem d112_5 : decode (zz_c 112) 5 = .ok (.if_icmp .ge 28, 3) := by decide +kernel
theorem d112_8 : decode (zz_c 112) 8 = .ok (.aload_n 0, 1) := by decide +kernel
theorem d112_9 : decode (zz_c 112) 9 = .ok (.getfield 46, 3) := by decide +kernel
theorem d112_12 : decode (zz_c 112) 12 = .ok (.iconst 0, 1) := by decide +kernel
theorem d112_13 : decode (zz_c 112) 13 = .ok (.iload_n 1, 1) := by decide +kernel
theorem d112_14 : decode (zz_c 112) 14 = .ok (.aload_n 0, 1) := by decide +kernel
theorem d112_15 : decode (zz_c 112) 15 = .ok (.getfield 12, 3) := by decide +kernel
theorem d112_18 : decode (zz_c 112) 18 = .ok (.iload_n 1, 1) := by decide +kernel
theorem d112_19 : decode (zz_c 112) 19 = .ok (.iconst (-1), 1) := by decide +kernel
theorem d112_20 : decode (zz_c 112) 20 = .ok (.iconst (-1), 1) := by decide +kernel
theorem d112_21 : decode (zz_c 112) 21 = .ok (.invokevirtual 303, 3) := by decide +kernel
theorem d112_24 : decode (zz_c 112) 24 = .ok (.invokevirtual 342, 3) := by decide +kernel
theorem d112_27 : decode (zz_c 112) 27 = .ok (.iinc 1 1, 3) := by decide +kernel
theorem d112_30 : decode (zz_c 112) 30 = .ok (.goto (-28), 3) := by decide +kernel
theorem d112_33 : decode (zz_c 112) 33 = .ok (.return_, 1) := by decide +kernel
theorem x112 : (∀ ls st h, zz_Y 112 (0, ls, st, h) = zz_Y 112 (1, ls, .int (nI 0) :: st, h)) ∧ (∀ l0 l1 x st h, zz_nl l0 = true → zz_Y 112 (1, [l0, l1], .int x :: st, h) = zz_Y 112 (2, [l0, some (.int x)], st, h)) ∧ (∀ ls st h, zz_Y 112 (3, ls, st, h) = zz_Y 112 (5, ls, .int (nI 8) :: st, h)) ∧ (∀ ls a b st h, zz_Y 112 (5, ls, .int b :: .int a :: st, h) = if a < b then zz_Y 112 (8, ls, st, h) else zz_Y 112 (33, ls, st, h)) ∧ (∀ l1 x st h, zz_Y 112 (8, [some (.ref x), l1], st, h) = zz_Y 112 (9, [some (.ref x), l1], .ref x :: st, h)) ∧ (∀ ls a st h, zz_Y 112 (9, ls, .ref a :: st, h) = mo_gf (hp_g h a) 10 5 112 12 ls st h) ∧ (∀ ls st h, zz_Y 112 (12, ls, st, h) = zz_Y 112 (13, ls, .int (nI 0) :: st, h)) ∧ (∀ l0 x st h, zz_Y 112 (13, [l0, some (.int x)], st, h) = zz_Y 112 (14, [l0, some (.int x)], .int x :: st, h)) ∧ (∀ l1 x st h, zz_Y 112 (14, [some (.ref x), l1], st, h) = zz_Y 112 (15, [some (.ref x), l1], .ref x :: st, h)) ∧ (∀ ls a st h, zz_Y 112 (15, ls, .ref a :: st, h) = mo_gf (hp_g h a) 10 0 112 18 ls st h) ∧ (∀ l0 x st h, zz_Y 112 (18, [l0, some (.int x)], st, h) = zz_Y 112 (19, [l0, some (.int x)], .int x :: st, h)) ∧ (∀ ls st h, zz_Y 112 (19, ls, st, h) = zz_Y 112 (20, ls, .int (-1) :: st, h)) ∧ (∀ ls st h, zz_Y 112 (20, ls, st, h) = zz_Y 112 (21, ls, .int (-1) :: st, h)) ∧ (∀ ls a0 a1 a2 a3 s0 s1 s2 h, zz_Y 112 (21, ls, [a3, a2, a1, a0, s0, s1, s2], h) = mo_k 112 24 ls [s0, s1, s2] (zz_run 103 [a0, a1, a2, a3] h)) ∧ (∀ ls a0 a1 a2 a3 h, zz_Y 112 (24, ls, [a3, a2, a1, a0], h) = mo_k 112 27 ls [] (zz_run 71 [a0, a1, a2, a3] h)) ∧ (∀ l0 x st h, zz_nl l0 = true → zz_Y 112 (27, [l0, some (.int x)], st, h) = zz_Y 112 (30, [l0, some (.int (x + nI 1))], st, h)) ∧ (∀ ls st h, zz_Y 112 (30, ls, st, h) = zz_Y 112 (2, ls, st, h)) ∧ (∀ ls h, zz_Y 112 (33, ls, [], h) = some (none, h)) :=
  ⟨fun _ _ _ => xl_ic d112_0 (by decide +kernel),
   fun _ _ _ _ _ hc => xl_isn d112_1 xml112 (by decide) (zz_nl_s1 hc),
   fun _ _ _ => xl_bi d112_3 (by decide +kernel),
   fun _ _ _ _ _ => xl_icge d112_5 rfl,
   fun _ _ _ _ => xl_aln d112_8 rfl,
   fun _ _ _ _ => xl_gf d112_9 xco112 xf_10_46,
   fun _ _ _ => xl_ic d112_12 (by decide +kernel),
   fun _ _ _ _ => xl_iln d112_13 rfl,
   fun _ _ _ _ => xl_aln d112_14 rfl,
   fun _ _ _ _ => xl_gf d112_15 xco112 xf_10_12,
   fun _ _ _ _ => xl_iln d112_18 rfl,
   fun _ _ _ => xl_ic d112_19 (by decide +kernel),
   fun _ _ _ => xl_ic d112_20 (by decide +kernel),
   fun ls a0 a1 a2 a3 s0 s1 s2 h => xl_cv (As := [a0, a1, a2, a3]) (st := [s0, s1, s2]) d112_21 xco112 xm_10_303 (congrArg Nat.succ xnp103) (by decide +kernel) rfl,
   fun ls a0 a1 a2 a3 h => xl_cv (As := [a0, a1, a2, a3]) (st := []) d112_24 xco112 xm_10_342 (congrArg Nat.succ xnp71) (by decide +kernel) rfl,
   fun _ _ _ _ hc => xl_inc d112_27 xml112 (by decide) rfl (by decide +kernel) (zz_nl_s1 hc),
   fun _ _ _ => xl_goto d112_30 rfl,
   fun _ _ => xl_r d112_33 xrt112⟩
theorem x112_c2 : ∀ l0 x st h, zz_Y 112 (2, [l0, some (.int x)], st, h) = zz_Y 112 (3, [l0, some (.int x)], .int x :: st, h) := fun _ _ _ _ => xl_iln d112_2 rfl
/-! 113 FacetSieve.amountLeftWith(I)I -/
theorem d113_0 : decode (zz_c 113) 0 = .ok (.iconst 0, 1) := by decide +kernel
theorem d113_1 : decode (zz_c 113) 1 = .ok (.istore_n 2, 1) := by decide +kernel
theorem d113_2 : decode (zz_c 113) 2 = .ok (.iconst 0, 1) := by decide +kernel
theorem d113_3 : decode (zz_c 113) 3 = .ok (.istore_n 3, 1) := by decide +kernel
theorem d113_4 : decode (zz_c 113) 4 = .ok (.iload_n 3, 1) := by decide +kernel
theorem d113_5 : decode (zz_c 113) 5 = .ok (.bipush 8, 2) := by decide +kernel
theorem d113_7 : decode (zz_c 113) 7 = .ok (.if_icmp .ge 40, 3) := by decide +kernel
theorem d113_10 : decode (zz_c 113) 10 = .ok (.iload_n 2, 1) := by decide +kernel
theorem d113_11 : decode (zz_c 113) 11 = .ok (.aload_n 0, 1) := by decide +kernel
theorem d113_12 : decode (zz_c 113) 12 = .ok (.getfield 46, 3) := by decide +kernel
theorem d113_15 : decode (zz_c 113) 15 = .ok (.iconst 0, 1) := by decide +kernel
theorem d113_16 : decode (zz_c 113) 16 = .ok (.iload_n 3, 1) := by decide +kernel
theorem d113_17 : decode (zz_c 113) 17 = .ok (.invokevirtual 291, 3) := by decide +kernel
theorem d113_20 : decode (zz_c 113) 20 = .ok (.aload_n 0, 1) := by decide +kernel
theorem d113_21 : decode (zz_c 113) 21 = .ok (.getfield 12, 3) := by decide +kernel
theorem d113_24 : decode (zz_c 113) 24 = .ok (.getfield 79, 3) := by decide +kernel
theorem d113_27 : decode (zz_c 113) 27 = .ok (.getfield 102, 3) := by decide +kernel
theorem d113_30 : decode (zz_c 113) 30 = .ok (.iload_n 1, 1) := by decide +kernel
theorem d113_31 : decode (zz_c 113) 31 = .ok (.iload_n 3, 1) := by decide +kernel
theorem d113_32 : decode (zz_c 113) 32 = .ok (.invokevirtual 291, 3) := by decide +kernel
theorem d113_35 : decode (zz_c 113) 35 = .ok (.iand, 1) := by decide +kernel
theorem d113_36 : decode (zz_c 113) 36 = .ok (.invokestatic 239, 3) := by decide +kernel
theorem d113_39 : decode (zz_c 113) 39 = .ok (.iadd, 1) := by decide +kernel
theorem d113_40 : decode (zz_c 113) 40 = .ok (.istore_n 2, 1) := by decide +kernel
theorem d113_41 : decode (zz_c 113) 41 = .ok (.iinc 3 1, 3) := by decide +kernel
theorem d113_44 : decode (zz_c 113) 44 = .ok (.goto (-40), 3) := by decide +kernel
theorem d113_47 : decode (zz_c 113) 47 = .ok (.iload_n 2, 1) := by decide +kernel
theorem d113_48 : decode (zz_c 113) 48 = .ok (.ireturn, 1) := by decide +kernel
theorem x113 : (∀ ls st h, zz_Y 113 (0, ls, st, h) = zz_Y 113 (1, ls, .int (nI 0) :: st, h)) ∧ (∀ l0 l1 l2 l3 x st h, zz_nl l1 = true → zz_Y 113 (1, [l0, l1, l2, l3], .int x :: st, h) = zz_Y 113 (2, [l0, l1, some (.int x), l3], st, h)) ∧ (∀ ls st h, zz_Y 113 (2, ls, st, h) = zz_Y 113 (3, ls, .int (nI 0) :: st, h)) ∧ (∀ l0 l1 l2 l3 x st h, zz_nl l2 = true → zz_Y 113 (3, [l0, l1, l2, l3], .int x :: st, h) = zz_Y 113 (4, [l0, l1, l2, some (.int x)], st, h)) ∧ (∀ ls st h, zz_Y 113 (5, ls, st, h) = zz_Y 113 (7, ls, .int (nI 8) :: st, h)) ∧ (∀ ls a b st h, zz_Y 113 (7, ls, .int b :: .int a :: st, h) = if a < b then zz_Y 113 (10, ls, st, h) else zz_Y 113 (47, ls, st, h)) ∧ (∀ l0 l1 l3 x st h, zz_Y 113 (10, [l0, l1, some (.int x), l3], st, h) = zz_Y 113 (11, [l0, l1, some (.int x), l3], .int x :: st, h)) ∧ (∀ l1 l2 l3 x st h, zz_Y 113 (11, [some (.ref x), l1, l2, l3], st, h) = zz_Y 113 (12, [some (.ref x), l1, l2, l3], .ref x :: st, h)) ∧ (∀ ls a st h, zz_Y 113 (12, ls, .ref a :: st, h) = mo_gf (hp_g h a) 10 5 113 15 ls st h) ∧ (∀ ls st h, zz_Y 113 (15, ls, st, h) = zz_Y 113 (16, ls, .int (nI 0) :: st, h)) ∧ (∀ l0 l1 l2 x st h, zz_Y 113 (16, [l0, l1, l2, some (.int x)], st, h) = zz_Y 113 (17, [l0, l1, l2, some (.int x)], .int x :: st, h)) ∧ (∀ ls a0 a1 a2 s0 h, zz_Y 113 (17, ls, [a2, a1, a0, s0], h) = mo_k 113 20 ls [s0] (zz_run 63 [a0, a1, a2] h)) ∧ (∀ l1 l2 l3 x st h, zz_Y 113 (20, [some (.ref x), l1, l2, l3], st, h) = zz_Y 113 (21, [some (.ref x), l1, l2, l3], .ref x :: st, h)) ∧ (∀ ls a st h, zz_Y 113 (21, ls, .ref a :: st, h) = mo_gf (hp_g h a) 10 0 113 24 ls st h) ∧ (∀ ls a st h, zz_Y 113 (24, ls, .ref a :: st, h) = mo_gf (hp_g h a) 1 1 113 27 ls st h) ∧ (∀ ls a st h, zz_Y 113 (27, ls, .ref a :: st, h) = mo_gf (hp_g h a) 7 3 113 30 ls st h) ∧ (∀ l0 l2 l3 x st h, zz_Y 113 (30, [l0, some (.int x), l2, l3], st, h) = zz_Y 113 (31, [l0, some (.int x), l2, l3], .int x :: st, h)) ∧ (∀ l0 l1 l2 x st h, zz_Y 113 (31, [l0, l1, l2, some (.int x)], st, h) = zz_Y 113 (32, [l0, l1, l2, some (.int x)], .int x :: st, h)) ∧ (∀ ls a0 a1 a2 s0 s1 h, zz_Y 113 (32, ls, [a2, a1, a0, s0, s1], h) = mo_k 113 35 ls [s0, s1] (zz_run 63 [a0, a1, a2] h)) ∧ (∀ ls a b st h, zz_Y 113 (35, ls, .int b :: .int a :: st, h) = zz_Y 113 (36, ls, .int (a &&& b) :: st, h)) ∧ (∀ ls a0 s0 h, zz_Y 113 (36, ls, [a0, s0], h) = mo_k 113 39 ls [s0] (zz_run 64 [a0] h)) ∧ (∀ ls a b st h, zz_Y 113 (39, ls, .int b :: .int a :: st, h) = zz_Y 113 (40, ls, .int (a + b) :: st, h)) ∧ (∀ l0 l1 l2 l3 x st h, zz_nl l1 = true → zz_Y 113 (40, [l0, l1, l2, l3], .int x :: st, h) = zz_Y 113 (41, [l0, l1, some (.int x), l3], st, h)) ∧ (∀ l0 l1 l2 x st h, zz_nl l2 = true → zz_Y 113 (41, [l0, l1, l2, some (.int x)], st, h) = zz_Y 113 (44, [l0, l1, l2, some (.int (x + nI 1))], st, h)) ∧ (∀ ls st h, zz_Y 113 (44, ls, st, h) = zz_Y 113 (4, ls, st, h)) ∧ (∀ l0 l1 l3 x st h, zz_Y 113 (47, [l0, l1, some (.int x), l3], st, h) = zz_Y 113 (48, [l0, l1, some (.int x), l3], .int x :: st, h)) ∧ (∀ ls v h, zz_Y 113 (48, ls, [.int v], h) = some (some (.int v), h)) :=
  ⟨fun _ _ _ => xl_ic d113_0 (by decide +kernel),
   fun _ _ _ _ _ _ _ hc => xl_isn d113_1 xml113 (by decide) (zz_nl_s1 hc),
   fun _ _ _ => xl_ic d113_2 (by decide +kernel),
   fun _ _ _ _ _ _ _ hc => xl_isn d113_3 xml113 (by decide) (zz_nl_s1 hc),
   fun _ _ _ => xl_bi d113_5 (by decide +kernel),
   fun _ _ _ _ _ => xl_icge d113_7 rfl,
   fun _ _ _ _ _ _ => xl_iln d113_10 rfl,
   fun _ _ _ _ _ _ => xl_aln d113_11 rfl,
   fun _ _ _ _ => xl_gf d113_12 xco113 xf_10_46,
   fun _ _ _ => xl_ic d113_15 (by decide +kernel),
   fun _ _ _ _ _ _ => xl_iln d113_16 rfl,
   fun ls a0 a1 a2 s0 h => xl_cv (As := [a0, a1, a2]) (st := [s0]) d113_17 xco113 xm_10_291 (congrArg Nat.succ xnp63) (by decide +kernel) rfl,
   fun _ _ _ _ _ _ => xl_aln d113_20 rfl,
   fun _ _ _ _ => xl_gf d113_21 xco113 xf_10_12,
   fun _ _ _ _ => xl_gf d113_24 xco113 xf_10_79,
   fun _ _ _ _ => xl_gf d113_27 xco113 xf_10_102,
   fun _ _ _ _ _ _ => xl_iln d113_30 rfl,
   fun _ _ _ _ _ _ => xl_iln d113_31 rfl,
   fun ls a0 a1 a2 s0 s1 h => xl_cv (As := [a0, a1, a2]) (st := [s0, s1]) d113_32 xco113 xm_10_291 (congrArg Nat.succ xnp63) (by decide +kernel) rfl,
   fun _ _ _ _ _ => xl_iand d113_35,
   fun ls a0 s0 h => xl_cs (As := [a0]) (st := [s0]) d113_36 xco113 xm_10_239 xnp64 (by decide +kernel) rfl,
   fun _ _ _ _ _ => xl_iadd d113_39,
   fun _ _ _ _ _ _ _ hc => xl_isn d113_40 xml113 (by decide) (zz_nl_s1 hc),
   fun _ _ _ _ _ _ hc => xl_inc d113_41 xml113 (by decide) rfl (by decide +kernel) (zz_nl_s1 hc),
   fun _ _ _ => xl_goto d113_44 rfl,
   fun _ _ _ _ _ _ => xl_iln d113_47 rfl,
   fun _ _ _ => xl_iri d113_48 xrt113⟩
theorem x113_c4 : ∀ l0 l1 l2 x st h, zz_Y 113 (4, [l0, l1, l2, some (.int x)], st, h) = zz_Y 113 (5, [l0, l1, l2, some (.int x)], .int x :: st, h) := fun _ _ _ _ _ _ => xl_iln d113_4 rfl
/-! 114 FacetSieve.idleValues()I -/
theorem d114_0 : decode (zz_c 114) 0 = .ok (.iconst 0, 1) := by decide +kernel
theorem d114_1 : decode (zz_c 114) 1 = .ok (.istore_n 1, 1) := by decide +kernel
theorem d114_2 : decode (zz_c 114) 2 = .ok (.iconst 0, 1) := by decide +kernel
theorem d114_3 : decode (zz_c 114) 3 = .ok (.istore_n 2, 1) := by decide +kernel
theorem d114_4 : decode (zz_c 114) 4 = .ok (.iload_n 2, 1) := by decide +kernel
theorem d114_5 : decode (zz_c 114) 5 = .ok (.aload_n 0, 1) := by decide +kernel
theorem d114_6 : decode (zz_c 114) 6 = .ok (.getfield 12, 3) := by decide +kernel
theorem d114_9 : decode (zz_c 114) 9 = .ok (.getfield 79, 3) := by decide +kernel
theorem d114_12 : decode (zz_c 114) 12 = .ok (.getfield 163, 3) := by decide +kernel
theorem d114_15 : decode (zz_c 114) 15 = .ok (.getfield 221, 3) := by decide +kernel
theorem d114_18 : decode (zz_c 114) 18 = .ok (.if_icmp .ge 44, 3) := by decide +kernel
theorem d114_21 : decode (zz_c 114) 21 = .ok (.aload_n 0, 1) := by decide +kernel
theorem d114_22 : decode (zz_c 114) 22 = .ok (.getfield 12, 3) := by decide +kernel
theorem d114_25 : decode (zz_c 114) 25 = .ok (.getfield 92, 3) := by decide +kernel
theorem d114_28 : decode (zz_c 114) 28 = .ok (.getfield 189, 3) := by decide +kernel
theorem d114_31 : decode (zz_c 114) 31 = .ok (.iload_n 2, 1) := by decide +kernel
theorem d114_32 : decode (zz_c 114) 32 = .ok (.iaload, 1) := by decide +kernel
theorem d114_33 : decode (zz_c 114) 33 = .ok (.ifCond .ne 23, 3) := by decide +kernel
theorem d114_36 : decode (zz_c 114) 36 = .ok (.aload_n 0, 1) := by decide +kernel
theorem d114_37 : decode (zz_c 114) 37 = .ok (.getfield 12, 3) := by decide +kernel
theorem d114_40 : decode (zz_c 114) 40 = .ok (.iconst (-1), 1) := by decide +kernel
theorem d114_41 : decode (zz_c 114) 41 = .ok (.iload_n 2, 1) := by decide +kernel
theorem d114_42 : decode (zz_c 114) 42 = .ok (.bipush 20, 2) := by decide +kernel
theorem d114_44 : decode (zz_c 114) 44 = .ok (.invokevirtual 224, 3) := by decide +kernel
theorem d114_47 : decode (zz_c 114) 47 = .ok (.ifCond .ne 9, 3) := by decide +kernel
theorem d114_50 : decode (zz_c 114) 50 = .ok (.iload_n 1, 1) := by decide +kernel
theorem d114_51 : decode (zz_c 114) 51 = .ok (.iconst 1, 1) := by decide +kernel
theorem d114_52 : decode (zz_c 114) 52 = .ok (.iload_n 2, 1) := by decide +kernel
theorem d114_53 : decode (zz_c 114) 53 = .ok (.ishl, 1) := by decide +kernel
theorem d114_54 : decode (zz_c 114) 54 = .ok (.ior, 1) := by decide +kernel
theorem d114_55 : decode (zz_c 114) 55 = .ok (.istore_n 1, 1) := by decide +kernel
theorem d114_56 : decode (zz_c 114) 56 = .ok (.iinc 2 1, 3) := by decide +kernel
theorem d114_59 : decode (zz_c 114) 59 = .ok (.goto (-55), 3) := by decide +kernel
theorem d114_62 : decode (zz_c 114) 62 = .ok (.iload_n 1, 1) := by decide +kernel
theorem d114_63 : decode (zz_c 114) 63 = .ok (.ireturn, 1) := by decide +kernel
theorem x114 : (∀ ls st h, zz_Y 114 (0, ls, st, h) = zz_Y 114 (1, ls, .int (nI 0) :: st, h)) ∧ (∀ l0 l1 l2 x st h, zz_nl l0 = true → zz_Y 114 (1, [l0, l1, l2], .int x :: st, h) = zz_Y 114 (2, [l0, some (.int x), l2], st, h)) ∧ (∀ ls st h, zz_Y 114 (2, ls, st, h) = zz_Y 114 (3, ls, .int (nI 0) :: st, h)) ∧ (∀ l0 l1 l2 x st h, zz_nl l1 = true → zz_Y 114 (3, [l0, l1, l2], .int x :: st, h) = zz_Y 114 (4, [l0, l1, some (.int x)], st, h)) ∧ (∀ l1 l2 x st h, zz_Y 114 (5, [some (.ref x), l1, l2], st, h) = zz_Y 114 (6, [some (.ref x), l1, l2], .ref x :: st, h)) ∧ (∀ ls a st h, zz_Y 114 (6, ls, .ref a :: st, h) = mo_gf (hp_g h a) 10 0 114 9 ls st h) ∧ (∀ ls a st h, zz_Y 114 (9, ls, .ref a :: st, h) = mo_gf (hp_g h a) 1 1 114 12 ls st h) ∧ (∀ ls a st h, zz_Y 114 (12, ls, .ref a :: st, h) = mo_gf (hp_g h a) 7 0 114 15 ls st h) ∧ (∀ ls a st h, zz_Y 114 (15, ls, .ref a :: st, h) = mo_gf (hp_g h a) 3 5 114 18 ls st h) ∧ (∀ ls a b st h, zz_Y 114 (18, ls, .int b :: .int a :: st, h) = if a < b then zz_Y 114 (21, ls, st, h) else zz_Y 114 (62, ls, st, h)) ∧ (∀ l1 l2 x st h, zz_Y 114 (21, [some (.ref x), l1, l2], st, h) = zz_Y 114 (22, [some (.ref x), l1, l2], .ref x :: st, h)) ∧ (∀ ls a st h, zz_Y 114 (22, ls, .ref a :: st, h) = mo_gf (hp_g h a) 10 0 114 25 ls st h) ∧ (∀ ls a st h, zz_Y 114 (25, ls, .ref a :: st, h) = mo_gf (hp_g h a) 1 2 114 28 ls st h) ∧ (∀ ls a st h, zz_Y 114 (28, ls, .ref a :: st, h) = mo_gf (hp_g h a) 0 0 114 31 ls st h) ∧ (∀ l0 l1 x st h, zz_Y 114 (31, [l0, l1, some (.int x)], st, h) = zz_Y 114 (32, [l0, l1, some (.int x)], .int x :: st, h)) ∧ (∀ ls a i st h, zz_Y 114 (32, ls, .int i :: .ref a :: st, h) = mo_ia (hp_g h a) i a 114 33 ls st h) ∧ (∀ ls a st h, zz_Y 114 (33, ls, .int a :: st, h) = if a = nI 0 then zz_Y 114 (36, ls, st, h) else zz_Y 114 (56, ls, st, h)) ∧ (∀ l1 l2 x st h, zz_Y 114 (36, [some (.ref x), l1, l2], st, h) = zz_Y 114 (37, [some (.ref x), l1, l2], .ref x :: st, h)) ∧ (∀ ls a st h, zz_Y 114 (37, ls, .ref a :: st, h) = mo_gf (hp_g h a) 10 0 114 40 ls st h) ∧ (∀ ls st h, zz_Y 114 (40, ls, st, h) = zz_Y 114 (41, ls, .int (-1) :: st, h)) ∧ (∀ l0 l1 x st h, zz_Y 114 (41, [l0, l1, some (.int x)], st, h) = zz_Y 114 (42, [l0, l1, some (.int x)], .int x :: st, h)) ∧ (∀ ls st h, zz_Y 114 (42, ls, st, h) = zz_Y 114 (44, ls, .int (nI 20) :: st, h)) ∧ (∀ ls a0 a1 a2 a3 h, zz_Y 114 (44, ls, [a3, a2, a1, a0], h) = mo_k 114 47 ls [] (zz_run 102 [a0, a1, a2, a3] h)) ∧ (∀ ls a st h, zz_Y 114 (47, ls, .int a :: st, h) = if a = nI 0 then zz_Y 114 (50, ls, st, h) else zz_Y 114 (56, ls, st, h)) ∧ (∀ l0 l2 x st h, zz_Y 114 (50, [l0, some (.int x), l2], st, h) = zz_Y 114 (51, [l0, some (.int x), l2], .int x :: st, h)) ∧ (∀ ls st h, zz_Y 114 (51, ls, st, h) = zz_Y 114 (52, ls, .int (nI 1) :: st, h)) ∧ (∀ l0 l1 x st h, zz_Y 114 (52, [l0, l1, some (.int x)], st, h) = zz_Y 114 (53, [l0, l1, some (.int x)], .int x :: st, h)) ∧ (∀ ls a b st h, zz_Y 114 (53, ls, .int b :: .int a :: st, h) = zz_Y 114 (54, ls, .int (a <<< (b &&& 31)) :: st, h)) ∧ (∀ ls a b st h, zz_Y 114 (54, ls, .int b :: .int a :: st, h) = zz_Y 114 (55, ls, .int (a ||| b) :: st, h)) ∧ (∀ l0 l1 l2 x st h, zz_nl l0 = true → zz_Y 114 (55, [l0, l1, l2], .int x :: st, h) = zz_Y 114 (56, [l0, some (.int x), l2], st, h)) ∧ (∀ l0 l1 x st h, zz_nl l1 = true → zz_Y 114 (56, [l0, l1, some (.int x)], st, h) = zz_Y 114 (59, [l0, l1, some (.int (x + nI 1))], st, h)) ∧ (∀ ls st h, zz_Y 114 (59, ls, st, h) = zz_Y 114 (4, ls, st, h)) ∧ (∀ l0 l2 x st h, zz_Y 114 (62, [l0, some (.int x), l2], st, h) = zz_Y 114 (63, [l0, some (.int x), l2], .int x :: st, h)) ∧ (∀ ls v h, zz_Y 114 (63, ls, [.int v], h) = some (some (.int v), h)) :=
  ⟨fun _ _ _ => xl_ic d114_0 (by decide +kernel),
   fun _ _ _ _ _ _ hc => xl_isn d114_1 xml114 (by decide) (zz_nl_s1 hc),
   fun _ _ _ => xl_ic d114_2 (by decide +kernel),
   fun _ _ _ _ _ _ hc => xl_isn d114_3 xml114 (by decide) (zz_nl_s1 hc),
   fun _ _ _ _ _ => xl_aln d114_5 rfl,
   fun _ _ _ _ => xl_gf d114_6 xco114 xf_10_12,
   fun _ _ _ _ => xl_gf d114_9 xco114 xf_10_79,
   fun _ _ _ _ => xl_gf d114_12 xco114 xf_10_163,
   fun _ _ _ _ => xl_gf d114_15 xco114 xf_10_221,
   fun _ _ _ _ _ => xl_icge d114_18 rfl,
   fun _ _ _ _ _ => xl_aln d114_21 rfl,
   fun _ _ _ _ => xl_gf d114_22 xco114 xf_10_12,
   fun _ _ _ _ => xl_gf d114_25 xco114 xf_10_92,
   fun _ _ _ _ => xl_gf d114_28 xco114 xf_10_189,
   fun _ _ _ _ _ => xl_iln d114_31 rfl,
   fun _ _ _ _ _ => xl_ia d114_32,
   fun _ _ _ _ => xl_ifne d114_33 rfl,
   fun _ _ _ _ _ => xl_aln d114_36 rfl,
   fun _ _ _ _ => xl_gf d114_37 xco114 xf_10_12,
   fun _ _ _ => xl_ic d114_40 (by decide +kernel),
   fun _ _ _ _ _ => xl_iln d114_41 rfl,
   fun _ _ _ => xl_bi d114_42 (by decide +kernel),
   fun ls a0 a1 a2 a3 h => xl_cv (As := [a0, a1, a2, a3]) (st := []) d114_44 xco114 xm_10_224 (congrArg Nat.succ xnp102) (by decide +kernel) rfl,
   fun _ _ _ _ => xl_ifne d114_47 rfl,
   fun _ _ _ _ _ => xl_iln d114_50 rfl,
   fun _ _ _ => xl_ic d114_51 (by decide +kernel),
   fun _ _ _ _ _ => xl_iln d114_52 rfl,
   fun _ _ _ _ _ => xl_ishl d114_53,
   fun _ _ _ _ _ => xl_ior d114_54,
   fun _ _ _ _ _ _ hc => xl_isn d114_55 xml114 (by decide) (zz_nl_s1 hc),
   fun _ _ _ _ _ hc => xl_inc d114_56 xml114 (by decide) rfl (by decide +kernel) (zz_nl_s1 hc),
   fun _ _ _ => xl_goto d114_59 rfl,
   fun _ _ _ _ _ => xl_iln d114_62 rfl,
   fun _ _ _ => xl_iri d114_63 xrt114⟩
theorem x114_c4 : ∀ l0 l1 x st h, zz_Y 114 (4, [l0, l1, some (.int x)], st, h) = zz_Y 114 (5, [l0, l1, some (.int x)], .int x :: st, h) := fun _ _ _ _ _ => xl_iln d114_4 rfl
/-! 115 FacetSieve.partingValue()I -/
theorem d115_0 : decode (zz_c 115) 0 = .ok (.aload_n 0, 1) := by decide +kernel
theorem d115_1 : decode (zz_c 115) 1 = .ok (.invokevirtual 312, 3) := by decide +kernel
theorem d115_4 : decode (zz_c 115) 4 = .ok (.aload_n 0, 1) := by decide +kernel
theorem d115_5 : decode (zz_c 115) 5 = .ok (.getfield 46, 3) := by decide +kernel
theorem d115_8 : decode (zz_c 115) 8 = .ok (.iconst 0, 1) := by decide +kernel
theorem d115_9 : decode (zz_c 115) 9 = .ok (.invokevirtual 105, 3) := by decide +kernel
theorem d115_12 : decode (zz_c 115) 12 = .ok (.istore_n 1, 1) := by decide +kernel
theorem d115_13 : decode (zz_c 115) 13 = .ok (.iconst (-1), 1) := by decide +kernel
theorem d115_14 : decode (zz_c 115) 14 = .ok (.istore_n 2, 1) := by decide +kernel
theorem d115_15 : decode (zz_c 115) 15 = .ok (.iload_n 1, 1) := by decide +kernel
theorem d115_16 : decode (zz_c 115) 16 = .ok (.iconst 1, 1) := by decide +kernel
theorem d115_17 : decode (zz_c 115) 17 = .ok (.iadd, 1) := by decide +kernel
theorem d115_18 : decode (zz_c 115) 18 = .ok (.istore_n 3, 1) := by decide +kernel
theorem d115_19 : decode (zz_c 115) 19 = .ok (.iconst 0, 1) := by decide +kernel
theorem d115_20 : decode (zz_c 115) 20 = .ok (.istore 4, 2) := by decide +kernel
theorem d115_22 : decode (zz_c 115) 22 = .ok (.iload_n 1, 1) := by decide +kernel
theorem d115_23 : decode (zz_c 115) 23 = .ok (.ifCond .le 74, 3) := by decide +kernel
theorem d115_26 : decode (zz_c 115) 26 = .ok (.iload 4, 2) := by decide +kernel
theorem d115_28 : decode (zz_c 115) 28 = .ok (.aload_n 0, 1) := by decide +kernel
theorem d115_29 : decode (zz_c 115) 29 = .ok (.getfield 12, 3) := by decide +kernel
theorem d115_32 : decode (zz_c 115) 32 = .ok (.getfield 79, 3) := by decide +kernel
theorem d115_35 : decode (zz_c 115) 35 = .ok (.getfield 163, 3) := by decide +kernel
theorem d115_38 : decode (zz_c 115) 38 = .ok (.getfield 221, 3) := by decide +kernel
theorem d115_41 : decode (zz_c 115) 41 = .ok (.if_icmp .ge 56, 3) := by decide +kernel
theorem d115_44 : decode (zz_c 115) 44 = .ok (.aload_n 0, 1) := by decide +kernel
theorem d115_45 : decode (zz_c 115) 45 = .ok (.getfield 12, 3) := by decide +kernel
theorem d115_48 : decode (zz_c 115) 48 = .ok (.getfield 92, 3) := by decide +kernel
theorem d115_51 : decode (zz_c 115) 51 = .ok (.getfield 189, 3) := by decide +kernel
theorem d115_54 : decode (zz_c 115) 54 = .ok (.iload 4, 2) := by decide +kernel
theorem d115_56 : decode (zz_c 115) 56 = .ok (.iaload, 1) := by decide +kernel
theorem d115_57 : decode (zz_c 115) 57 = .ok (.ifCond .ne 34, 3) := by decide +kernel
theorem d115_60 : decode (zz_c 115) 60 = .ok (.aload_n 0, 1) := by decide +kernel
theorem d115_61 : decode (zz_c 115) 61 = .ok (.iload 4, 2) := by decide +kernel
theorem d115_63 : decode (zz_c 115) 63 = .ok (.invokevirtual 345, 3) := by decide +kernel
theorem d115_66 : decode (zz_c 115) 66 = .ok (.istore 5, 2) := by decide +kernel
theorem d115_68 : decode (zz_c 115) 68 = .ok (.iload 5, 2) := by decide +kernel
theorem d115_70 : decode (zz_c 115) 70 = .ok (.iload_n 1, 1) := by decide +kernel
theorem d115_71 : decode (zz_c 115) 71 = .ok (.iload 5, 2) := by decide +kernel
theorem d115_73 : decode (zz_c 115) 73 = .ok (.isub, 1) := by decide +kernel
theorem d115_74 : decode (zz_c 115) 74 = .ok (.invokestatic 348, 3) := by decide +kernel
theorem d115_77 : decode (zz_c 115) 77 = .ok (.istore 6, 2) := by decide +kernel
theorem d115_79 : decode (zz_c 115) 79 = .ok (.iload 6, 2) := by decide +kernel
theorem d115_81 : decode (zz_c 115) 81 = .ok (.iload_n 3, 1) := by decide +kernel
theorem d115_82 : decode (zz_c 115) 82 = .ok (.if_icmp .ge 9, 3) := by decide +kernel
theorem d115_85 : decode (zz_c 115) 85 = .ok (.iload 6, 2) := by decide +kernel
theorem d115_87 : decode (zz_c 115) 87 = .ok (.istore_n 3, 1) := by decide +kernel
theorem d115_88 : decode (zz_c 115) 88 = .ok (.iload 4, 2) := by decide +kernel
theorem d115_90 : decode (zz_c 115) 90 = .ok (.istore_n 2, 1) := by decide +kernel
theorem d115_91 : decode (zz_c 115) 91 = .ok (.iinc 4 1, 3) := by decide +kernel
theorem d115_94 : decode (zz_c 115) 94 = .ok (.goto (-72), 3) := by decide +kernel
theorem d115_97 : decode (zz_c 115) 97 = .ok (.iload_n 2, 1) := by decide +kernel
theorem d115_98 : decode (zz_c 115) 98 = .ok (.ireturn, 1) := by decide +kernel
theorem x115 : (∀ l1 l2 l3 l4 l5 l6 x st h, zz_Y 115 (0, [some (.ref x), l1, l2, l3, l4, l5, l6], st, h) = zz_Y 115 (1, [some (.ref x), l1, l2, l3, l4, l5, l6], .ref x :: st, h)) ∧ (∀ ls a0 h, zz_Y 115 (1, ls, [a0], h) = mo_k 115 4 ls [] (zz_run 112 [a0] h)) ∧ (∀ l1 l2 l3 l4 l5 l6 x st h, zz_Y 115 (4, [some (.ref x), l1, l2, l3, l4, l5, l6], st, h) = zz_Y 115 (5, [some (.ref x), l1, l2, l3, l4, l5, l6], .ref x :: st, h)) ∧ (∀ ls a st h, zz_Y 115 (5, ls, .ref a :: st, h) = mo_gf (hp_g h a) 10 5 115 8 ls st h) ∧ (∀ ls st h, zz_Y 115 (8, ls, st, h) = zz_Y 115 (9, ls, .int (nI 0) :: st, h)) ∧ (∀ ls a0 a1 h, zz_Y 115 (9, ls, [a1, a0], h) = mo_k 115 12 ls [] (zz_run 62 [a0, a1] h)) ∧ (∀ l0 l1 l2 l3 l4 l5 l6 x st h, zz_nl l0 = true → zz_Y 115 (12, [l0, l1, l2, l3, l4, l5, l6], .int x :: st, h) = zz_Y 115 (13, [l0, some (.int x), l2, l3, l4, l5, l6], st, h)) ∧ (∀ ls st h, zz_Y 115 (13, ls, st, h) = zz_Y 115 (14, ls, .int (-1) :: st, h)) ∧ (∀ l0 l1 l2 l3 l4 l5 l6 x st h, zz_nl l1 = true → zz_Y 115 (14, [l0, l1, l2, l3, l4, l5, l6], .int x :: st, h) = zz_Y 115 (15, [l0, l1, some (.int x), l3, l4, l5, l6], st, h)) ∧ (∀ l0 l2 l3 l4 l5 l6 x st h, zz_Y 115 (15, [l0, some (.int x), l2, l3, l4, l5, l6], st, h) = zz_Y 115 (16, [l0, some (.int x), l2, l3, l4, l5, l6], .int x :: st, h)) ∧ (∀ ls st h, zz_Y 115 (16, ls, st, h) = zz_Y 115 (17, ls, .int (nI 1) :: st, h)) ∧ (∀ ls a b st h, zz_Y 115 (17, ls, .int b :: .int a :: st, h) = zz_Y 115 (18, ls, .int (a + b) :: st, h)) ∧ (∀ l0 l1 l2 l3 l4 l5 l6 x st h, zz_nl l2 = true → zz_Y 115 (18, [l0, l1, l2, l3, l4, l5, l6], .int x :: st, h) = zz_Y 115 (19, [l0, l1, l2, some (.int x), l4, l5, l6], st, h)) ∧ (∀ ls st h, zz_Y 115 (19, ls, st, h) = zz_Y 115 (20, ls, .int (nI 0) :: st, h)) ∧ (∀ l0 l1 l2 l3 l4 l5 l6 x st h, zz_nl l3 = true → zz_Y 115 (20, [l0, l1, l2, l3, l4, l5, l6], .int x :: st, h) = zz_Y 115 (22, [l0, l1, l2, l3, some (.int x), l5, l6], st, h)) ∧ (∀ ls a st h, zz_Y 115 (23, ls, .int a :: st, h) = if nI 0 < a then zz_Y 115 (26, ls, st, h) else zz_Y 115 (97, ls, st, h)) ∧ (∀ l0 l1 l2 l3 l5 l6 x st h, zz_Y 115 (26, [l0, l1, l2, l3, some (.int x), l5, l6], st, h) = zz_Y 115 (28, [l0, l1, l2, l3, some (.int x), l5, l6], .int x :: st, h)) ∧ (∀ l1 l2 l3 l4 l5 l6 x st h, zz_Y 115 (28, [some (.ref x), l1, l2, l3, l4, l5, l6], st, h) = zz_Y 115 (29, [some (.ref x), l1, l2, l3, l4, l5, l6], .ref x :: st, h)) ∧ (∀ ls a st h, zz_Y 115 (29, ls, .ref a :: st, h) = mo_gf (hp_g h a) 10 0 115 32 ls st h) ∧ (∀ ls a st h, zz_Y 115 (32, ls, .ref a :: st, h) = mo_gf (hp_g h a) 1 1 115 35 ls st h) ∧ (∀ ls a st h, zz_Y 115 (35, ls, .ref a :: st, h) = mo_gf (hp_g h a) 7 0 115 38 ls st h) ∧ (∀ ls a st h, zz_Y 115 (38, ls, .ref a :: st, h) = mo_gf (hp_g h a) 3 5 115 41 ls st h) ∧ (∀ ls a b st h, zz_Y 115 (41, ls, .int b :: .int a :: st, h) = if a < b then zz_Y 115 (44, ls, st, h) else zz_Y 115 (97, ls, st, h)) ∧ (∀ l1 l2 l3 l4 l5 l6 x st h, zz_Y 115 (44, [some (.ref x), l1, l2, l3, l4, l5, l6], st, h) = zz_Y 115 (45, [some (.ref x), l1, l2, l3, l4, l5, l6], .ref x :: st, h)) ∧ (∀ ls a st h, zz_Y 115 (45, ls, .ref a :: st, h) = mo_gf (hp_g h a) 10 0 115 48 ls st h) ∧ (∀ ls a st h, zz_Y 115 (48, ls, .ref a :: st, h) = mo_gf (hp_g h a) 1 2 115 51 ls st h) ∧ (∀ ls a st h, zz_Y 115 (51, ls, .ref a :: st, h) = mo_gf (hp_g h a) 0 0 115 54 ls st h) ∧ (∀ l0 l1 l2 l3 l5 l6 x st h, zz_Y 115 (54, [l0, l1, l2, l3, some (.int x), l5, l6], st, h) = zz_Y 115 (56, [l0, l1, l2, l3, some (.int x), l5, l6], .int x :: st, h)) ∧ (∀ ls a i st h, zz_Y 115 (56, ls, .int i :: .ref a :: st, h) = mo_ia (hp_g h a) i a 115 57 ls st h) ∧ (∀ ls a st h, zz_Y 115 (57, ls, .int a :: st, h) = if a = nI 0 then zz_Y 115 (60, ls, st, h) else zz_Y 115 (91, ls, st, h)) ∧ (∀ l1 l2 l3 l4 l5 l6 x st h, zz_Y 115 (60, [some (.ref x), l1, l2, l3, l4, l5, l6], st, h) = zz_Y 115 (61, [some (.ref x), l1, l2, l3, l4, l5, l6], .ref x :: st, h)) ∧ (∀ l0 l1 l2 l3 l5 l6 x st h, zz_Y 115 (61, [l0, l1, l2, l3, some (.int x), l5, l6], st, h) = zz_Y 115 (63, [l0, l1, l2, l3, some (.int x), l5, l6], .int x :: st, h)) ∧ (∀ ls a0 a1 h, zz_Y 115 (63, ls, [a1, a0], h) = mo_k 115 66 ls [] (zz_run 113 [a0, a1] h)) ∧ (∀ l0 l1 l2 l3 l4 l5 l6 x st h, zz_nl l4 = true → zz_Y 115 (66, [l0, l1, l2, l3, l4, l5, l6], .int x :: st, h) = zz_Y 115 (68, [l0, l1, l2, l3, l4, some (.int x), l6], st, h)) ∧ (∀ l0 l1 l2 l3 l4 l6 x st h, zz_Y 115 (68, [l0, l1, l2, l3, l4, some (.int x), l6], st, h) = zz_Y 115 (70, [l0, l1, l2, l3, l4, some (.int x), l6], .int x :: st, h)) ∧ (∀ l0 l2 l3 l4 l5 l6 x st h, zz_Y 115 (70, [l0, some (.int x), l2, l3, l4, l5, l6], st, h) = zz_Y 115 (71, [l0, some (.int x), l2, l3, l4, l5, l6], .int x :: st, h)) ∧ (∀ l0 l1 l2 l3 l4 l6 x st h, zz_Y 115 (71, [l0, l1, l2, l3, l4, some (.int x), l6], st, h) = zz_Y 115 (73, [l0, l1, l2, l3, l4, some (.int x), l6], .int x :: st, h)) ∧ (∀ ls a b st h, zz_Y 115 (73, ls, .int b :: .int a :: st, h) = zz_Y 115 (74, ls, .int (a - b) :: st, h)) ∧ (∀ ls a b h, zz_Y 115 (74, ls, [.int b, .int a], h) = zz_Y 115 (77, ls, [.int (if a < b then b else a)], h)) ∧ (∀ l0 l1 l2 l3 l4 l5 l6 x st h, zz_nl l5 = true → zz_Y 115 (77, [l0, l1, l2, l3, l4, l5, l6], .int x :: st, h) = zz_Y 115 (79, [l0, l1, l2, l3, l4, l5, some (.int x)], st, h)) ∧ (∀ l0 l1 l2 l3 l4 l5 x st h, zz_Y 115 (79, [l0, l1, l2, l3, l4, l5, some (.int x)], st, h) = zz_Y 115 (81, [l0, l1, l2, l3, l4, l5, some (.int x)], .int x :: st, h)) ∧ (∀ l0 l1 l2 l4 l5 l6 x st h, zz_Y 115 (81, [l0, l1, l2, some (.int x), l4, l5, l6], st, h) = zz_Y 115 (82, [l0, l1, l2, some (.int x), l4, l5, l6], .int x :: st, h)) ∧ (∀ ls a b st h, zz_Y 115 (82, ls, .int b :: .int a :: st, h) = if a < b then zz_Y 115 (85, ls, st, h) else zz_Y 115 (91, ls, st, h)) ∧ (∀ l0 l1 l2 l3 l4 l5 x st h, zz_Y 115 (85, [l0, l1, l2, l3, l4, l5, some (.int x)], st, h) = zz_Y 115 (87, [l0, l1, l2, l3, l4, l5, some (.int x)], .int x :: st, h)) ∧ (∀ l0 l1 l2 l3 l4 l5 l6 x st h, zz_nl l2 = true → zz_Y 115 (87, [l0, l1, l2, l3, l4, l5, l6], .int x :: st, h) = zz_Y 115 (88, [l0, l1, l2, some (.int x), l4, l5, l6], st, h)) ∧ (∀ l0 l1 l2 l3 l5 l6 x st h, zz_Y 115 (88, [l0, l1, l2, l3, some (.int x), l5, l6], st, h) = zz_Y 115 (90, [l0, l1, l2, l3, some (.int x), l5, l6], .int x :: st, h)) ∧ (∀ l0 l1 l2 l3 l4 l5 l6 x st h, zz_nl l1 = true → zz_Y 115 (90, [l0, l1, l2, l3, l4, l5, l6], .int x :: st, h) = zz_Y 115 (91, [l0, l1, some (.int x), l3, l4, l5, l6], st, h)) ∧ (∀ l0 l1 l2 l3 l5 l6 x st h, zz_nl l3 = true → zz_Y 115 (91, [l0, l1, l2, l3, some (.int x), l5, l6], st, h) = zz_Y 115 (94, [l0, l1, l2, l3, some (.int (x + nI 1)), l5, l6], st, h)) ∧ (∀ ls st h, zz_Y 115 (94, ls, st, h) = zz_Y 115 (22, ls, st, h)) ∧ (∀ l0 l1 l3 l4 l5 l6 x st h, zz_Y 115 (97, [l0, l1, some (.int x), l3, l4, l5, l6], st, h) = zz_Y 115 (98, [l0, l1, some (.int x), l3, l4, l5, l6], .int x :: st, h)) ∧ (∀ ls v h, zz_Y 115 (98, ls, [.int v], h) = some (some (.int v), h)) :=
  ⟨fun _ _ _ _ _ _ _ _ _ => xl_aln d115_0 rfl,
   fun ls a0 h => xl_cv (As := [a0]) (st := []) d115_1 xco115 xm_10_312 (congrArg Nat.succ xnp112) (by decide +kernel) rfl,
   fun _ _ _ _ _ _ _ _ _ => xl_aln d115_4 rfl,
   fun _ _ _ _ => xl_gf d115_5 xco115 xf_10_46,
   fun _ _ _ => xl_ic d115_8 (by decide +kernel),
   fun ls a0 a1 h => xl_cv (As := [a0, a1]) (st := []) d115_9 xco115 xm_10_105 (congrArg Nat.succ xnp62) (by decide +kernel) rfl,
   fun _ _ _ _ _ _ _ _ _ _ hc => xl_isn d115_12 xml115 (by decide) (zz_nl_s1 hc),
   fun _ _ _ => xl_ic d115_13 (by decide +kernel),
   fun _ _ _ _ _ _ _ _ _ _ hc => xl_isn d115_14 xml115 (by decide) (zz_nl_s1 hc),
   fun _ _ _ _ _ _ _ _ _ => xl_iln d115_15 rfl,
   fun _ _ _ => xl_ic d115_16 (by decide +kernel),
   fun _ _ _ _ _ => xl_iadd d115_17,
   fun _ _ _ _ _ _ _ _ _ _ hc => xl_isn d115_18 xml115 (by decide) (zz_nl_s1 hc),
   fun _ _ _ => xl_ic d115_19 (by decide +kernel),
   fun _ _ _ _ _ _ _ _ _ _ hc => xl_is d115_20 xml115 (by decide) (zz_nl_s1 hc),
   fun _ _ _ _ => xl_ifle d115_23 rfl,
   fun _ _ _ _ _ _ _ _ _ => xl_il d115_26 rfl,
   fun _ _ _ _ _ _ _ _ _ => xl_aln d115_28 rfl,
   fun _ _ _ _ => xl_gf d115_29 xco115 xf_10_12,
   fun _ _ _ _ => xl_gf d115_32 xco115 xf_10_79,
   fun _ _ _ _ => xl_gf d115_35 xco115 xf_10_163,
   fun _ _ _ _ => xl_gf d115_38 xco115 xf_10_221,
   fun _ _ _ _ _ => xl_icge d115_41 rfl,
   fun _ _ _ _ _ _ _ _ _ => xl_aln d115_44 rfl,
   fun _ _ _ _ => xl_gf d115_45 xco115 xf_10_12,
   fun _ _ _ _ => xl_gf d115_48 xco115 xf_10_92,
   fun _ _ _ _ => xl_gf d115_51 xco115 xf_10_189,
   fun _ _ _ _ _ _ _ _ _ => xl_il d115_54 rfl,
   fun _ _ _ _ _ => xl_ia d115_56,
   fun _ _ _ _ => xl_ifne d115_57 rfl,
   fun _ _ _ _ _ _ _ _ _ => xl_aln d115_60 rfl,
   fun _ _ _ _ _ _ _ _ _ => xl_il d115_61 rfl,
   fun ls a0 a1 h => xl_cv (As := [a0, a1]) (st := []) d115_63 xco115 xm_10_345 (congrArg Nat.succ xnp113) (by decide +kernel) rfl,
   fun _ _ _ _ _ _ _ _ _ _ hc => xl_is d115_66 xml115 (by decide) (zz_nl_s1 hc),
   fun _ _ _ _ _ _ _ _ _ => xl_il d115_68 rfl,
   fun _ _ _ _ _ _ _ _ _ => xl_iln d115_70 rfl,
   fun _ _ _ _ _ _ _ _ _ => xl_il d115_71 rfl,
   fun _ _ _ _ _ => xl_isub d115_73,
   fun _ _ _ _ => xl_mx d115_74 xco115 xm_10_348 (by decide +kernel) (by decide +kernel) rfl,
   fun _ _ _ _ _ _ _ _ _ _ hc => xl_is d115_77 xml115 (by decide) (zz_nl_s1 hc),
   fun _ _ _ _ _ _ _ _ _ => xl_il d115_79 rfl,
   fun _ _ _ _ _ _ _ _ _ => xl_iln d115_81 rfl,
   fun _ _ _ _ _ => xl_icge d115_82 rfl,
   fun _ _ _ _ _ _ _ _ _ => xl_il d115_85 rfl,
   fun _ _ _ _ _ _ _ _ _ _ hc => xl_isn d115_87 xml115 (by decide) (zz_nl_s1 hc),
   fun _ _ _ _ _ _ _ _ _ => xl_il d115_88 rfl,
   fun _ _ _ _ _ _ _ _ _ _ hc => xl_isn d115_90 xml115 (by decide) (zz_nl_s1 hc),
   fun _ _ _ _ _ _ _ _ _ hc => xl_inc d115_91 xml115 (by decide) rfl (by decide +kernel) (zz_nl_s1 hc),
   fun _ _ _ => xl_goto d115_94 rfl,
   fun _ _ _ _ _ _ _ _ _ => xl_iln d115_97 rfl,
   fun _ _ _ => xl_iri d115_98 xrt115⟩
theorem x115_c22 : ∀ l0 l2 l3 l4 l5 l6 x st h, zz_Y 115 (22, [l0, some (.int x), l2, l3, l4, l5, l6], st, h) = zz_Y 115 (23, [l0, some (.int x), l2, l3, l4, l5, l6], .int x :: st, h) := fun _ _ _ _ _ _ _ _ _ => xl_iln d115_22 rfl
/-! 116 FacetSieve.head(II)I -/
theorem d116_0 : decode (zz_c 116) 0 = .ok (.aload_n 0, 1) := by decide +kernel
theorem d116_1 : decode (zz_c 116) 1 = .ok (.getfield 12, 3) := by decide +kernel
theorem d116_4 : decode (zz_c 116) 4 = .ok (.getfield 79, 3) := by decide +kernel
theorem d116_7 : decode (zz_c 116) 7 = .ok (.getfield 163, 3) := by decide +kernel
theorem d116_10 : decode (zz_c 116) 10 = .ok (.astore_n 3, 1) := by decide +kernel
theorem d116_11 : decode (zz_c 116) 11 = .ok (.aload_n 3, 1) := by decide +kernel
theorem d116_12 : decode (zz_c 116) 12 = .ok (.iload_n 1, 1) := by decide +kernel
theorem d116_13 : decode (zz_c 116) 13 = .ok (.invokevirtual 200, 3) := by decide +kernel
theorem d116_16 : decode (zz_c 116) 16 = .ok (.ifCond .ne 5, 3) := by decide +kernel
theorem d116_19 : decode (zz_c 116) 19 = .ok (.iconst (-1), 1) := by decide +kernel
theorem d116_20 : decode (zz_c 116) 20 = .ok (.ireturn, 1) := by decide +kernel
theorem d116_21 : decode (zz_c 116) 21 = .ok (.iload_n 2, 1) := by decide +kernel
theorem d116_22 : decode (zz_c 116) 22 = .ok (.tableswitch 70 0 3 #[30, 37, 44, 57], 30) := by decide +kernel
theorem d116_52 : decode (zz_c 116) 52 = .ok (.aload_n 3, 1) := by decide +kernel
theorem d116_53 : decode (zz_c 116) 53 = .ok (.getfield 250, 3) := by decide +kernel
theorem d116_56 : decode (zz_c 116) 56 = .ok (.iload_n 1, 1) := by decide +kernel
theorem d116_57 : decode (zz_c 116) 57 = .ok (.iaload, 1) := by decide +kernel
theorem d116_58 : decode (zz_c 116) 58 = .ok (.ireturn, 1) := by decide +kernel
theorem d116_59 : decode (zz_c 116) 59 = .ok (.aload_n 3, 1) := by decide +kernel
theorem d116_60 : decode (zz_c 116) 60 = .ok (.getfield 253, 3) := by decide +kernel
theorem d116_63 : decode (zz_c 116) 63 = .ok (.iload_n 1, 1) := by decide +kernel
theorem d116_64 : decode (zz_c 116) 64 = .ok (.iaload, 1) := by decide +kernel
theorem d116_65 : decode (zz_c 116) 65 = .ok (.ireturn, 1) := by decide +kernel
theorem d116_66 : decode (zz_c 116) 66 = .ok (.aload_n 0, 1) := by decide +kernel
theorem d116_67 : decode (zz_c 116) 67 = .ok (.getfield 12, 3) := by decide +kernel
theorem d116_70 : decode (zz_c 116) 70 = .ok (.getfield 92, 3) := by decide +kernel
theorem d116_73 : decode (zz_c 116) 73 = .ok (.getfield 203, 3) := by decide +kernel
theorem d116_76 : decode (zz_c 116) 76 = .ok (.iload_n 1, 1) := by decide +kernel
theorem d116_77 : decode (zz_c 116) 77 = .ok (.iaload, 1) := by decide +kernel
theorem d116_78 : decode (zz_c 116) 78 = .ok (.ireturn, 1) := by decide +kernel
theorem d116_79 : decode (zz_c 116) 79 = .ok (.aload_n 0, 1) := by decide +kernel
theorem d116_80 : decode (zz_c 116) 80 = .ok (.getfield 12, 3) := by decide +kernel
theorem d116_83 : decode (zz_c 116) 83 = .ok (.getfield 92, 3) := by decide +kernel
theorem d116_86 : decode (zz_c 116) 86 = .ok (.aload_n 3, 1) := by decide +kernel
theorem d116_87 : decode (zz_c 116) 87 = .ok (.iload_n 1, 1) := by decide +kernel
theorem d116_88 : decode (zz_c 116) 88 = .ok (.invokevirtual 256, 3) := by decide +kernel
theorem d116_91 : decode (zz_c 116) 91 = .ok (.ireturn, 1) := by decide +kernel
theorem d116_92 : decode (zz_c 116) 92 = .ok (.aload_n 3, 1) := by decide +kernel
theorem d116_93 : decode (zz_c 116) 93 = .ok (.getfield 260, 3) := by decide +kernel
theorem d116_96 : decode (zz_c 116) 96 = .ok (.iload_n 1, 1) := by decide +kernel
theorem d116_97 : decode (zz_c 116) 97 = .ok (.laload, 1) := by decide +kernel
theorem d116_98 : decode (zz_c 116) 98 = .ok (.iload_n 2, 1) := by decide +kernel
theorem d116_99 : decode (zz_c 116) 99 = .ok (.invokestatic 264, 3) := by decide +kernel
theorem d116_102 : decode (zz_c 116) 102 = .ok (.ireturn, 1) := by decide +kernel
theorem x116 : (∀ l1 l2 l3 x st h, zz_Y 116 (0, [some (.ref x), l1, l2, l3], st, h) = zz_Y 116 (1, [some (.ref x), l1, l2, l3], .ref x :: st, h)) ∧ (∀ ls a st h, zz_Y 116 (1, ls, .ref a :: st, h) = mo_gf (hp_g h a) 10 0 116 4 ls st h) ∧ (∀ ls a st h, zz_Y 116 (4, ls, .ref a :: st, h) = mo_gf (hp_g h a) 1 1 116 7 ls st h) ∧ (∀ ls a st h, zz_Y 116 (7, ls, .ref a :: st, h) = mo_gf (hp_g h a) 7 0 116 10 ls st h) ∧ (∀ l0 l1 l2 l3 x st h, zz_nl l2 = true → zz_Y 116 (10, [l0, l1, l2, l3], .ref x :: st, h) = zz_Y 116 (11, [l0, l1, l2, some (.ref x)], st, h)) ∧ (∀ l0 l1 l2 x st h, zz_Y 116 (11, [l0, l1, l2, some (.ref x)], st, h) = zz_Y 116 (12, [l0, l1, l2, some (.ref x)], .ref x :: st, h)) ∧ (∀ l0 l2 l3 x st h, zz_Y 116 (12, [l0, some (.int x), l2, l3], st, h) = zz_Y 116 (13, [l0, some (.int x), l2, l3], .int x :: st, h)) ∧ (∀ ls a0 a1 h, zz_Y 116 (13, ls, [a1, a0], h) = mo_k 116 16 ls [] (zz_run 97 [a0, a1] h)) ∧ (∀ ls a st h, zz_Y 116 (16, ls, .int a :: st, h) = if a = nI 0 then zz_Y 116 (19, ls, st, h) else zz_Y 116 (21, ls, st, h)) ∧ (∀ ls st h, zz_Y 116 (19, ls, st, h) = zz_Y 116 (20, ls, .int (-1) :: st, h)) ∧ (∀ ls v h, zz_Y 116 (20, ls, [.int v], h) = some (some (.int v), h)) ∧ (∀ l0 l1 l3 x st h, zz_Y 116 (21, [l0, l1, some (.int x), l3], st, h) = zz_Y 116 (22, [l0, l1, some (.int x), l3], .int x :: st, h)) ∧ (∀ ls x st h, zz_Y 116 (22, ls, .int x :: st, h) = zz_Y 116 (zz_sw [(nI 0, 52), (nI 1, 59), (nI 2, 66), (nI 3, 79)] 92 x, ls, st, h)) ∧ (∀ l0 l1 l2 x st h, zz_Y 116 (52, [l0, l1, l2, some (.ref x)], st, h) = zz_Y 116 (53, [l0, l1, l2, some (.ref x)], .ref x :: st, h)) ∧ (∀ ls a st h, zz_Y 116 (53, ls, .ref a :: st, h) = mo_gf (hp_g h a) 3 2 116 56 ls st h) ∧ (∀ l0 l2 l3 x st h, zz_Y 116 (56, [l0, some (.int x), l2, l3], st, h) = zz_Y 116 (57, [l0, some (.int x), l2, l3], .int x :: st, h)) ∧ (∀ ls a i st h, zz_Y 116 (57, ls, .int i :: .ref a :: st, h) = mo_ia (hp_g h a) i a 116 58 ls st h) ∧ (∀ ls v h, zz_Y 116 (58, ls, [.int v], h) = some (some (.int v), h)) ∧ (∀ l0 l1 l2 x st h, zz_Y 116 (59, [l0, l1, l2, some (.ref x)], st, h) = zz_Y 116 (60, [l0, l1, l2, some (.ref x)], .ref x :: st, h)) ∧ (∀ ls a st h, zz_Y 116 (60, ls, .ref a :: st, h) = mo_gf (hp_g h a) 3 4 116 63 ls st h) ∧ (∀ l0 l2 l3 x st h, zz_Y 116 (63, [l0, some (.int x), l2, l3], st, h) = zz_Y 116 (64, [l0, some (.int x), l2, l3], .int x :: st, h)) ∧ (∀ ls a i st h, zz_Y 116 (64, ls, .int i :: .ref a :: st, h) = mo_ia (hp_g h a) i a 116 65 ls st h) ∧ (∀ ls v h, zz_Y 116 (65, ls, [.int v], h) = some (some (.int v), h)) ∧ (∀ l1 l2 l3 x st h, zz_Y 116 (66, [some (.ref x), l1, l2, l3], st, h) = zz_Y 116 (67, [some (.ref x), l1, l2, l3], .ref x :: st, h)) ∧ (∀ ls a st h, zz_Y 116 (67, ls, .ref a :: st, h) = mo_gf (hp_g h a) 10 0 116 70 ls st h) ∧ (∀ ls a st h, zz_Y 116 (70, ls, .ref a :: st, h) = mo_gf (hp_g h a) 1 2 116 73 ls st h) ∧ (∀ ls a st h, zz_Y 116 (73, ls, .ref a :: st, h) = mo_gf (hp_g h a) 0 1 116 76 ls st h) ∧ (∀ l0 l2 l3 x st h, zz_Y 116 (76, [l0, some (.int x), l2, l3], st, h) = zz_Y 116 (77, [l0, some (.int x), l2, l3], .int x :: st, h)) ∧ (∀ ls a i st h, zz_Y 116 (77, ls, .int i :: .ref a :: st, h) = mo_ia (hp_g h a) i a 116 78 ls st h) ∧ (∀ ls v h, zz_Y 116 (78, ls, [.int v], h) = some (some (.int v), h)) ∧ (∀ l1 l2 l3 x st h, zz_Y 116 (79, [some (.ref x), l1, l2, l3], st, h) = zz_Y 116 (80, [some (.ref x), l1, l2, l3], .ref x :: st, h)) ∧ (∀ ls a st h, zz_Y 116 (80, ls, .ref a :: st, h) = mo_gf (hp_g h a) 10 0 116 83 ls st h) ∧ (∀ ls a st h, zz_Y 116 (83, ls, .ref a :: st, h) = mo_gf (hp_g h a) 1 2 116 86 ls st h) ∧ (∀ l0 l1 l2 x st h, zz_Y 116 (86, [l0, l1, l2, some (.ref x)], st, h) = zz_Y 116 (87, [l0, l1, l2, some (.ref x)], .ref x :: st, h)) ∧ (∀ l0 l2 l3 x st h, zz_Y 116 (87, [l0, some (.int x), l2, l3], st, h) = zz_Y 116 (88, [l0, some (.int x), l2, l3], .int x :: st, h)) ∧ (∀ ls a0 a1 a2 h, zz_Y 116 (88, ls, [a2, a1, a0], h) = mo_k 116 91 ls [] (zz_run 117 [a0, a1, a2] h)) ∧ (∀ ls v h, zz_Y 116 (91, ls, [.int v], h) = some (some (.int v), h)) ∧ (∀ l0 l1 l2 x st h, zz_Y 116 (92, [l0, l1, l2, some (.ref x)], st, h) = zz_Y 116 (93, [l0, l1, l2, some (.ref x)], .ref x :: st, h)) ∧ (∀ ls a st h, zz_Y 116 (93, ls, .ref a :: st, h) = mo_gf (hp_g h a) 3 1 116 96 ls st h) ∧ (∀ l0 l2 l3 x st h, zz_Y 116 (96, [l0, some (.int x), l2, l3], st, h) = zz_Y 116 (97, [l0, some (.int x), l2, l3], .int x :: st, h)) ∧ (∀ ls a i st h, zz_Y 116 (97, ls, .int i :: .ref a :: st, h) = mo_la (hp_g h a) i 116 98 ls st h) ∧ (∀ l0 l1 l3 x st h, zz_Y 116 (98, [l0, l1, some (.int x), l3], st, h) = zz_Y 116 (99, [l0, l1, some (.int x), l3], .int x :: st, h)) ∧ (∀ ls a0 a1 h, zz_Y 116 (99, ls, [a1, a0], h) = mo_k 116 102 ls [] (zz_run 118 [a0, a1] h)) ∧ (∀ ls v h, zz_Y 116 (102, ls, [.int v], h) = some (some (.int v), h)) :=
  ⟨fun _ _ _ _ _ _ => xl_aln d116_0 rfl,
   fun _ _ _ _ => xl_gf d116_1 xco116 xf_10_12,
   fun _ _ _ _ => xl_gf d116_4 xco116 xf_10_79,
   fun _ _ _ _ => xl_gf d116_7 xco116 xf_10_163,
   fun _ _ _ _ _ _ _ hc => xl_asn d116_10 xml116 (by decide) (zz_nl_s1 hc),
   fun _ _ _ _ _ _ => xl_aln d116_11 rfl,
   fun _ _ _ _ _ _ => xl_iln d116_12 rfl,
   fun ls a0 a1 h => xl_cv (As := [a0, a1]) (st := []) d116_13 xco116 xm_10_200 (congrArg Nat.succ xnp97) (by decide +kernel) rfl,
   fun _ _ _ _ => xl_ifne d116_16 rfl,
   fun _ _ _ => xl_ic d116_19 (by decide +kernel),
   fun _ _ _ => xl_iri d116_20 xrt116,
   fun _ _ _ _ _ _ => xl_iln d116_21 rfl,
   fun _ _ _ _ => xl_tbs (qs := [(nI 0, 52), (nI 1, 59), (nI 2, 66), (nI 3, 79)]) d116_22 rfl (by decide +kernel) (by decide +kernel) (by decide +kernel),
   fun _ _ _ _ _ _ => xl_aln d116_52 rfl,
   fun _ _ _ _ => xl_gf d116_53 xco116 xf_10_250,
   fun _ _ _ _ _ _ => xl_iln d116_56 rfl,
   fun _ _ _ _ _ => xl_ia d116_57,
   fun _ _ _ => xl_iri d116_58 xrt116,
   fun _ _ _ _ _ _ => xl_aln d116_59 rfl,
   fun _ _ _ _ => xl_gf d116_60 xco116 xf_10_253,
   fun _ _ _ _ _ _ => xl_iln d116_63 rfl,
   fun _ _ _ _ _ => xl_ia d116_64,
   fun _ _ _ => xl_iri d116_65 xrt116,
   fun _ _ _ _ _ _ => xl_aln d116_66 rfl,
   fun _ _ _ _ => xl_gf d116_67 xco116 xf_10_12,
   fun _ _ _ _ => xl_gf d116_70 xco116 xf_10_92,
   fun _ _ _ _ => xl_gf d116_73 xco116 xf_10_203,
   fun _ _ _ _ _ _ => xl_iln d116_76 rfl,
   fun _ _ _ _ _ => xl_ia d116_77,
   fun _ _ _ => xl_iri d116_78 xrt116,
   fun _ _ _ _ _ _ => xl_aln d116_79 rfl,
   fun _ _ _ _ => xl_gf d116_80 xco116 xf_10_12,
   fun _ _ _ _ => xl_gf d116_83 xco116 xf_10_92,
   fun _ _ _ _ _ _ => xl_aln d116_86 rfl,
   fun _ _ _ _ _ _ => xl_iln d116_87 rfl,
   fun ls a0 a1 a2 h => xl_cv (As := [a0, a1, a2]) (st := []) d116_88 xco116 xm_10_256 (congrArg Nat.succ xnp117) (by decide +kernel) rfl,
   fun _ _ _ => xl_iri d116_91 xrt116,
   fun _ _ _ _ _ _ => xl_aln d116_92 rfl,
   fun _ _ _ _ => xl_gf d116_93 xco116 xf_10_260,
   fun _ _ _ _ _ _ => xl_iln d116_96 rfl,
   fun _ _ _ _ _ => xl_la d116_97,
   fun _ _ _ _ _ _ => xl_iln d116_98 rfl,
   fun ls a0 a1 h => xl_cs (As := [a0, a1]) (st := []) d116_99 xco116 xm_10_264 xnp118 (by decide +kernel) rfl,
   fun _ _ _ => xl_iri d116_102 xrt116⟩
/-! 117 FacetSieve$Choice.wantedOf(LFacetSieve$Plan;I)I -/
theorem d117_0 : decode (zz_c 117) 0 = .ok (.iconst 0, 1) := by decide +kernel
theorem d117_1 : decode (zz_c 117) 1 = .ok (.istore_n 3, 1) := by decide +kernel
theorem d117_2 : decode (zz_c 117) 2 = .ok (.aload_n 1, 1) := by decide +kernel
theorem d117_3 : decode (zz_c 117) 3 = .ok (.getfield 30, 3) := by decide +kernel
theorem d117_6 : decode (zz_c 117) 6 = .ok (.iload_n 2, 1) := by decide +kernel
theorem d117_7 : decode (zz_c 117) 7 = .ok (.iaload, 1) := by decide +kernel
theorem d117_8 : decode (zz_c 117) 8 = .ok (.istore 4, 2) := by decide +kernel
theorem d117_10 : decode (zz_c 117) 10 = .ok (.iload 4, 2) := by decide +kernel
theorem d117_12 : decode (zz_c 117) 12 = .ok (.aload_n 1, 1) := by decide +kernel
theorem d117_13 : decode (zz_c 117) 13 = .ok (.getfield 30, 3) := by decide +kernel
theorem d117_16 : decode (zz_c 117) 16 = .ok (.iload_n 2, 1) := by decide +kernel
theorem d117_17 : decode (zz_c 117) 17 = .ok (.iaload, 1) := by decide +kernel
theorem d117_18 : decode (zz_c 117) 18 = .ok (.aload_n 1, 1) := by decide +kernel
theorem d117_19 : decode (zz_c 117) 19 = .ok (.getfield 35, 3) := by decide +kernel
theorem d117_22 : decode (zz_c 117) 22 = .ok (.iload_n 2, 1) := by decide +kernel
theorem d117_23 : decode (zz_c 117) 23 = .ok (.iaload, 1) := by decide +kernel
theorem d117_24 : decode (zz_c 117) 24 = .ok (.iadd, 1) := by decide +kernel
theorem d117_25 : decode (zz_c 117) 25 = .ok (.if_icmp .ge 23, 3) := by decide +kernel
theorem d117_28 : decode (zz_c 117) 28 = .ok (.aload_n 0, 1) := by decide +kernel
theorem d117_29 : decode (zz_c 117) 29 = .ok (.getfield 9, 3) := by decide +kernel
theorem d117_32 : decode (zz_c 117) 32 = .ok (.iload 4, 2) := by decide +kernel
theorem d117_34 : decode (zz_c 117) 34 = .ok (.iaload, 1) := by decide +kernel
theorem d117_35 : decode (zz_c 117) 35 = .ok (.iconst 1, 1) := by decide +kernel
theorem d117_36 : decode (zz_c 117) 36 = .ok (.if_icmp .ne 6, 3) := by decide +kernel
theorem d117_39 : decode (zz_c 117) 39 = .ok (.iinc 3 1, 3) := by decide +kernel
theorem d117_42 : decode (zz_c 117) 42 = .ok (.iinc 4 1, 3) := by decide +kernel
theorem d117_45 : decode (zz_c 117) 45 = .ok (.goto (-35), 3) := by decide +kernel
theorem d117_48 : decode (zz_c 117) 48 = .ok (.iload_n 3, 1) := by decide +kernel
theorem d117_49 : decode (zz_c 117) 49 = .ok (.ireturn, 1) := by decide +kernel
theorem x117 : (∀ ls st h, zz_Y 117 (0, ls, st, h) = zz_Y 117 (1, ls, .int (nI 0) :: st, h)) ∧ (∀ l0 l1 l2 l3 l4 x st h, zz_nl l2 = true → zz_Y 117 (1, [l0, l1, l2, l3, l4], .int x :: st, h) = zz_Y 117 (2, [l0, l1, l2, some (.int x), l4], st, h)) ∧ (∀ l0 l2 l3 l4 x st h, zz_Y 117 (2, [l0, some (.ref x), l2, l3, l4], st, h) = zz_Y 117 (3, [l0, some (.ref x), l2, l3, l4], .ref x :: st, h)) ∧ (∀ ls a st h, zz_Y 117 (3, ls, .ref a :: st, h) = mo_gf (hp_g h a) 3 3 117 6 ls st h) ∧ (∀ l0 l1 l3 l4 x st h, zz_Y 117 (6, [l0, l1, some (.int x), l3, l4], st, h) = zz_Y 117 (7, [l0, l1, some (.int x), l3, l4], .int x :: st, h)) ∧ (∀ ls a i st h, zz_Y 117 (7, ls, .int i :: .ref a :: st, h) = mo_ia (hp_g h a) i a 117 8 ls st h) ∧ (∀ l0 l1 l2 l3 l4 x st h, zz_nl l3 = true → zz_Y 117 (8, [l0, l1, l2, l3, l4], .int x :: st, h) = zz_Y 117 (10, [l0, l1, l2, l3, some (.int x)], st, h)) ∧ (∀ l0 l2 l3 l4 x st h, zz_Y 117 (12, [l0, some (.ref x), l2, l3, l4], st, h) = zz_Y 117 (13, [l0, some (.ref x), l2, l3, l4], .ref x :: st, h)) ∧ (∀ ls a st h, zz_Y 117 (13, ls, .ref a :: st, h) = mo_gf (hp_g h a) 3 3 117 16 ls st h) ∧ (∀ l0 l1 l3 l4 x st h, zz_Y 117 (16, [l0, l1, some (.int x), l3, l4], st, h) = zz_Y 117 (17, [l0, l1, some (.int x), l3, l4], .int x :: st, h)) ∧ (∀ ls a i st h, zz_Y 117 (17, ls, .int i :: .ref a :: st, h) = mo_ia (hp_g h a) i a 117 18 ls st h) ∧ (∀ l0 l2 l3 l4 x st h, zz_Y 117 (18, [l0, some (.ref x), l2, l3, l4], st, h) = zz_Y 117 (19, [l0, some (.ref x), l2, l3, l4], .ref x :: st, h)) ∧ (∀ ls a st h, zz_Y 117 (19, ls, .ref a :: st, h) = mo_gf (hp_g h a) 3 4 117 22 ls st h) ∧ (∀ l0 l1 l3 l4 x st h, zz_Y 117 (22, [l0, l1, some (.int x), l3, l4], st, h) = zz_Y 117 (23, [l0, l1, some (.int x), l3, l4], .int x :: st, h)) ∧ (∀ ls a i st h, zz_Y 117 (23, ls, .int i :: .ref a :: st, h) = mo_ia (hp_g h a) i a 117 24 ls st h) ∧ (∀ ls a b st h, zz_Y 117 (24, ls, .int b :: .int a :: st, h) = zz_Y 117 (25, ls, .int (a + b) :: st, h)) ∧ (∀ ls a b st h, zz_Y 117 (25, ls, .int b :: .int a :: st, h) = if a < b then zz_Y 117 (28, ls, st, h) else zz_Y 117 (48, ls, st, h)) ∧ (∀ l1 l2 l3 l4 x st h, zz_Y 117 (28, [some (.ref x), l1, l2, l3, l4], st, h) = zz_Y 117 (29, [some (.ref x), l1, l2, l3, l4], .ref x :: st, h)) ∧ (∀ ls a st h, zz_Y 117 (29, ls, .ref a :: st, h) = mo_gf (hp_g h a) 0 0 117 32 ls st h) ∧ (∀ l0 l1 l2 l3 x st h, zz_Y 117 (32, [l0, l1, l2, l3, some (.int x)], st, h) = zz_Y 117 (34, [l0, l1, l2, l3, some (.int x)], .int x :: st, h)) ∧ (∀ ls a i st h, zz_Y 117 (34, ls, .int i :: .ref a :: st, h) = mo_ia (hp_g h a) i a 117 35 ls st h) ∧ (∀ ls st h, zz_Y 117 (35, ls, st, h) = zz_Y 117 (36, ls, .int (nI 1) :: st, h)) ∧ (∀ ls a b st h, zz_Y 117 (36, ls, .int b :: .int a :: st, h) = if a = b then zz_Y 117 (39, ls, st, h) else zz_Y 117 (42, ls, st, h)) ∧ (∀ l0 l1 l2 l4 x st h, zz_nl l2 = true → zz_Y 117 (39, [l0, l1, l2, some (.int x), l4], st, h) = zz_Y 117 (42, [l0, l1, l2, some (.int (x + nI 1)), l4], st, h)) ∧ (∀ l0 l1 l2 l3 x st h, zz_nl l3 = true → zz_Y 117 (42, [l0, l1, l2, l3, some (.int x)], st, h) = zz_Y 117 (45, [l0, l1, l2, l3, some (.int (x + nI 1))], st, h)) ∧ (∀ ls st h, zz_Y 117 (45, ls, st, h) = zz_Y 117 (10, ls, st, h)) ∧ (∀ l0 l1 l2 l4 x st h, zz_Y 117 (48, [l0, l1, l2, some (.int x), l4], st, h) = zz_Y 117 (49, [l0, l1, l2, some (.int x), l4], .int x :: st, h)) ∧ (∀ ls v h, zz_Y 117 (49, ls, [.int v], h) = some (some (.int v), h)) :=
  ⟨fun _ _ _ => xl_ic d117_0 (by decide +kernel),
   fun _ _ _ _ _ _ _ _ hc => xl_isn d117_1 xml117 (by decide) (zz_nl_s1 hc),
   fun _ _ _ _ _ _ _ => xl_aln d117_2 rfl,
   fun _ _ _ _ => xl_gf d117_3 xco117 xf_0_30,
   fun _ _ _ _ _ _ _ => xl_iln d117_6 rfl,
   fun _ _ _ _ _ => xl_ia d117_7,
   fun _ _ _ _ _ _ _ _ hc => xl_is d117_8 xml117 (by decide) (zz_nl_s1 hc),
   fun _ _ _ _ _ _ _ => xl_aln d117_12 rfl,
   fun _ _ _ _ => xl_gf d117_13 xco117 xf_0_30,
   fun _ _ _ _ _ _ _ => xl_iln d117_16 rfl,
   fun _ _ _ _ _ => xl_ia d117_17,
   fun _ _ _ _ _ _ _ => xl_aln d117_18 rfl,
   fun _ _ _ _ => xl_gf d117_19 xco117 xf_0_35,
   fun _ _ _ _ _ _ _ => xl_iln d117_22 rfl,
   fun _ _ _ _ _ => xl_ia d117_23,
   fun _ _ _ _ _ => xl_iadd d117_24,
   fun _ _ _ _ _ => xl_icge d117_25 rfl,
   fun _ _ _ _ _ _ _ => xl_aln d117_28 rfl,
   fun _ _ _ _ => xl_gf d117_29 xco117 xf_0_9,
   fun _ _ _ _ _ _ _ => xl_il d117_32 rfl,
   fun _ _ _ _ _ => xl_ia d117_34,
   fun _ _ _ => xl_ic d117_35 (by decide +kernel),
   fun _ _ _ _ _ => xl_icne d117_36 rfl,
   fun _ _ _ _ _ _ _ hc => xl_inc d117_39 xml117 (by decide) rfl (by decide +kernel) (zz_nl_s1 hc),
   fun _ _ _ _ _ _ _ hc => xl_inc d117_42 xml117 (by decide) rfl (by decide +kernel) (zz_nl_s1 hc),
   fun _ _ _ => xl_goto d117_45 rfl,
   fun _ _ _ _ _ _ _ => xl_iln d117_48 rfl,
   fun _ _ _ => xl_iri d117_49 xrt117⟩
theorem x117_c10 : ∀ l0 l1 l2 l3 x st h, zz_Y 117 (10, [l0, l1, l2, l3, some (.int x)], st, h) = zz_Y 117 (12, [l0, l1, l2, l3, some (.int x)], .int x :: st, h) := fun _ _ _ _ _ _ _ => xl_il d117_10 rfl
/-! 118 FacetSieve$Tokens.letterAsked(JI)I -/
theorem d118_0 : decode (zz_c 118) 0 = .ok (.iload_n 2, 1) := by decide +kernel
theorem d118_1 : decode (zz_c 118) 1 = .ok (.bipush 10, 2) := by decide +kernel
theorem d118_3 : decode (zz_c 118) 3 = .ok (.if_icmp .ge 7, 3) := by decide +kernel
theorem d118_6 : decode (zz_c 118) 6 = .ok (.iconst (-1), 1) := by decide +kernel
theorem d118_7 : decode (zz_c 118) 7 = .ok (.goto 11, 3) := by decide +kernel
theorem d118_10 : decode (zz_c 118) 10 = .ok (.lload_n 0, 1) := by decide +kernel
theorem d118_11 : decode (zz_c 118) 11 = .ok (.iload_n 2, 1) := by decide +kernel
theorem d118_12 : decode (zz_c 118) 12 = .ok (.bipush 10, 2) := by decide +kernel
theorem d118_14 : decode (zz_c 118) 14 = .ok (.isub, 1) := by decide +kernel
theorem d118_15 : decode (zz_c 118) 15 = .ok (.invokestatic 98, 3) := by decide +kernel
theorem d118_18 : decode (zz_c 118) 18 = .ok (.ireturn, 1) := by decide +kernel
theorem x118 : (∀ l0 l1 x st h, zz_Y 118 (0, [l0, l1, some (.int x)], st, h) = zz_Y 118 (1, [l0, l1, some (.int x)], .int x :: st, h)) ∧ (∀ ls st h, zz_Y 118 (1, ls, st, h) = zz_Y 118 (3, ls, .int (nI 10) :: st, h)) ∧ (∀ ls a b st h, zz_Y 118 (3, ls, .int b :: .int a :: st, h) = if a < b then zz_Y 118 (6, ls, st, h) else zz_Y 118 (10, ls, st, h)) ∧ (∀ ls st h, zz_Y 118 (6, ls, st, h) = zz_Y 118 (7, ls, .int (-1) :: st, h)) ∧ (∀ ls st h, zz_Y 118 (7, ls, st, h) = zz_Y 118 (18, ls, st, h)) ∧ (∀ l1 l2 x st h, zz_Y 118 (10, [some (.long x), l1, l2], st, h) = zz_Y 118 (11, [some (.long x), l1, l2], .long x :: st, h)) ∧ (∀ l0 l1 x st h, zz_Y 118 (11, [l0, l1, some (.int x)], st, h) = zz_Y 118 (12, [l0, l1, some (.int x)], .int x :: st, h)) ∧ (∀ ls st h, zz_Y 118 (12, ls, st, h) = zz_Y 118 (14, ls, .int (nI 10) :: st, h)) ∧ (∀ ls a b st h, zz_Y 118 (14, ls, .int b :: .int a :: st, h) = zz_Y 118 (15, ls, .int (a - b) :: st, h)) ∧ (∀ ls a0 a1 h, zz_Y 118 (15, ls, [a1, a0], h) = mo_k 118 18 ls [] (zz_run 119 [a0, a1] h)) ∧ (∀ ls v h, zz_Y 118 (18, ls, [.int v], h) = some (some (.int v), h)) :=
  ⟨fun _ _ _ _ _ => xl_iln d118_0 rfl,
   fun _ _ _ => xl_bi d118_1 (by decide +kernel),
   fun _ _ _ _ _ => xl_icge d118_3 rfl,
   fun _ _ _ => xl_ic d118_6 (by decide +kernel),
   fun _ _ _ => xl_goto d118_7 rfl,
   fun _ _ _ _ _ => xl_lln d118_10 rfl,
   fun _ _ _ _ _ => xl_iln d118_11 rfl,
   fun _ _ _ => xl_bi d118_12 (by decide +kernel),
   fun _ _ _ _ _ => xl_isub d118_14,
   fun ls a0 a1 h => xl_cs (As := [a0, a1]) (st := []) d118_15 xco118 xm_9_98 xnp119 (by decide +kernel) rfl,
   fun _ _ _ => xl_iri d118_18 xrt118⟩
/-! 119 FacetSieve$Tokens.letterOf(JI)I -/
theorem d119_0 : decode (zz_c 119) 0 = .ok (.iload_n 2, 1) := by decide +kernel
theorem d119_1 : decode (zz_c 119) 1 = .ok (.ifCond .lt 9, 3) := by decide +kernel
theorem d119_4 : decode (zz_c 119) 4 = .ok (.iload_n 2, 1) := by decide +kernel
theorem d119_5 : decode (zz_c 119) 5 = .ok (.bipush 8, 2) := by decide +kernel
theorem d119_7 : decode (zz_c 119) 7 = .ok (.if_icmp .lt 5, 3) := by decide +kernel
theorem d119_10 : decode (zz_c 119) 10 = .ok (.iconst (-1), 1) := by decide +kernel
theorem d119_11 : decode (zz_c 119) 11 = .ok (.ireturn, 1) := by decide +kernel
theorem d119_12 : decode (zz_c 119) 12 = .ok (.lload_n 0, 1) := by decide +kernel
theorem d119_13 : decode (zz_c 119) 13 = .ok (.iconst 5, 1) := by decide +kernel
theorem d119_14 : decode (zz_c 119) 14 = .ok (.iload_n 2, 1) := by decide +kernel
theorem d119_15 : decode (zz_c 119) 15 = .ok (.imul, 1) := by decide +kernel
theorem d119_16 : decode (zz_c 119) 16 = .ok (.lshr, 1) := by decide +kernel
theorem d119_17 : decode (zz_c 119) 17 = .ok (.l2i, 1) := by decide +kernel
theorem d119_18 : decode (zz_c 119) 18 = .ok (.bipush 31, 2) := by decide +kernel
theorem d119_20 : decode (zz_c 119) 20 = .ok (.iand, 1) := by decide +kernel
theorem d119_21 : decode (zz_c 119) 21 = .ok (.istore_n 3, 1) := by decide +kernel
theorem d119_22 : decode (zz_c 119) 22 = .ok (.iload_n 3, 1) := by decide +kernel
theorem d119_23 : decode (zz_c 119) 23 = .ok (.ifCond .ne 7, 3) := by decide +kernel
theorem d119_26 : decode (zz_c 119) 26 = .ok (.iconst (-1), 1) := by decide +kernel
theorem d119_27 : decode (zz_c 119) 27 = .ok (.goto 9, 3) := by decide +kernel
theorem d119_30 : decode (zz_c 119) 30 = .ok (.bipush 97, 2) := by decide +kernel
theorem d119_32 : decode (zz_c 119) 32 = .ok (.iload_n 3, 1) := by decide +kernel
theorem d119_33 : decode (zz_c 119) 33 = .ok (.iadd, 1) := by decide +kernel
theorem d119_34 : decode (zz_c 119) 34 = .ok (.iconst 1, 1) := by decide +kernel
theorem d119_35 : decode (zz_c 119) 35 = .ok (.isub, 1) := by decide +kernel
theorem d119_36 : decode (zz_c 119) 36 = .ok (.ireturn, 1) := by decide +kernel
theorem x119 : (∀ l0 l1 l3 x st h, zz_Y 119 (0, [l0, l1, some (.int x), l3], st, h) = zz_Y 119 (1, [l0, l1, some (.int x), l3], .int x :: st, h)) ∧ (∀ ls a st h, zz_Y 119 (1, ls, .int a :: st, h) = if a < nI 0 then zz_Y 119 (10, ls, st, h) else zz_Y 119 (4, ls, st, h)) ∧ (∀ l0 l1 l3 x st h, zz_Y 119 (4, [l0, l1, some (.int x), l3], st, h) = zz_Y 119 (5, [l0, l1, some (.int x), l3], .int x :: st, h)) ∧ (∀ ls st h, zz_Y 119 (5, ls, st, h) = zz_Y 119 (7, ls, .int (nI 8) :: st, h)) ∧ (∀ ls a b st h, zz_Y 119 (7, ls, .int b :: .int a :: st, h) = if a < b then zz_Y 119 (12, ls, st, h) else zz_Y 119 (10, ls, st, h)) ∧ (∀ ls st h, zz_Y 119 (10, ls, st, h) = zz_Y 119 (11, ls, .int (-1) :: st, h)) ∧ (∀ ls v h, zz_Y 119 (11, ls, [.int v], h) = some (some (.int v), h)) ∧ (∀ l1 l2 l3 x st h, zz_Y 119 (12, [some (.long x), l1, l2, l3], st, h) = zz_Y 119 (13, [some (.long x), l1, l2, l3], .long x :: st, h)) ∧ (∀ ls st h, zz_Y 119 (13, ls, st, h) = zz_Y 119 (14, ls, .int (nI 5) :: st, h)) ∧ (∀ l0 l1 l3 x st h, zz_Y 119 (14, [l0, l1, some (.int x), l3], st, h) = zz_Y 119 (15, [l0, l1, some (.int x), l3], .int x :: st, h)) ∧ (∀ ls a b st h, zz_Y 119 (15, ls, .int b :: .int a :: st, h) = zz_Y 119 (16, ls, .int (a * b) :: st, h)) ∧ (∀ ls a b st h, zz_Y 119 (16, ls, .int b :: .long a :: st, h) = zz_Y 119 (17, ls, .long (a >>> (b.toInt64 &&& 63)) :: st, h)) ∧ (∀ ls a st h, zz_Y 119 (17, ls, .long a :: st, h) = zz_Y 119 (18, ls, .int a.toInt32 :: st, h)) ∧ (∀ ls st h, zz_Y 119 (18, ls, st, h) = zz_Y 119 (20, ls, .int (nI 31) :: st, h)) ∧ (∀ ls a b st h, zz_Y 119 (20, ls, .int b :: .int a :: st, h) = zz_Y 119 (21, ls, .int (a &&& b) :: st, h)) ∧ (∀ l0 l1 l2 l3 x st h, zz_nl l2 = true → zz_Y 119 (21, [l0, l1, l2, l3], .int x :: st, h) = zz_Y 119 (22, [l0, l1, l2, some (.int x)], st, h)) ∧ (∀ l0 l1 l2 x st h, zz_Y 119 (22, [l0, l1, l2, some (.int x)], st, h) = zz_Y 119 (23, [l0, l1, l2, some (.int x)], .int x :: st, h)) ∧ (∀ ls a st h, zz_Y 119 (23, ls, .int a :: st, h) = if a = nI 0 then zz_Y 119 (26, ls, st, h) else zz_Y 119 (30, ls, st, h)) ∧ (∀ ls st h, zz_Y 119 (26, ls, st, h) = zz_Y 119 (27, ls, .int (-1) :: st, h)) ∧ (∀ ls st h, zz_Y 119 (27, ls, st, h) = zz_Y 119 (36, ls, st, h)) ∧ (∀ ls st h, zz_Y 119 (30, ls, st, h) = zz_Y 119 (32, ls, .int (nI 97) :: st, h)) ∧ (∀ l0 l1 l2 x st h, zz_Y 119 (32, [l0, l1, l2, some (.int x)], st, h) = zz_Y 119 (33, [l0, l1, l2, some (.int x)], .int x :: st, h)) ∧ (∀ ls a b st h, zz_Y 119 (33, ls, .int b :: .int a :: st, h) = zz_Y 119 (34, ls, .int (a + b) :: st, h)) ∧ (∀ ls st h, zz_Y 119 (34, ls, st, h) = zz_Y 119 (35, ls, .int (nI 1) :: st, h)) ∧ (∀ ls a b st h, zz_Y 119 (35, ls, .int b :: .int a :: st, h) = zz_Y 119 (36, ls, .int (a - b) :: st, h)) ∧ (∀ ls v h, zz_Y 119 (36, ls, [.int v], h) = some (some (.int v), h)) :=
  ⟨fun _ _ _ _ _ _ => xl_iln d119_0 rfl,
   fun _ _ _ _ => xl_iflt d119_1 rfl,
   fun _ _ _ _ _ _ => xl_iln d119_4 rfl,
   fun _ _ _ => xl_bi d119_5 (by decide +kernel),
   fun _ _ _ _ _ => xl_iclt d119_7 rfl,
   fun _ _ _ => xl_ic d119_10 (by decide +kernel),
   fun _ _ _ => xl_iri d119_11 xrt119,
   fun _ _ _ _ _ _ => xl_lln d119_12 rfl,
   fun _ _ _ => xl_ic d119_13 (by decide +kernel),
   fun _ _ _ _ _ _ => xl_iln d119_14 rfl,
   fun _ _ _ _ _ => xl_imul d119_15,
   fun _ _ _ _ _ => xl_lshr d119_16,
   fun _ _ _ _ => xl_l2i d119_17,
   fun _ _ _ => xl_bi d119_18 (by decide +kernel),
   fun _ _ _ _ _ => xl_iand d119_20,
   fun _ _ _ _ _ _ _ hc => xl_isn d119_21 xml119 (by decide) (zz_nl_s1 hc),
   fun _ _ _ _ _ _ => xl_iln d119_22 rfl,
   fun _ _ _ _ => xl_ifne d119_23 rfl,
   fun _ _ _ => xl_ic d119_26 (by decide +kernel),
   fun _ _ _ => xl_goto d119_27 rfl,
   fun _ _ _ => xl_bi d119_30 (by decide +kernel),
   fun _ _ _ _ _ _ => xl_iln d119_32 rfl,
   fun _ _ _ _ _ => xl_iadd d119_33,
   fun _ _ _ => xl_ic d119_34 (by decide +kernel),
   fun _ _ _ _ _ => xl_isub d119_35,
   fun _ _ _ => xl_iri d119_36 xrt119⟩
/-! 120 FacetSieve.value(II)I -/
theorem d120_0 : decode (zz_c 120) 0 = .ok (.aload_n 0, 1) := by decide +kernel
theorem d120_1 : decode (zz_c 120) 1 = .ok (.getfield 12, 3) := by decide +kernel
theorem d120_4 : decode (zz_c 120) 4 = .ok (.getfield 79, 3) := by decide +kernel
theorem d120_7 : decode (zz_c 120) 7 = .ok (.astore_n 3, 1) := by decide +kernel
theorem d120_8 : decode (zz_c 120) 8 = .ok (.aload_n 3, 1) := by decide +kernel
theorem d120_9 : decode (zz_c 120) 9 = .ok (.getfield 163, 3) := by decide +kernel
theorem d120_12 : decode (zz_c 120) 12 = .ok (.astore 4, 2) := by decide +kernel
theorem d120_14 : decode (zz_c 120) 14 = .ok (.aload 4, 2) := by decide +kernel
theorem d120_16 : decode (zz_c 120) 16 = .ok (.iload_n 1, 1) := by decide +kernel
theorem d120_17 : decode (zz_c 120) 17 = .ok (.invokevirtual 167, 3) := by decide +kernel
theorem d120_20 : decode (zz_c 120) 20 = .ok (.ifCond .ne 5, 3) := by decide +kernel
theorem d120_23 : decode (zz_c 120) 23 = .ok (.iconst (-1), 1) := by decide +kernel
theorem d120_24 : decode (zz_c 120) 24 = .ok (.ireturn, 1) := by decide +kernel
theorem d120_25 : decode (zz_c 120) 25 = .ok (.iload_n 2, 1) := by decide +kernel
theorem d120_26 : decode (zz_c 120) 26 = .ok (.tableswitch 148 0 9 #[54, 62, 70, 83, 92, 98, 107, 117, 123, 135], 54) := by decide +kernel
theorem d120_80 : decode (zz_c 120) 80 = .ok (.aload 4, 2) := by decide +kernel
theorem d120_82 : decode (zz_c 120) 82 = .ok (.getfield 270, 3) := by decide +kernel
theorem d120_85 : decode (zz_c 120) 85 = .ok (.iload_n 1, 1) := by decide +kernel
theorem d120_86 : decode (zz_c 120) 86 = .ok (.iaload, 1) := by decide +kernel
theorem d120_87 : decode (zz_c 120) 87 = .ok (.ireturn, 1) := by decide +kernel
theorem d120_88 : decode (zz_c 120) 88 = .ok (.aload 4, 2) := by decide +kernel
theorem d120_90 : decode (zz_c 120) 90 = .ok (.getfield 273, 3) := by decide +kernel
theorem d120_93 : decode (zz_c 120) 93 = .ok (.iload_n 1, 1) := by decide +kernel
theorem d120_94 : decode (zz_c 120) 94 = .ok (.iaload, 1) := by decide +kernel
theorem d120_95 : decode (zz_c 120) 95 = .ok (.ireturn, 1) := by decide +kernel
theorem d120_96 : decode (zz_c 120) 96 = .ok (.aload 4, 2) := by decide +kernel
theorem d120_98 : decode (zz_c 120) 98 = .ok (.getfield 276, 3) := by decide +kernel
theorem d120_101 : decode (zz_c 120) 101 = .ok (.iload_n 1, 1) := by decide +kernel
theorem d120_102 : decode (zz_c 120) 102 = .ok (.iaload, 1) := by decide +kernel
theorem d120_103 : decode (zz_c 120) 103 = .ok (.invokestatic 239, 3) := by decide +kernel
theorem d120_106 : decode (zz_c 120) 106 = .ok (.iconst 1, 1) := by decide +kernel
theorem d120_107 : decode (zz_c 120) 107 = .ok (.isub, 1) := by decide +kernel
theorem d120_108 : decode (zz_c 120) 108 = .ok (.ireturn, 1) := by decide +kernel
theorem d120_109 : decode (zz_c 120) 109 = .ok (.aload_n 3, 1) := by decide +kernel
theorem d120_110 : decode (zz_c 120) 110 = .ok (.getfield 102, 3) := by decide +kernel
theorem d120_113 : decode (zz_c 120) 113 = .ok (.iload_n 1, 1) := by decide +kernel
theorem d120_114 : decode (zz_c 120) 114 = .ok (.invokevirtual 105, 3) := by decide +kernel
theorem d120_117 : decode (zz_c 120) 117 = .ok (.ireturn, 1) := by decide +kernel
theorem d120_118 : decode (zz_c 120) 118 = .ok (.aload_n 3, 1) := by decide +kernel
theorem d120_119 : decode (zz_c 120) 119 = .ok (.iload_n 1, 1) := by decide +kernel
theorem d120_120 : decode (zz_c 120) 120 = .ok (.invokevirtual 279, 3) := by decide +kernel
theorem d120_123 : decode (zz_c 120) 123 = .ok (.ireturn, 1) := by decide +kernel
theorem d120_124 : decode (zz_c 120) 124 = .ok (.aload_n 3, 1) := by decide +kernel
theorem d120_125 : decode (zz_c 120) 125 = .ok (.getfield 102, 3) := by decide +kernel
theorem d120_128 : decode (zz_c 120) 128 = .ok (.iload_n 1, 1) := by decide +kernel
theorem d120_129 : decode (zz_c 120) 129 = .ok (.invokevirtual 134, 3) := by decide +kernel
theorem d120_132 : decode (zz_c 120) 132 = .ok (.ireturn, 1) := by decide +kernel
theorem d120_133 : decode (zz_c 120) 133 = .ok (.aload_n 3, 1) := by decide +kernel
theorem d120_134 : decode (zz_c 120) 134 = .ok (.getfield 102, 3) := by decide +kernel
theorem d120_137 : decode (zz_c 120) 137 = .ok (.iload_n 1, 1) := by decide +kernel
theorem d120_138 : decode (zz_c 120) 138 = .ok (.iconst (-1), 1) := by decide +kernel
theorem d120_139 : decode (zz_c 120) 139 = .ok (.invokevirtual 282, 3) := by decide +kernel
theorem d120_142 : decode (zz_c 120) 142 = .ok (.ireturn, 1) := by decide +kernel
theorem d120_143 : decode (zz_c 120) 143 = .ok (.aload_n 0, 1) := by decide +kernel
theorem d120_144 : decode (zz_c 120) 144 = .ok (.iload_n 1, 1) := by decide +kernel
theorem d120_145 : decode (zz_c 120) 145 = .ok (.invokevirtual 285, 3) := by decide +kernel
theorem d120_148 : decode (zz_c 120) 148 = .ok (.ireturn, 1) := by decide +kernel
theorem d120_149 : decode (zz_c 120) 149 = .ok (.aload_n 0, 1) := by decide +kernel
theorem d120_150 : decode (zz_c 120) 150 = .ok (.getfield 12, 3) := by decide +kernel
theorem d120_153 : decode (zz_c 120) 153 = .ok (.iconst (-1), 1) := by decide +kernel
theorem d120_154 : decode (zz_c 120) 154 = .ok (.iload_n 1, 1) := by decide +kernel
theorem d120_155 : decode (zz_c 120) 155 = .ok (.bipush 20, 2) := by decide +kernel
theorem d120_157 : decode (zz_c 120) 157 = .ok (.invokevirtual 224, 3) := by decide +kernel
theorem d120_160 : decode (zz_c 120) 160 = .ok (.ireturn, 1) := by decide +kernel
theorem d120_161 : decode (zz_c 120) 161 = .ok (.aload_n 0, 1) := by decide +kernel
theorem d120_162 : decode (zz_c 120) 162 = .ok (.getfield 12, 3) := by decide +kernel
theorem d120_165 : decode (zz_c 120) 165 = .ok (.getfield 92, 3) := by decide +kernel
theorem d120_168 : decode (zz_c 120) 168 = .ok (.getfield 189, 3) := by decide +kernel
theorem d120_171 : decode (zz_c 120) 171 = .ok (.iload_n 1, 1) := by decide +kernel
theorem d120_172 : decode (zz_c 120) 172 = .ok (.iaload, 1) := by decide +kernel
theorem d120_173 : decode (zz_c 120) 173 = .ok (.ireturn, 1) := by decide +kernel
theorem d120_174 : decode (zz_c 120) 174 = .ok (.aload 4, 2) := by decide +kernel
theorem d120_176 : decode (zz_c 120) 176 = .ok (.getfield 288, 3) := by decide +kernel
theorem d120_179 : decode (zz_c 120) 179 = .ok (.iload_n 1, 1) := by decide +kernel
theorem d120_180 : decode (zz_c 120) 180 = .ok (.laload, 1) := by decide +kernel
theorem d120_181 : decode (zz_c 120) 181 = .ok (.iload_n 2, 1) := by decide +kernel
theorem d120_182 : decode (zz_c 120) 182 = .ok (.invokestatic 264, 3) := by decide +kernel
theorem d120_185 : decode (zz_c 120) 185 = .ok (.ireturn, 1) := by decide +kernel
theorem x120_p0 : (∀ l1 l2 l3 l4 x st h, zz_Y 120 (0, [some (.ref x), l1, l2, l3, l4], st, h) = zz_Y 120 (1, [some (.ref x), l1, l2, l3, l4], .ref x :: st, h)) ∧ (∀ ls a st h, zz_Y 120 (1, ls, .ref a :: st, h) = mo_gf (hp_g h a) 10 0 120 4 ls st h) ∧ (∀ ls a st h, zz_Y 120 (4, ls, .ref a :: st, h) = mo_gf (hp_g h a) 1 1 120 7 ls st h) ∧ (∀ l0 l1 l2 l3 l4 x st h, zz_nl l2 = true → zz_Y 120 (7, [l0, l1, l2, l3, l4], .ref x :: st, h) = zz_Y 120 (8, [l0, l1, l2, some (.ref x), l4], st, h)) ∧ (∀ l0 l1 l2 l4 x st h, zz_Y 120 (8, [l0, l1, l2, some (.ref x), l4], st, h) = zz_Y 120 (9, [l0, l1, l2, some (.ref x), l4], .ref x :: st, h)) ∧ (∀ ls a st h, zz_Y 120 (9, ls, .ref a :: st, h) = mo_gf (hp_g h a) 7 0 120 12 ls st h) ∧ (∀ l0 l1 l2 l3 l4 x st h, zz_nl l3 = true → zz_Y 120 (12, [l0, l1, l2, l3, l4], .ref x :: st, h) = zz_Y 120 (14, [l0, l1, l2, l3, some (.ref x)], st, h)) ∧ (∀ l0 l1 l2 l3 x st h, zz_Y 120 (14, [l0, l1, l2, l3, some (.ref x)], st, h) = zz_Y 120 (16, [l0, l1, l2, l3, some (.ref x)], .ref x :: st, h)) ∧ (∀ l0 l2 l3 l4 x st h, zz_Y 120 (16, [l0, some (.int x), l2, l3, l4], st, h) = zz_Y 120 (17, [l0, some (.int x), l2, l3, l4], .int x :: st, h)) ∧ (∀ ls a0 a1 h, zz_Y 120 (17, ls, [a1, a0], h) = mo_k 120 20 ls [] (zz_run 44 [a0, a1] h)) ∧ (∀ ls a st h, zz_Y 120 (20, ls, .int a :: st, h) = if a = nI 0 then zz_Y 120 (23, ls, st, h) else zz_Y 120 (25, ls, st, h)) ∧ (∀ ls st h, zz_Y 120 (23, ls, st, h) = zz_Y 120 (24, ls, .int (-1) :: st, h)) ∧ (∀ ls v h, zz_Y 120 (24, ls, [.int v], h) = some (some (.int v), h)) ∧ (∀ l0 l1 l3 l4 x st h, zz_Y 120 (25, [l0, l1, some (.int x), l3, l4], st, h) = zz_Y 120 (26, [l0, l1, some (.int x), l3, l4], .int x :: st, h)) ∧ (∀ ls x st h, zz_Y 120 (26, ls, .int x :: st, h) = zz_Y 120 (zz_sw [(nI 0, 80), (nI 1, 88), (nI 2, 96), (nI 3, 109), (nI 4, 118), (nI 5, 124), (nI 6, 133), (nI 7, 143), (nI 8, 149), (nI 9, 161)] 174 x, ls, st, h)) ∧ (∀ l0 l1 l2 l3 x st h, zz_Y 120 (80, [l0, l1, l2, l3, some (.ref x)], st, h) = zz_Y 120 (82, [l0, l1, l2, l3, some (.ref x)], .ref x :: st, h)) ∧ (∀ ls a st h, zz_Y 120 (82, ls, .ref a :: st, h) = mo_gf (hp_g h a) 3 7 120 85 ls st h) ∧ (∀ l0 l2 l3 l4 x st h, zz_Y 120 (85, [l0, some (.int x), l2, l3, l4], st, h) = zz_Y 120 (86, [l0, some (.int x), l2, l3, l4], .int x :: st, h)) ∧ (∀ ls a i st h, zz_Y 120 (86, ls, .int i :: .ref a :: st, h) = mo_ia (hp_g h a) i a 120 87 ls st h) ∧ (∀ ls v h, zz_Y 120 (87, ls, [.int v], h) = some (some (.int v), h)) ∧ (∀ l0 l1 l2 l3 x st h, zz_Y 120 (88, [l0, l1, l2, l3, some (.ref x)], st, h) = zz_Y 120 (90, [l0, l1, l2, l3, some (.ref x)], .ref x :: st, h)) ∧ (∀ ls a st h, zz_Y 120 (90, ls, .ref a :: st, h) = mo_gf (hp_g h a) 3 8 120 93 ls st h) ∧ (∀ l0 l2 l3 l4 x st h, zz_Y 120 (93, [l0, some (.int x), l2, l3, l4], st, h) = zz_Y 120 (94, [l0, some (.int x), l2, l3, l4], .int x :: st, h)) ∧ (∀ ls a i st h, zz_Y 120 (94, ls, .int i :: .ref a :: st, h) = mo_ia (hp_g h a) i a 120 95 ls st h) ∧ (∀ ls v h, zz_Y 120 (95, ls, [.int v], h) = some (some (.int v), h)) ∧ (∀ l0 l1 l2 l3 x st h, zz_Y 120 (96, [l0, l1, l2, l3, some (.ref x)], st, h) = zz_Y 120 (98, [l0, l1, l2, l3, some (.ref x)], .ref x :: st, h)) ∧ (∀ ls a st h, zz_Y 120 (98, ls, .ref a :: st, h) = mo_gf (hp_g h a) 3 9 120 101 ls st h) ∧ (∀ l0 l2 l3 l4 x st h, zz_Y 120 (101, [l0, some (.int x), l2, l3, l4], st, h) = zz_Y 120 (102, [l0, some (.int x), l2, l3, l4], .int x :: st, h)) ∧ (∀ ls a i st h, zz_Y 120 (102, ls, .int i :: .ref a :: st, h) = mo_ia (hp_g h a) i a 120 103 ls st h) ∧ (∀ ls a0 h, zz_Y 120 (103, ls, [a0], h) = mo_k 120 106 ls [] (zz_run 64 [a0] h)) ∧ (∀ ls st h, zz_Y 120 (106, ls, st, h) = zz_Y 120 (107, ls, .int (nI 1) :: st, h)) ∧ (∀ ls a b st h, zz_Y 120 (107, ls, .int b :: .int a :: st, h) = zz_Y 120 (108, ls, .int (a - b) :: st, h)) ∧ (∀ ls v h, zz_Y 120 (108, ls, [.int v], h) = some (some (.int v), h)) ∧ (∀ l0 l1 l2 l4 x st h, zz_Y 120 (109, [l0, l1, l2, some (.ref x), l4], st, h) = zz_Y 120 (110, [l0, l1, l2, some (.ref x), l4], .ref x :: st, h)) ∧ (∀ ls a st h, zz_Y 120 (110, ls, .ref a :: st, h) = mo_gf (hp_g h a) 7 3 120 113 ls st h) ∧ (∀ l0 l2 l3 l4 x st h, zz_Y 120 (113, [l0, some (.int x), l2, l3, l4], st, h) = zz_Y 120 (114, [l0, some (.int x), l2, l3, l4], .int x :: st, h)) ∧ (∀ ls a0 a1 h, zz_Y 120 (114, ls, [a1, a0], h) = mo_k 120 117 ls [] (zz_run 62 [a0, a1] h)) ∧ (∀ ls v h, zz_Y 120 (117, ls, [.int v], h) = some (some (.int v), h)) ∧ (∀ l0 l1 l2 l4 x st h, zz_Y 120 (118, [l0, l1, l2, some (.ref x), l4], st, h) = zz_Y 120 (119, [l0, l1, l2, some (.ref x), l4], .ref x :: st, h)) ∧ (∀ l0 l2 l3 l4 x st h, zz_Y 120 (119, [l0, some (.int x), l2, l3, l4], st, h) = zz_Y 120 (120, [l0, some (.int x), l2, l3, l4], .int x :: st, h)) ∧ (∀ ls a0 a1 h, zz_Y 120 (120, ls, [a1, a0], h) = mo_k 120 123 ls [] (zz_run 121 [a0, a1] h)) ∧ (∀ ls v h, zz_Y 120 (123, ls, [.int v], h) = some (some (.int v), h)) ∧ (∀ l0 l1 l2 l4 x st h, zz_Y 120 (124, [l0, l1, l2, some (.ref x), l4], st, h) = zz_Y 120 (125, [l0, l1, l2, some (.ref x), l4], .ref x :: st, h)) ∧ (∀ ls a st h, zz_Y 120 (125, ls, .ref a :: st, h) = mo_gf (hp_g h a) 7 3 120 128 ls st h) ∧ (∀ l0 l2 l3 l4 x st h, zz_Y 120 (128, [l0, some (.int x), l2, l3, l4], st, h) = zz_Y 120 (129, [l0, some (.int x), l2, l3, l4], .int x :: st, h)) ∧ (∀ ls a0 a1 h, zz_Y 120 (129, ls, [a1, a0], h) = mo_k 120 132 ls [] (zz_run 80 [a0, a1] h)) ∧ (∀ ls v h, zz_Y 120 (132, ls, [.int v], h) = some (some (.int v), h)) ∧ (∀ l0 l1 l2 l4 x st h, zz_Y 120 (133, [l0, l1, l2, some (.ref x), l4], st, h) = zz_Y 120 (134, [l0, l1, l2, some (.ref x), l4], .ref x :: st, h)) ∧ (∀ ls a st h, zz_Y 120 (134, ls, .ref a :: st, h) = mo_gf (hp_g h a) 7 3 120 137 ls st h) ∧ (∀ l0 l2 l3 l4 x st h, zz_Y 120 (137, [l0, some (.int x), l2, l3, l4], st, h) = zz_Y 120 (138, [l0, some (.int x), l2, l3, l4], .int x :: st, h)) ∧ (∀ ls st h, zz_Y 120 (138, ls, st, h) = zz_Y 120 (139, ls, .int (-1) :: st, h)) ∧ (∀ ls a0 a1 a2 h, zz_Y 120 (139, ls, [a2, a1, a0], h) = mo_k 120 142 ls [] (zz_run 107 [a0, a1, a2] h)) ∧ (∀ ls v h, zz_Y 120 (142, ls, [.int v], h) = some (some (.int v), h)) ∧ (∀ l1 l2 l3 l4 x st h, zz_Y 120 (143, [some (.ref x), l1, l2, l3, l4], st, h) = zz_Y 120 (144, [some (.ref x), l1, l2, l3, l4], .ref x :: st, h)) ∧ (∀ l0 l2 l3 l4 x st h, zz_Y 120 (144, [l0, some (.int x), l2, l3, l4], st, h) = zz_Y 120 (145, [l0, some (.int x), l2, l3, l4], .int x :: st, h)) ∧ (∀ ls a0 a1 h, zz_Y 120 (145, ls, [a1, a0], h) = mo_k 120 148 ls [] (zz_run 122 [a0, a1] h)) ∧ (∀ ls v h, zz_Y 120 (148, ls, [.int v], h) = some (some (.int v), h)) ∧ (∀ l1 l2 l3 l4 x st h, zz_Y 120 (149, [some (.ref x), l1, l2, l3, l4], st, h) = zz_Y 120 (150, [some (.ref x), l1, l2, l3, l4], .ref x :: st, h)) ∧ (∀ ls a st h, zz_Y 120 (150, ls, .ref a :: st, h) = mo_gf (hp_g h a) 10 0 120 153 ls st h) ∧ (∀ ls st h, zz_Y 120 (153, ls, st, h) = zz_Y 120 (154, ls, .int (-1) :: st, h)) :=
  ⟨fun _ _ _ _ _ _ _ => xl_aln d120_0 rfl,
   fun _ _ _ _ => xl_gf d120_1 xco120 xf_10_12,
   fun _ _ _ _ => xl_gf d120_4 xco120 xf_10_79,
   fun _ _ _ _ _ _ _ _ hc => xl_asn d120_7 xml120 (by decide) (zz_nl_s1 hc),
   fun _ _ _ _ _ _ _ => xl_aln d120_8 rfl,
   fun _ _ _ _ => xl_gf d120_9 xco120 xf_10_163,
   fun _ _ _ _ _ _ _ _ hc => xl_as d120_12 xml120 (by decide) (zz_nl_s1 hc),
   fun _ _ _ _ _ _ _ => xl_al d120_14 rfl,
   fun _ _ _ _ _ _ _ => xl_iln d120_16 rfl,
   fun ls a0 a1 h => xl_cv (As := [a0, a1]) (st := []) d120_17 xco120 xm_10_167 (congrArg Nat.succ xnp44) (by decide +kernel) rfl,
   fun _ _ _ _ => xl_ifne d120_20 rfl,
   fun _ _ _ => xl_ic d120_23 (by decide +kernel),
   fun _ _ _ => xl_iri d120_24 xrt120,
   fun _ _ _ _ _ _ _ => xl_iln d120_25 rfl,
   fun _ _ _ _ => xl_tbs (qs := [(nI 0, 80), (nI 1, 88), (nI 2, 96), (nI 3, 109), (nI 4, 118), (nI 5, 124), (nI 6, 133), (nI 7, 143), (nI 8, 149), (nI 9, 161)]) d120_26 rfl (by decide +kernel) (by decide +kernel) (by decide +kernel),
   fun _ _ _ _ _ _ _ => xl_al d120_80 rfl,
   fun _ _ _ _ => xl_gf d120_82 xco120 xf_10_270,
   fun _ _ _ _ _ _ _ => xl_iln d120_85 rfl,
   fun _ _ _ _ _ => xl_ia d120_86,
   fun _ _ _ => xl_iri d120_87 xrt120,
   fun _ _ _ _ _ _ _ => xl_al d120_88 rfl,
   fun _ _ _ _ => xl_gf d120_90 xco120 xf_10_273,
   fun _ _ _ _ _ _ _ => xl_iln d120_93 rfl,
   fun _ _ _ _ _ => xl_ia d120_94,
   fun _ _ _ => xl_iri d120_95 xrt120,
   fun _ _ _ _ _ _ _ => xl_al d120_96 rfl,
   fun _ _ _ _ => xl_gf d120_98 xco120 xf_10_276,
   fun _ _ _ _ _ _ _ => xl_iln d120_101 rfl,
   fun _ _ _ _ _ => xl_ia d120_102,
   fun ls a0 h => xl_cs (As := [a0]) (st := []) d120_103 xco120 xm_10_239 xnp64 (by decide +kernel) rfl,
   fun _ _ _ => xl_ic d120_106 (by decide +kernel),
   fun _ _ _ _ _ => xl_isub d120_107,
   fun _ _ _ => xl_iri d120_108 xrt120,
   fun _ _ _ _ _ _ _ => xl_aln d120_109 rfl,
   fun _ _ _ _ => xl_gf d120_110 xco120 xf_10_102,
   fun _ _ _ _ _ _ _ => xl_iln d120_113 rfl,
   fun ls a0 a1 h => xl_cv (As := [a0, a1]) (st := []) d120_114 xco120 xm_10_105 (congrArg Nat.succ xnp62) (by decide +kernel) rfl,
   fun _ _ _ => xl_iri d120_117 xrt120,
   fun _ _ _ _ _ _ _ => xl_aln d120_118 rfl,
   fun _ _ _ _ _ _ _ => xl_iln d120_119 rfl,
   fun ls a0 a1 h => xl_cv (As := [a0, a1]) (st := []) d120_120 xco120 xm_10_279 (congrArg Nat.succ xnp121) (by decide +kernel) rfl,
   fun _ _ _ => xl_iri d120_123 xrt120,
   fun _ _ _ _ _ _ _ => xl_aln d120_124 rfl,
   fun _ _ _ _ => xl_gf d120_125 xco120 xf_10_102,
   fun _ _ _ _ _ _ _ => xl_iln d120_128 rfl,
   fun ls a0 a1 h => xl_cv (As := [a0, a1]) (st := []) d120_129 xco120 xm_10_134 (congrArg Nat.succ xnp80) (by decide +kernel) rfl,
   fun _ _ _ => xl_iri d120_132 xrt120,
   fun _ _ _ _ _ _ _ => xl_aln d120_133 rfl,
   fun _ _ _ _ => xl_gf d120_134 xco120 xf_10_102,
   fun _ _ _ _ _ _ _ => xl_iln d120_137 rfl,
   fun _ _ _ => xl_ic d120_138 (by decide +kernel),
   fun ls a0 a1 a2 h => xl_cv (As := [a0, a1, a2]) (st := []) d120_139 xco120 xm_10_282 (congrArg Nat.succ xnp107) (by decide +kernel) rfl,
   fun _ _ _ => xl_iri d120_142 xrt120,
   fun _ _ _ _ _ _ _ => xl_aln d120_143 rfl,
   fun _ _ _ _ _ _ _ => xl_iln d120_144 rfl,
   fun ls a0 a1 h => xl_cv (As := [a0, a1]) (st := []) d120_145 xco120 xm_10_285 (congrArg Nat.succ xnp122) (by decide +kernel) rfl,
   fun _ _ _ => xl_iri d120_148 xrt120,
   fun _ _ _ _ _ _ _ => xl_aln d120_149 rfl,
   fun _ _ _ _ => xl_gf d120_150 xco120 xf_10_12,
   fun _ _ _ => xl_ic d120_153 (by decide +kernel)⟩
theorem x120_p1 : (∀ l0 l2 l3 l4 x st h, zz_Y 120 (154, [l0, some (.int x), l2, l3, l4], st, h) = zz_Y 120 (155, [l0, some (.int x), l2, l3, l4], .int x :: st, h)) ∧ (∀ ls st h, zz_Y 120 (155, ls, st, h) = zz_Y 120 (157, ls, .int (nI 20) :: st, h)) ∧ (∀ ls a0 a1 a2 a3 h, zz_Y 120 (157, ls, [a3, a2, a1, a0], h) = mo_k 120 160 ls [] (zz_run 102 [a0, a1, a2, a3] h)) ∧ (∀ ls v h, zz_Y 120 (160, ls, [.int v], h) = some (some (.int v), h)) ∧ (∀ l1 l2 l3 l4 x st h, zz_Y 120 (161, [some (.ref x), l1, l2, l3, l4], st, h) = zz_Y 120 (162, [some (.ref x), l1, l2, l3, l4], .ref x :: st, h)) ∧ (∀ ls a st h, zz_Y 120 (162, ls, .ref a :: st, h) = mo_gf (hp_g h a) 10 0 120 165 ls st h) ∧ (∀ ls a st h, zz_Y 120 (165, ls, .ref a :: st, h) = mo_gf (hp_g h a) 1 2 120 168 ls st h) ∧ (∀ ls a st h, zz_Y 120 (168, ls, .ref a :: st, h) = mo_gf (hp_g h a) 0 0 120 171 ls st h) ∧ (∀ l0 l2 l3 l4 x st h, zz_Y 120 (171, [l0, some (.int x), l2, l3, l4], st, h) = zz_Y 120 (172, [l0, some (.int x), l2, l3, l4], .int x :: st, h)) ∧ (∀ ls a i st h, zz_Y 120 (172, ls, .int i :: .ref a :: st, h) = mo_ia (hp_g h a) i a 120 173 ls st h) ∧ (∀ ls v h, zz_Y 120 (173, ls, [.int v], h) = some (some (.int v), h)) ∧ (∀ l0 l1 l2 l3 x st h, zz_Y 120 (174, [l0, l1, l2, l3, some (.ref x)], st, h) = zz_Y 120 (176, [l0, l1, l2, l3, some (.ref x)], .ref x :: st, h)) ∧ (∀ ls a st h, zz_Y 120 (176, ls, .ref a :: st, h) = mo_gf (hp_g h a) 3 6 120 179 ls st h) ∧ (∀ l0 l2 l3 l4 x st h, zz_Y 120 (179, [l0, some (.int x), l2, l3, l4], st, h) = zz_Y 120 (180, [l0, some (.int x), l2, l3, l4], .int x :: st, h)) ∧ (∀ ls a i st h, zz_Y 120 (180, ls, .int i :: .ref a :: st, h) = mo_la (hp_g h a) i 120 181 ls st h) ∧ (∀ l0 l1 l3 l4 x st h, zz_Y 120 (181, [l0, l1, some (.int x), l3, l4], st, h) = zz_Y 120 (182, [l0, l1, some (.int x), l3, l4], .int x :: st, h)) ∧ (∀ ls a0 a1 h, zz_Y 120 (182, ls, [a1, a0], h) = mo_k 120 185 ls [] (zz_run 118 [a0, a1] h)) ∧ (∀ ls v h, zz_Y 120 (185, ls, [.int v], h) = some (some (.int v), h)) :=
  ⟨fun _ _ _ _ _ _ _ => xl_iln d120_154 rfl,
   fun _ _ _ => xl_bi d120_155 (by decide +kernel),
   fun ls a0 a1 a2 a3 h => xl_cv (As := [a0, a1, a2, a3]) (st := []) d120_157 xco120 xm_10_224 (congrArg Nat.succ xnp102) (by decide +kernel) rfl,
   fun _ _ _ => xl_iri d120_160 xrt120,
   fun _ _ _ _ _ _ _ => xl_aln d120_161 rfl,
   fun _ _ _ _ => xl_gf d120_162 xco120 xf_10_12,
   fun _ _ _ _ => xl_gf d120_165 xco120 xf_10_92,
   fun _ _ _ _ => xl_gf d120_168 xco120 xf_10_189,
   fun _ _ _ _ _ _ _ => xl_iln d120_171 rfl,
   fun _ _ _ _ _ => xl_ia d120_172,
   fun _ _ _ => xl_iri d120_173 xrt120,
   fun _ _ _ _ _ _ _ => xl_al d120_174 rfl,
   fun _ _ _ _ => xl_gf d120_176 xco120 xf_10_288,
   fun _ _ _ _ _ _ _ => xl_iln d120_179 rfl,
   fun _ _ _ _ _ => xl_la d120_180,
   fun _ _ _ _ _ _ _ => xl_iln d120_181 rfl,
   fun ls a0 a1 h => xl_cs (As := [a0, a1]) (st := []) d120_182 xco120 xm_10_264 xnp118 (by decide +kernel) rfl,
   fun _ _ _ => xl_iri d120_185 xrt120⟩
/-! 121 FacetSieve$Stock.tagsOf(I)I -/
theorem d121_0 : decode (zz_c 121) 0 = .ok (.iconst 0, 1) := by decide +kernel
theorem d121_1 : decode (zz_c 121) 1 = .ok (.istore_n 2, 1) := by decide +kernel
theorem d121_2 : decode (zz_c 121) 2 = .ok (.iconst 0, 1) := by decide +kernel
theorem d121_3 : decode (zz_c 121) 3 = .ok (.istore_n 3, 1) := by decide +kernel
theorem d121_4 : decode (zz_c 121) 4 = .ok (.iload_n 3, 1) := by decide +kernel
theorem d121_5 : decode (zz_c 121) 5 = .ok (.sipush 256, 3) := by decide +kernel
theorem d121_8 : decode (zz_c 121) 8 = .ok (.if_icmp .ge 25, 3) := by decide +kernel
theorem d121_11 : decode (zz_c 121) 11 = .ok (.aload_n 0, 1) := by decide +kernel
theorem d121_12 : decode (zz_c 121) 12 = .ok (.getfield 22, 3) := by decide +kernel
theorem d121_15 : decode (zz_c 121) 15 = .ok (.iload_n 3, 1) := by decide +kernel
theorem d121_16 : decode (zz_c 121) 16 = .ok (.iaload, 1) := by decide +kernel
theorem d121_17 : decode (zz_c 121) 17 = .ok (.iload_n 1, 1) := by decide +kernel
theorem d121_18 : decode (zz_c 121) 18 = .ok (.invokestatic 73, 3) := by decide +kernel
theorem d121_21 : decode (zz_c 121) 21 = .ok (.ifCond .eq 6, 3) := by decide +kernel
theorem d121_24 : decode (zz_c 121) 24 = .ok (.iinc 2 1, 3) := by decide +kernel
theorem d121_27 : decode (zz_c 121) 27 = .ok (.iinc 3 1, 3) := by decide +kernel
theorem d121_30 : decode (zz_c 121) 30 = .ok (.goto (-26), 3) := by decide +kernel
theorem d121_33 : decode (zz_c 121) 33 = .ok (.iload_n 2, 1) := by decide +kernel
theorem d121_34 : decode (zz_c 121) 34 = .ok (.ireturn, 1) := by decide +kernel
theorem x121 : (∀ ls st h, zz_Y 121 (0, ls, st, h) = zz_Y 121 (1, ls, .int (nI 0) :: st, h)) ∧ (∀ l0 l1 l2 l3 x st h, zz_nl l1 = true → zz_Y 121 (1, [l0, l1, l2, l3], .int x :: st, h) = zz_Y 121 (2, [l0, l1, some (.int x), l3], st, h)) ∧ (∀ ls st h, zz_Y 121 (2, ls, st, h) = zz_Y 121 (3, ls, .int (nI 0) :: st, h)) ∧ (∀ l0 l1 l2 l3 x st h, zz_nl l2 = true → zz_Y 121 (3, [l0, l1, l2, l3], .int x :: st, h) = zz_Y 121 (4, [l0, l1, l2, some (.int x)], st, h)) ∧ (∀ ls st h, zz_Y 121 (5, ls, st, h) = zz_Y 121 (8, ls, .int (nI 256) :: st, h)) ∧ (∀ ls a b st h, zz_Y 121 (8, ls, .int b :: .int a :: st, h) = if a < b then zz_Y 121 (11, ls, st, h) else zz_Y 121 (33, ls, st, h)) ∧ (∀ l1 l2 l3 x st h, zz_Y 121 (11, [some (.ref x), l1, l2, l3], st, h) = zz_Y 121 (12, [some (.ref x), l1, l2, l3], .ref x :: st, h)) ∧ (∀ ls a st h, zz_Y 121 (12, ls, .ref a :: st, h) = mo_gf (hp_g h a) 7 2 121 15 ls st h) ∧ (∀ l0 l1 l2 x st h, zz_Y 121 (15, [l0, l1, l2, some (.int x)], st, h) = zz_Y 121 (16, [l0, l1, l2, some (.int x)], .int x :: st, h)) ∧ (∀ ls a i st h, zz_Y 121 (16, ls, .int i :: .ref a :: st, h) = mo_ia (hp_g h a) i a 121 17 ls st h) ∧ (∀ l0 l2 l3 x st h, zz_Y 121 (17, [l0, some (.int x), l2, l3], st, h) = zz_Y 121 (18, [l0, some (.int x), l2, l3], .int x :: st, h)) ∧ (∀ ls a0 a1 h, zz_Y 121 (18, ls, [a1, a0], h) = mo_k 121 21 ls [] (zz_run 50 [a0, a1] h)) ∧ (∀ ls a st h, zz_Y 121 (21, ls, .int a :: st, h) = if a = nI 0 then zz_Y 121 (27, ls, st, h) else zz_Y 121 (24, ls, st, h)) ∧ (∀ l0 l1 l3 x st h, zz_nl l1 = true → zz_Y 121 (24, [l0, l1, some (.int x), l3], st, h) = zz_Y 121 (27, [l0, l1, some (.int (x + nI 1)), l3], st, h)) ∧ (∀ l0 l1 l2 x st h, zz_nl l2 = true → zz_Y 121 (27, [l0, l1, l2, some (.int x)], st, h) = zz_Y 121 (30, [l0, l1, l2, some (.int (x + nI 1))], st, h)) ∧ (∀ ls st h, zz_Y 121 (30, ls, st, h) = zz_Y 121 (4, ls, st, h)) ∧ (∀ l0 l1 l3 x st h, zz_Y 121 (33, [l0, l1, some (.int x), l3], st, h) = zz_Y 121 (34, [l0, l1, some (.int x), l3], .int x :: st, h)) ∧ (∀ ls v h, zz_Y 121 (34, ls, [.int v], h) = some (some (.int v), h)) :=
  ⟨fun _ _ _ => xl_ic d121_0 (by decide +kernel),
   fun _ _ _ _ _ _ _ hc => xl_isn d121_1 xml121 (by decide) (zz_nl_s1 hc),
   fun _ _ _ => xl_ic d121_2 (by decide +kernel),
   fun _ _ _ _ _ _ _ hc => xl_isn d121_3 xml121 (by decide) (zz_nl_s1 hc),
   fun _ _ _ => xl_si d121_5 (by decide +kernel),
   fun _ _ _ _ _ => xl_icge d121_8 rfl,
   fun _ _ _ _ _ _ => xl_aln d121_11 rfl,
   fun _ _ _ _ => xl_gf d121_12 xco121 xf_7_22,
   fun _ _ _ _ _ _ => xl_iln d121_15 rfl,
   fun _ _ _ _ _ => xl_ia d121_16,
   fun _ _ _ _ _ _ => xl_iln d121_17 rfl,
   fun ls a0 a1 h => xl_csn (As := [a0, a1]) (st := []) d121_18 xco121 xm_7_73 xnp50 (by decide +kernel) rfl,
   fun _ _ _ _ => xl_ifeq d121_21 rfl,
   fun _ _ _ _ _ _ hc => xl_inc d121_24 xml121 (by decide) rfl (by decide +kernel) (zz_nl_s1 hc),
   fun _ _ _ _ _ _ hc => xl_inc d121_27 xml121 (by decide) rfl (by decide +kernel) (zz_nl_s1 hc),
   fun _ _ _ => xl_goto d121_30 rfl,
   fun _ _ _ _ _ _ => xl_iln d121_33 rfl,
   fun _ _ _ => xl_iri d121_34 xrt121⟩
theorem x121_c4 : ∀ l0 l1 l2 x st h, zz_Y 121 (4, [l0, l1, l2, some (.int x)], st, h) = zz_Y 121 (5, [l0, l1, l2, some (.int x)], .int x :: st, h) := fun _ _ _ _ _ _ => xl_iln d121_4 rfl
/-! 122 FacetSieve.amountBehind(I)I -/
theorem d122_0 : decode (zz_c 122) 0 = .ok (.aload_n 0, 1) := by decide +kernel
theorem d122_1 : decode (zz_c 122) 1 = .ok (.getfield 12, 3) := by decide +kernel
theorem d122_4 : decode (zz_c 122) 4 = .ok (.getfield 79, 3) := by decide +kernel
theorem d122_7 : decode (zz_c 122) 7 = .ok (.getfield 163, 3) := by decide +kernel
theorem d122_10 : decode (zz_c 122) 10 = .ok (.getfield 270, 3) := by decide +kernel
theorem d122_13 : decode (zz_c 122) 13 = .ok (.iload_n 1, 1) := by decide +kernel
theorem d122_14 : decode (zz_c 122) 14 = .ok (.iaload, 1) := by decide +kernel
theorem d122_15 : decode (zz_c 122) 15 = .ok (.istore_n 2, 1) := by decide +kernel
theorem d122_16 : decode (zz_c 122) 16 = .ok (.aload_n 0, 1) := by decide +kernel
theorem d122_17 : decode (zz_c 122) 17 = .ok (.getfield 12, 3) := by decide +kernel
theorem d122_20 : decode (zz_c 122) 20 = .ok (.getfield 92, 3) := by decide +kernel
theorem d122_23 : decode (zz_c 122) 23 = .ok (.getfield 203, 3) := by decide +kernel
theorem d122_26 : decode (zz_c 122) 26 = .ok (.iload_n 2, 1) := by decide +kernel
theorem d122_27 : decode (zz_c 122) 27 = .ok (.iaload, 1) := by decide +kernel
theorem d122_28 : decode (zz_c 122) 28 = .ok (.iconst 1, 1) := by decide +kernel
theorem d122_29 : decode (zz_c 122) 29 = .ok (.if_icmp .ne 7, 3) := by decide +kernel
theorem d122_32 : decode (zz_c 122) 32 = .ok (.iconst 1, 1) := by decide +kernel
theorem d122_33 : decode (zz_c 122) 33 = .ok (.goto 4, 3) := by decide +kernel
theorem d122_36 : decode (zz_c 122) 36 = .ok (.iconst 0, 1) := by decide +kernel
theorem d122_37 : decode (zz_c 122) 37 = .ok (.istore_n 3, 1) := by decide +kernel
theorem d122_38 : decode (zz_c 122) 38 = .ok (.aload_n 0, 1) := by decide +kernel
theorem d122_39 : decode (zz_c 122) 39 = .ok (.getfield 12, 3) := by decide +kernel
theorem d122_42 : decode (zz_c 122) 42 = .ok (.iload_n 3, 1) := by decide +kernel
theorem d122_43 : decode (zz_c 122) 43 = .ok (.ifCond .eq 7, 3) := by decide +kernel
theorem d122_46 : decode (zz_c 122) 46 = .ok (.iconst (-1), 1) := by decide +kernel
theorem d122_47 : decode (zz_c 122) 47 = .ok (.goto 4, 3) := by decide +kernel
theorem d122_50 : decode (zz_c 122) 50 = .ok (.iload_n 2, 1) := by decide +kernel
theorem d122_51 : decode (zz_c 122) 51 = .ok (.iconst (-1), 1) := by decide +kernel
theorem d122_52 : decode (zz_c 122) 52 = .ok (.iload_n 1, 1) := by decide +kernel
theorem d122_53 : decode (zz_c 122) 53 = .ok (.invokevirtual 224, 3) := by decide +kernel
theorem d122_56 : decode (zz_c 122) 56 = .ok (.ireturn, 1) := by decide +kernel
theorem x122 : (∀ l1 l2 l3 x st h, zz_Y 122 (0, [some (.ref x), l1, l2, l3], st, h) = zz_Y 122 (1, [some (.ref x), l1, l2, l3], .ref x :: st, h)) ∧ (∀ ls a st h, zz_Y 122 (1, ls, .ref a :: st, h) = mo_gf (hp_g h a) 10 0 122 4 ls st h) ∧ (∀ ls a st h, zz_Y 122 (4, ls, .ref a :: st, h) = mo_gf (hp_g h a) 1 1 122 7 ls st h) ∧ (∀ ls a st h, zz_Y 122 (7, ls, .ref a :: st, h) = mo_gf (hp_g h a) 7 0 122 10 ls st h) ∧ (∀ ls a st h, zz_Y 122 (10, ls, .ref a :: st, h) = mo_gf (hp_g h a) 3 7 122 13 ls st h) ∧ (∀ l0 l2 l3 x st h, zz_Y 122 (13, [l0, some (.int x), l2, l3], st, h) = zz_Y 122 (14, [l0, some (.int x), l2, l3], .int x :: st, h)) ∧ (∀ ls a i st h, zz_Y 122 (14, ls, .int i :: .ref a :: st, h) = mo_ia (hp_g h a) i a 122 15 ls st h) ∧ (∀ l0 l1 l2 l3 x st h, zz_nl l1 = true → zz_Y 122 (15, [l0, l1, l2, l3], .int x :: st, h) = zz_Y 122 (16, [l0, l1, some (.int x), l3], st, h)) ∧ (∀ l1 l2 l3 x st h, zz_Y 122 (16, [some (.ref x), l1, l2, l3], st, h) = zz_Y 122 (17, [some (.ref x), l1, l2, l3], .ref x :: st, h)) ∧ (∀ ls a st h, zz_Y 122 (17, ls, .ref a :: st, h) = mo_gf (hp_g h a) 10 0 122 20 ls st h) ∧ (∀ ls a st h, zz_Y 122 (20, ls, .ref a :: st, h) = mo_gf (hp_g h a) 1 2 122 23 ls st h) ∧ (∀ ls a st h, zz_Y 122 (23, ls, .ref a :: st, h) = mo_gf (hp_g h a) 0 1 122 26 ls st h) ∧ (∀ l0 l1 l3 x st h, zz_Y 122 (26, [l0, l1, some (.int x), l3], st, h) = zz_Y 122 (27, [l0, l1, some (.int x), l3], .int x :: st, h)) ∧ (∀ ls a i st h, zz_Y 122 (27, ls, .int i :: .ref a :: st, h) = mo_ia (hp_g h a) i a 122 28 ls st h) ∧ (∀ ls st h, zz_Y 122 (28, ls, st, h) = zz_Y 122 (29, ls, .int (nI 1) :: st, h)) ∧ (∀ ls a b st h, zz_Y 122 (29, ls, .int b :: .int a :: st, h) = if a = b then zz_Y 122 (32, ls, st, h) else zz_Y 122 (36, ls, st, h)) ∧ (∀ ls st h, zz_Y 122 (32, ls, st, h) = zz_Y 122 (33, ls, .int (nI 1) :: st, h)) ∧ (∀ ls st h, zz_Y 122 (33, ls, st, h) = zz_Y 122 (37, ls, st, h)) ∧ (∀ ls st h, zz_Y 122 (36, ls, st, h) = zz_Y 122 (37, ls, .int (nI 0) :: st, h)) ∧ (∀ l0 l1 l2 l3 x st h, zz_nl l2 = true → zz_Y 122 (37, [l0, l1, l2, l3], .int x :: st, h) = zz_Y 122 (38, [l0, l1, l2, some (.int x)], st, h)) ∧ (∀ l1 l2 l3 x st h, zz_Y 122 (38, [some (.ref x), l1, l2, l3], st, h) = zz_Y 122 (39, [some (.ref x), l1, l2, l3], .ref x :: st, h)) ∧ (∀ ls a st h, zz_Y 122 (39, ls, .ref a :: st, h) = mo_gf (hp_g h a) 10 0 122 42 ls st h) ∧ (∀ l0 l1 l2 x st h, zz_Y 122 (42, [l0, l1, l2, some (.int x)], st, h) = zz_Y 122 (43, [l0, l1, l2, some (.int x)], .int x :: st, h)) ∧ (∀ ls a st h, zz_Y 122 (43, ls, .int a :: st, h) = if a = nI 0 then zz_Y 122 (50, ls, st, h) else zz_Y 122 (46, ls, st, h)) ∧ (∀ ls st h, zz_Y 122 (46, ls, st, h) = zz_Y 122 (47, ls, .int (-1) :: st, h)) ∧ (∀ ls st h, zz_Y 122 (47, ls, st, h) = zz_Y 122 (51, ls, st, h)) ∧ (∀ l0 l1 l3 x st h, zz_Y 122 (50, [l0, l1, some (.int x), l3], st, h) = zz_Y 122 (51, [l0, l1, some (.int x), l3], .int x :: st, h)) ∧ (∀ ls st h, zz_Y 122 (51, ls, st, h) = zz_Y 122 (52, ls, .int (-1) :: st, h)) ∧ (∀ l0 l2 l3 x st h, zz_Y 122 (52, [l0, some (.int x), l2, l3], st, h) = zz_Y 122 (53, [l0, some (.int x), l2, l3], .int x :: st, h)) ∧ (∀ ls a0 a1 a2 a3 h, zz_Y 122 (53, ls, [a3, a2, a1, a0], h) = mo_k 122 56 ls [] (zz_run 102 [a0, a1, a2, a3] h)) ∧ (∀ ls v h, zz_Y 122 (56, ls, [.int v], h) = some (some (.int v), h)) :=
  ⟨fun _ _ _ _ _ _ => xl_aln d122_0 rfl,
   fun _ _ _ _ => xl_gf d122_1 xco122 xf_10_12,
   fun _ _ _ _ => xl_gf d122_4 xco122 xf_10_79,
   fun _ _ _ _ => xl_gf d122_7 xco122 xf_10_163,
   fun _ _ _ _ => xl_gf d122_10 xco122 xf_10_270,
   fun _ _ _ _ _ _ => xl_iln d122_13 rfl,
   fun _ _ _ _ _ => xl_ia d122_14,
   fun _ _ _ _ _ _ _ hc => xl_isn d122_15 xml122 (by decide) (zz_nl_s1 hc),
   fun _ _ _ _ _ _ => xl_aln d122_16 rfl,
   fun _ _ _ _ => xl_gf d122_17 xco122 xf_10_12,
   fun _ _ _ _ => xl_gf d122_20 xco122 xf_10_92,
   fun _ _ _ _ => xl_gf d122_23 xco122 xf_10_203,
   fun _ _ _ _ _ _ => xl_iln d122_26 rfl,
   fun _ _ _ _ _ => xl_ia d122_27,
   fun _ _ _ => xl_ic d122_28 (by decide +kernel),
   fun _ _ _ _ _ => xl_icne d122_29 rfl,
   fun _ _ _ => xl_ic d122_32 (by decide +kernel),
   fun _ _ _ => xl_goto d122_33 rfl,
   fun _ _ _ => xl_ic d122_36 (by decide +kernel),
   fun _ _ _ _ _ _ _ hc => xl_isn d122_37 xml122 (by decide) (zz_nl_s1 hc),
   fun _ _ _ _ _ _ => xl_aln d122_38 rfl,
   fun _ _ _ _ => xl_gf d122_39 xco122 xf_10_12,
   fun _ _ _ _ _ _ => xl_iln d122_42 rfl,
   fun _ _ _ _ => xl_ifeq d122_43 rfl,
   fun _ _ _ => xl_ic d122_46 (by decide +kernel),
   fun _ _ _ => xl_goto d122_47 rfl,
   fun _ _ _ _ _ _ => xl_iln d122_50 rfl,
   fun _ _ _ => xl_ic d122_51 (by decide +kernel),
   fun _ _ _ _ _ _ => xl_iln d122_52 rfl,
   fun ls a0 a1 a2 a3 h => xl_cv (As := [a0, a1, a2, a3]) (st := []) d122_53 xco122 xm_10_224 (congrArg Nat.succ xnp102) (by decide +kernel) rfl,
   fun _ _ _ => xl_iri d122_56 xrt122⟩
/-! 123 FacetSieve.box(III)I -/
theorem d123_0 : decode (zz_c 123) 0 = .ok (.aload_n 0, 1) := by decide +kernel
theorem d123_1 : decode (zz_c 123) 1 = .ok (.getfield 12, 3) := by decide +kernel
theorem d123_4 : decode (zz_c 123) 4 = .ok (.getfield 79, 3) := by decide +kernel
theorem d123_7 : decode (zz_c 123) 7 = .ok (.getfield 163, 3) := by decide +kernel
theorem d123_10 : decode (zz_c 123) 10 = .ok (.iload_n 1, 1) := by decide +kernel
theorem d123_11 : decode (zz_c 123) 11 = .ok (.invokevirtual 167, 3) := by decide +kernel
theorem d123_14 : decode (zz_c 123) 14 = .ok (.ifCond .eq 13, 3) := by decide +kernel
theorem d123_17 : decode (zz_c 123) 17 = .ok (.iload_n 2, 1) := by decide +kernel
theorem d123_18 : decode (zz_c 123) 18 = .ok (.ifCond .lt 9, 3) := by decide +kernel
theorem d123_21 : decode (zz_c 123) 21 = .ok (.iload_n 2, 1) := by decide +kernel
theorem d123_22 : decode (zz_c 123) 22 = .ok (.bipush 8, 2) := by decide +kernel
theorem d123_24 : decode (zz_c 123) 24 = .ok (.if_icmp .lt 5, 3) := by decide +kernel
theorem d123_27 : decode (zz_c 123) 27 = .ok (.iconst (-1), 1) := by decide +kernel
theorem d123_28 : decode (zz_c 123) 28 = .ok (.ireturn, 1) := by decide +kernel
theorem d123_29 : decode (zz_c 123) 29 = .ok (.aload_n 0, 1) := by decide +kernel
theorem d123_30 : decode (zz_c 123) 30 = .ok (.getfield 12, 3) := by decide +kernel
theorem d123_33 : decode (zz_c 123) 33 = .ok (.getfield 79, 3) := by decide +kernel
theorem d123_36 : decode (zz_c 123) 36 = .ok (.getfield 102, 3) := by decide +kernel
theorem d123_39 : decode (zz_c 123) 39 = .ok (.iload_n 1, 1) := by decide +kernel
theorem d123_40 : decode (zz_c 123) 40 = .ok (.iload_n 2, 1) := by decide +kernel
theorem d123_41 : decode (zz_c 123) 41 = .ok (.invokevirtual 291, 3) := by decide +kernel
theorem d123_44 : decode (zz_c 123) 44 = .ok (.istore 4, 2) := by decide +kernel
theorem d123_46 : decode (zz_c 123) 46 = .ok (.iload 4, 2) := by decide +kernel
theorem d123_48 : decode (zz_c 123) 48 = .ok (.ifCond .ne 5, 3) := by decide +kernel
theorem d123_51 : decode (zz_c 123) 51 = .ok (.iconst (-1), 1) := by decide +kernel
theorem d123_52 : decode (zz_c 123) 52 = .ok (.ireturn, 1) := by decide +kernel
theorem d123_53 : decode (zz_c 123) 53 = .ok (.iload_n 3, 1) := by decide +kernel
theorem d123_54 : decode (zz_c 123) 54 = .ok (.tableswitch 54 0 3 #[30, 36, 42, 48], 30) := by decide +kernel
theorem d123_84 : decode (zz_c 123) 84 = .ok (.iload 4, 2) := by decide +kernel
theorem d123_86 : decode (zz_c 123) 86 = .ok (.invokestatic 294, 3) := by decide +kernel
theorem d123_89 : decode (zz_c 123) 89 = .ok (.ireturn, 1) := by decide +kernel
theorem d123_90 : decode (zz_c 123) 90 = .ok (.iload 4, 2) := by decide +kernel
theorem d123_92 : decode (zz_c 123) 92 = .ok (.invokestatic 239, 3) := by decide +kernel
theorem d123_95 : decode (zz_c 123) 95 = .ok (.ireturn, 1) := by decide +kernel
theorem d123_96 : decode (zz_c 123) 96 = .ok (.iload 4, 2) := by decide +kernel
theorem d123_98 : decode (zz_c 123) 98 = .ok (.invokestatic 299, 3) := by decide +kernel
theorem d123_101 : decode (zz_c 123) 101 = .ok (.ireturn, 1) := by decide +kernel
theorem d123_102 : decode (zz_c 123) 102 = .ok (.iload 4, 2) := by decide +kernel
theorem d123_104 : decode (zz_c 123) 104 = .ok (.invokestatic 300, 3) := by decide +kernel
theorem d123_107 : decode (zz_c 123) 107 = .ok (.ireturn, 1) := by decide +kernel
theorem d123_108 : decode (zz_c 123) 108 = .ok (.iconst (-1), 1) := by decide +kernel
theorem d123_109 : decode (zz_c 123) 109 = .ok (.ireturn, 1) := by decide +kernel
theorem x123 : (∀ l1 l2 l3 l4 x st h, zz_Y 123 (0, [some (.ref x), l1, l2, l3, l4], st, h) = zz_Y 123 (1, [some (.ref x), l1, l2, l3, l4], .ref x :: st, h)) ∧ (∀ ls a st h, zz_Y 123 (1, ls, .ref a :: st, h) = mo_gf (hp_g h a) 10 0 123 4 ls st h) ∧ (∀ ls a st h, zz_Y 123 (4, ls, .ref a :: st, h) = mo_gf (hp_g h a) 1 1 123 7 ls st h) ∧ (∀ ls a st h, zz_Y 123 (7, ls, .ref a :: st, h) = mo_gf (hp_g h a) 7 0 123 10 ls st h) ∧ (∀ l0 l2 l3 l4 x st h, zz_Y 123 (10, [l0, some (.int x), l2, l3, l4], st, h) = zz_Y 123 (11, [l0, some (.int x), l2, l3, l4], .int x :: st, h)) ∧ (∀ ls a0 a1 h, zz_Y 123 (11, ls, [a1, a0], h) = mo_k 123 14 ls [] (zz_run 44 [a0, a1] h)) ∧ (∀ ls a st h, zz_Y 123 (14, ls, .int a :: st, h) = if a = nI 0 then zz_Y 123 (27, ls, st, h) else zz_Y 123 (17, ls, st, h)) ∧ (∀ l0 l1 l3 l4 x st h, zz_Y 123 (17, [l0, l1, some (.int x), l3, l4], st, h) = zz_Y 123 (18, [l0, l1, some (.int x), l3, l4], .int x :: st, h)) ∧ (∀ ls a st h, zz_Y 123 (18, ls, .int a :: st, h) = if a < nI 0 then zz_Y 123 (27, ls, st, h) else zz_Y 123 (21, ls, st, h)) ∧ (∀ l0 l1 l3 l4 x st h, zz_Y 123 (21, [l0, l1, some (.int x), l3, l4], st, h) = zz_Y 123 (22, [l0, l1, some (.int x), l3, l4], .int x :: st, h)) ∧ (∀ ls st h, zz_Y 123 (22, ls, st, h) = zz_Y 123 (24, ls, .int (nI 8) :: st, h)) ∧ (∀ ls a b st h, zz_Y 123 (24, ls, .int b :: .int a :: st, h) = if a < b then zz_Y 123 (29, ls, st, h) else zz_Y 123 (27, ls, st, h)) ∧ (∀ ls st h, zz_Y 123 (27, ls, st, h) = zz_Y 123 (28, ls, .int (-1) :: st, h)) ∧ (∀ ls v h, zz_Y 123 (28, ls, [.int v], h) = some (some (.int v), h)) ∧ (∀ l1 l2 l3 l4 x st h, zz_Y 123 (29, [some (.ref x), l1, l2, l3, l4], st, h) = zz_Y 123 (30, [some (.ref x), l1, l2, l3, l4], .ref x :: st, h)) ∧ (∀ ls a st h, zz_Y 123 (30, ls, .ref a :: st, h) = mo_gf (hp_g h a) 10 0 123 33 ls st h) ∧ (∀ ls a st h, zz_Y 123 (33, ls, .ref a :: st, h) = mo_gf (hp_g h a) 1 1 123 36 ls st h) ∧ (∀ ls a st h, zz_Y 123 (36, ls, .ref a :: st, h) = mo_gf (hp_g h a) 7 3 123 39 ls st h) ∧ (∀ l0 l2 l3 l4 x st h, zz_Y 123 (39, [l0, some (.int x), l2, l3, l4], st, h) = zz_Y 123 (40, [l0, some (.int x), l2, l3, l4], .int x :: st, h)) ∧ (∀ l0 l1 l3 l4 x st h, zz_Y 123 (40, [l0, l1, some (.int x), l3, l4], st, h) = zz_Y 123 (41, [l0, l1, some (.int x), l3, l4], .int x :: st, h)) ∧ (∀ ls a0 a1 a2 h, zz_Y 123 (41, ls, [a2, a1, a0], h) = mo_k 123 44 ls [] (zz_run 63 [a0, a1, a2] h)) ∧ (∀ l0 l1 l2 l3 l4 x st h, zz_nl l3 = true → zz_Y 123 (44, [l0, l1, l2, l3, l4], .int x :: st, h) = zz_Y 123 (46, [l0, l1, l2, l3, some (.int x)], st, h)) ∧ (∀ l0 l1 l2 l3 x st h, zz_Y 123 (46, [l0, l1, l2, l3, some (.int x)], st, h) = zz_Y 123 (48, [l0, l1, l2, l3, some (.int x)], .int x :: st, h)) ∧ (∀ ls a st h, zz_Y 123 (48, ls, .int a :: st, h) = if a = nI 0 then zz_Y 123 (51, ls, st, h) else zz_Y 123 (53, ls, st, h)) ∧ (∀ ls st h, zz_Y 123 (51, ls, st, h) = zz_Y 123 (52, ls, .int (-1) :: st, h)) ∧ (∀ ls v h, zz_Y 123 (52, ls, [.int v], h) = some (some (.int v), h)) ∧ (∀ l0 l1 l2 l4 x st h, zz_Y 123 (53, [l0, l1, l2, some (.int x), l4], st, h) = zz_Y 123 (54, [l0, l1, l2, some (.int x), l4], .int x :: st, h)) ∧ (∀ ls x st h, zz_Y 123 (54, ls, .int x :: st, h) = zz_Y 123 (zz_sw [(nI 0, 84), (nI 1, 90), (nI 2, 96), (nI 3, 102)] 108 x, ls, st, h)) ∧ (∀ l0 l1 l2 l3 x st h, zz_Y 123 (84, [l0, l1, l2, l3, some (.int x)], st, h) = zz_Y 123 (86, [l0, l1, l2, l3, some (.int x)], .int x :: st, h)) ∧ (∀ ls a0 h, zz_Y 123 (86, ls, [a0], h) = mo_k 123 89 ls [] (zz_run 108 [a0] h)) ∧ (∀ ls v h, zz_Y 123 (89, ls, [.int v], h) = some (some (.int v), h)) ∧ (∀ l0 l1 l2 l3 x st h, zz_Y 123 (90, [l0, l1, l2, l3, some (.int x)], st, h) = zz_Y 123 (92, [l0, l1, l2, l3, some (.int x)], .int x :: st, h)) ∧ (∀ ls a0 h, zz_Y 123 (92, ls, [a0], h) = mo_k 123 95 ls [] (zz_run 64 [a0] h)) ∧ (∀ ls v h, zz_Y 123 (95, ls, [.int v], h) = some (some (.int v), h)) ∧ (∀ l0 l1 l2 l3 x st h, zz_Y 123 (96, [l0, l1, l2, l3, some (.int x)], st, h) = zz_Y 123 (98, [l0, l1, l2, l3, some (.int x)], .int x :: st, h)) ∧ (∀ ls a0 h, zz_Y 123 (98, ls, [a0], h) = mo_k 123 101 ls [] (zz_run 75 [a0] h)) ∧ (∀ ls v h, zz_Y 123 (101, ls, [.int v], h) = some (some (.int v), h)) ∧ (∀ l0 l1 l2 l3 x st h, zz_Y 123 (102, [l0, l1, l2, l3, some (.int x)], st, h) = zz_Y 123 (104, [l0, l1, l2, l3, some (.int x)], .int x :: st, h)) ∧ (∀ ls a0 h, zz_Y 123 (104, ls, [a0], h) = mo_k 123 107 ls [] (zz_run 109 [a0] h)) ∧ (∀ ls v h, zz_Y 123 (107, ls, [.int v], h) = some (some (.int v), h)) ∧ (∀ ls st h, zz_Y 123 (108, ls, st, h) = zz_Y 123 (109, ls, .int (-1) :: st, h)) ∧ (∀ ls v h, zz_Y 123 (109, ls, [.int v], h) = some (some (.int v), h)) :=
  ⟨fun _ _ _ _ _ _ _ => xl_aln d123_0 rfl,
   fun _ _ _ _ => xl_gf d123_1 xco123 xf_10_12,
   fun _ _ _ _ => xl_gf d123_4 xco123 xf_10_79,
   fun _ _ _ _ => xl_gf d123_7 xco123 xf_10_163,
   fun _ _ _ _ _ _ _ => xl_iln d123_10 rfl,
   fun ls a0 a1 h => xl_cv (As := [a0, a1]) (st := []) d123_11 xco123 xm_10_167 (congrArg Nat.succ xnp44) (by decide +kernel) rfl,
   fun _ _ _ _ => xl_ifeq d123_14 rfl,
   fun _ _ _ _ _ _ _ => xl_iln d123_17 rfl,
   fun _ _ _ _ => xl_iflt d123_18 rfl,
   fun _ _ _ _ _ _ _ => xl_iln d123_21 rfl,
   fun _ _ _ => xl_bi d123_22 (by decide +kernel),
   fun _ _ _ _ _ => xl_iclt d123_24 rfl,
   fun _ _ _ => xl_ic d123_27 (by decide +kernel),
   fun _ _ _ => xl_iri d123_28 xrt123,
   fun _ _ _ _ _ _ _ => xl_aln d123_29 rfl,
   fun _ _ _ _ => xl_gf d123_30 xco123 xf_10_12,
   fun _ _ _ _ => xl_gf d123_33 xco123 xf_10_79,
   fun _ _ _ _ => xl_gf d123_36 xco123 xf_10_102,
   fun _ _ _ _ _ _ _ => xl_iln d123_39 rfl,
   fun _ _ _ _ _ _ _ => xl_iln d123_40 rfl,
   fun ls a0 a1 a2 h => xl_cv (As := [a0, a1, a2]) (st := []) d123_41 xco123 xm_10_291 (congrArg Nat.succ xnp63) (by decide +kernel) rfl,
   fun _ _ _ _ _ _ _ _ hc => xl_is d123_44 xml123 (by decide) (zz_nl_s1 hc),
   fun _ _ _ _ _ _ _ => xl_il d123_46 rfl,
   fun _ _ _ _ => xl_ifne d123_48 rfl,
   fun _ _ _ => xl_ic d123_51 (by decide +kernel),
   fun _ _ _ => xl_iri d123_52 xrt123,
   fun _ _ _ _ _ _ _ => xl_iln d123_53 rfl,
   fun _ _ _ _ => xl_tbs (qs := [(nI 0, 84), (nI 1, 90), (nI 2, 96), (nI 3, 102)]) d123_54 rfl (by decide +kernel) (by decide +kernel) (by decide +kernel),
   fun _ _ _ _ _ _ _ => xl_il d123_84 rfl,
   fun ls a0 h => xl_cs (As := [a0]) (st := []) d123_86 xco123 xm_10_294 xnp108 (by decide +kernel) rfl,
   fun _ _ _ => xl_iri d123_89 xrt123,
   fun _ _ _ _ _ _ _ => xl_il d123_90 rfl,
   fun ls a0 h => xl_cs (As := [a0]) (st := []) d123_92 xco123 xm_10_239 xnp64 (by decide +kernel) rfl,
   fun _ _ _ => xl_iri d123_95 xrt123,
   fun _ _ _ _ _ _ _ => xl_il d123_96 rfl,
   fun ls a0 h => xl_cs (As := [a0]) (st := []) d123_98 xco123 xm_10_299 xnp75 (by decide +kernel) rfl,
   fun _ _ _ => xl_iri d123_101 xrt123,
   fun _ _ _ _ _ _ _ => xl_il d123_102 rfl,
   fun ls a0 h => xl_cs (As := [a0]) (st := []) d123_104 xco123 xm_10_300 xnp109 (by decide +kernel) rfl,
   fun _ _ _ => xl_iri d123_107 xrt123,
   fun _ _ _ => xl_ic d123_108 (by decide +kernel),
   fun _ _ _ => xl_iri d123_109 xrt123⟩
/-! 124 FacetSieve.record(II)I -/
theorem d124_0 : decode (zz_c 124) 0 = .ok (.aload_n 0, 1) := by decide +kernel
theorem d124_1 : decode (zz_c 124) 1 = .ok (.getfield 12, 3) := by decide +kernel
theorem d124_4 : decode (zz_c 124) 4 = .ok (.getfield 79, 3) := by decide +kernel
theorem d124_7 : decode (zz_c 124) 7 = .ok (.astore_n 3, 1) := by decide +kernel
theorem d124_8 : decode (zz_c 124) 8 = .ok (.aload_n 3, 1) := by decide +kernel
theorem d124_9 : decode (zz_c 124) 9 = .ok (.iload_n 1, 1) := by decide +kernel
theorem d124_10 : decode (zz_c 124) 10 = .ok (.invokevirtual 156, 3) := by decide +kernel
theorem d124_13 : decode (zz_c 124) 13 = .ok (.ifCond .ne 5, 3) := by decide +kernel
theorem d124_16 : decode (zz_c 124) 16 = .ok (.iconst (-1), 1) := by decide +kernel
theorem d124_17 : decode (zz_c 124) 17 = .ok (.ireturn, 1) := by decide +kernel
theorem d124_18 : decode (zz_c 124) 18 = .ok (.iload_n 2, 1) := by decide +kernel
theorem d124_19 : decode (zz_c 124) 19 = .ok (.tableswitch 71 0 2 #[25, 32, 42], 25) := by decide +kernel
theorem d124_44 : decode (zz_c 124) 44 = .ok (.aload_n 3, 1) := by decide +kernel
theorem d124_45 : decode (zz_c 124) 45 = .ok (.getfield 186, 3) := by decide +kernel
theorem d124_48 : decode (zz_c 124) 48 = .ok (.iload_n 1, 1) := by decide +kernel
theorem d124_49 : decode (zz_c 124) 49 = .ok (.iaload, 1) := by decide +kernel
theorem d124_50 : decode (zz_c 124) 50 = .ok (.ireturn, 1) := by decide +kernel
theorem d124_51 : decode (zz_c 124) 51 = .ok (.aload_n 3, 1) := by decide +kernel
theorem d124_52 : decode (zz_c 124) 52 = .ok (.getfield 172, 3) := by decide +kernel
theorem d124_55 : decode (zz_c 124) 55 = .ok (.iload_n 1, 1) := by decide +kernel
theorem d124_56 : decode (zz_c 124) 56 = .ok (.iaload, 1) := by decide +kernel
theorem d124_57 : decode (zz_c 124) 57 = .ok (.invokestatic 239, 3) := by decide +kernel
theorem d124_60 : decode (zz_c 124) 60 = .ok (.ireturn, 1) := by decide +kernel
theorem d124_61 : decode (zz_c 124) 61 = .ok (.aload_n 0, 1) := by decide +kernel
theorem d124_62 : decode (zz_c 124) 62 = .ok (.getfield 12, 3) := by decide +kernel
theorem d124_65 : decode (zz_c 124) 65 = .ok (.iload_n 1, 1) := by decide +kernel
theorem d124_66 : decode (zz_c 124) 66 = .ok (.bipush 32, 2) := by decide +kernel
theorem d124_68 : decode (zz_c 124) 68 = .ok (.idiv, 1) := by decide +kernel
theorem d124_69 : decode (zz_c 124) 69 = .ok (.iconst (-1), 1) := by decide +kernel
theorem d124_70 : decode (zz_c 124) 70 = .ok (.iconst (-1), 1) := by decide +kernel
theorem d124_71 : decode (zz_c 124) 71 = .ok (.invokevirtual 303, 3) := by decide +kernel
theorem d124_74 : decode (zz_c 124) 74 = .ok (.iload_n 1, 1) := by decide +kernel
theorem d124_75 : decode (zz_c 124) 75 = .ok (.bipush 32, 2) := by decide +kernel
theorem d124_77 : decode (zz_c 124) 77 = .ok (.irem, 1) := by decide +kernel
theorem d124_78 : decode (zz_c 124) 78 = .ok (.invokestatic 176, 3) := by decide +kernel
theorem d124_81 : decode (zz_c 124) 81 = .ok (.ifCond .eq 7, 3) := by decide +kernel
theorem d124_84 : decode (zz_c 124) 84 = .ok (.iconst 1, 1) := by decide +kernel
theorem d124_85 : decode (zz_c 124) 85 = .ok (.goto 4, 3) := by decide +kernel
theorem d124_88 : decode (zz_c 124) 88 = .ok (.iconst 0, 1) := by decide +kernel
theorem d124_89 : decode (zz_c 124) 89 = .ok (.ireturn, 1) := by decide +kernel
theorem d124_90 : decode (zz_c 124) 90 = .ok (.iload_n 2, 1) := by decide +kernel
theorem d124_91 : decode (zz_c 124) 91 = .ok (.bipush 10, 2) := by decide +kernel
theorem d124_93 : decode (zz_c 124) 93 = .ok (.if_icmp .ge 7, 3) := by decide +kernel
theorem d124_96 : decode (zz_c 124) 96 = .ok (.iconst (-1), 1) := by decide +kernel
theorem d124_97 : decode (zz_c 124) 97 = .ok (.goto 16, 3) := by decide +kernel
theorem d124_100 : decode (zz_c 124) 100 = .ok (.aload_n 3, 1) := by decide +kernel
theorem d124_101 : decode (zz_c 124) 101 = .ok (.getfield 172, 3) := by decide +kernel
theorem d124_104 : decode (zz_c 124) 104 = .ok (.iload_n 1, 1) := by decide +kernel
theorem d124_105 : decode (zz_c 124) 105 = .ok (.iaload, 1) := by decide +kernel
theorem d124_106 : decode (zz_c 124) 106 = .ok (.iload_n 2, 1) := by decide +kernel
theorem d124_107 : decode (zz_c 124) 107 = .ok (.bipush 10, 2) := by decide +kernel
theorem d124_109 : decode (zz_c 124) 109 = .ok (.isub, 1) := by decide +kernel
theorem d124_110 : decode (zz_c 124) 110 = .ok (.invokestatic 306, 3) := by decide +kernel
theorem d124_113 : decode (zz_c 124) 113 = .ok (.ireturn, 1) := by decide +kernel
theorem x124 : (∀ l1 l2 l3 x st h, zz_Y 124 (0, [some (.ref x), l1, l2, l3], st, h) = zz_Y 124 (1, [some (.ref x), l1, l2, l3], .ref x :: st, h)) ∧ (∀ ls a st h, zz_Y 124 (1, ls, .ref a :: st, h) = mo_gf (hp_g h a) 10 0 124 4 ls st h) ∧ (∀ ls a st h, zz_Y 124 (4, ls, .ref a :: st, h) = mo_gf (hp_g h a) 1 1 124 7 ls st h) ∧ (∀ l0 l1 l2 l3 x st h, zz_nl l2 = true → zz_Y 124 (7, [l0, l1, l2, l3], .ref x :: st, h) = zz_Y 124 (8, [l0, l1, l2, some (.ref x)], st, h)) ∧ (∀ l0 l1 l2 x st h, zz_Y 124 (8, [l0, l1, l2, some (.ref x)], st, h) = zz_Y 124 (9, [l0, l1, l2, some (.ref x)], .ref x :: st, h)) ∧ (∀ l0 l2 l3 x st h, zz_Y 124 (9, [l0, some (.int x), l2, l3], st, h) = zz_Y 124 (10, [l0, some (.int x), l2, l3], .int x :: st, h)) ∧ (∀ ls a0 a1 h, zz_Y 124 (10, ls, [a1, a0], h) = mo_k 124 13 ls [] (zz_run 47 [a0, a1] h)) ∧ (∀ ls a st h, zz_Y 124 (13, ls, .int a :: st, h) = if a = nI 0 then zz_Y 124 (16, ls, st, h) else zz_Y 124 (18, ls, st, h)) ∧ (∀ ls st h, zz_Y 124 (16, ls, st, h) = zz_Y 124 (17, ls, .int (-1) :: st, h)) ∧ (∀ ls v h, zz_Y 124 (17, ls, [.int v], h) = some (some (.int v), h)) ∧ (∀ l0 l1 l3 x st h, zz_Y 124 (18, [l0, l1, some (.int x), l3], st, h) = zz_Y 124 (19, [l0, l1, some (.int x), l3], .int x :: st, h)) ∧ (∀ ls x st h, zz_Y 124 (19, ls, .int x :: st, h) = zz_Y 124 (zz_sw [(nI 0, 44), (nI 1, 51), (nI 2, 61)] 90 x, ls, st, h)) ∧ (∀ l0 l1 l2 x st h, zz_Y 124 (44, [l0, l1, l2, some (.ref x)], st, h) = zz_Y 124 (45, [l0, l1, l2, some (.ref x)], .ref x :: st, h)) ∧ (∀ ls a st h, zz_Y 124 (45, ls, .ref a :: st, h) = mo_gf (hp_g h a) 7 1 124 48 ls st h) ∧ (∀ l0 l2 l3 x st h, zz_Y 124 (48, [l0, some (.int x), l2, l3], st, h) = zz_Y 124 (49, [l0, some (.int x), l2, l3], .int x :: st, h)) ∧ (∀ ls a i st h, zz_Y 124 (49, ls, .int i :: .ref a :: st, h) = mo_ia (hp_g h a) i a 124 50 ls st h) ∧ (∀ ls v h, zz_Y 124 (50, ls, [.int v], h) = some (some (.int v), h)) ∧ (∀ l0 l1 l2 x st h, zz_Y 124 (51, [l0, l1, l2, some (.ref x)], st, h) = zz_Y 124 (52, [l0, l1, l2, some (.ref x)], .ref x :: st, h)) ∧ (∀ ls a st h, zz_Y 124 (52, ls, .ref a :: st, h) = mo_gf (hp_g h a) 7 2 124 55 ls st h) ∧ (∀ l0 l2 l3 x st h, zz_Y 124 (55, [l0, some (.int x), l2, l3], st, h) = zz_Y 124 (56, [l0, some (.int x), l2, l3], .int x :: st, h)) ∧ (∀ ls a i st h, zz_Y 124 (56, ls, .int i :: .ref a :: st, h) = mo_ia (hp_g h a) i a 124 57 ls st h) ∧ (∀ ls a0 h, zz_Y 124 (57, ls, [a0], h) = mo_k 124 60 ls [] (zz_run 64 [a0] h)) ∧ (∀ ls v h, zz_Y 124 (60, ls, [.int v], h) = some (some (.int v), h)) ∧ (∀ l1 l2 l3 x st h, zz_Y 124 (61, [some (.ref x), l1, l2, l3], st, h) = zz_Y 124 (62, [some (.ref x), l1, l2, l3], .ref x :: st, h)) ∧ (∀ ls a st h, zz_Y 124 (62, ls, .ref a :: st, h) = mo_gf (hp_g h a) 10 0 124 65 ls st h) ∧ (∀ l0 l2 l3 x st h, zz_Y 124 (65, [l0, some (.int x), l2, l3], st, h) = zz_Y 124 (66, [l0, some (.int x), l2, l3], .int x :: st, h)) ∧ (∀ ls st h, zz_Y 124 (66, ls, st, h) = zz_Y 124 (68, ls, .int (nI 32) :: st, h)) ∧ (∀ ls a b st h, ¬ b = 0 → zz_Y 124 (68, ls, .int b :: .int a :: st, h) = zz_Y 124 (69, ls, .int (a / b) :: st, h)) ∧ (∀ ls st h, zz_Y 124 (69, ls, st, h) = zz_Y 124 (70, ls, .int (-1) :: st, h)) ∧ (∀ ls st h, zz_Y 124 (70, ls, st, h) = zz_Y 124 (71, ls, .int (-1) :: st, h)) ∧ (∀ ls a0 a1 a2 a3 h, zz_Y 124 (71, ls, [a3, a2, a1, a0], h) = mo_k 124 74 ls [] (zz_run 103 [a0, a1, a2, a3] h)) ∧ (∀ l0 l2 l3 x st h, zz_Y 124 (74, [l0, some (.int x), l2, l3], st, h) = zz_Y 124 (75, [l0, some (.int x), l2, l3], .int x :: st, h)) ∧ (∀ ls st h, zz_Y 124 (75, ls, st, h) = zz_Y 124 (77, ls, .int (nI 32) :: st, h)) ∧ (∀ ls a b st h, ¬ b = 0 → zz_Y 124 (77, ls, .int b :: .int a :: st, h) = zz_Y 124 (78, ls, .int (a - a / b * b) :: st, h)) ∧ (∀ ls a0 a1 h, zz_Y 124 (78, ls, [a1, a0], h) = mo_k 124 81 ls [] (zz_run 50 [a0, a1] h)) ∧ (∀ ls a st h, zz_Y 124 (81, ls, .int a :: st, h) = if a = nI 0 then zz_Y 124 (88, ls, st, h) else zz_Y 124 (84, ls, st, h)) ∧ (∀ ls st h, zz_Y 124 (84, ls, st, h) = zz_Y 124 (85, ls, .int (nI 1) :: st, h)) ∧ (∀ ls st h, zz_Y 124 (85, ls, st, h) = zz_Y 124 (89, ls, st, h)) ∧ (∀ ls st h, zz_Y 124 (88, ls, st, h) = zz_Y 124 (89, ls, .int (nI 0) :: st, h)) ∧ (∀ ls v h, zz_Y 124 (89, ls, [.int v], h) = some (some (.int v), h)) ∧ (∀ l0 l1 l3 x st h, zz_Y 124 (90, [l0, l1, some (.int x), l3], st, h) = zz_Y 124 (91, [l0, l1, some (.int x), l3], .int x :: st, h)) ∧ (∀ ls st h, zz_Y 124 (91, ls, st, h) = zz_Y 124 (93, ls, .int (nI 10) :: st, h)) ∧ (∀ ls a b st h, zz_Y 124 (93, ls, .int b :: .int a :: st, h) = if a < b then zz_Y 124 (96, ls, st, h) else zz_Y 124 (100, ls, st, h)) ∧ (∀ ls st h, zz_Y 124 (96, ls, st, h) = zz_Y 124 (97, ls, .int (-1) :: st, h)) ∧ (∀ ls st h, zz_Y 124 (97, ls, st, h) = zz_Y 124 (113, ls, st, h)) ∧ (∀ l0 l1 l2 x st h, zz_Y 124 (100, [l0, l1, l2, some (.ref x)], st, h) = zz_Y 124 (101, [l0, l1, l2, some (.ref x)], .ref x :: st, h)) ∧ (∀ ls a st h, zz_Y 124 (101, ls, .ref a :: st, h) = mo_gf (hp_g h a) 7 2 124 104 ls st h) ∧ (∀ l0 l2 l3 x st h, zz_Y 124 (104, [l0, some (.int x), l2, l3], st, h) = zz_Y 124 (105, [l0, some (.int x), l2, l3], .int x :: st, h)) ∧ (∀ ls a i st h, zz_Y 124 (105, ls, .int i :: .ref a :: st, h) = mo_ia (hp_g h a) i a 124 106 ls st h) ∧ (∀ l0 l1 l3 x st h, zz_Y 124 (106, [l0, l1, some (.int x), l3], st, h) = zz_Y 124 (107, [l0, l1, some (.int x), l3], .int x :: st, h)) ∧ (∀ ls st h, zz_Y 124 (107, ls, st, h) = zz_Y 124 (109, ls, .int (nI 10) :: st, h)) ∧ (∀ ls a b st h, zz_Y 124 (109, ls, .int b :: .int a :: st, h) = zz_Y 124 (110, ls, .int (a - b) :: st, h)) ∧ (∀ ls a0 a1 h, zz_Y 124 (110, ls, [a1, a0], h) = mo_k 124 113 ls [] (zz_run 82 [a0, a1] h)) ∧ (∀ ls v h, zz_Y 124 (113, ls, [.int v], h) = some (some (.int v), h)) :=
  ⟨fun _ _ _ _ _ _ => xl_aln d124_0 rfl,
   fun _ _ _ _ => xl_gf d124_1 xco124 xf_10_12,
   fun _ _ _ _ => xl_gf d124_4 xco124 xf_10_79,
   fun _ _ _ _ _ _ _ hc => xl_asn d124_7 xml124 (by decide) (zz_nl_s1 hc),
   fun _ _ _ _ _ _ => xl_aln d124_8 rfl,
   fun _ _ _ _ _ _ => xl_iln d124_9 rfl,
   fun ls a0 a1 h => xl_cv (As := [a0, a1]) (st := []) d124_10 xco124 xm_10_156 (congrArg Nat.succ xnp47) (by decide +kernel) rfl,
   fun _ _ _ _ => xl_ifne d124_13 rfl,
   fun _ _ _ => xl_ic d124_16 (by decide +kernel),
   fun _ _ _ => xl_iri d124_17 xrt124,
   fun _ _ _ _ _ _ => xl_iln d124_18 rfl,
   fun _ _ _ _ => xl_tbs (qs := [(nI 0, 44), (nI 1, 51), (nI 2, 61)]) d124_19 rfl (by decide +kernel) (by decide +kernel) (by decide +kernel),
   fun _ _ _ _ _ _ => xl_aln d124_44 rfl,
   fun _ _ _ _ => xl_gf d124_45 xco124 xf_10_186,
   fun _ _ _ _ _ _ => xl_iln d124_48 rfl,
   fun _ _ _ _ _ => xl_ia d124_49,
   fun _ _ _ => xl_iri d124_50 xrt124,
   fun _ _ _ _ _ _ => xl_aln d124_51 rfl,
   fun _ _ _ _ => xl_gf d124_52 xco124 xf_10_172,
   fun _ _ _ _ _ _ => xl_iln d124_55 rfl,
   fun _ _ _ _ _ => xl_ia d124_56,
   fun ls a0 h => xl_cs (As := [a0]) (st := []) d124_57 xco124 xm_10_239 xnp64 (by decide +kernel) rfl,
   fun _ _ _ => xl_iri d124_60 xrt124,
   fun _ _ _ _ _ _ => xl_aln d124_61 rfl,
   fun _ _ _ _ => xl_gf d124_62 xco124 xf_10_12,
   fun _ _ _ _ _ _ => xl_iln d124_65 rfl,
   fun _ _ _ => xl_bi d124_66 (by decide +kernel),
   fun _ _ _ _ _ hc => xl_idiv d124_68 hc,
   fun _ _ _ => xl_ic d124_69 (by decide +kernel),
   fun _ _ _ => xl_ic d124_70 (by decide +kernel),
   fun ls a0 a1 a2 a3 h => xl_cv (As := [a0, a1, a2, a3]) (st := []) d124_71 xco124 xm_10_303 (congrArg Nat.succ xnp103) (by decide +kernel) rfl,
   fun _ _ _ _ _ _ => xl_iln d124_74 rfl,
   fun _ _ _ => xl_bi d124_75 (by decide +kernel),
   fun _ _ _ _ _ hc => xl_irem d124_77 hc,
   fun ls a0 a1 h => xl_cs (As := [a0, a1]) (st := []) d124_78 xco124 xm_10_176 xnp50 (by decide +kernel) rfl,
   fun _ _ _ _ => xl_ifeq d124_81 rfl,
   fun _ _ _ => xl_ic d124_84 (by decide +kernel),
   fun _ _ _ => xl_goto d124_85 rfl,
   fun _ _ _ => xl_ic d124_88 (by decide +kernel),
   fun _ _ _ => xl_iri d124_89 xrt124,
   fun _ _ _ _ _ _ => xl_iln d124_90 rfl,
   fun _ _ _ => xl_bi d124_91 (by decide +kernel),
   fun _ _ _ _ _ => xl_icge d124_93 rfl,
   fun _ _ _ => xl_ic d124_96 (by decide +kernel),
   fun _ _ _ => xl_goto d124_97 rfl,
   fun _ _ _ _ _ _ => xl_aln d124_100 rfl,
   fun _ _ _ _ => xl_gf d124_101 xco124 xf_10_172,
   fun _ _ _ _ _ _ => xl_iln d124_104 rfl,
   fun _ _ _ _ _ => xl_ia d124_105,
   fun _ _ _ _ _ _ => xl_iln d124_106 rfl,
   fun _ _ _ => xl_bi d124_107 (by decide +kernel),
   fun _ _ _ _ _ => xl_isub d124_109,
   fun ls a0 a1 h => xl_cs (As := [a0, a1]) (st := []) d124_110 xco124 xm_10_306 xnp82 (by decide +kernel) rfl,
   fun _ _ _ => xl_iri d124_113 xrt124⟩
/-! 125 FacetSieve.has(II)Z -/
theorem d125_0 : decode (zz_c 125) 0 = .ok (.iload_n 1, 1) := by decide +kernel
theorem d125_1 : decode (zz_c 125) 1 = .ok (.invokestatic 147, 3) := by decide +kernel
theorem d125_4 : decode (zz_c 125) 4 = .ok (.ifCond .eq 42, 3) := by decide +kernel
theorem d125_7 : decode (zz_c 125) 7 = .ok (.aload_n 0, 1) := by decide +kernel
theorem d125_8 : decode (zz_c 125) 8 = .ok (.getfield 12, 3) := by decide +kernel
theorem d125_11 : decode (zz_c 125) 11 = .ok (.getfield 79, 3) := by decide +kernel
theorem d125_14 : decode (zz_c 125) 14 = .ok (.getfield 163, 3) := by decide +kernel
theorem d125_17 : decode (zz_c 125) 17 = .ok (.iload_n 2, 1) := by decide +kernel
theorem d125_18 : decode (zz_c 125) 18 = .ok (.invokevirtual 167, 3) := by decide +kernel
theorem d125_21 : decode (zz_c 125) 21 = .ok (.ifCond .eq 25, 3) := by decide +kernel
theorem d125_24 : decode (zz_c 125) 24 = .ok (.aload_n 0, 1) := by decide +kernel
theorem d125_25 : decode (zz_c 125) 25 = .ok (.getfield 12, 3) := by decide +kernel
theorem d125_28 : decode (zz_c 125) 28 = .ok (.getfield 79, 3) := by decide +kernel
theorem d125_31 : decode (zz_c 125) 31 = .ok (.getfield 102, 3) := by decide +kernel
theorem d125_34 : decode (zz_c 125) 34 = .ok (.iload_n 2, 1) := by decide +kernel
theorem d125_35 : decode (zz_c 125) 35 = .ok (.iload_n 1, 1) := by decide +kernel
theorem d125_36 : decode (zz_c 125) 36 = .ok (.invokevirtual 309, 3) := by decide +kernel
theorem d125_39 : decode (zz_c 125) 39 = .ok (.ifCond .eq 7, 3) := by decide +kernel
theorem d125_42 : decode (zz_c 125) 42 = .ok (.iconst 1, 1) := by decide +kernel
theorem d125_43 : decode (zz_c 125) 43 = .ok (.goto 4, 3) := by decide +kernel
theorem d125_46 : decode (zz_c 125) 46 = .ok (.iconst 0, 1) := by decide +kernel
theorem d125_47 : decode (zz_c 125) 47 = .ok (.ireturn, 1) := by decide +kernel
theorem x125 : (∀ l0 l2 x st h, zz_Y 125 (0, [l0, some (.int x), l2], st, h) = zz_Y 125 (1, [l0, some (.int x), l2], .int x :: st, h)) ∧ (∀ ls a0 h, zz_Y 125 (1, ls, [a0], h) = mo_k 125 4 ls [] (zz_run 48 [a0] h)) ∧ (∀ ls a st h, zz_Y 125 (4, ls, .int a :: st, h) = if a = nI 0 then zz_Y 125 (46, ls, st, h) else zz_Y 125 (7, ls, st, h)) ∧ (∀ l1 l2 x st h, zz_Y 125 (7, [some (.ref x), l1, l2], st, h) = zz_Y 125 (8, [some (.ref x), l1, l2], .ref x :: st, h)) ∧ (∀ ls a st h, zz_Y 125 (8, ls, .ref a :: st, h) = mo_gf (hp_g h a) 10 0 125 11 ls st h) ∧ (∀ ls a st h, zz_Y 125 (11, ls, .ref a :: st, h) = mo_gf (hp_g h a) 1 1 125 14 ls st h) ∧ (∀ ls a st h, zz_Y 125 (14, ls, .ref a :: st, h) = mo_gf (hp_g h a) 7 0 125 17 ls st h) ∧ (∀ l0 l1 x st h, zz_Y 125 (17, [l0, l1, some (.int x)], st, h) = zz_Y 125 (18, [l0, l1, some (.int x)], .int x :: st, h)) ∧ (∀ ls a0 a1 h, zz_Y 125 (18, ls, [a1, a0], h) = mo_k 125 21 ls [] (zz_run 44 [a0, a1] h)) ∧ (∀ ls a st h, zz_Y 125 (21, ls, .int a :: st, h) = if a = nI 0 then zz_Y 125 (46, ls, st, h) else zz_Y 125 (24, ls, st, h)) ∧ (∀ l1 l2 x st h, zz_Y 125 (24, [some (.ref x), l1, l2], st, h) = zz_Y 125 (25, [some (.ref x), l1, l2], .ref x :: st, h)) ∧ (∀ ls a st h, zz_Y 125 (25, ls, .ref a :: st, h) = mo_gf (hp_g h a) 10 0 125 28 ls st h) ∧ (∀ ls a st h, zz_Y 125 (28, ls, .ref a :: st, h) = mo_gf (hp_g h a) 1 1 125 31 ls st h) ∧ (∀ ls a st h, zz_Y 125 (31, ls, .ref a :: st, h) = mo_gf (hp_g h a) 7 3 125 34 ls st h) ∧ (∀ l0 l1 x st h, zz_Y 125 (34, [l0, l1, some (.int x)], st, h) = zz_Y 125 (35, [l0, l1, some (.int x)], .int x :: st, h)) ∧ (∀ l0 l2 x st h, zz_Y 125 (35, [l0, some (.int x), l2], st, h) = zz_Y 125 (36, [l0, some (.int x), l2], .int x :: st, h)) ∧ (∀ ls a0 a1 a2 h, zz_Y 125 (36, ls, [a2, a1, a0], h) = mo_k 125 39 ls [] (zz_run 126 [a0, a1, a2] h)) ∧ (∀ ls a st h, zz_Y 125 (39, ls, .int a :: st, h) = if a = nI 0 then zz_Y 125 (46, ls, st, h) else zz_Y 125 (42, ls, st, h)) ∧ (∀ ls st h, zz_Y 125 (42, ls, st, h) = zz_Y 125 (43, ls, .int (nI 1) :: st, h)) ∧ (∀ ls st h, zz_Y 125 (43, ls, st, h) = zz_Y 125 (47, ls, st, h)) ∧ (∀ ls st h, zz_Y 125 (46, ls, st, h) = zz_Y 125 (47, ls, .int (nI 0) :: st, h)) ∧ (∀ ls v h, v = nI 0 ∨ v = nI 1 → zz_Y 125 (47, ls, [.int v], h) = some (some (.int v), h)) :=
  ⟨fun _ _ _ _ _ => xl_iln d125_0 rfl,
   fun ls a0 h => xl_cs (As := [a0]) (st := []) d125_1 xco125 xm_10_147 xnp48 (by decide +kernel) rfl,
   fun _ _ _ _ => xl_ifeq d125_4 rfl,
   fun _ _ _ _ _ => xl_aln d125_7 rfl,
   fun _ _ _ _ => xl_gf d125_8 xco125 xf_10_12,
   fun _ _ _ _ => xl_gf d125_11 xco125 xf_10_79,
   fun _ _ _ _ => xl_gf d125_14 xco125 xf_10_163,
   fun _ _ _ _ _ => xl_iln d125_17 rfl,
   fun ls a0 a1 h => xl_cv (As := [a0, a1]) (st := []) d125_18 xco125 xm_10_167 (congrArg Nat.succ xnp44) (by decide +kernel) rfl,
   fun _ _ _ _ => xl_ifeq d125_21 rfl,
   fun _ _ _ _ _ => xl_aln d125_24 rfl,
   fun _ _ _ _ => xl_gf d125_25 xco125 xf_10_12,
   fun _ _ _ _ => xl_gf d125_28 xco125 xf_10_79,
   fun _ _ _ _ => xl_gf d125_31 xco125 xf_10_102,
   fun _ _ _ _ _ => xl_iln d125_34 rfl,
   fun _ _ _ _ _ => xl_iln d125_35 rfl,
   fun ls a0 a1 a2 h => xl_cv (As := [a0, a1, a2]) (st := []) d125_36 xco125 xm_10_309 (congrArg Nat.succ xnp126) (by decide +kernel) rfl,
   fun _ _ _ _ => xl_ifeq d125_39 rfl,
   fun _ _ _ => xl_ic d125_42 (by decide +kernel),
   fun _ _ _ => xl_goto d125_43 rfl,
   fun _ _ _ => xl_ic d125_46 (by decide +kernel),
   fun _ _ _ hc => xl_irz d125_47 xrt125 hc⟩
/-! 126 FacetSieve$Sets.holds(II)Z -/
theorem d126_0 : decode (zz_c 126) 0 = .ok (.aload_n 0, 1) := by decide +kernel
theorem d126_1 : decode (zz_c 126) 1 = .ok (.iload_n 1, 1) := by decide +kernel
theorem d126_2 : decode (zz_c 126) 2 = .ok (.iload_n 2, 1) := by decide +kernel
theorem d126_3 : decode (zz_c 126) 3 = .ok (.bipush 32, 2) := by decide +kernel
theorem d126_5 : decode (zz_c 126) 5 = .ok (.idiv, 1) := by decide +kernel
theorem d126_6 : decode (zz_c 126) 6 = .ok (.invokevirtual 29, 3) := by decide +kernel
theorem d126_9 : decode (zz_c 126) 9 = .ok (.iload_n 2, 1) := by decide +kernel
theorem d126_10 : decode (zz_c 126) 10 = .ok (.bipush 32, 2) := by decide +kernel
theorem d126_12 : decode (zz_c 126) 12 = .ok (.irem, 1) := by decide +kernel
theorem d126_13 : decode (zz_c 126) 13 = .ok (.invokestatic 32, 3) := by decide +kernel
theorem d126_16 : decode (zz_c 126) 16 = .ok (.ireturn, 1) := by decide +kernel
theorem x126 : (∀ l1 l2 x st h, zz_Y 126 (0, [some (.ref x), l1, l2], st, h) = zz_Y 126 (1, [some (.ref x), l1, l2], .ref x :: st, h)) ∧ (∀ l0 l2 x st h, zz_Y 126 (1, [l0, some (.int x), l2], st, h) = zz_Y 126 (2, [l0, some (.int x), l2], .int x :: st, h)) ∧ (∀ l0 l1 x st h, zz_Y 126 (2, [l0, l1, some (.int x)], st, h) = zz_Y 126 (3, [l0, l1, some (.int x)], .int x :: st, h)) ∧ (∀ ls st h, zz_Y 126 (3, ls, st, h) = zz_Y 126 (5, ls, .int (nI 32) :: st, h)) ∧ (∀ ls a b st h, ¬ b = 0 → zz_Y 126 (5, ls, .int b :: .int a :: st, h) = zz_Y 126 (6, ls, .int (a / b) :: st, h)) ∧ (∀ ls a0 a1 a2 h, zz_Y 126 (6, ls, [a2, a1, a0], h) = mo_k 126 9 ls [] (zz_run 63 [a0, a1, a2] h)) ∧ (∀ l0 l1 x st h, zz_Y 126 (9, [l0, l1, some (.int x)], st, h) = zz_Y 126 (10, [l0, l1, some (.int x)], .int x :: st, h)) ∧ (∀ ls st h, zz_Y 126 (10, ls, st, h) = zz_Y 126 (12, ls, .int (nI 32) :: st, h)) ∧ (∀ ls a b st h, ¬ b = 0 → zz_Y 126 (12, ls, .int b :: .int a :: st, h) = zz_Y 126 (13, ls, .int (a - a / b * b) :: st, h)) ∧ (∀ ls a0 a1 h, zz_Y 126 (13, ls, [a1, a0], h) = mo_k 126 16 ls [] (zz_run 50 [a0, a1] h)) ∧ (∀ ls v h, v = nI 0 ∨ v = nI 1 → zz_Y 126 (16, ls, [.int v], h) = some (some (.int v), h)) :=
  ⟨fun _ _ _ _ _ => xl_aln d126_0 rfl,
   fun _ _ _ _ _ => xl_iln d126_1 rfl,
   fun _ _ _ _ _ => xl_iln d126_2 rfl,
   fun _ _ _ => xl_bi d126_3 (by decide +kernel),
   fun _ _ _ _ _ hc => xl_idiv d126_5 hc,
   fun ls a0 a1 a2 h => xl_cv (As := [a0, a1, a2]) (st := []) d126_6 xco126 xm_6_29 (congrArg Nat.succ xnp63) (by decide +kernel) rfl,
   fun _ _ _ _ _ => xl_iln d126_9 rfl,
   fun _ _ _ => xl_bi d126_10 (by decide +kernel),
   fun _ _ _ _ _ hc => xl_irem d126_12 hc,
   fun ls a0 a1 h => xl_csn (As := [a0, a1]) (st := []) d126_13 xco126 xm_6_32 xnp50 (by decide +kernel) rfl,
   fun _ _ _ hc => xl_irz d126_16 xrt126 hc⟩
/-! 127 FacetSieve.left(IZ)I -/
theorem d127_0 : decode (zz_c 127) 0 = .ok (.iload_n 1, 1) := by decide +kernel
theorem d127_1 : decode (zz_c 127) 1 = .ok (.ifCond .ge 5, 3) := by decide +kernel
theorem d127_4 : decode (zz_c 127) 4 = .ok (.iconst (-1), 1) := by decide +kernel
theorem d127_5 : decode (zz_c 127) 5 = .ok (.ireturn, 1) := by decide +kernel
theorem d127_6 : decode (zz_c 127) 6 = .ok (.aload_n 0, 1) := by decide +kernel
theorem d127_7 : decode (zz_c 127) 7 = .ok (.invokevirtual 312, 3) := by decide +kernel
theorem d127_10 : decode (zz_c 127) 10 = .ok (.iload_n 2, 1) := by decide +kernel
theorem d127_11 : decode (zz_c 127) 11 = .ok (.ifCond .eq 11, 3) := by decide +kernel
theorem d127_14 : decode (zz_c 127) 14 = .ok (.aload_n 0, 1) := by decide +kernel
theorem d127_15 : decode (zz_c 127) 15 = .ok (.iload_n 1, 1) := by decide +kernel
theorem d127_16 : decode (zz_c 127) 16 = .ok (.invokevirtual 315, 3) := by decide +kernel
theorem d127_19 : decode (zz_c 127) 19 = .ok (.goto 12, 3) := by decide +kernel
theorem d127_22 : decode (zz_c 127) 22 = .ok (.aload_n 0, 1) := by decide +kernel
theorem d127_23 : decode (zz_c 127) 23 = .ok (.getfield 46, 3) := by decide +kernel
theorem d127_26 : decode (zz_c 127) 26 = .ok (.iconst 0, 1) := by decide +kernel
theorem d127_27 : decode (zz_c 127) 27 = .ok (.iload_n 1, 1) := by decide +kernel
theorem d127_28 : decode (zz_c 127) 28 = .ok (.invokevirtual 137, 3) := by decide +kernel
theorem d127_31 : decode (zz_c 127) 31 = .ok (.ireturn, 1) := by decide +kernel
theorem x127 : (∀ l0 l2 x st h, zz_Y 127 (0, [l0, some (.int x), l2], st, h) = zz_Y 127 (1, [l0, some (.int x), l2], .int x :: st, h)) ∧ (∀ ls a st h, zz_Y 127 (1, ls, .int a :: st, h) = if a < nI 0 then zz_Y 127 (4, ls, st, h) else zz_Y 127 (6, ls, st, h)) ∧ (∀ ls st h, zz_Y 127 (4, ls, st, h) = zz_Y 127 (5, ls, .int (-1) :: st, h)) ∧ (∀ ls v h, zz_Y 127 (5, ls, [.int v], h) = some (some (.int v), h)) ∧ (∀ l1 l2 x st h, zz_Y 127 (6, [some (.ref x), l1, l2], st, h) = zz_Y 127 (7, [some (.ref x), l1, l2], .ref x :: st, h)) ∧ (∀ ls a0 h, zz_Y 127 (7, ls, [a0], h) = mo_k 127 10 ls [] (zz_run 112 [a0] h)) ∧ (∀ l0 l1 x st h, zz_Y 127 (10, [l0, l1, some (.int x)], st, h) = zz_Y 127 (11, [l0, l1, some (.int x)], .int x :: st, h)) ∧ (∀ ls a st h, zz_Y 127 (11, ls, .int a :: st, h) = if a = nI 0 then zz_Y 127 (22, ls, st, h) else zz_Y 127 (14, ls, st, h)) ∧ (∀ l1 l2 x st h, zz_Y 127 (14, [some (.ref x), l1, l2], st, h) = zz_Y 127 (15, [some (.ref x), l1, l2], .ref x :: st, h)) ∧ (∀ l0 l2 x st h, zz_Y 127 (15, [l0, some (.int x), l2], st, h) = zz_Y 127 (16, [l0, some (.int x), l2], .int x :: st, h)) ∧ (∀ ls a0 a1 h, zz_Y 127 (16, ls, [a1, a0], h) = mo_k 127 19 ls [] (zz_run 128 [a0, a1] h)) ∧ (∀ ls st h, zz_Y 127 (19, ls, st, h) = zz_Y 127 (31, ls, st, h)) ∧ (∀ l1 l2 x st h, zz_Y 127 (22, [some (.ref x), l1, l2], st, h) = zz_Y 127 (23, [some (.ref x), l1, l2], .ref x :: st, h)) ∧ (∀ ls a st h, zz_Y 127 (23, ls, .ref a :: st, h) = mo_gf (hp_g h a) 10 5 127 26 ls st h) ∧ (∀ ls st h, zz_Y 127 (26, ls, st, h) = zz_Y 127 (27, ls, .int (nI 0) :: st, h)) ∧ (∀ l0 l2 x st h, zz_Y 127 (27, [l0, some (.int x), l2], st, h) = zz_Y 127 (28, [l0, some (.int x), l2], .int x :: st, h)) ∧ (∀ ls a0 a1 a2 h, zz_Y 127 (28, ls, [a2, a1, a0], h) = mo_k 127 31 ls [] (zz_run 81 [a0, a1, a2] h)) ∧ (∀ ls v h, zz_Y 127 (31, ls, [.int v], h) = some (some (.int v), h)) :=
  ⟨fun _ _ _ _ _ => xl_iln d127_0 rfl,
   fun _ _ _ _ => xl_ifge d127_1 rfl,
   fun _ _ _ => xl_ic d127_4 (by decide +kernel),
   fun _ _ _ => xl_iri d127_5 xrt127,
   fun _ _ _ _ _ => xl_aln d127_6 rfl,
   fun ls a0 h => xl_cv (As := [a0]) (st := []) d127_7 xco127 xm_10_312 (congrArg Nat.succ xnp112) (by decide +kernel) rfl,
   fun _ _ _ _ _ => xl_iln d127_10 rfl,
   fun _ _ _ _ => xl_ifeq d127_11 rfl,
   fun _ _ _ _ _ => xl_aln d127_14 rfl,
   fun _ _ _ _ _ => xl_iln d127_15 rfl,
   fun ls a0 a1 h => xl_cv (As := [a0, a1]) (st := []) d127_16 xco127 xm_10_315 (congrArg Nat.succ xnp128) (by decide +kernel) rfl,
   fun _ _ _ => xl_goto d127_19 rfl,
   fun _ _ _ _ _ => xl_aln d127_22 rfl,
   fun _ _ _ _ => xl_gf d127_23 xco127 xf_10_46,
   fun _ _ _ => xl_ic d127_26 (by decide +kernel),
   fun _ _ _ _ _ => xl_iln d127_27 rfl,
   fun ls a0 a1 a2 h => xl_cv (As := [a0, a1, a2]) (st := []) d127_28 xco127 xm_10_137 (congrArg Nat.succ xnp81) (by decide +kernel) rfl,
   fun _ _ _ => xl_iri d127_31 xrt127⟩
/-! 128 FacetSieve.shownAt(I)I -/
theorem d128_0 : decode (zz_c 128) 0 = .ok (.iload_n 1, 1) := by decide +kernel
theorem d128_1 : decode (zz_c 128) 1 = .ok (.aload_n 0, 1) := by decide +kernel
theorem d128_2 : decode (zz_c 128) 2 = .ok (.getfield 46, 3) := by decide +kernel
theorem d128_5 : decode (zz_c 128) 5 = .ok (.iconst 0, 1) := by decide +kernel
theorem d128_6 : decode (zz_c 128) 6 = .ok (.invokevirtual 105, 3) := by decide +kernel
theorem d128_9 : decode (zz_c 128) 9 = .ok (.if_icmp .lt 5, 3) := by decide +kernel
theorem d128_12 : decode (zz_c 128) 12 = .ok (.iconst (-1), 1) := by decide +kernel
theorem d128_13 : decode (zz_c 128) 13 = .ok (.ireturn, 1) := by decide +kernel
theorem d128_14 : decode (zz_c 128) 14 = .ok (.iconst 0, 1) := by decide +kernel
theorem d128_15 : decode (zz_c 128) 15 = .ok (.istore_n 2, 1) := by decide +kernel
theorem d128_16 : decode (zz_c 128) 16 = .ok (.sipush 512, 3) := by decide +kernel
theorem d128_19 : decode (zz_c 128) 19 = .ok (.istore_n 3, 1) := by decide +kernel
theorem d128_20 : decode (zz_c 128) 20 = .ok (.iload_n 3, 1) := by decide +kernel
theorem d128_21 : decode (zz_c 128) 21 = .ok (.ifCond .le 34, 3) := by decide +kernel
theorem d128_24 : decode (zz_c 128) 24 = .ok (.iload_n 2, 1) := by decide +kernel
theorem d128_25 : decode (zz_c 128) 25 = .ok (.iload_n 3, 1) := by decide +kernel
theorem d128_26 : decode (zz_c 128) 26 = .ok (.iadd, 1) := by decide +kernel
theorem d128_27 : decode (zz_c 128) 27 = .ok (.sipush 999, 3) := by decide +kernel
theorem d128_30 : decode (zz_c 128) 30 = .ok (.if_icmp .gt 18, 3) := by decide +kernel
theorem d128_33 : decode (zz_c 128) 33 = .ok (.aload_n 0, 1) := by decide +kernel
theorem d128_34 : decode (zz_c 128) 34 = .ok (.iload_n 2, 1) := by decide +kernel
theorem d128_35 : decode (zz_c 128) 35 = .ok (.iload_n 3, 1) := by decide +kernel
theorem d128_36 : decode (zz_c 128) 36 = .ok (.iadd, 1) := by decide +kernel
theorem d128_37 : decode (zz_c 128) 37 = .ok (.invokevirtual 353, 3) := by decide +kernel
theorem d128_40 : decode (zz_c 128) 40 = .ok (.iload_n 1, 1) := by decide +kernel
theorem d128_41 : decode (zz_c 128) 41 = .ok (.if_icmp .le 7, 3) := by decide +kernel
theorem d128_44 : decode (zz_c 128) 44 = .ok (.iload_n 2, 1) := by decide +kernel
theorem d128_45 : decode (zz_c 128) 45 = .ok (.iload_n 3, 1) := by decide +kernel
theorem d128_46 : decode (zz_c 128) 46 = .ok (.iadd, 1) := by decide +kernel
theorem d128_47 : decode (zz_c 128) 47 = .ok (.istore_n 2, 1) := by decide +kernel
theorem d128_48 : decode (zz_c 128) 48 = .ok (.iload_n 3, 1) := by decide +kernel
theorem d128_49 : decode (zz_c 128) 49 = .ok (.iconst 2, 1) := by decide +kernel
theorem d128_50 : decode (zz_c 128) 50 = .ok (.idiv, 1) := by decide +kernel
theorem d128_51 : decode (zz_c 128) 51 = .ok (.istore_n 3, 1) := by decide +kernel
theorem d128_52 : decode (zz_c 128) 52 = .ok (.goto (-32), 3) := by decide +kernel
theorem d128_55 : decode (zz_c 128) 55 = .ok (.aload_n 0, 1) := by decide +kernel
theorem d128_56 : decode (zz_c 128) 56 = .ok (.iload_n 2, 1) := by decide +kernel
theorem d128_57 : decode (zz_c 128) 57 = .ok (.iload_n 1, 1) := by decide +kernel
theorem d128_58 : decode (zz_c 128) 58 = .ok (.aload_n 0, 1) := by decide +kernel
theorem d128_59 : decode (zz_c 128) 59 = .ok (.iload_n 2, 1) := by decide +kernel
theorem d128_60 : decode (zz_c 128) 60 = .ok (.iconst 1, 1) := by decide +kernel
theorem d128_61 : decode (zz_c 128) 61 = .ok (.iadd, 1) := by decide +kernel
theorem d128_62 : decode (zz_c 128) 62 = .ok (.invokevirtual 353, 3) := by decide +kernel
theorem d128_65 : decode (zz_c 128) 65 = .ok (.isub, 1) := by decide +kernel
theorem d128_66 : decode (zz_c 128) 66 = .ok (.invokevirtual 356, 3) := by decide +kernel
theorem d128_69 : decode (zz_c 128) 69 = .ok (.ireturn, 1) := by decide +kernel
theorem x128 : (∀ l0 l2 l3 x st h, zz_Y 128 (0, [l0, some (.int x), l2, l3], st, h) = zz_Y 128 (1, [l0, some (.int x), l2, l3], .int x :: st, h)) ∧ (∀ l1 l2 l3 x st h, zz_Y 128 (1, [some (.ref x), l1, l2, l3], st, h) = zz_Y 128 (2, [some (.ref x), l1, l2, l3], .ref x :: st, h)) ∧ (∀ ls a st h, zz_Y 128 (2, ls, .ref a :: st, h) = mo_gf (hp_g h a) 10 5 128 5 ls st h) ∧ (∀ ls st h, zz_Y 128 (5, ls, st, h) = zz_Y 128 (6, ls, .int (nI 0) :: st, h)) ∧ (∀ ls a0 a1 s0 h, zz_Y 128 (6, ls, [a1, a0, s0], h) = mo_k 128 9 ls [s0] (zz_run 62 [a0, a1] h)) ∧ (∀ ls a b st h, zz_Y 128 (9, ls, .int b :: .int a :: st, h) = if a < b then zz_Y 128 (14, ls, st, h) else zz_Y 128 (12, ls, st, h)) ∧ (∀ ls st h, zz_Y 128 (12, ls, st, h) = zz_Y 128 (13, ls, .int (-1) :: st, h)) ∧ (∀ ls v h, zz_Y 128 (13, ls, [.int v], h) = some (some (.int v), h)) ∧ (∀ ls st h, zz_Y 128 (14, ls, st, h) = zz_Y 128 (15, ls, .int (nI 0) :: st, h)) ∧ (∀ l0 l1 l2 l3 x st h, zz_nl l1 = true → zz_Y 128 (15, [l0, l1, l2, l3], .int x :: st, h) = zz_Y 128 (16, [l0, l1, some (.int x), l3], st, h)) ∧ (∀ ls st h, zz_Y 128 (16, ls, st, h) = zz_Y 128 (19, ls, .int (nI 512) :: st, h)) ∧ (∀ l0 l1 l2 l3 x st h, zz_nl l2 = true → zz_Y 128 (19, [l0, l1, l2, l3], .int x :: st, h) = zz_Y 128 (20, [l0, l1, l2, some (.int x)], st, h)) ∧ (∀ ls a st h, zz_Y 128 (21, ls, .int a :: st, h) = if nI 0 < a then zz_Y 128 (24, ls, st, h) else zz_Y 128 (55, ls, st, h)) ∧ (∀ l0 l1 l3 x st h, zz_Y 128 (24, [l0, l1, some (.int x), l3], st, h) = zz_Y 128 (25, [l0, l1, some (.int x), l3], .int x :: st, h)) ∧ (∀ l0 l1 l2 x st h, zz_Y 128 (25, [l0, l1, l2, some (.int x)], st, h) = zz_Y 128 (26, [l0, l1, l2, some (.int x)], .int x :: st, h)) ∧ (∀ ls a b st h, zz_Y 128 (26, ls, .int b :: .int a :: st, h) = zz_Y 128 (27, ls, .int (a + b) :: st, h)) ∧ (∀ ls st h, zz_Y 128 (27, ls, st, h) = zz_Y 128 (30, ls, .int (nI 999) :: st, h)) ∧ (∀ ls a b st h, zz_Y 128 (30, ls, .int b :: .int a :: st, h) = if b < a then zz_Y 128 (48, ls, st, h) else zz_Y 128 (33, ls, st, h)) ∧ (∀ l1 l2 l3 x st h, zz_Y 128 (33, [some (.ref x), l1, l2, l3], st, h) = zz_Y 128 (34, [some (.ref x), l1, l2, l3], .ref x :: st, h)) ∧ (∀ l0 l1 l3 x st h, zz_Y 128 (34, [l0, l1, some (.int x), l3], st, h) = zz_Y 128 (35, [l0, l1, some (.int x), l3], .int x :: st, h)) ∧ (∀ l0 l1 l2 x st h, zz_Y 128 (35, [l0, l1, l2, some (.int x)], st, h) = zz_Y 128 (36, [l0, l1, l2, some (.int x)], .int x :: st, h)) ∧ (∀ ls a b st h, zz_Y 128 (36, ls, .int b :: .int a :: st, h) = zz_Y 128 (37, ls, .int (a + b) :: st, h)) ∧ (∀ ls a0 a1 h, zz_Y 128 (37, ls, [a1, a0], h) = mo_k 128 40 ls [] (zz_run 129 [a0, a1] h)) ∧ (∀ l0 l2 l3 x st h, zz_Y 128 (40, [l0, some (.int x), l2, l3], st, h) = zz_Y 128 (41, [l0, some (.int x), l2, l3], .int x :: st, h)) ∧ (∀ ls a b st h, zz_Y 128 (41, ls, .int b :: .int a :: st, h) = if b < a then zz_Y 128 (44, ls, st, h) else zz_Y 128 (48, ls, st, h)) ∧ (∀ l0 l1 l3 x st h, zz_Y 128 (44, [l0, l1, some (.int x), l3], st, h) = zz_Y 128 (45, [l0, l1, some (.int x), l3], .int x :: st, h)) ∧ (∀ l0 l1 l2 x st h, zz_Y 128 (45, [l0, l1, l2, some (.int x)], st, h) = zz_Y 128 (46, [l0, l1, l2, some (.int x)], .int x :: st, h)) ∧ (∀ ls a b st h, zz_Y 128 (46, ls, .int b :: .int a :: st, h) = zz_Y 128 (47, ls, .int (a + b) :: st, h)) ∧ (∀ l0 l1 l2 l3 x st h, zz_nl l1 = true → zz_Y 128 (47, [l0, l1, l2, l3], .int x :: st, h) = zz_Y 128 (48, [l0, l1, some (.int x), l3], st, h)) ∧ (∀ l0 l1 l2 x st h, zz_Y 128 (48, [l0, l1, l2, some (.int x)], st, h) = zz_Y 128 (49, [l0, l1, l2, some (.int x)], .int x :: st, h)) ∧ (∀ ls st h, zz_Y 128 (49, ls, st, h) = zz_Y 128 (50, ls, .int (nI 2) :: st, h)) ∧ (∀ ls a b st h, ¬ b = 0 → zz_Y 128 (50, ls, .int b :: .int a :: st, h) = zz_Y 128 (51, ls, .int (a / b) :: st, h)) ∧ (∀ l0 l1 l2 l3 x st h, zz_nl l2 = true → zz_Y 128 (51, [l0, l1, l2, l3], .int x :: st, h) = zz_Y 128 (52, [l0, l1, l2, some (.int x)], st, h)) ∧ (∀ ls st h, zz_Y 128 (52, ls, st, h) = zz_Y 128 (20, ls, st, h)) ∧ (∀ l1 l2 l3 x st h, zz_Y 128 (55, [some (.ref x), l1, l2, l3], st, h) = zz_Y 128 (56, [some (.ref x), l1, l2, l3], .ref x :: st, h)) ∧ (∀ l0 l1 l3 x st h, zz_Y 128 (56, [l0, l1, some (.int x), l3], st, h) = zz_Y 128 (57, [l0, l1, some (.int x), l3], .int x :: st, h)) ∧ (∀ l0 l2 l3 x st h, zz_Y 128 (57, [l0, some (.int x), l2, l3], st, h) = zz_Y 128 (58, [l0, some (.int x), l2, l3], .int x :: st, h)) ∧ (∀ l1 l2 l3 x st h, zz_Y 128 (58, [some (.ref x), l1, l2, l3], st, h) = zz_Y 128 (59, [some (.ref x), l1, l2, l3], .ref x :: st, h)) ∧ (∀ l0 l1 l3 x st h, zz_Y 128 (59, [l0, l1, some (.int x), l3], st, h) = zz_Y 128 (60, [l0, l1, some (.int x), l3], .int x :: st, h)) ∧ (∀ ls st h, zz_Y 128 (60, ls, st, h) = zz_Y 128 (61, ls, .int (nI 1) :: st, h)) ∧ (∀ ls a b st h, zz_Y 128 (61, ls, .int b :: .int a :: st, h) = zz_Y 128 (62, ls, .int (a + b) :: st, h)) ∧ (∀ ls a0 a1 s0 s1 s2 h, zz_Y 128 (62, ls, [a1, a0, s0, s1, s2], h) = mo_k 128 65 ls [s0, s1, s2] (zz_run 129 [a0, a1] h)) ∧ (∀ ls a b st h, zz_Y 128 (65, ls, .int b :: .int a :: st, h) = zz_Y 128 (66, ls, .int (a - b) :: st, h)) ∧ (∀ ls a0 a1 a2 h, zz_Y 128 (66, ls, [a2, a1, a0], h) = mo_k 128 69 ls [] (zz_run 130 [a0, a1, a2] h)) ∧ (∀ ls v h, zz_Y 128 (69, ls, [.int v], h) = some (some (.int v), h)) :=
  ⟨fun _ _ _ _ _ _ => xl_iln d128_0 rfl,
   fun _ _ _ _ _ _ => xl_aln d128_1 rfl,
   fun _ _ _ _ => xl_gf d128_2 xco128 xf_10_46,
   fun _ _ _ => xl_ic d128_5 (by decide +kernel),
   fun ls a0 a1 s0 h => xl_cv (As := [a0, a1]) (st := [s0]) d128_6 xco128 xm_10_105 (congrArg Nat.succ xnp62) (by decide +kernel) rfl,
   fun _ _ _ _ _ => xl_iclt d128_9 rfl,
   fun _ _ _ => xl_ic d128_12 (by decide +kernel),
   fun _ _ _ => xl_iri d128_13 xrt128,
   fun _ _ _ => xl_ic d128_14 (by decide +kernel),
   fun _ _ _ _ _ _ _ hc => xl_isn d128_15 xml128 (by decide) (zz_nl_s1 hc),
   fun _ _ _ => xl_si d128_16 (by decide +kernel),
   fun _ _ _ _ _ _ _ hc => xl_isn d128_19 xml128 (by decide) (zz_nl_s1 hc),
   fun _ _ _ _ => xl_ifle d128_21 rfl,
   fun _ _ _ _ _ _ => xl_iln d128_24 rfl,
   fun _ _ _ _ _ _ => xl_iln d128_25 rfl,
   fun _ _ _ _ _ => xl_iadd d128_26,
   fun _ _ _ => xl_si d128_27 (by decide +kernel),
   fun _ _ _ _ _ => xl_icgt d128_30 rfl,
   fun _ _ _ _ _ _ => xl_aln d128_33 rfl,
   fun _ _ _ _ _ _ => xl_iln d128_34 rfl,
   fun _ _ _ _ _ _ => xl_iln d128_35 rfl,
   fun _ _ _ _ _ => xl_iadd d128_36,
   fun ls a0 a1 h => xl_cv (As := [a0, a1]) (st := []) d128_37 xco128 xm_10_353 (congrArg Nat.succ xnp129) (by decide +kernel) rfl,
   fun _ _ _ _ _ _ => xl_iln d128_40 rfl,
   fun _ _ _ _ _ => xl_icle d128_41 rfl,
   fun _ _ _ _ _ _ => xl_iln d128_44 rfl,
   fun _ _ _ _ _ _ => xl_iln d128_45 rfl,
   fun _ _ _ _ _ => xl_iadd d128_46,
   fun _ _ _ _ _ _ _ hc => xl_isn d128_47 xml128 (by decide) (zz_nl_s1 hc),
   fun _ _ _ _ _ _ => xl_iln d128_48 rfl,
   fun _ _ _ => xl_ic d128_49 (by decide +kernel),
   fun _ _ _ _ _ hc => xl_idiv d128_50 hc,
   fun _ _ _ _ _ _ _ hc => xl_isn d128_51 xml128 (by decide) (zz_nl_s1 hc),
   fun _ _ _ => xl_goto d128_52 rfl,
   fun _ _ _ _ _ _ => xl_aln d128_55 rfl,
   fun _ _ _ _ _ _ => xl_iln d128_56 rfl,
   fun _ _ _ _ _ _ => xl_iln d128_57 rfl,
   fun _ _ _ _ _ _ => xl_aln d128_58 rfl,
   fun _ _ _ _ _ _ => xl_iln d128_59 rfl,
   fun _ _ _ => xl_ic d128_60 (by decide +kernel),
   fun _ _ _ _ _ => xl_iadd d128_61,
   fun ls a0 a1 s0 s1 s2 h => xl_cv (As := [a0, a1]) (st := [s0, s1, s2]) d128_62 xco128 xm_10_353 (congrArg Nat.succ xnp129) (by decide +kernel) rfl,
   fun _ _ _ _ _ => xl_isub d128_65,
   fun ls a0 a1 a2 h => xl_cv (As := [a0, a1, a2]) (st := []) d128_66 xco128 xm_10_356 (congrArg Nat.succ xnp130) (by decide +kernel) rfl,
   fun _ _ _ => xl_iri d128_69 xrt128⟩
theorem x128_c20 : ∀ l0 l1 l2 x st h, zz_Y 128 (20, [l0, l1, l2, some (.int x)], st, h) = zz_Y 128 (21, [l0, l1, l2, some (.int x)], .int x :: st, h) := fun _ _ _ _ _ _ => xl_iln d128_20 rfl
/-! 129 FacetSieve.leftOfRankFrom(I)I -/
theorem d129_0 : decode (zz_c 129) 0 = .ok (.iconst 0, 1) := by decide +kernel
theorem d129_1 : decode (zz_c 129) 1 = .ok (.istore_n 2, 1) := by decide +kernel
theorem d129_2 : decode (zz_c 129) 2 = .ok (.iconst 0, 1) := by decide +kernel
theorem d129_3 : decode (zz_c 129) 3 = .ok (.istore_n 3, 1) := by decide +kernel
theorem d129_4 : decode (zz_c 129) 4 = .ok (.iload_n 3, 1) := by decide +kernel
theorem d129_5 : decode (zz_c 129) 5 = .ok (.sipush 256, 3) := by decide +kernel
theorem d129_8 : decode (zz_c 129) 8 = .ok (.if_icmp .ge 40, 3) := by decide +kernel
theorem d129_11 : decode (zz_c 129) 11 = .ok (.aload_n 0, 1) := by decide +kernel
theorem d129_12 : decode (zz_c 129) 12 = .ok (.getfield 12, 3) := by decide +kernel
theorem d129_15 : decode (zz_c 129) 15 = .ok (.getfield 79, 3) := by decide +kernel
theorem d129_18 : decode (zz_c 129) 18 = .ok (.getfield 186, 3) := by decide +kernel
theorem d129_21 : decode (zz_c 129) 21 = .ok (.iload_n 3, 1) := by decide +kernel
theorem d129_22 : decode (zz_c 129) 22 = .ok (.iaload, 1) := by decide +kernel
theorem d129_23 : decode (zz_c 129) 23 = .ok (.iload_n 1, 1) := by decide +kernel
theorem d129_24 : decode (zz_c 129) 24 = .ok (.if_icmp .lt 18, 3) := by decide +kernel
theorem d129_27 : decode (zz_c 129) 27 = .ok (.aload_n 0, 1) := by decide +kernel
theorem d129_28 : decode (zz_c 129) 28 = .ok (.getfield 46, 3) := by decide +kernel
theorem d129_31 : decode (zz_c 129) 31 = .ok (.iconst 0, 1) := by decide +kernel
theorem d129_32 : decode (zz_c 129) 32 = .ok (.iload_n 3, 1) := by decide +kernel
theorem d129_33 : decode (zz_c 129) 33 = .ok (.invokevirtual 309, 3) := by decide +kernel
theorem d129_36 : decode (zz_c 129) 36 = .ok (.ifCond .eq 6, 3) := by decide +kernel
theorem d129_39 : decode (zz_c 129) 39 = .ok (.iinc 2 1, 3) := by decide +kernel
theorem d129_42 : decode (zz_c 129) 42 = .ok (.iinc 3 1, 3) := by decide +kernel
theorem d129_45 : decode (zz_c 129) 45 = .ok (.goto (-41), 3) := by decide +kernel
theorem d129_48 : decode (zz_c 129) 48 = .ok (.iload_n 2, 1) := by decide +kernel
theorem d129_49 : decode (zz_c 129) 49 = .ok (.ireturn, 1) := by decide +kernel
theorem x129 : (∀ ls st h, zz_Y 129 (0, ls, st, h) = zz_Y 129 (1, ls, .int (nI 0) :: st, h)) ∧ (∀ l0 l1 l2 l3 x st h, zz_nl l1 = true → zz_Y 129 (1, [l0, l1, l2, l3], .int x :: st, h) = zz_Y 129 (2, [l0, l1, some (.int x), l3], st, h)) ∧ (∀ ls st h, zz_Y 129 (2, ls, st, h) = zz_Y 129 (3, ls, .int (nI 0) :: st, h)) ∧ (∀ l0 l1 l2 l3 x st h, zz_nl l2 = true → zz_Y 129 (3, [l0, l1, l2, l3], .int x :: st, h) = zz_Y 129 (4, [l0, l1, l2, some (.int x)], st, h)) ∧ (∀ ls st h, zz_Y 129 (5, ls, st, h) = zz_Y 129 (8, ls, .int (nI 256) :: st, h)) ∧ (∀ ls a b st h, zz_Y 129 (8, ls, .int b :: .int a :: st, h) = if a < b then zz_Y 129 (11, ls, st, h) else zz_Y 129 (48, ls, st, h)) ∧ (∀ l1 l2 l3 x st h, zz_Y 129 (11, [some (.ref x), l1, l2, l3], st, h) = zz_Y 129 (12, [some (.ref x), l1, l2, l3], .ref x :: st, h)) ∧ (∀ ls a st h, zz_Y 129 (12, ls, .ref a :: st, h) = mo_gf (hp_g h a) 10 0 129 15 ls st h) ∧ (∀ ls a st h, zz_Y 129 (15, ls, .ref a :: st, h) = mo_gf (hp_g h a) 1 1 129 18 ls st h) ∧ (∀ ls a st h, zz_Y 129 (18, ls, .ref a :: st, h) = mo_gf (hp_g h a) 7 1 129 21 ls st h) ∧ (∀ l0 l1 l2 x st h, zz_Y 129 (21, [l0, l1, l2, some (.int x)], st, h) = zz_Y 129 (22, [l0, l1, l2, some (.int x)], .int x :: st, h)) ∧ (∀ ls a i st h, zz_Y 129 (22, ls, .int i :: .ref a :: st, h) = mo_ia (hp_g h a) i a 129 23 ls st h) ∧ (∀ l0 l2 l3 x st h, zz_Y 129 (23, [l0, some (.int x), l2, l3], st, h) = zz_Y 129 (24, [l0, some (.int x), l2, l3], .int x :: st, h)) ∧ (∀ ls a b st h, zz_Y 129 (24, ls, .int b :: .int a :: st, h) = if a < b then zz_Y 129 (42, ls, st, h) else zz_Y 129 (27, ls, st, h)) ∧ (∀ l1 l2 l3 x st h, zz_Y 129 (27, [some (.ref x), l1, l2, l3], st, h) = zz_Y 129 (28, [some (.ref x), l1, l2, l3], .ref x :: st, h)) ∧ (∀ ls a st h, zz_Y 129 (28, ls, .ref a :: st, h) = mo_gf (hp_g h a) 10 5 129 31 ls st h) ∧ (∀ ls st h, zz_Y 129 (31, ls, st, h) = zz_Y 129 (32, ls, .int (nI 0) :: st, h)) ∧ (∀ l0 l1 l2 x st h, zz_Y 129 (32, [l0, l1, l2, some (.int x)], st, h) = zz_Y 129 (33, [l0, l1, l2, some (.int x)], .int x :: st, h)) ∧ (∀ ls a0 a1 a2 h, zz_Y 129 (33, ls, [a2, a1, a0], h) = mo_k 129 36 ls [] (zz_run 126 [a0, a1, a2] h)) ∧ (∀ ls a st h, zz_Y 129 (36, ls, .int a :: st, h) = if a = nI 0 then zz_Y 129 (42, ls, st, h) else zz_Y 129 (39, ls, st, h)) ∧ (∀ l0 l1 l3 x st h, zz_nl l1 = true → zz_Y 129 (39, [l0, l1, some (.int x), l3], st, h) = zz_Y 129 (42, [l0, l1, some (.int (x + nI 1)), l3], st, h)) ∧ (∀ l0 l1 l2 x st h, zz_nl l2 = true → zz_Y 129 (42, [l0, l1, l2, some (.int x)], st, h) = zz_Y 129 (45, [l0, l1, l2, some (.int (x + nI 1))], st, h)) ∧ (∀ ls st h, zz_Y 129 (45, ls, st, h) = zz_Y 129 (4, ls, st, h)) ∧ (∀ l0 l1 l3 x st h, zz_Y 129 (48, [l0, l1, some (.int x), l3], st, h) = zz_Y 129 (49, [l0, l1, some (.int x), l3], .int x :: st, h)) ∧ (∀ ls v h, zz_Y 129 (49, ls, [.int v], h) = some (some (.int v), h)) :=
  ⟨fun _ _ _ => xl_ic d129_0 (by decide +kernel),
   fun _ _ _ _ _ _ _ hc => xl_isn d129_1 xml129 (by decide) (zz_nl_s1 hc),
   fun _ _ _ => xl_ic d129_2 (by decide +kernel),
   fun _ _ _ _ _ _ _ hc => xl_isn d129_3 xml129 (by decide) (zz_nl_s1 hc),
   fun _ _ _ => xl_si d129_5 (by decide +kernel),
   fun _ _ _ _ _ => xl_icge d129_8 rfl,
   fun _ _ _ _ _ _ => xl_aln d129_11 rfl,
   fun _ _ _ _ => xl_gf d129_12 xco129 xf_10_12,
   fun _ _ _ _ => xl_gf d129_15 xco129 xf_10_79,
   fun _ _ _ _ => xl_gf d129_18 xco129 xf_10_186,
   fun _ _ _ _ _ _ => xl_iln d129_21 rfl,
   fun _ _ _ _ _ => xl_ia d129_22,
   fun _ _ _ _ _ _ => xl_iln d129_23 rfl,
   fun _ _ _ _ _ => xl_iclt d129_24 rfl,
   fun _ _ _ _ _ _ => xl_aln d129_27 rfl,
   fun _ _ _ _ => xl_gf d129_28 xco129 xf_10_46,
   fun _ _ _ => xl_ic d129_31 (by decide +kernel),
   fun _ _ _ _ _ _ => xl_iln d129_32 rfl,
   fun ls a0 a1 a2 h => xl_cv (As := [a0, a1, a2]) (st := []) d129_33 xco129 xm_10_309 (congrArg Nat.succ xnp126) (by decide +kernel) rfl,
   fun _ _ _ _ => xl_ifeq d129_36 rfl,
   fun _ _ _ _ _ _ hc => xl_inc d129_39 xml129 (by decide) rfl (by decide +kernel) (zz_nl_s1 hc),
   fun _ _ _ _ _ _ hc => xl_inc d129_42 xml129 (by decide) rfl (by decide +kernel) (zz_nl_s1 hc),
   fun _ _ _ => xl_goto d129_45 rfl,
   fun _ _ _ _ _ _ => xl_iln d129_48 rfl,
   fun _ _ _ => xl_iri d129_49 xrt129⟩
theorem x129_c4 : ∀ l0 l1 l2 x st h, zz_Y 129 (4, [l0, l1, l2, some (.int x)], st, h) = zz_Y 129 (5, [l0, l1, l2, some (.int x)], .int x :: st, h) := fun _ _ _ _ _ _ => xl_iln d129_4 rfl
/-! 130 FacetSieve.leftOfRank(II)I -/
theorem d130_0 : decode (zz_c 130) 0 = .ok (.iconst 0, 1) := by decide +kernel
theorem d130_1 : decode (zz_c 130) 1 = .ok (.istore_n 3, 1) := by decide +kernel
theorem d130_2 : decode (zz_c 130) 2 = .ok (.iconst 0, 1) := by decide +kernel
theorem d130_3 : decode (zz_c 130) 3 = .ok (.istore 4, 2) := by decide +kernel
theorem d130_5 : decode (zz_c 130) 5 = .ok (.iload 4, 2) := by decide +kernel
theorem d130_7 : decode (zz_c 130) 7 = .ok (.sipush 256, 3) := by decide +kernel
theorem d130_10 : decode (zz_c 130) 10 = .ok (.if_icmp .ge 50, 3) := by decide +kernel
theorem d130_13 : decode (zz_c 130) 13 = .ok (.aload_n 0, 1) := by decide +kernel
theorem d130_14 : decode (zz_c 130) 14 = .ok (.getfield 12, 3) := by decide +kernel
theorem d130_17 : decode (zz_c 130) 17 = .ok (.getfield 79, 3) := by decide +kernel
theorem d130_20 : decode (zz_c 130) 20 = .ok (.getfield 186, 3) := by decide +kernel
theorem d130_23 : decode (zz_c 130) 23 = .ok (.iload 4, 2) := by decide +kernel
theorem d130_25 : decode (zz_c 130) 25 = .ok (.iaload, 1) := by decide +kernel
theorem d130_26 : decode (zz_c 130) 26 = .ok (.iload_n 1, 1) := by decide +kernel
theorem d130_27 : decode (zz_c 130) 27 = .ok (.if_icmp .ne 27, 3) := by decide +kernel
theorem d130_30 : decode (zz_c 130) 30 = .ok (.aload_n 0, 1) := by decide +kernel
theorem d130_31 : decode (zz_c 130) 31 = .ok (.getfield 46, 3) := by decide +kernel
theorem d130_34 : decode (zz_c 130) 34 = .ok (.iconst 0, 1) := by decide +kernel
theorem d130_35 : decode (zz_c 130) 35 = .ok (.iload 4, 2) := by decide +kernel
theorem d130_37 : decode (zz_c 130) 37 = .ok (.invokevirtual 309, 3) := by decide +kernel
theorem d130_40 : decode (zz_c 130) 40 = .ok (.ifCond .eq 14, 3) := by decide +kernel
theorem d130_43 : decode (zz_c 130) 43 = .ok (.iload_n 3, 1) := by decide +kernel
theorem d130_44 : decode (zz_c 130) 44 = .ok (.iload_n 2, 1) := by decide +kernel
theorem d130_45 : decode (zz_c 130) 45 = .ok (.if_icmp .ne 6, 3) := by decide +kernel
theorem d130_48 : decode (zz_c 130) 48 = .ok (.iload 4, 2) := by decide +kernel
theorem d130_50 : decode (zz_c 130) 50 = .ok (.ireturn, 1) := by decide +kernel
theorem d130_51 : decode (zz_c 130) 51 = .ok (.iinc 3 1, 3) := by decide +kernel
theorem d130_54 : decode (zz_c 130) 54 = .ok (.iinc 4 1, 3) := by decide +kernel
theorem d130_57 : decode (zz_c 130) 57 = .ok (.goto (-52), 3) := by decide +kernel
theorem d130_60 : decode (zz_c 130) 60 = .ok (.iconst (-1), 1) := by decide +kernel
theorem d130_61 : decode (zz_c 130) 61 = .ok (.ireturn, 1) := by decide +kernel
theorem x130 : (∀ ls st h, zz_Y 130 (0, ls, st, h) = zz_Y 130 (1, ls, .int (nI 0) :: st, h)) ∧ (∀ l0 l1 l2 l3 l4 x st h, zz_nl l2 = true → zz_Y 130 (1, [l0, l1, l2, l3, l4], .int x :: st, h) = zz_Y 130 (2, [l0, l1, l2, some (.int x), l4], st, h)) ∧ (∀ ls st h, zz_Y 130 (2, ls, st, h) = zz_Y 130 (3, ls, .int (nI 0) :: st, h)) ∧ (∀ l0 l1 l2 l3 l4 x st h, zz_nl l3 = true → zz_Y 130 (3, [l0, l1, l2, l3, l4], .int x :: st, h) = zz_Y 130 (5, [l0, l1, l2, l3, some (.int x)], st, h)) ∧ (∀ ls st h, zz_Y 130 (7, ls, st, h) = zz_Y 130 (10, ls, .int (nI 256) :: st, h)) ∧ (∀ ls a b st h, zz_Y 130 (10, ls, .int b :: .int a :: st, h) = if a < b then zz_Y 130 (13, ls, st, h) else zz_Y 130 (60, ls, st, h)) ∧ (∀ l1 l2 l3 l4 x st h, zz_Y 130 (13, [some (.ref x), l1, l2, l3, l4], st, h) = zz_Y 130 (14, [some (.ref x), l1, l2, l3, l4], .ref x :: st, h)) ∧ (∀ ls a st h, zz_Y 130 (14, ls, .ref a :: st, h) = mo_gf (hp_g h a) 10 0 130 17 ls st h) ∧ (∀ ls a st h, zz_Y 130 (17, ls, .ref a :: st, h) = mo_gf (hp_g h a) 1 1 130 20 ls st h) ∧ (∀ ls a st h, zz_Y 130 (20, ls, .ref a :: st, h) = mo_gf (hp_g h a) 7 1 130 23 ls st h) ∧ (∀ l0 l1 l2 l3 x st h, zz_Y 130 (23, [l0, l1, l2, l3, some (.int x)], st, h) = zz_Y 130 (25, [l0, l1, l2, l3, some (.int x)], .int x :: st, h)) ∧ (∀ ls a i st h, zz_Y 130 (25, ls, .int i :: .ref a :: st, h) = mo_ia (hp_g h a) i a 130 26 ls st h) ∧ (∀ l0 l2 l3 l4 x st h, zz_Y 130 (26, [l0, some (.int x), l2, l3, l4], st, h) = zz_Y 130 (27, [l0, some (.int x), l2, l3, l4], .int x :: st, h)) ∧ (∀ ls a b st h, zz_Y 130 (27, ls, .int b :: .int a :: st, h) = if a = b then zz_Y 130 (30, ls, st, h) else zz_Y 130 (54, ls, st, h)) ∧ (∀ l1 l2 l3 l4 x st h, zz_Y 130 (30, [some (.ref x), l1, l2, l3, l4], st, h) = zz_Y 130 (31, [some (.ref x), l1, l2, l3, l4], .ref x :: st, h)) ∧ (∀ ls a st h, zz_Y 130 (31, ls, .ref a :: st, h) = mo_gf (hp_g h a) 10 5 130 34 ls st h) ∧ (∀ ls st h, zz_Y 130 (34, ls, st, h) = zz_Y 130 (35, ls, .int (nI 0) :: st, h)) ∧ (∀ l0 l1 l2 l3 x st h, zz_Y 130 (35, [l0, l1, l2, l3, some (.int x)], st, h) = zz_Y 130 (37, [l0, l1, l2, l3, some (.int x)], .int x :: st, h)) ∧ (∀ ls a0 a1 a2 h, zz_Y 130 (37, ls, [a2, a1, a0], h) = mo_k 130 40 ls [] (zz_run 126 [a0, a1, a2] h)) ∧ (∀ ls a st h, zz_Y 130 (40, ls, .int a :: st, h) = if a = nI 0 then zz_Y 130 (54, ls, st, h) else zz_Y 130 (43, ls, st, h)) ∧ (∀ l0 l1 l2 l4 x st h, zz_Y 130 (43, [l0, l1, l2, some (.int x), l4], st, h) = zz_Y 130 (44, [l0, l1, l2, some (.int x), l4], .int x :: st, h)) ∧ (∀ l0 l1 l3 l4 x st h, zz_Y 130 (44, [l0, l1, some (.int x), l3, l4], st, h) = zz_Y 130 (45, [l0, l1, some (.int x), l3, l4], .int x :: st, h)) ∧ (∀ ls a b st h, zz_Y 130 (45, ls, .int b :: .int a :: st, h) = if a = b then zz_Y 130 (48, ls, st, h) else zz_Y 130 (51, ls, st, h)) ∧ (∀ l0 l1 l2 l3 x st h, zz_Y 130 (48, [l0, l1, l2, l3, some (.int x)], st, h) = zz_Y 130 (50, [l0, l1, l2, l3, some (.int x)], .int x :: st, h)) ∧ (∀ ls v h, zz_Y 130 (50, ls, [.int v], h) = some (some (.int v), h)) ∧ (∀ l0 l1 l2 l4 x st h, zz_nl l2 = true → zz_Y 130 (51, [l0, l1, l2, some (.int x), l4], st, h) = zz_Y 130 (54, [l0, l1, l2, some (.int (x + nI 1)), l4], st, h)) ∧ (∀ l0 l1 l2 l3 x st h, zz_nl l3 = true → zz_Y 130 (54, [l0, l1, l2, l3, some (.int x)], st, h) = zz_Y 130 (57, [l0, l1, l2, l3, some (.int (x + nI 1))], st, h)) ∧ (∀ ls st h, zz_Y 130 (57, ls, st, h) = zz_Y 130 (5, ls, st, h)) ∧ (∀ ls st h, zz_Y 130 (60, ls, st, h) = zz_Y 130 (61, ls, .int (-1) :: st, h)) ∧ (∀ ls v h, zz_Y 130 (61, ls, [.int v], h) = some (some (.int v), h)) :=
  ⟨fun _ _ _ => xl_ic d130_0 (by decide +kernel),
   fun _ _ _ _ _ _ _ _ hc => xl_isn d130_1 xml130 (by decide) (zz_nl_s1 hc),
   fun _ _ _ => xl_ic d130_2 (by decide +kernel),
   fun _ _ _ _ _ _ _ _ hc => xl_is d130_3 xml130 (by decide) (zz_nl_s1 hc),
   fun _ _ _ => xl_si d130_7 (by decide +kernel),
   fun _ _ _ _ _ => xl_icge d130_10 rfl,
   fun _ _ _ _ _ _ _ => xl_aln d130_13 rfl,
   fun _ _ _ _ => xl_gf d130_14 xco130 xf_10_12,
   fun _ _ _ _ => xl_gf d130_17 xco130 xf_10_79,
   fun _ _ _ _ => xl_gf d130_20 xco130 xf_10_186,
   fun _ _ _ _ _ _ _ => xl_il d130_23 rfl,
   fun _ _ _ _ _ => xl_ia d130_25,
   fun _ _ _ _ _ _ _ => xl_iln d130_26 rfl,
   fun _ _ _ _ _ => xl_icne d130_27 rfl,
   fun _ _ _ _ _ _ _ => xl_aln d130_30 rfl,
   fun _ _ _ _ => xl_gf d130_31 xco130 xf_10_46,
   fun _ _ _ => xl_ic d130_34 (by decide +kernel),
   fun _ _ _ _ _ _ _ => xl_il d130_35 rfl,
   fun ls a0 a1 a2 h => xl_cv (As := [a0, a1, a2]) (st := []) d130_37 xco130 xm_10_309 (congrArg Nat.succ xnp126) (by decide +kernel) rfl,
   fun _ _ _ _ => xl_ifeq d130_40 rfl,
   fun _ _ _ _ _ _ _ => xl_iln d130_43 rfl,
   fun _ _ _ _ _ _ _ => xl_iln d130_44 rfl,
   fun _ _ _ _ _ => xl_icne d130_45 rfl,
   fun _ _ _ _ _ _ _ => xl_il d130_48 rfl,
   fun _ _ _ => xl_iri d130_50 xrt130,
   fun _ _ _ _ _ _ _ hc => xl_inc d130_51 xml130 (by decide) rfl (by decide +kernel) (zz_nl_s1 hc),
   fun _ _ _ _ _ _ _ hc => xl_inc d130_54 xml130 (by decide) rfl (by decide +kernel) (zz_nl_s1 hc),
   fun _ _ _ => xl_goto d130_57 rfl,
   fun _ _ _ => xl_ic d130_60 (by decide +kernel),
   fun _ _ _ => xl_iri d130_61 xrt130⟩
theorem x130_c5 : ∀ l0 l1 l2 l3 x st h, zz_Y 130 (5, [l0, l1, l2, l3, some (.int x)], st, h) = zz_Y 130 (7, [l0, l1, l2, l3, some (.int x)], .int x :: st, h) := fun _ _ _ _ _ _ _ => xl_il d130_5 rfl
/-! 131 FacetSieve.told(IZ)I -/
theorem d131_0 : decode (zz_c 131) 0 = .ok (.iload_n 2, 1) := by decide +kernel
theorem d131_1 : decode (zz_c 131) 1 = .ok (.ifCond .eq 10, 3) := by decide +kernel
theorem d131_4 : decode (zz_c 131) 4 = .ok (.aload_n 0, 1) := by decide +kernel
theorem d131_5 : decode (zz_c 131) 5 = .ok (.invokevirtual 244, 3) := by decide +kernel
theorem d131_8 : decode (zz_c 131) 8 = .ok (.goto 7, 3) := by decide +kernel
theorem d131_11 : decode (zz_c 131) 11 = .ok (.aload_n 0, 1) := by decide +kernel
theorem d131_12 : decode (zz_c 131) 12 = .ok (.invokevirtual 236, 3) := by decide +kernel
theorem d131_15 : decode (zz_c 131) 15 = .ok (.iload_n 1, 1) := by decide +kernel
theorem d131_16 : decode (zz_c 131) 16 = .ok (.invokestatic 306, 3) := by decide +kernel
theorem d131_19 : decode (zz_c 131) 19 = .ok (.ireturn, 1) := by decide +kernel
theorem x131 : (∀ l0 l1 x st h, zz_Y 131 (0, [l0, l1, some (.int x)], st, h) = zz_Y 131 (1, [l0, l1, some (.int x)], .int x :: st, h)) ∧ (∀ ls a st h, zz_Y 131 (1, ls, .int a :: st, h) = if a = nI 0 then zz_Y 131 (11, ls, st, h) else zz_Y 131 (4, ls, st, h)) ∧ (∀ l1 l2 x st h, zz_Y 131 (4, [some (.ref x), l1, l2], st, h) = zz_Y 131 (5, [some (.ref x), l1, l2], .ref x :: st, h)) ∧ (∀ ls a0 h, zz_Y 131 (5, ls, [a0], h) = mo_k 131 8 ls [] (zz_run 114 [a0] h)) ∧ (∀ ls st h, zz_Y 131 (8, ls, st, h) = zz_Y 131 (15, ls, st, h)) ∧ (∀ l1 l2 x st h, zz_Y 131 (11, [some (.ref x), l1, l2], st, h) = zz_Y 131 (12, [some (.ref x), l1, l2], .ref x :: st, h)) ∧ (∀ ls a0 h, zz_Y 131 (12, ls, [a0], h) = mo_k 131 15 ls [] (zz_run 111 [a0] h)) ∧ (∀ l0 l2 x st h, zz_Y 131 (15, [l0, some (.int x), l2], st, h) = zz_Y 131 (16, [l0, some (.int x), l2], .int x :: st, h)) ∧ (∀ ls a0 a1 h, zz_Y 131 (16, ls, [a1, a0], h) = mo_k 131 19 ls [] (zz_run 82 [a0, a1] h)) ∧ (∀ ls v h, zz_Y 131 (19, ls, [.int v], h) = some (some (.int v), h)) :=
  ⟨fun _ _ _ _ _ => xl_iln d131_0 rfl,
   fun _ _ _ _ => xl_ifeq d131_1 rfl,
   fun _ _ _ _ _ => xl_aln d131_4 rfl,
   fun ls a0 h => xl_cv (As := [a0]) (st := []) d131_5 xco131 xm_10_244 (congrArg Nat.succ xnp114) (by decide +kernel) rfl,
   fun _ _ _ => xl_goto d131_8 rfl,
   fun _ _ _ _ _ => xl_aln d131_11 rfl,
   fun ls a0 h => xl_cv (As := [a0]) (st := []) d131_12 xco131 xm_10_236 (congrArg Nat.succ xnp111) (by decide +kernel) rfl,
   fun _ _ _ _ _ => xl_iln d131_15 rfl,
   fun ls a0 a1 h => xl_cs (As := [a0, a1]) (st := []) d131_16 xco131 xm_10_306 xnp82 (by decide +kernel) rfl,
   fun _ _ _ => xl_iri d131_19 xrt131⟩
/-! 132 FacetSieve.both(III)I -/
theorem d132_0 : decode (zz_c 132) 0 = .ok (.aload_n 0, 1) := by decide +kernel
theorem d132_1 : decode (zz_c 132) 1 = .ok (.getfield 12, 3) := by decide +kernel
theorem d132_4 : decode (zz_c 132) 4 = .ok (.getfield 79, 3) := by decide +kernel
theorem d132_7 : decode (zz_c 132) 7 = .ok (.getfield 163, 3) := by decide +kernel
theorem d132_10 : decode (zz_c 132) 10 = .ok (.astore 4, 2) := by decide +kernel
theorem d132_12 : decode (zz_c 132) 12 = .ok (.aload 4, 2) := by decide +kernel
theorem d132_14 : decode (zz_c 132) 14 = .ok (.iload_n 1, 1) := by decide +kernel
theorem d132_15 : decode (zz_c 132) 15 = .ok (.invokevirtual 167, 3) := by decide +kernel
theorem d132_18 : decode (zz_c 132) 18 = .ok (.ifCond .eq 12, 3) := by decide +kernel
theorem d132_21 : decode (zz_c 132) 21 = .ok (.aload 4, 2) := by decide +kernel
theorem d132_23 : decode (zz_c 132) 23 = .ok (.iload_n 2, 1) := by decide +kernel
theorem d132_24 : decode (zz_c 132) 24 = .ok (.invokevirtual 167, 3) := by decide +kernel
theorem d132_27 : decode (zz_c 132) 27 = .ok (.ifCond .ne 5, 3) := by decide +kernel
theorem d132_30 : decode (zz_c 132) 30 = .ok (.iconst (-1), 1) := by decide +kernel
theorem d132_31 : decode (zz_c 132) 31 = .ok (.ireturn, 1) := by decide +kernel
theorem d132_32 : decode (zz_c 132) 32 = .ok (.iload_n 3, 1) := by decide +kernel
theorem d132_33 : decode (zz_c 132) 33 = .ok (.ifCond .lt 9, 3) := by decide +kernel
theorem d132_36 : decode (zz_c 132) 36 = .ok (.iload_n 3, 1) := by decide +kernel
theorem d132_37 : decode (zz_c 132) 37 = .ok (.bipush 6, 2) := by decide +kernel
theorem d132_39 : decode (zz_c 132) 39 = .ok (.if_icmp .lt 5, 3) := by decide +kernel
theorem d132_42 : decode (zz_c 132) 42 = .ok (.iconst (-1), 1) := by decide +kernel
theorem d132_43 : decode (zz_c 132) 43 = .ok (.ireturn, 1) := by decide +kernel
theorem d132_44 : decode (zz_c 132) 44 = .ok (.iload_n 3, 1) := by decide +kernel
theorem d132_45 : decode (zz_c 132) 45 = .ok (.iconst 3, 1) := by decide +kernel
theorem d132_46 : decode (zz_c 132) 46 = .ok (.if_icmp .ge 20, 3) := by decide +kernel
theorem d132_49 : decode (zz_c 132) 49 = .ok (.aload_n 0, 1) := by decide +kernel
theorem d132_50 : decode (zz_c 132) 50 = .ok (.getfield 12, 3) := by decide +kernel
theorem d132_53 : decode (zz_c 132) 53 = .ok (.getfield 79, 3) := by decide +kernel
theorem d132_56 : decode (zz_c 132) 56 = .ok (.getfield 102, 3) := by decide +kernel
theorem d132_59 : decode (zz_c 132) 59 = .ok (.iload_n 1, 1) := by decide +kernel
theorem d132_60 : decode (zz_c 132) 60 = .ok (.iload_n 2, 1) := by decide +kernel
theorem d132_61 : decode (zz_c 132) 61 = .ok (.iload_n 3, 1) := by decide +kernel
theorem d132_62 : decode (zz_c 132) 62 = .ok (.invokevirtual 318, 3) := by decide +kernel
theorem d132_65 : decode (zz_c 132) 65 = .ok (.ireturn, 1) := by decide +kernel
theorem d132_66 : decode (zz_c 132) 66 = .ok (.aload_n 0, 1) := by decide +kernel
theorem d132_67 : decode (zz_c 132) 67 = .ok (.getfield 12, 3) := by decide +kernel
theorem d132_70 : decode (zz_c 132) 70 = .ok (.getfield 79, 3) := by decide +kernel
theorem d132_73 : decode (zz_c 132) 73 = .ok (.getfield 102, 3) := by decide +kernel
theorem d132_76 : decode (zz_c 132) 76 = .ok (.iload_n 1, 1) := by decide +kernel
theorem d132_77 : decode (zz_c 132) 77 = .ok (.iload_n 2, 1) := by decide +kernel
theorem d132_78 : decode (zz_c 132) 78 = .ok (.iload_n 3, 1) := by decide +kernel
theorem d132_79 : decode (zz_c 132) 79 = .ok (.iconst 3, 1) := by decide +kernel
theorem d132_80 : decode (zz_c 132) 80 = .ok (.isub, 1) := by decide +kernel
theorem d132_81 : decode (zz_c 132) 81 = .ok (.invokevirtual 321, 3) := by decide +kernel
theorem d132_84 : decode (zz_c 132) 84 = .ok (.ireturn, 1) := by decide +kernel
theorem x132 : (∀ l1 l2 l3 l4 x st h, zz_Y 132 (0, [some (.ref x), l1, l2, l3, l4], st, h) = zz_Y 132 (1, [some (.ref x), l1, l2, l3, l4], .ref x :: st, h)) ∧ (∀ ls a st h, zz_Y 132 (1, ls, .ref a :: st, h) = mo_gf (hp_g h a) 10 0 132 4 ls st h) ∧ (∀ ls a st h, zz_Y 132 (4, ls, .ref a :: st, h) = mo_gf (hp_g h a) 1 1 132 7 ls st h) ∧ (∀ ls a st h, zz_Y 132 (7, ls, .ref a :: st, h) = mo_gf (hp_g h a) 7 0 132 10 ls st h) ∧ (∀ l0 l1 l2 l3 l4 x st h, zz_nl l3 = true → zz_Y 132 (10, [l0, l1, l2, l3, l4], .ref x :: st, h) = zz_Y 132 (12, [l0, l1, l2, l3, some (.ref x)], st, h)) ∧ (∀ l0 l1 l2 l3 x st h, zz_Y 132 (12, [l0, l1, l2, l3, some (.ref x)], st, h) = zz_Y 132 (14, [l0, l1, l2, l3, some (.ref x)], .ref x :: st, h)) ∧ (∀ l0 l2 l3 l4 x st h, zz_Y 132 (14, [l0, some (.int x), l2, l3, l4], st, h) = zz_Y 132 (15, [l0, some (.int x), l2, l3, l4], .int x :: st, h)) ∧ (∀ ls a0 a1 h, zz_Y 132 (15, ls, [a1, a0], h) = mo_k 132 18 ls [] (zz_run 44 [a0, a1] h)) ∧ (∀ ls a st h, zz_Y 132 (18, ls, .int a :: st, h) = if a = nI 0 then zz_Y 132 (30, ls, st, h) else zz_Y 132 (21, ls, st, h)) ∧ (∀ l0 l1 l2 l3 x st h, zz_Y 132 (21, [l0, l1, l2, l3, some (.ref x)], st, h) = zz_Y 132 (23, [l0, l1, l2, l3, some (.ref x)], .ref x :: st, h)) ∧ (∀ l0 l1 l3 l4 x st h, zz_Y 132 (23, [l0, l1, some (.int x), l3, l4], st, h) = zz_Y 132 (24, [l0, l1, some (.int x), l3, l4], .int x :: st, h)) ∧ (∀ ls a0 a1 h, zz_Y 132 (24, ls, [a1, a0], h) = mo_k 132 27 ls [] (zz_run 44 [a0, a1] h)) ∧ (∀ ls a st h, zz_Y 132 (27, ls, .int a :: st, h) = if a = nI 0 then zz_Y 132 (30, ls, st, h) else zz_Y 132 (32, ls, st, h)) ∧ (∀ ls st h, zz_Y 132 (30, ls, st, h) = zz_Y 132 (31, ls, .int (-1) :: st, h)) ∧ (∀ ls v h, zz_Y 132 (31, ls, [.int v], h) = some (some (.int v), h)) ∧ (∀ l0 l1 l2 l4 x st h, zz_Y 132 (32, [l0, l1, l2, some (.int x), l4], st, h) = zz_Y 132 (33, [l0, l1, l2, some (.int x), l4], .int x :: st, h)) ∧ (∀ ls a st h, zz_Y 132 (33, ls, .int a :: st, h) = if a < nI 0 then zz_Y 132 (42, ls, st, h) else zz_Y 132 (36, ls, st, h)) ∧ (∀ l0 l1 l2 l4 x st h, zz_Y 132 (36, [l0, l1, l2, some (.int x), l4], st, h) = zz_Y 132 (37, [l0, l1, l2, some (.int x), l4], .int x :: st, h)) ∧ (∀ ls st h, zz_Y 132 (37, ls, st, h) = zz_Y 132 (39, ls, .int (nI 6) :: st, h)) ∧ (∀ ls a b st h, zz_Y 132 (39, ls, .int b :: .int a :: st, h) = if a < b then zz_Y 132 (44, ls, st, h) else zz_Y 132 (42, ls, st, h)) ∧ (∀ ls st h, zz_Y 132 (42, ls, st, h) = zz_Y 132 (43, ls, .int (-1) :: st, h)) ∧ (∀ ls v h, zz_Y 132 (43, ls, [.int v], h) = some (some (.int v), h)) ∧ (∀ l0 l1 l2 l4 x st h, zz_Y 132 (44, [l0, l1, l2, some (.int x), l4], st, h) = zz_Y 132 (45, [l0, l1, l2, some (.int x), l4], .int x :: st, h)) ∧ (∀ ls st h, zz_Y 132 (45, ls, st, h) = zz_Y 132 (46, ls, .int (nI 3) :: st, h)) ∧ (∀ ls a b st h, zz_Y 132 (46, ls, .int b :: .int a :: st, h) = if a < b then zz_Y 132 (49, ls, st, h) else zz_Y 132 (66, ls, st, h)) ∧ (∀ l1 l2 l3 l4 x st h, zz_Y 132 (49, [some (.ref x), l1, l2, l3, l4], st, h) = zz_Y 132 (50, [some (.ref x), l1, l2, l3, l4], .ref x :: st, h)) ∧ (∀ ls a st h, zz_Y 132 (50, ls, .ref a :: st, h) = mo_gf (hp_g h a) 10 0 132 53 ls st h) ∧ (∀ ls a st h, zz_Y 132 (53, ls, .ref a :: st, h) = mo_gf (hp_g h a) 1 1 132 56 ls st h) ∧ (∀ ls a st h, zz_Y 132 (56, ls, .ref a :: st, h) = mo_gf (hp_g h a) 7 3 132 59 ls st h) ∧ (∀ l0 l2 l3 l4 x st h, zz_Y 132 (59, [l0, some (.int x), l2, l3, l4], st, h) = zz_Y 132 (60, [l0, some (.int x), l2, l3, l4], .int x :: st, h)) ∧ (∀ l0 l1 l3 l4 x st h, zz_Y 132 (60, [l0, l1, some (.int x), l3, l4], st, h) = zz_Y 132 (61, [l0, l1, some (.int x), l3, l4], .int x :: st, h)) ∧ (∀ l0 l1 l2 l4 x st h, zz_Y 132 (61, [l0, l1, l2, some (.int x), l4], st, h) = zz_Y 132 (62, [l0, l1, l2, some (.int x), l4], .int x :: st, h)) ∧ (∀ ls a0 a1 a2 a3 h, zz_Y 132 (62, ls, [a3, a2, a1, a0], h) = mo_k 132 65 ls [] (zz_run 133 [a0, a1, a2, a3] h)) ∧ (∀ ls v h, zz_Y 132 (65, ls, [.int v], h) = some (some (.int v), h)) ∧ (∀ l1 l2 l3 l4 x st h, zz_Y 132 (66, [some (.ref x), l1, l2, l3, l4], st, h) = zz_Y 132 (67, [some (.ref x), l1, l2, l3, l4], .ref x :: st, h)) ∧ (∀ ls a st h, zz_Y 132 (67, ls, .ref a :: st, h) = mo_gf (hp_g h a) 10 0 132 70 ls st h) ∧ (∀ ls a st h, zz_Y 132 (70, ls, .ref a :: st, h) = mo_gf (hp_g h a) 1 1 132 73 ls st h) ∧ (∀ ls a st h, zz_Y 132 (73, ls, .ref a :: st, h) = mo_gf (hp_g h a) 7 3 132 76 ls st h) ∧ (∀ l0 l2 l3 l4 x st h, zz_Y 132 (76, [l0, some (.int x), l2, l3, l4], st, h) = zz_Y 132 (77, [l0, some (.int x), l2, l3, l4], .int x :: st, h)) ∧ (∀ l0 l1 l3 l4 x st h, zz_Y 132 (77, [l0, l1, some (.int x), l3, l4], st, h) = zz_Y 132 (78, [l0, l1, some (.int x), l3, l4], .int x :: st, h)) ∧ (∀ l0 l1 l2 l4 x st h, zz_Y 132 (78, [l0, l1, l2, some (.int x), l4], st, h) = zz_Y 132 (79, [l0, l1, l2, some (.int x), l4], .int x :: st, h)) ∧ (∀ ls st h, zz_Y 132 (79, ls, st, h) = zz_Y 132 (80, ls, .int (nI 3) :: st, h)) ∧ (∀ ls a b st h, zz_Y 132 (80, ls, .int b :: .int a :: st, h) = zz_Y 132 (81, ls, .int (a - b) :: st, h)) ∧ (∀ ls a0 a1 a2 a3 h, zz_Y 132 (81, ls, [a3, a2, a1, a0], h) = mo_k 132 84 ls [] (zz_run 134 [a0, a1, a2, a3] h)) ∧ (∀ ls v h, zz_Y 132 (84, ls, [.int v], h) = some (some (.int v), h)) :=
  ⟨fun _ _ _ _ _ _ _ => xl_aln d132_0 rfl,
   fun _ _ _ _ => xl_gf d132_1 xco132 xf_10_12,
   fun _ _ _ _ => xl_gf d132_4 xco132 xf_10_79,
   fun _ _ _ _ => xl_gf d132_7 xco132 xf_10_163,
   fun _ _ _ _ _ _ _ _ hc => xl_as d132_10 xml132 (by decide) (zz_nl_s1 hc),
   fun _ _ _ _ _ _ _ => xl_al d132_12 rfl,
   fun _ _ _ _ _ _ _ => xl_iln d132_14 rfl,
   fun ls a0 a1 h => xl_cv (As := [a0, a1]) (st := []) d132_15 xco132 xm_10_167 (congrArg Nat.succ xnp44) (by decide +kernel) rfl,
   fun _ _ _ _ => xl_ifeq d132_18 rfl,
   fun _ _ _ _ _ _ _ => xl_al d132_21 rfl,
   fun _ _ _ _ _ _ _ => xl_iln d132_23 rfl,
   fun ls a0 a1 h => xl_cv (As := [a0, a1]) (st := []) d132_24 xco132 xm_10_167 (congrArg Nat.succ xnp44) (by decide +kernel) rfl,
   fun _ _ _ _ => xl_ifne d132_27 rfl,
   fun _ _ _ => xl_ic d132_30 (by decide +kernel),
   fun _ _ _ => xl_iri d132_31 xrt132,
   fun _ _ _ _ _ _ _ => xl_iln d132_32 rfl,
   fun _ _ _ _ => xl_iflt d132_33 rfl,
   fun _ _ _ _ _ _ _ => xl_iln d132_36 rfl,
   fun _ _ _ => xl_bi d132_37 (by decide +kernel),
   fun _ _ _ _ _ => xl_iclt d132_39 rfl,
   fun _ _ _ => xl_ic d132_42 (by decide +kernel),
   fun _ _ _ => xl_iri d132_43 xrt132,
   fun _ _ _ _ _ _ _ => xl_iln d132_44 rfl,
   fun _ _ _ => xl_ic d132_45 (by decide +kernel),
   fun _ _ _ _ _ => xl_icge d132_46 rfl,
   fun _ _ _ _ _ _ _ => xl_aln d132_49 rfl,
   fun _ _ _ _ => xl_gf d132_50 xco132 xf_10_12,
   fun _ _ _ _ => xl_gf d132_53 xco132 xf_10_79,
   fun _ _ _ _ => xl_gf d132_56 xco132 xf_10_102,
   fun _ _ _ _ _ _ _ => xl_iln d132_59 rfl,
   fun _ _ _ _ _ _ _ => xl_iln d132_60 rfl,
   fun _ _ _ _ _ _ _ => xl_iln d132_61 rfl,
   fun ls a0 a1 a2 a3 h => xl_cv (As := [a0, a1, a2, a3]) (st := []) d132_62 xco132 xm_10_318 (congrArg Nat.succ xnp133) (by decide +kernel) rfl,
   fun _ _ _ => xl_iri d132_65 xrt132,
   fun _ _ _ _ _ _ _ => xl_aln d132_66 rfl,
   fun _ _ _ _ => xl_gf d132_67 xco132 xf_10_12,
   fun _ _ _ _ => xl_gf d132_70 xco132 xf_10_79,
   fun _ _ _ _ => xl_gf d132_73 xco132 xf_10_102,
   fun _ _ _ _ _ _ _ => xl_iln d132_76 rfl,
   fun _ _ _ _ _ _ _ => xl_iln d132_77 rfl,
   fun _ _ _ _ _ _ _ => xl_iln d132_78 rfl,
   fun _ _ _ => xl_ic d132_79 (by decide +kernel),
   fun _ _ _ _ _ => xl_isub d132_80,
   fun ls a0 a1 a2 a3 h => xl_cv (As := [a0, a1, a2, a3]) (st := []) d132_81 xco132 xm_10_321 (congrArg Nat.succ xnp134) (by decide +kernel) rfl,
   fun _ _ _ => xl_iri d132_84 xrt132⟩
