/-! 191 FacetSieveModel.has(II)Z -/
theorem d191_0 : decode (zz_c 191) 0 = .ok (.iload_n 1, 1) := by decide +kernel
theorem d191_1 : decode (zz_c 191) 1 = .ok (.invokestatic 61, 3) := by decide +kernel
theorem d191_4 : decode (zz_c 191) 4 = .ok (.ifCond .eq 11, 3) := by decide +kernel
theorem d191_7 : decode (zz_c 191) 7 = .ok (.aload_n 0, 1) := by decide +kernel
theorem d191_8 : decode (zz_c 191) 8 = .ok (.iload_n 2, 1) := by decide +kernel
theorem d191_9 : decode (zz_c 191) 9 = .ok (.invokevirtual 164, 3) := by decide +kernel
theorem d191_12 : decode (zz_c 191) 12 = .ok (.ifCond .ne 5, 3) := by decide +kernel
theorem d191_15 : decode (zz_c 191) 15 = .ok (.iconst 0, 1) := by decide +kernel
theorem d191_16 : decode (zz_c 191) 16 = .ok (.ireturn, 1) := by decide +kernel
theorem d191_17 : decode (zz_c 191) 17 = .ok (.aload_n 0, 1) := by decide +kernel
theorem d191_18 : decode (zz_c 191) 18 = .ok (.aload_n 0, 1) := by decide +kernel
theorem d191_19 : decode (zz_c 191) 19 = .ok (.getfield 24, 3) := by decide +kernel
theorem d191_22 : decode (zz_c 191) 22 = .ok (.iload_n 2, 1) := by decide +kernel
theorem d191_23 : decode (zz_c 191) 23 = .ok (.invokevirtual 96, 3) := by decide +kernel
theorem d191_26 : decode (zz_c 191) 26 = .ok (.aload_n 0, 1) := by decide +kernel
theorem d191_27 : decode (zz_c 191) 27 = .ok (.getfield 24, 3) := by decide +kernel
theorem d191_30 : decode (zz_c 191) 30 = .ok (.iload_n 1, 1) := by decide +kernel
theorem d191_31 : decode (zz_c 191) 31 = .ok (.invokestatic 73, 3) := by decide +kernel
theorem d191_34 : decode (zz_c 191) 34 = .ok (.ireturn, 1) := by decide +kernel
theorem x191 : (∀ l0 l2 x st h, zz_Y 191 (0, [l0, some (.int x), l2], st, h) = zz_Y 191 (1, [l0, some (.int x), l2], .int x :: st, h)) ∧ (∀ ls a0 h, zz_Y 191 (1, ls, [a0], h) = mo_k 191 4 ls [] (zz_run 188 [a0] h)) ∧ (∀ ls a st h, zz_Y 191 (4, ls, .int a :: st, h) = if a = nI 0 then zz_Y 191 (15, ls, st, h) else zz_Y 191 (7, ls, st, h)) ∧ (∀ l1 l2 x st h, zz_Y 191 (7, [some (.ref x), l1, l2], st, h) = zz_Y 191 (8, [some (.ref x), l1, l2], .ref x :: st, h)) ∧ (∀ l0 l1 x st h, zz_Y 191 (8, [l0, l1, some (.int x)], st, h) = zz_Y 191 (9, [l0, l1, some (.int x)], .int x :: st, h)) ∧ (∀ ls a0 a1 h, zz_Y 191 (9, ls, [a1, a0], h) = mo_k 191 12 ls [] (zz_run 183 [a0, a1] h)) ∧ (∀ ls a st h, zz_Y 191 (12, ls, .int a :: st, h) = if a = nI 0 then zz_Y 191 (15, ls, st, h) else zz_Y 191 (17, ls, st, h)) ∧ (∀ ls st h, zz_Y 191 (15, ls, st, h) = zz_Y 191 (16, ls, .int (nI 0) :: st, h)) ∧ (∀ ls v h, v = nI 0 ∨ v = nI 1 → zz_Y 191 (16, ls, [.int v], h) = some (some (.int v), h)) ∧ (∀ l1 l2 x st h, zz_Y 191 (17, [some (.ref x), l1, l2], st, h) = zz_Y 191 (18, [some (.ref x), l1, l2], .ref x :: st, h)) ∧ (∀ l1 l2 x st h, zz_Y 191 (18, [some (.ref x), l1, l2], st, h) = zz_Y 191 (19, [some (.ref x), l1, l2], .ref x :: st, h)) ∧ (∀ ls a st h, zz_Y 191 (19, ls, .ref a :: st, h) = mo_gf (hp_g h a) 11 7 191 22 ls st h) ∧ (∀ l0 l1 x st h, zz_Y 191 (22, [l0, l1, some (.int x)], st, h) = zz_Y 191 (23, [l0, l1, some (.int x)], .int x :: st, h)) ∧ (∀ ls a0 a1 a2 h, zz_Y 191 (23, ls, [a2, a1, a0], h) = mo_k 191 26 ls [] (zz_run 156 [a0, a1, a2] h)) ∧ (∀ l1 l2 x st h, zz_Y 191 (26, [some (.ref x), l1, l2], st, h) = zz_Y 191 (27, [some (.ref x), l1, l2], .ref x :: st, h)) ∧ (∀ ls a st h, zz_Y 191 (27, ls, .ref a :: st, h) = mo_gf (hp_g h a) 11 7 191 30 ls st h) ∧ (∀ l0 l2 x st h, zz_Y 191 (30, [l0, some (.int x), l2], st, h) = zz_Y 191 (31, [l0, some (.int x), l2], .int x :: st, h)) ∧ (∀ ls a0 a1 h, zz_Y 191 (31, ls, [a1, a0], h) = mo_k 191 34 ls [] (zz_run 190 [a0, a1] h)) ∧ (∀ ls v h, v = nI 0 ∨ v = nI 1 → zz_Y 191 (34, ls, [.int v], h) = some (some (.int v), h)) :=
  ⟨fun _ _ _ _ _ => xl_iln d191_0 rfl,
   fun ls a0 h => xl_cs (As := [a0]) (st := []) d191_1 xco191 xm_11_61 xnp188 (by decide +kernel) rfl,
   fun _ _ _ _ => xl_ifeq d191_4 rfl,
   fun _ _ _ _ _ => xl_aln d191_7 rfl,
   fun _ _ _ _ _ => xl_iln d191_8 rfl,
   fun ls a0 a1 h => xl_cv (As := [a0, a1]) (st := []) d191_9 xco191 xm_11_164 (congrArg Nat.succ xnp183) (by decide +kernel) rfl,
   fun _ _ _ _ => xl_ifne d191_12 rfl,
   fun _ _ _ => xl_ic d191_15 (by decide +kernel),
   fun _ _ _ hc => xl_irz d191_16 xrt191 hc,
   fun _ _ _ _ _ => xl_aln d191_17 rfl,
   fun _ _ _ _ _ => xl_aln d191_18 rfl,
   fun _ _ _ _ => xl_gf d191_19 xco191 xf_11_24,
   fun _ _ _ _ _ => xl_iln d191_22 rfl,
   fun ls a0 a1 a2 h => xl_cv (As := [a0, a1, a2]) (st := []) d191_23 xco191 xm_11_96 (congrArg Nat.succ xnp156) (by decide +kernel) rfl,
   fun _ _ _ _ _ => xl_aln d191_26 rfl,
   fun _ _ _ _ => xl_gf d191_27 xco191 xf_11_24,
   fun _ _ _ _ _ => xl_iln d191_30 rfl,
   fun ls a0 a1 h => xl_cs (As := [a0, a1]) (st := []) d191_31 xco191 xm_11_73 xnp190 (by decide +kernel) rfl,
   fun _ _ _ hc => xl_irz d191_34 xrt191 hc⟩
/-! 192 FacetSieveModel.left(IZ)I -/
theorem d192_0 : decode (zz_c 192) 0 = .ok (.aload_n 0, 1) := by decide +kernel
theorem d192_1 : decode (zz_c 192) 1 = .ok (.iconst (-1), 1) := by decide +kernel
theorem d192_2 : decode (zz_c 192) 2 = .ok (.invokevirtual 106, 3) := by decide +kernel
theorem d192_5 : decode (zz_c 192) 5 = .ok (.iload_n 2, 1) := by decide +kernel
theorem d192_6 : decode (zz_c 192) 6 = .ok (.ifCond .ne 13, 3) := by decide +kernel
theorem d192_9 : decode (zz_c 192) 9 = .ok (.aload_n 0, 1) := by decide +kernel
theorem d192_10 : decode (zz_c 192) 10 = .ok (.aload_n 0, 1) := by decide +kernel
theorem d192_11 : decode (zz_c 192) 11 = .ok (.getfield 30, 3) := by decide +kernel
theorem d192_14 : decode (zz_c 192) 14 = .ok (.iload_n 1, 1) := by decide +kernel
theorem d192_15 : decode (zz_c 192) 15 = .ok (.invokevirtual 173, 3) := by decide +kernel
theorem d192_18 : decode (zz_c 192) 18 = .ok (.ireturn, 1) := by decide +kernel
theorem d192_19 : decode (zz_c 192) 19 = .ok (.iconst 0, 1) := by decide +kernel
theorem d192_20 : decode (zz_c 192) 20 = .ok (.istore_n 3, 1) := by decide +kernel
theorem d192_21 : decode (zz_c 192) 21 = .ok (.iload_n 3, 1) := by decide +kernel
theorem d192_22 : decode (zz_c 192) 22 = .ok (.sipush 256, 3) := by decide +kernel
theorem d192_25 : decode (zz_c 192) 25 = .ok (.if_icmp .ge 113, 3) := by decide +kernel
theorem d192_28 : decode (zz_c 192) 28 = .ok (.aload_n 0, 1) := by decide +kernel
theorem d192_29 : decode (zz_c 192) 29 = .ok (.getfield 30, 3) := by decide +kernel
theorem d192_32 : decode (zz_c 192) 32 = .ok (.iload_n 3, 1) := by decide +kernel
theorem d192_33 : decode (zz_c 192) 33 = .ok (.invokestatic 73, 3) := by decide +kernel
theorem d192_36 : decode (zz_c 192) 36 = .ok (.ifCond .ne 6, 3) := by decide +kernel
theorem d192_39 : decode (zz_c 192) 39 = .ok (.goto 93, 3) := by decide +kernel
theorem d192_42 : decode (zz_c 192) 42 = .ok (.iconst 0, 1) := by decide +kernel
theorem d192_43 : decode (zz_c 192) 43 = .ok (.istore 4, 2) := by decide +kernel
theorem d192_45 : decode (zz_c 192) 45 = .ok (.iconst 0, 1) := by decide +kernel
theorem d192_46 : decode (zz_c 192) 46 = .ok (.istore 5, 2) := by decide +kernel
theorem d192_48 : decode (zz_c 192) 48 = .ok (.iload 5, 2) := by decide +kernel
theorem d192_50 : decode (zz_c 192) 50 = .ok (.sipush 256, 3) := by decide +kernel
theorem d192_53 : decode (zz_c 192) 53 = .ok (.if_icmp .ge 71, 3) := by decide +kernel
theorem d192_56 : decode (zz_c 192) 56 = .ok (.aload_n 0, 1) := by decide +kernel
theorem d192_57 : decode (zz_c 192) 57 = .ok (.getfield 7, 3) := by decide +kernel
theorem d192_60 : decode (zz_c 192) 60 = .ok (.sipush 462, 3) := by decide +kernel
theorem d192_63 : decode (zz_c 192) 63 = .ok (.iload 5, 2) := by decide +kernel
theorem d192_65 : decode (zz_c 192) 65 = .ok (.iadd, 1) := by decide +kernel
theorem d192_66 : decode (zz_c 192) 66 = .ok (.iaload, 1) := by decide +kernel
theorem d192_67 : decode (zz_c 192) 67 = .ok (.aload_n 0, 1) := by decide +kernel
theorem d192_68 : decode (zz_c 192) 68 = .ok (.getfield 7, 3) := by decide +kernel
theorem d192_71 : decode (zz_c 192) 71 = .ok (.sipush 462, 3) := by decide +kernel
theorem d192_74 : decode (zz_c 192) 74 = .ok (.iload_n 3, 1) := by decide +kernel
theorem d192_75 : decode (zz_c 192) 75 = .ok (.iadd, 1) := by decide +kernel
theorem d192_76 : decode (zz_c 192) 76 = .ok (.iaload, 1) := by decide +kernel
theorem d192_77 : decode (zz_c 192) 77 = .ok (.isub, 1) := by decide +kernel
theorem d192_78 : decode (zz_c 192) 78 = .ok (.istore 6, 2) := by decide +kernel
theorem d192_80 : decode (zz_c 192) 80 = .ok (.iload 4, 2) := by decide +kernel
theorem d192_82 : decode (zz_c 192) 82 = .ok (.aload_n 0, 1) := by decide +kernel
theorem d192_83 : decode (zz_c 192) 83 = .ok (.getfield 30, 3) := by decide +kernel
theorem d192_86 : decode (zz_c 192) 86 = .ok (.iload 5, 2) := by decide +kernel
theorem d192_88 : decode (zz_c 192) 88 = .ok (.invokestatic 73, 3) := by decide +kernel
theorem d192_91 : decode (zz_c 192) 91 = .ok (.ifCond .eq 23, 3) := by decide +kernel
theorem d192_94 : decode (zz_c 192) 94 = .ok (.iload 6, 2) := by decide +kernel
theorem d192_96 : decode (zz_c 192) 96 = .ok (.ifCond .gt 14, 3) := by decide +kernel
theorem d192_99 : decode (zz_c 192) 99 = .ok (.iload 6, 2) := by decide +kernel
theorem d192_101 : decode (zz_c 192) 101 = .ok (.ifCond .ne 13, 3) := by decide +kernel
theorem d192_104 : decode (zz_c 192) 104 = .ok (.iload 5, 2) := by decide +kernel
theorem d192_106 : decode (zz_c 192) 106 = .ok (.iload_n 3, 1) := by decide +kernel
theorem d192_107 : decode (zz_c 192) 107 = .ok (.if_icmp .ge 7, 3) := by decide +kernel
theorem d192_110 : decode (zz_c 192) 110 = .ok (.iconst 1, 1) := by decide +kernel
theorem d192_111 : decode (zz_c 192) 111 = .ok (.goto 4, 3) := by decide +kernel
theorem d192_114 : decode (zz_c 192) 114 = .ok (.iconst 0, 1) := by decide +kernel
theorem d192_115 : decode (zz_c 192) 115 = .ok (.iadd, 1) := by decide +kernel
theorem d192_116 : decode (zz_c 192) 116 = .ok (.istore 4, 2) := by decide +kernel
theorem d192_118 : decode (zz_c 192) 118 = .ok (.iinc 5 1, 3) := by decide +kernel
theorem d192_121 : decode (zz_c 192) 121 = .ok (.goto (-73), 3) := by decide +kernel
theorem d192_124 : decode (zz_c 192) 124 = .ok (.iload 4, 2) := by decide +kernel
theorem d192_126 : decode (zz_c 192) 126 = .ok (.iload_n 1, 1) := by decide +kernel
theorem d192_127 : decode (zz_c 192) 127 = .ok (.if_icmp .ne 5, 3) := by decide +kernel
theorem d192_130 : decode (zz_c 192) 130 = .ok (.iload_n 3, 1) := by decide +kernel
theorem d192_131 : decode (zz_c 192) 131 = .ok (.ireturn, 1) := by decide +kernel
theorem d192_132 : decode (zz_c 192) 132 = .ok (.iinc 3 1, 3) := by decide +kernel
theorem d192_135 : decode (zz_c 192) 135 = .ok (.goto (-114), 3) := by decide +kernel
theorem d192_138 : decode (zz_c 192) 138 = .ok (.iconst (-1), 1) := by decide +kernel
theorem d192_139 : decode (zz_c 192) 139 = .ok (.ireturn, 1) := by decide +kernel
theorem x192_p0 : (∀ l1 l2 l3 l4 l5 l6 x st h, zz_Y 192 (0, [some (.ref x), l1, l2, l3, l4, l5, l6], st, h) = zz_Y 192 (1, [some (.ref x), l1, l2, l3, l4, l5, l6], .ref x :: st, h)) ∧ (∀ ls st h, zz_Y 192 (1, ls, st, h) = zz_Y 192 (2, ls, .int (-1) :: st, h)) ∧ (∀ ls a0 a1 h, zz_Y 192 (2, ls, [a1, a0], h) = mo_k 192 5 ls [] (zz_run 167 [a0, a1] h)) ∧ (∀ l0 l1 l3 l4 l5 l6 x st h, zz_Y 192 (5, [l0, l1, some (.int x), l3, l4, l5, l6], st, h) = zz_Y 192 (6, [l0, l1, some (.int x), l3, l4, l5, l6], .int x :: st, h)) ∧ (∀ ls a st h, zz_Y 192 (6, ls, .int a :: st, h) = if a = nI 0 then zz_Y 192 (9, ls, st, h) else zz_Y 192 (19, ls, st, h)) ∧ (∀ l1 l2 l3 l4 l5 l6 x st h, zz_Y 192 (9, [some (.ref x), l1, l2, l3, l4, l5, l6], st, h) = zz_Y 192 (10, [some (.ref x), l1, l2, l3, l4, l5, l6], .ref x :: st, h)) ∧ (∀ l1 l2 l3 l4 l5 l6 x st h, zz_Y 192 (10, [some (.ref x), l1, l2, l3, l4, l5, l6], st, h) = zz_Y 192 (11, [some (.ref x), l1, l2, l3, l4, l5, l6], .ref x :: st, h)) ∧ (∀ ls a st h, zz_Y 192 (11, ls, .ref a :: st, h) = mo_gf (hp_g h a) 11 9 192 14 ls st h) ∧ (∀ l0 l2 l3 l4 l5 l6 x st h, zz_Y 192 (14, [l0, some (.int x), l2, l3, l4, l5, l6], st, h) = zz_Y 192 (15, [l0, some (.int x), l2, l3, l4, l5, l6], .int x :: st, h)) ∧ (∀ ls a0 a1 a2 h, zz_Y 192 (15, ls, [a2, a1, a0], h) = mo_k 192 18 ls [] (zz_run 193 [a0, a1, a2] h)) ∧ (∀ ls v h, zz_Y 192 (18, ls, [.int v], h) = some (some (.int v), h)) ∧ (∀ ls st h, zz_Y 192 (19, ls, st, h) = zz_Y 192 (20, ls, .int (nI 0) :: st, h)) ∧ (∀ l0 l1 l2 l3 l4 l5 l6 x st h, zz_nl l2 = true → zz_Y 192 (20, [l0, l1, l2, l3, l4, l5, l6], .int x :: st, h) = zz_Y 192 (21, [l0, l1, l2, some (.int x), l4, l5, l6], st, h)) ∧ (∀ ls st h, zz_Y 192 (22, ls, st, h) = zz_Y 192 (25, ls, .int (nI 256) :: st, h)) ∧ (∀ ls a b st h, zz_Y 192 (25, ls, .int b :: .int a :: st, h) = if a < b then zz_Y 192 (28, ls, st, h) else zz_Y 192 (138, ls, st, h)) ∧ (∀ l1 l2 l3 l4 l5 l6 x st h, zz_Y 192 (28, [some (.ref x), l1, l2, l3, l4, l5, l6], st, h) = zz_Y 192 (29, [some (.ref x), l1, l2, l3, l4, l5, l6], .ref x :: st, h)) ∧ (∀ ls a st h, zz_Y 192 (29, ls, .ref a :: st, h) = mo_gf (hp_g h a) 11 9 192 32 ls st h) ∧ (∀ l0 l1 l2 l4 l5 l6 x st h, zz_Y 192 (32, [l0, l1, l2, some (.int x), l4, l5, l6], st, h) = zz_Y 192 (33, [l0, l1, l2, some (.int x), l4, l5, l6], .int x :: st, h)) ∧ (∀ ls a0 a1 h, zz_Y 192 (33, ls, [a1, a0], h) = mo_k 192 36 ls [] (zz_run 190 [a0, a1] h)) ∧ (∀ ls a st h, zz_Y 192 (36, ls, .int a :: st, h) = if a = nI 0 then zz_Y 192 (39, ls, st, h) else zz_Y 192 (42, ls, st, h)) ∧ (∀ ls st h, zz_Y 192 (39, ls, st, h) = zz_Y 192 (132, ls, st, h)) ∧ (∀ ls st h, zz_Y 192 (42, ls, st, h) = zz_Y 192 (43, ls, .int (nI 0) :: st, h)) ∧ (∀ l0 l1 l2 l3 l4 l5 l6 x st h, zz_nl l3 = true → zz_Y 192 (43, [l0, l1, l2, l3, l4, l5, l6], .int x :: st, h) = zz_Y 192 (45, [l0, l1, l2, l3, some (.int x), l5, l6], st, h)) ∧ (∀ ls st h, zz_Y 192 (45, ls, st, h) = zz_Y 192 (46, ls, .int (nI 0) :: st, h)) ∧ (∀ l0 l1 l2 l3 l4 l5 l6 x st h, zz_nl l4 = true → zz_Y 192 (46, [l0, l1, l2, l3, l4, l5, l6], .int x :: st, h) = zz_Y 192 (48, [l0, l1, l2, l3, l4, some (.int x), l6], st, h)) ∧ (∀ ls st h, zz_Y 192 (50, ls, st, h) = zz_Y 192 (53, ls, .int (nI 256) :: st, h)) ∧ (∀ ls a b st h, zz_Y 192 (53, ls, .int b :: .int a :: st, h) = if a < b then zz_Y 192 (56, ls, st, h) else zz_Y 192 (124, ls, st, h)) ∧ (∀ l1 l2 l3 l4 l5 l6 x st h, zz_Y 192 (56, [some (.ref x), l1, l2, l3, l4, l5, l6], st, h) = zz_Y 192 (57, [some (.ref x), l1, l2, l3, l4, l5, l6], .ref x :: st, h)) ∧ (∀ ls a st h, zz_Y 192 (57, ls, .ref a :: st, h) = mo_gf (hp_g h a) 11 0 192 60 ls st h) ∧ (∀ ls st h, zz_Y 192 (60, ls, st, h) = zz_Y 192 (63, ls, .int (nI 462) :: st, h)) ∧ (∀ l0 l1 l2 l3 l4 l6 x st h, zz_Y 192 (63, [l0, l1, l2, l3, l4, some (.int x), l6], st, h) = zz_Y 192 (65, [l0, l1, l2, l3, l4, some (.int x), l6], .int x :: st, h)) ∧ (∀ ls a b st h, zz_Y 192 (65, ls, .int b :: .int a :: st, h) = zz_Y 192 (66, ls, .int (a + b) :: st, h)) ∧ (∀ ls a i st h, zz_Y 192 (66, ls, .int i :: .ref a :: st, h) = mo_ia (hp_g h a) i a 192 67 ls st h) ∧ (∀ l1 l2 l3 l4 l5 l6 x st h, zz_Y 192 (67, [some (.ref x), l1, l2, l3, l4, l5, l6], st, h) = zz_Y 192 (68, [some (.ref x), l1, l2, l3, l4, l5, l6], .ref x :: st, h)) ∧ (∀ ls a st h, zz_Y 192 (68, ls, .ref a :: st, h) = mo_gf (hp_g h a) 11 0 192 71 ls st h) ∧ (∀ ls st h, zz_Y 192 (71, ls, st, h) = zz_Y 192 (74, ls, .int (nI 462) :: st, h)) ∧ (∀ l0 l1 l2 l4 l5 l6 x st h, zz_Y 192 (74, [l0, l1, l2, some (.int x), l4, l5, l6], st, h) = zz_Y 192 (75, [l0, l1, l2, some (.int x), l4, l5, l6], .int x :: st, h)) ∧ (∀ ls a b st h, zz_Y 192 (75, ls, .int b :: .int a :: st, h) = zz_Y 192 (76, ls, .int (a + b) :: st, h)) ∧ (∀ ls a i st h, zz_Y 192 (76, ls, .int i :: .ref a :: st, h) = mo_ia (hp_g h a) i a 192 77 ls st h) ∧ (∀ ls a b st h, zz_Y 192 (77, ls, .int b :: .int a :: st, h) = zz_Y 192 (78, ls, .int (a - b) :: st, h)) ∧ (∀ l0 l1 l2 l3 l4 l5 l6 x st h, zz_nl l5 = true → zz_Y 192 (78, [l0, l1, l2, l3, l4, l5, l6], .int x :: st, h) = zz_Y 192 (80, [l0, l1, l2, l3, l4, l5, some (.int x)], st, h)) ∧ (∀ l0 l1 l2 l3 l5 l6 x st h, zz_Y 192 (80, [l0, l1, l2, l3, some (.int x), l5, l6], st, h) = zz_Y 192 (82, [l0, l1, l2, l3, some (.int x), l5, l6], .int x :: st, h)) ∧ (∀ l1 l2 l3 l4 l5 l6 x st h, zz_Y 192 (82, [some (.ref x), l1, l2, l3, l4, l5, l6], st, h) = zz_Y 192 (83, [some (.ref x), l1, l2, l3, l4, l5, l6], .ref x :: st, h)) ∧ (∀ ls a st h, zz_Y 192 (83, ls, .ref a :: st, h) = mo_gf (hp_g h a) 11 9 192 86 ls st h) ∧ (∀ l0 l1 l2 l3 l4 l6 x st h, zz_Y 192 (86, [l0, l1, l2, l3, l4, some (.int x), l6], st, h) = zz_Y 192 (88, [l0, l1, l2, l3, l4, some (.int x), l6], .int x :: st, h)) ∧ (∀ ls a0 a1 s0 h, zz_Y 192 (88, ls, [a1, a0, s0], h) = mo_k 192 91 ls [s0] (zz_run 190 [a0, a1] h)) ∧ (∀ ls a st h, zz_Y 192 (91, ls, .int a :: st, h) = if a = nI 0 then zz_Y 192 (114, ls, st, h) else zz_Y 192 (94, ls, st, h)) ∧ (∀ l0 l1 l2 l3 l4 l5 x st h, zz_Y 192 (94, [l0, l1, l2, l3, l4, l5, some (.int x)], st, h) = zz_Y 192 (96, [l0, l1, l2, l3, l4, l5, some (.int x)], .int x :: st, h)) ∧ (∀ ls a st h, zz_Y 192 (96, ls, .int a :: st, h) = if nI 0 < a then zz_Y 192 (110, ls, st, h) else zz_Y 192 (99, ls, st, h)) ∧ (∀ l0 l1 l2 l3 l4 l5 x st h, zz_Y 192 (99, [l0, l1, l2, l3, l4, l5, some (.int x)], st, h) = zz_Y 192 (101, [l0, l1, l2, l3, l4, l5, some (.int x)], .int x :: st, h)) ∧ (∀ ls a st h, zz_Y 192 (101, ls, .int a :: st, h) = if a = nI 0 then zz_Y 192 (104, ls, st, h) else zz_Y 192 (114, ls, st, h)) ∧ (∀ l0 l1 l2 l3 l4 l6 x st h, zz_Y 192 (104, [l0, l1, l2, l3, l4, some (.int x), l6], st, h) = zz_Y 192 (106, [l0, l1, l2, l3, l4, some (.int x), l6], .int x :: st, h)) ∧ (∀ l0 l1 l2 l4 l5 l6 x st h, zz_Y 192 (106, [l0, l1, l2, some (.int x), l4, l5, l6], st, h) = zz_Y 192 (107, [l0, l1, l2, some (.int x), l4, l5, l6], .int x :: st, h)) ∧ (∀ ls a b st h, zz_Y 192 (107, ls, .int b :: .int a :: st, h) = if a < b then zz_Y 192 (110, ls, st, h) else zz_Y 192 (114, ls, st, h)) ∧ (∀ ls st h, zz_Y 192 (110, ls, st, h) = zz_Y 192 (111, ls, .int (nI 1) :: st, h)) ∧ (∀ ls st h, zz_Y 192 (111, ls, st, h) = zz_Y 192 (115, ls, st, h)) ∧ (∀ ls st h, zz_Y 192 (114, ls, st, h) = zz_Y 192 (115, ls, .int (nI 0) :: st, h)) ∧ (∀ ls a b st h, zz_Y 192 (115, ls, .int b :: .int a :: st, h) = zz_Y 192 (116, ls, .int (a + b) :: st, h)) ∧ (∀ l0 l1 l2 l3 l4 l5 l6 x st h, zz_nl l3 = true → zz_Y 192 (116, [l0, l1, l2, l3, l4, l5, l6], .int x :: st, h) = zz_Y 192 (118, [l0, l1, l2, l3, some (.int x), l5, l6], st, h)) ∧ (∀ l0 l1 l2 l3 l4 l6 x st h, zz_nl l4 = true → zz_Y 192 (118, [l0, l1, l2, l3, l4, some (.int x), l6], st, h) = zz_Y 192 (121, [l0, l1, l2, l3, l4, some (.int (x + nI 1)), l6], st, h)) :=
  ⟨fun _ _ _ _ _ _ _ _ _ => xl_aln d192_0 rfl,
   fun _ _ _ => xl_ic d192_1 (by decide +kernel),
   fun ls a0 a1 h => xl_cv (As := [a0, a1]) (st := []) d192_2 xco192 xm_11_106 (congrArg Nat.succ xnp167) (by decide +kernel) rfl,
   fun _ _ _ _ _ _ _ _ _ => xl_iln d192_5 rfl,
   fun _ _ _ _ => xl_ifne d192_6 rfl,
   fun _ _ _ _ _ _ _ _ _ => xl_aln d192_9 rfl,
   fun _ _ _ _ _ _ _ _ _ => xl_aln d192_10 rfl,
   fun _ _ _ _ => xl_gf d192_11 xco192 xf_11_30,
   fun _ _ _ _ _ _ _ _ _ => xl_iln d192_14 rfl,
   fun ls a0 a1 a2 h => xl_cv (As := [a0, a1, a2]) (st := []) d192_15 xco192 xm_11_173 (congrArg Nat.succ xnp193) (by decide +kernel) rfl,
   fun _ _ _ => xl_iri d192_18 xrt192,
   fun _ _ _ => xl_ic d192_19 (by decide +kernel),
   fun _ _ _ _ _ _ _ _ _ _ hc => xl_isn d192_20 xml192 (by decide) (zz_nl_s1 hc),
   fun _ _ _ => xl_si d192_22 (by decide +kernel),
   fun _ _ _ _ _ => xl_icge d192_25 rfl,
   fun _ _ _ _ _ _ _ _ _ => xl_aln d192_28 rfl,
   fun _ _ _ _ => xl_gf d192_29 xco192 xf_11_30,
   fun _ _ _ _ _ _ _ _ _ => xl_iln d192_32 rfl,
   fun ls a0 a1 h => xl_cs (As := [a0, a1]) (st := []) d192_33 xco192 xm_11_73 xnp190 (by decide +kernel) rfl,
   fun _ _ _ _ => xl_ifne d192_36 rfl,
   fun _ _ _ => xl_goto d192_39 rfl,
   fun _ _ _ => xl_ic d192_42 (by decide +kernel),
   fun _ _ _ _ _ _ _ _ _ _ hc => xl_is d192_43 xml192 (by decide) (zz_nl_s1 hc),
   fun _ _ _ => xl_ic d192_45 (by decide +kernel),
   fun _ _ _ _ _ _ _ _ _ _ hc => xl_is d192_46 xml192 (by decide) (zz_nl_s1 hc),
   fun _ _ _ => xl_si d192_50 (by decide +kernel),
   fun _ _ _ _ _ => xl_icge d192_53 rfl,
   fun _ _ _ _ _ _ _ _ _ => xl_aln d192_56 rfl,
   fun _ _ _ _ => xl_gf d192_57 xco192 xf_11_7,
   fun _ _ _ => xl_si d192_60 (by decide +kernel),
   fun _ _ _ _ _ _ _ _ _ => xl_il d192_63 rfl,
   fun _ _ _ _ _ => xl_iadd d192_65,
   fun _ _ _ _ _ => xl_ia d192_66,
   fun _ _ _ _ _ _ _ _ _ => xl_aln d192_67 rfl,
   fun _ _ _ _ => xl_gf d192_68 xco192 xf_11_7,
   fun _ _ _ => xl_si d192_71 (by decide +kernel),
   fun _ _ _ _ _ _ _ _ _ => xl_iln d192_74 rfl,
   fun _ _ _ _ _ => xl_iadd d192_75,
   fun _ _ _ _ _ => xl_ia d192_76,
   fun _ _ _ _ _ => xl_isub d192_77,
   fun _ _ _ _ _ _ _ _ _ _ hc => xl_is d192_78 xml192 (by decide) (zz_nl_s1 hc),
   fun _ _ _ _ _ _ _ _ _ => xl_il d192_80 rfl,
   fun _ _ _ _ _ _ _ _ _ => xl_aln d192_82 rfl,
   fun _ _ _ _ => xl_gf d192_83 xco192 xf_11_30,
   fun _ _ _ _ _ _ _ _ _ => xl_il d192_86 rfl,
   fun ls a0 a1 s0 h => xl_cs (As := [a0, a1]) (st := [s0]) d192_88 xco192 xm_11_73 xnp190 (by decide +kernel) rfl,
   fun _ _ _ _ => xl_ifeq d192_91 rfl,
   fun _ _ _ _ _ _ _ _ _ => xl_il d192_94 rfl,
   fun _ _ _ _ => xl_ifgt d192_96 rfl,
   fun _ _ _ _ _ _ _ _ _ => xl_il d192_99 rfl,
   fun _ _ _ _ => xl_ifne d192_101 rfl,
   fun _ _ _ _ _ _ _ _ _ => xl_il d192_104 rfl,
   fun _ _ _ _ _ _ _ _ _ => xl_iln d192_106 rfl,
   fun _ _ _ _ _ => xl_icge d192_107 rfl,
   fun _ _ _ => xl_ic d192_110 (by decide +kernel),
   fun _ _ _ => xl_goto d192_111 rfl,
   fun _ _ _ => xl_ic d192_114 (by decide +kernel),
   fun _ _ _ _ _ => xl_iadd d192_115,
   fun _ _ _ _ _ _ _ _ _ _ hc => xl_is d192_116 xml192 (by decide) (zz_nl_s1 hc),
   fun _ _ _ _ _ _ _ _ _ hc => xl_inc d192_118 xml192 (by decide) rfl (by decide +kernel) (zz_nl_s1 hc)⟩
theorem x192_p1 : (∀ ls st h, zz_Y 192 (121, ls, st, h) = zz_Y 192 (48, ls, st, h)) ∧ (∀ l0 l1 l2 l3 l5 l6 x st h, zz_Y 192 (124, [l0, l1, l2, l3, some (.int x), l5, l6], st, h) = zz_Y 192 (126, [l0, l1, l2, l3, some (.int x), l5, l6], .int x :: st, h)) ∧ (∀ l0 l2 l3 l4 l5 l6 x st h, zz_Y 192 (126, [l0, some (.int x), l2, l3, l4, l5, l6], st, h) = zz_Y 192 (127, [l0, some (.int x), l2, l3, l4, l5, l6], .int x :: st, h)) ∧ (∀ ls a b st h, zz_Y 192 (127, ls, .int b :: .int a :: st, h) = if a = b then zz_Y 192 (130, ls, st, h) else zz_Y 192 (132, ls, st, h)) ∧ (∀ l0 l1 l2 l4 l5 l6 x st h, zz_Y 192 (130, [l0, l1, l2, some (.int x), l4, l5, l6], st, h) = zz_Y 192 (131, [l0, l1, l2, some (.int x), l4, l5, l6], .int x :: st, h)) ∧ (∀ ls v h, zz_Y 192 (131, ls, [.int v], h) = some (some (.int v), h)) ∧ (∀ l0 l1 l2 l4 l5 l6 x st h, zz_nl l2 = true → zz_Y 192 (132, [l0, l1, l2, some (.int x), l4, l5, l6], st, h) = zz_Y 192 (135, [l0, l1, l2, some (.int (x + nI 1)), l4, l5, l6], st, h)) ∧ (∀ ls st h, zz_Y 192 (135, ls, st, h) = zz_Y 192 (21, ls, st, h)) ∧ (∀ ls st h, zz_Y 192 (138, ls, st, h) = zz_Y 192 (139, ls, .int (-1) :: st, h)) ∧ (∀ ls v h, zz_Y 192 (139, ls, [.int v], h) = some (some (.int v), h)) :=
  ⟨fun _ _ _ => xl_goto d192_121 rfl,
   fun _ _ _ _ _ _ _ _ _ => xl_il d192_124 rfl,
   fun _ _ _ _ _ _ _ _ _ => xl_iln d192_126 rfl,
   fun _ _ _ _ _ => xl_icne d192_127 rfl,
   fun _ _ _ _ _ _ _ _ _ => xl_iln d192_130 rfl,
   fun _ _ _ => xl_iri d192_131 xrt192,
   fun _ _ _ _ _ _ _ _ _ hc => xl_inc d192_132 xml192 (by decide) rfl (by decide +kernel) (zz_nl_s1 hc),
   fun _ _ _ => xl_goto d192_135 rfl,
   fun _ _ _ => xl_ic d192_138 (by decide +kernel),
   fun _ _ _ => xl_iri d192_139 xrt192⟩
theorem x192_c21 : ∀ l0 l1 l2 l4 l5 l6 x st h, zz_Y 192 (21, [l0, l1, l2, some (.int x), l4, l5, l6], st, h) = zz_Y 192 (22, [l0, l1, l2, some (.int x), l4, l5, l6], .int x :: st, h) := fun _ _ _ _ _ _ _ _ _ => xl_iln d192_21 rfl
theorem x192_c48 : ∀ l0 l1 l2 l3 l4 l6 x st h, zz_Y 192 (48, [l0, l1, l2, l3, l4, some (.int x), l6], st, h) = zz_Y 192 (50, [l0, l1, l2, l3, l4, some (.int x), l6], .int x :: st, h) := fun _ _ _ _ _ _ _ _ _ => xl_il d192_48 rfl
/-! 193 FacetSieveModel.at([II)I -/
theorem d193_0 : decode (zz_c 193) 0 = .ok (.iconst 0, 1) := by decide +kernel
theorem d193_1 : decode (zz_c 193) 1 = .ok (.istore_n 3, 1) := by decide +kernel
theorem d193_2 : decode (zz_c 193) 2 = .ok (.iconst 0, 1) := by decide +kernel
theorem d193_3 : decode (zz_c 193) 3 = .ok (.istore 4, 2) := by decide +kernel
theorem d193_5 : decode (zz_c 193) 5 = .ok (.iload 4, 2) := by decide +kernel
theorem d193_7 : decode (zz_c 193) 7 = .ok (.sipush 256, 3) := by decide +kernel
theorem d193_10 : decode (zz_c 193) 10 = .ok (.if_icmp .ge 32, 3) := by decide +kernel
theorem d193_13 : decode (zz_c 193) 13 = .ok (.aload_n 1, 1) := by decide +kernel
theorem d193_14 : decode (zz_c 193) 14 = .ok (.iload 4, 2) := by decide +kernel
theorem d193_16 : decode (zz_c 193) 16 = .ok (.invokestatic 73, 3) := by decide +kernel
theorem d193_19 : decode (zz_c 193) 19 = .ok (.ifCond .ne 6, 3) := by decide +kernel
theorem d193_22 : decode (zz_c 193) 22 = .ok (.goto 14, 3) := by decide +kernel
theorem d193_25 : decode (zz_c 193) 25 = .ok (.iload_n 3, 1) := by decide +kernel
theorem d193_26 : decode (zz_c 193) 26 = .ok (.iload_n 2, 1) := by decide +kernel
theorem d193_27 : decode (zz_c 193) 27 = .ok (.if_icmp .ne 6, 3) := by decide +kernel
theorem d193_30 : decode (zz_c 193) 30 = .ok (.iload 4, 2) := by decide +kernel
theorem d193_32 : decode (zz_c 193) 32 = .ok (.ireturn, 1) := by decide +kernel
theorem d193_33 : decode (zz_c 193) 33 = .ok (.iinc 3 1, 3) := by decide +kernel
theorem d193_36 : decode (zz_c 193) 36 = .ok (.iinc 4 1, 3) := by decide +kernel
theorem d193_39 : decode (zz_c 193) 39 = .ok (.goto (-34), 3) := by decide +kernel
theorem d193_42 : decode (zz_c 193) 42 = .ok (.iconst (-1), 1) := by decide +kernel
theorem d193_43 : decode (zz_c 193) 43 = .ok (.ireturn, 1) := by decide +kernel
theorem x193 : (∀ ls st h, zz_Y 193 (0, ls, st, h) = zz_Y 193 (1, ls, .int (nI 0) :: st, h)) ∧ (∀ l0 l1 l2 l3 l4 x st h, zz_nl l2 = true → zz_Y 193 (1, [l0, l1, l2, l3, l4], .int x :: st, h) = zz_Y 193 (2, [l0, l1, l2, some (.int x), l4], st, h)) ∧ (∀ ls st h, zz_Y 193 (2, ls, st, h) = zz_Y 193 (3, ls, .int (nI 0) :: st, h)) ∧ (∀ l0 l1 l2 l3 l4 x st h, zz_nl l3 = true → zz_Y 193 (3, [l0, l1, l2, l3, l4], .int x :: st, h) = zz_Y 193 (5, [l0, l1, l2, l3, some (.int x)], st, h)) ∧ (∀ ls st h, zz_Y 193 (7, ls, st, h) = zz_Y 193 (10, ls, .int (nI 256) :: st, h)) ∧ (∀ ls a b st h, zz_Y 193 (10, ls, .int b :: .int a :: st, h) = if a < b then zz_Y 193 (13, ls, st, h) else zz_Y 193 (42, ls, st, h)) ∧ (∀ l0 l2 l3 l4 x st h, zz_Y 193 (13, [l0, some (.ref x), l2, l3, l4], st, h) = zz_Y 193 (14, [l0, some (.ref x), l2, l3, l4], .ref x :: st, h)) ∧ (∀ l0 l1 l2 l3 x st h, zz_Y 193 (14, [l0, l1, l2, l3, some (.int x)], st, h) = zz_Y 193 (16, [l0, l1, l2, l3, some (.int x)], .int x :: st, h)) ∧ (∀ ls a0 a1 h, zz_Y 193 (16, ls, [a1, a0], h) = mo_k 193 19 ls [] (zz_run 190 [a0, a1] h)) ∧ (∀ ls a st h, zz_Y 193 (19, ls, .int a :: st, h) = if a = nI 0 then zz_Y 193 (22, ls, st, h) else zz_Y 193 (25, ls, st, h)) ∧ (∀ ls st h, zz_Y 193 (22, ls, st, h) = zz_Y 193 (36, ls, st, h)) ∧ (∀ l0 l1 l2 l4 x st h, zz_Y 193 (25, [l0, l1, l2, some (.int x), l4], st, h) = zz_Y 193 (26, [l0, l1, l2, some (.int x), l4], .int x :: st, h)) ∧ (∀ l0 l1 l3 l4 x st h, zz_Y 193 (26, [l0, l1, some (.int x), l3, l4], st, h) = zz_Y 193 (27, [l0, l1, some (.int x), l3, l4], .int x :: st, h)) ∧ (∀ ls a b st h, zz_Y 193 (27, ls, .int b :: .int a :: st, h) = if a = b then zz_Y 193 (30, ls, st, h) else zz_Y 193 (33, ls, st, h)) ∧ (∀ l0 l1 l2 l3 x st h, zz_Y 193 (30, [l0, l1, l2, l3, some (.int x)], st, h) = zz_Y 193 (32, [l0, l1, l2, l3, some (.int x)], .int x :: st, h)) ∧ (∀ ls v h, zz_Y 193 (32, ls, [.int v], h) = some (some (.int v), h)) ∧ (∀ l0 l1 l2 l4 x st h, zz_nl l2 = true → zz_Y 193 (33, [l0, l1, l2, some (.int x), l4], st, h) = zz_Y 193 (36, [l0, l1, l2, some (.int (x + nI 1)), l4], st, h)) ∧ (∀ l0 l1 l2 l3 x st h, zz_nl l3 = true → zz_Y 193 (36, [l0, l1, l2, l3, some (.int x)], st, h) = zz_Y 193 (39, [l0, l1, l2, l3, some (.int (x + nI 1))], st, h)) ∧ (∀ ls st h, zz_Y 193 (39, ls, st, h) = zz_Y 193 (5, ls, st, h)) ∧ (∀ ls st h, zz_Y 193 (42, ls, st, h) = zz_Y 193 (43, ls, .int (-1) :: st, h)) ∧ (∀ ls v h, zz_Y 193 (43, ls, [.int v], h) = some (some (.int v), h)) :=
  ⟨fun _ _ _ => xl_ic d193_0 (by decide +kernel),
   fun _ _ _ _ _ _ _ _ hc => xl_isn d193_1 xml193 (by decide) (zz_nl_s1 hc),
   fun _ _ _ => xl_ic d193_2 (by decide +kernel),
   fun _ _ _ _ _ _ _ _ hc => xl_is d193_3 xml193 (by decide) (zz_nl_s1 hc),
   fun _ _ _ => xl_si d193_7 (by decide +kernel),
   fun _ _ _ _ _ => xl_icge d193_10 rfl,
   fun _ _ _ _ _ _ _ => xl_aln d193_13 rfl,
   fun _ _ _ _ _ _ _ => xl_il d193_14 rfl,
   fun ls a0 a1 h => xl_cs (As := [a0, a1]) (st := []) d193_16 xco193 xm_11_73 xnp190 (by decide +kernel) rfl,
   fun _ _ _ _ => xl_ifne d193_19 rfl,
   fun _ _ _ => xl_goto d193_22 rfl,
   fun _ _ _ _ _ _ _ => xl_iln d193_25 rfl,
   fun _ _ _ _ _ _ _ => xl_iln d193_26 rfl,
   fun _ _ _ _ _ => xl_icne d193_27 rfl,
   fun _ _ _ _ _ _ _ => xl_il d193_30 rfl,
   fun _ _ _ => xl_iri d193_32 xrt193,
   fun _ _ _ _ _ _ _ hc => xl_inc d193_33 xml193 (by decide) rfl (by decide +kernel) (zz_nl_s1 hc),
   fun _ _ _ _ _ _ _ hc => xl_inc d193_36 xml193 (by decide) rfl (by decide +kernel) (zz_nl_s1 hc),
   fun _ _ _ => xl_goto d193_39 rfl,
   fun _ _ _ => xl_ic d193_42 (by decide +kernel),
   fun _ _ _ => xl_iri d193_43 xrt193⟩
theorem x193_c5 : ∀ l0 l1 l2 l3 x st h, zz_Y 193 (5, [l0, l1, l2, l3, some (.int x)], st, h) = zz_Y 193 (7, [l0, l1, l2, l3, some (.int x)], .int x :: st, h) := fun _ _ _ _ _ _ _ => xl_il d193_5 rfl
/-! 194 FacetSieveModel.told(IZ)I -/
theorem d194_0 : decode (zz_c 194) 0 = .ok (.iconst 0, 1) := by decide +kernel
theorem d194_1 : decode (zz_c 194) 1 = .ok (.istore_n 3, 1) := by decide +kernel
theorem d194_2 : decode (zz_c 194) 2 = .ok (.iconst 0, 1) := by decide +kernel
theorem d194_3 : decode (zz_c 194) 3 = .ok (.istore 4, 2) := by decide +kernel
theorem d194_5 : decode (zz_c 194) 5 = .ok (.iload 4, 2) := by decide +kernel
theorem d194_7 : decode (zz_c 194) 7 = .ok (.aload_n 0, 1) := by decide +kernel
theorem d194_8 : decode (zz_c 194) 8 = .ok (.getfield 7, 3) := by decide +kernel
theorem d194_11 : decode (zz_c 194) 11 = .ok (.iconst 1, 1) := by decide +kernel
theorem d194_12 : decode (zz_c 194) 12 = .ok (.iaload, 1) := by decide +kernel
theorem d194_13 : decode (zz_c 194) 13 = .ok (.if_icmp .ge 48, 3) := by decide +kernel
theorem d194_16 : decode (zz_c 194) 16 = .ok (.iload_n 2, 1) := by decide +kernel
theorem d194_17 : decode (zz_c 194) 17 = .ok (.ifCond .eq 15, 3) := by decide +kernel
theorem d194_20 : decode (zz_c 194) 20 = .ok (.aload_n 0, 1) := by decide +kernel
theorem d194_21 : decode (zz_c 194) 21 = .ok (.iload 4, 2) := by decide +kernel
theorem d194_23 : decode (zz_c 194) 23 = .ok (.invokevirtual 123, 3) := by decide +kernel
theorem d194_26 : decode (zz_c 194) 26 = .ok (.ifCond .eq 29, 3) := by decide +kernel
theorem d194_29 : decode (zz_c 194) 29 = .ok (.goto 15, 3) := by decide +kernel
theorem d194_32 : decode (zz_c 194) 32 = .ok (.aload_n 0, 1) := by decide +kernel
theorem d194_33 : decode (zz_c 194) 33 = .ok (.iload 4, 2) := by decide +kernel
theorem d194_35 : decode (zz_c 194) 35 = .ok (.invokevirtual 126, 3) := by decide +kernel
theorem d194_38 : decode (zz_c 194) 38 = .ok (.ifCond .ne 6, 3) := by decide +kernel
theorem d194_41 : decode (zz_c 194) 41 = .ok (.goto 14, 3) := by decide +kernel
theorem d194_44 : decode (zz_c 194) 44 = .ok (.iload_n 3, 1) := by decide +kernel
theorem d194_45 : decode (zz_c 194) 45 = .ok (.iload_n 1, 1) := by decide +kernel
theorem d194_46 : decode (zz_c 194) 46 = .ok (.if_icmp .ne 6, 3) := by decide +kernel
theorem d194_49 : decode (zz_c 194) 49 = .ok (.iload 4, 2) := by decide +kernel
theorem d194_51 : decode (zz_c 194) 51 = .ok (.ireturn, 1) := by decide +kernel
theorem d194_52 : decode (zz_c 194) 52 = .ok (.iinc 3 1, 3) := by decide +kernel
theorem d194_55 : decode (zz_c 194) 55 = .ok (.iinc 4 1, 3) := by decide +kernel
theorem d194_58 : decode (zz_c 194) 58 = .ok (.goto (-53), 3) := by decide +kernel
theorem d194_61 : decode (zz_c 194) 61 = .ok (.iconst (-1), 1) := by decide +kernel
theorem d194_62 : decode (zz_c 194) 62 = .ok (.ireturn, 1) := by decide +kernel
theorem x194 : (∀ ls st h, zz_Y 194 (0, ls, st, h) = zz_Y 194 (1, ls, .int (nI 0) :: st, h)) ∧ (∀ l0 l1 l2 l3 l4 x st h, zz_nl l2 = true → zz_Y 194 (1, [l0, l1, l2, l3, l4], .int x :: st, h) = zz_Y 194 (2, [l0, l1, l2, some (.int x), l4], st, h)) ∧ (∀ ls st h, zz_Y 194 (2, ls, st, h) = zz_Y 194 (3, ls, .int (nI 0) :: st, h)) ∧ (∀ l0 l1 l2 l3 l4 x st h, zz_nl l3 = true → zz_Y 194 (3, [l0, l1, l2, l3, l4], .int x :: st, h) = zz_Y 194 (5, [l0, l1, l2, l3, some (.int x)], st, h)) ∧ (∀ l1 l2 l3 l4 x st h, zz_Y 194 (7, [some (.ref x), l1, l2, l3, l4], st, h) = zz_Y 194 (8, [some (.ref x), l1, l2, l3, l4], .ref x :: st, h)) ∧ (∀ ls a st h, zz_Y 194 (8, ls, .ref a :: st, h) = mo_gf (hp_g h a) 11 0 194 11 ls st h) ∧ (∀ ls st h, zz_Y 194 (11, ls, st, h) = zz_Y 194 (12, ls, .int (nI 1) :: st, h)) ∧ (∀ ls a i st h, zz_Y 194 (12, ls, .int i :: .ref a :: st, h) = mo_ia (hp_g h a) i a 194 13 ls st h) ∧ (∀ ls a b st h, zz_Y 194 (13, ls, .int b :: .int a :: st, h) = if a < b then zz_Y 194 (16, ls, st, h) else zz_Y 194 (61, ls, st, h)) ∧ (∀ l0 l1 l3 l4 x st h, zz_Y 194 (16, [l0, l1, some (.int x), l3, l4], st, h) = zz_Y 194 (17, [l0, l1, some (.int x), l3, l4], .int x :: st, h)) ∧ (∀ ls a st h, zz_Y 194 (17, ls, .int a :: st, h) = if a = nI 0 then zz_Y 194 (32, ls, st, h) else zz_Y 194 (20, ls, st, h)) ∧ (∀ l1 l2 l3 l4 x st h, zz_Y 194 (20, [some (.ref x), l1, l2, l3, l4], st, h) = zz_Y 194 (21, [some (.ref x), l1, l2, l3, l4], .ref x :: st, h)) ∧ (∀ l0 l1 l2 l3 x st h, zz_Y 194 (21, [l0, l1, l2, l3, some (.int x)], st, h) = zz_Y 194 (23, [l0, l1, l2, l3, some (.int x)], .int x :: st, h)) ∧ (∀ ls a0 a1 h, zz_Y 194 (23, ls, [a1, a0], h) = mo_k 194 26 ls [] (zz_run 174 [a0, a1] h)) ∧ (∀ ls a st h, zz_Y 194 (26, ls, .int a :: st, h) = if a = nI 0 then zz_Y 194 (55, ls, st, h) else zz_Y 194 (29, ls, st, h)) ∧ (∀ ls st h, zz_Y 194 (29, ls, st, h) = zz_Y 194 (44, ls, st, h)) ∧ (∀ l1 l2 l3 l4 x st h, zz_Y 194 (32, [some (.ref x), l1, l2, l3, l4], st, h) = zz_Y 194 (33, [some (.ref x), l1, l2, l3, l4], .ref x :: st, h)) ∧ (∀ l0 l1 l2 l3 x st h, zz_Y 194 (33, [l0, l1, l2, l3, some (.int x)], st, h) = zz_Y 194 (35, [l0, l1, l2, l3, some (.int x)], .int x :: st, h)) ∧ (∀ ls a0 a1 h, zz_Y 194 (35, ls, [a1, a0], h) = mo_k 194 38 ls [] (zz_run 176 [a0, a1] h)) ∧ (∀ ls a st h, zz_Y 194 (38, ls, .int a :: st, h) = if a = nI 0 then zz_Y 194 (41, ls, st, h) else zz_Y 194 (44, ls, st, h)) ∧ (∀ ls st h, zz_Y 194 (41, ls, st, h) = zz_Y 194 (55, ls, st, h)) ∧ (∀ l0 l1 l2 l4 x st h, zz_Y 194 (44, [l0, l1, l2, some (.int x), l4], st, h) = zz_Y 194 (45, [l0, l1, l2, some (.int x), l4], .int x :: st, h)) ∧ (∀ l0 l2 l3 l4 x st h, zz_Y 194 (45, [l0, some (.int x), l2, l3, l4], st, h) = zz_Y 194 (46, [l0, some (.int x), l2, l3, l4], .int x :: st, h)) ∧ (∀ ls a b st h, zz_Y 194 (46, ls, .int b :: .int a :: st, h) = if a = b then zz_Y 194 (49, ls, st, h) else zz_Y 194 (52, ls, st, h)) ∧ (∀ l0 l1 l2 l3 x st h, zz_Y 194 (49, [l0, l1, l2, l3, some (.int x)], st, h) = zz_Y 194 (51, [l0, l1, l2, l3, some (.int x)], .int x :: st, h)) ∧ (∀ ls v h, zz_Y 194 (51, ls, [.int v], h) = some (some (.int v), h)) ∧ (∀ l0 l1 l2 l4 x st h, zz_nl l2 = true → zz_Y 194 (52, [l0, l1, l2, some (.int x), l4], st, h) = zz_Y 194 (55, [l0, l1, l2, some (.int (x + nI 1)), l4], st, h)) ∧ (∀ l0 l1 l2 l3 x st h, zz_nl l3 = true → zz_Y 194 (55, [l0, l1, l2, l3, some (.int x)], st, h) = zz_Y 194 (58, [l0, l1, l2, l3, some (.int (x + nI 1))], st, h)) ∧ (∀ ls st h, zz_Y 194 (58, ls, st, h) = zz_Y 194 (5, ls, st, h)) ∧ (∀ ls st h, zz_Y 194 (61, ls, st, h) = zz_Y 194 (62, ls, .int (-1) :: st, h)) ∧ (∀ ls v h, zz_Y 194 (62, ls, [.int v], h) = some (some (.int v), h)) :=
  ⟨fun _ _ _ => xl_ic d194_0 (by decide +kernel),
   fun _ _ _ _ _ _ _ _ hc => xl_isn d194_1 xml194 (by decide) (zz_nl_s1 hc),
   fun _ _ _ => xl_ic d194_2 (by decide +kernel),
   fun _ _ _ _ _ _ _ _ hc => xl_is d194_3 xml194 (by decide) (zz_nl_s1 hc),
   fun _ _ _ _ _ _ _ => xl_aln d194_7 rfl,
   fun _ _ _ _ => xl_gf d194_8 xco194 xf_11_7,
   fun _ _ _ => xl_ic d194_11 (by decide +kernel),
   fun _ _ _ _ _ => xl_ia d194_12,
   fun _ _ _ _ _ => xl_icge d194_13 rfl,
   fun _ _ _ _ _ _ _ => xl_iln d194_16 rfl,
   fun _ _ _ _ => xl_ifeq d194_17 rfl,
   fun _ _ _ _ _ _ _ => xl_aln d194_20 rfl,
   fun _ _ _ _ _ _ _ => xl_il d194_21 rfl,
   fun ls a0 a1 h => xl_cv (As := [a0, a1]) (st := []) d194_23 xco194 xm_11_123 (congrArg Nat.succ xnp174) (by decide +kernel) rfl,
   fun _ _ _ _ => xl_ifeq d194_26 rfl,
   fun _ _ _ => xl_goto d194_29 rfl,
   fun _ _ _ _ _ _ _ => xl_aln d194_32 rfl,
   fun _ _ _ _ _ _ _ => xl_il d194_33 rfl,
   fun ls a0 a1 h => xl_cv (As := [a0, a1]) (st := []) d194_35 xco194 xm_11_126 (congrArg Nat.succ xnp176) (by decide +kernel) rfl,
   fun _ _ _ _ => xl_ifne d194_38 rfl,
   fun _ _ _ => xl_goto d194_41 rfl,
   fun _ _ _ _ _ _ _ => xl_iln d194_44 rfl,
   fun _ _ _ _ _ _ _ => xl_iln d194_45 rfl,
   fun _ _ _ _ _ => xl_icne d194_46 rfl,
   fun _ _ _ _ _ _ _ => xl_il d194_49 rfl,
   fun _ _ _ => xl_iri d194_51 xrt194,
   fun _ _ _ _ _ _ _ hc => xl_inc d194_52 xml194 (by decide) rfl (by decide +kernel) (zz_nl_s1 hc),
   fun _ _ _ _ _ _ _ hc => xl_inc d194_55 xml194 (by decide) rfl (by decide +kernel) (zz_nl_s1 hc),
   fun _ _ _ => xl_goto d194_58 rfl,
   fun _ _ _ => xl_ic d194_61 (by decide +kernel),
   fun _ _ _ => xl_iri d194_62 xrt194⟩
theorem x194_c5 : ∀ l0 l1 l2 l3 x st h, zz_Y 194 (5, [l0, l1, l2, l3, some (.int x)], st, h) = zz_Y 194 (7, [l0, l1, l2, l3, some (.int x)], .int x :: st, h) := fun _ _ _ _ _ _ _ => xl_il d194_5 rfl
/-! 195 FacetSieveModel.both(III)I -/
theorem d195_0 : decode (zz_c 195) 0 = .ok (.aload_n 0, 1) := by decide +kernel
theorem d195_1 : decode (zz_c 195) 1 = .ok (.iload_n 1, 1) := by decide +kernel
theorem d195_2 : decode (zz_c 195) 2 = .ok (.invokevirtual 164, 3) := by decide +kernel
theorem d195_5 : decode (zz_c 195) 5 = .ok (.ifCond .eq 20, 3) := by decide +kernel
theorem d195_8 : decode (zz_c 195) 8 = .ok (.aload_n 0, 1) := by decide +kernel
theorem d195_9 : decode (zz_c 195) 9 = .ok (.iload_n 2, 1) := by decide +kernel
theorem d195_10 : decode (zz_c 195) 10 = .ok (.invokevirtual 164, 3) := by decide +kernel
theorem d195_13 : decode (zz_c 195) 13 = .ok (.ifCond .eq 12, 3) := by decide +kernel
theorem d195_16 : decode (zz_c 195) 16 = .ok (.iload_n 3, 1) := by decide +kernel
theorem d195_17 : decode (zz_c 195) 17 = .ok (.iconst 0, 1) := by decide +kernel
theorem d195_18 : decode (zz_c 195) 18 = .ok (.iconst 5, 1) := by decide +kernel
theorem d195_19 : decode (zz_c 195) 19 = .ok (.invokestatic 57, 3) := by decide +kernel
theorem d195_22 : decode (zz_c 195) 22 = .ok (.ifCond .ne 5, 3) := by decide +kernel
theorem d195_25 : decode (zz_c 195) 25 = .ok (.iconst (-1), 1) := by decide +kernel
theorem d195_26 : decode (zz_c 195) 26 = .ok (.ireturn, 1) := by decide +kernel
theorem d195_27 : decode (zz_c 195) 27 = .ok (.aload_n 0, 1) := by decide +kernel
theorem d195_28 : decode (zz_c 195) 28 = .ok (.aload_n 0, 1) := by decide +kernel
theorem d195_29 : decode (zz_c 195) 29 = .ok (.getfield 24, 3) := by decide +kernel
theorem d195_32 : decode (zz_c 195) 32 = .ok (.iload_n 1, 1) := by decide +kernel
theorem d195_33 : decode (zz_c 195) 33 = .ok (.invokevirtual 96, 3) := by decide +kernel
theorem d195_36 : decode (zz_c 195) 36 = .ok (.aload_n 0, 1) := by decide +kernel
theorem d195_37 : decode (zz_c 195) 37 = .ok (.aload_n 0, 1) := by decide +kernel
theorem d195_38 : decode (zz_c 195) 38 = .ok (.getfield 27, 3) := by decide +kernel
theorem d195_41 : decode (zz_c 195) 41 = .ok (.iload_n 2, 1) := by decide +kernel
theorem d195_42 : decode (zz_c 195) 42 = .ok (.invokevirtual 96, 3) := by decide +kernel
theorem d195_45 : decode (zz_c 195) 45 = .ok (.aload_n 0, 1) := by decide +kernel
theorem d195_46 : decode (zz_c 195) 46 = .ok (.invokevirtual 177, 3) := by decide +kernel
theorem d195_49 : decode (zz_c 195) 49 = .ok (.istore 4, 2) := by decide +kernel
theorem d195_51 : decode (zz_c 195) 51 = .ok (.iload_n 3, 1) := by decide +kernel
theorem d195_52 : decode (zz_c 195) 52 = .ok (.ifCond .ne 6, 3) := by decide +kernel
theorem d195_55 : decode (zz_c 195) 55 = .ok (.iload 4, 2) := by decide +kernel
theorem d195_57 : decode (zz_c 195) 57 = .ok (.ireturn, 1) := by decide +kernel
theorem d195_58 : decode (zz_c 195) 58 = .ok (.iload_n 3, 1) := by decide +kernel
theorem d195_59 : decode (zz_c 195) 59 = .ok (.iconst 1, 1) := by decide +kernel
theorem d195_60 : decode (zz_c 195) 60 = .ok (.if_icmp .ne 22, 3) := by decide +kernel
theorem d195_63 : decode (zz_c 195) 63 = .ok (.aload_n 0, 1) := by decide +kernel
theorem d195_64 : decode (zz_c 195) 64 = .ok (.getfield 24, 3) := by decide +kernel
theorem d195_67 : decode (zz_c 195) 67 = .ok (.invokestatic 109, 3) := by decide +kernel
theorem d195_70 : decode (zz_c 195) 70 = .ok (.aload_n 0, 1) := by decide +kernel
theorem d195_71 : decode (zz_c 195) 71 = .ok (.getfield 27, 3) := by decide +kernel
theorem d195_74 : decode (zz_c 195) 74 = .ok (.invokestatic 109, 3) := by decide +kernel
theorem d195_77 : decode (zz_c 195) 77 = .ok (.iadd, 1) := by decide +kernel
theorem d195_78 : decode (zz_c 195) 78 = .ok (.iload 4, 2) := by decide +kernel
theorem d195_80 : decode (zz_c 195) 80 = .ok (.isub, 1) := by decide +kernel
theorem d195_81 : decode (zz_c 195) 81 = .ok (.ireturn, 1) := by decide +kernel
theorem d195_82 : decode (zz_c 195) 82 = .ok (.iload_n 3, 1) := by decide +kernel
theorem d195_83 : decode (zz_c 195) 83 = .ok (.iconst 2, 1) := by decide +kernel
theorem d195_84 : decode (zz_c 195) 84 = .ok (.if_icmp .ne 16, 3) := by decide +kernel
theorem d195_87 : decode (zz_c 195) 87 = .ok (.aload_n 0, 1) := by decide +kernel
theorem d195_88 : decode (zz_c 195) 88 = .ok (.getfield 24, 3) := by decide +kernel
theorem d195_91 : decode (zz_c 195) 91 = .ok (.invokestatic 109, 3) := by decide +kernel
theorem d195_94 : decode (zz_c 195) 94 = .ok (.iload 4, 2) := by decide +kernel
theorem d195_96 : decode (zz_c 195) 96 = .ok (.isub, 1) := by decide +kernel
theorem d195_97 : decode (zz_c 195) 97 = .ok (.goto 17, 3) := by decide +kernel
theorem d195_100 : decode (zz_c 195) 100 = .ok (.aload_n 0, 1) := by decide +kernel
theorem d195_101 : decode (zz_c 195) 101 = .ok (.getfield 24, 3) := by decide +kernel
theorem d195_104 : decode (zz_c 195) 104 = .ok (.aload_n 0, 1) := by decide +kernel
theorem d195_105 : decode (zz_c 195) 105 = .ok (.getfield 27, 3) := by decide +kernel
theorem d195_108 : decode (zz_c 195) 108 = .ok (.iload_n 3, 1) := by decide +kernel
theorem d195_109 : decode (zz_c 195) 109 = .ok (.iconst 3, 1) := by decide +kernel
theorem d195_110 : decode (zz_c 195) 110 = .ok (.isub, 1) := by decide +kernel
theorem d195_111 : decode (zz_c 195) 111 = .ok (.invokestatic 180, 3) := by decide +kernel
theorem d195_114 : decode (zz_c 195) 114 = .ok (.ireturn, 1) := by decide +kernel
theorem x195_p0 : (∀ l1 l2 l3 l4 x st h, zz_Y 195 (0, [some (.ref x), l1, l2, l3, l4], st, h) = zz_Y 195 (1, [some (.ref x), l1, l2, l3, l4], .ref x :: st, h)) ∧ (∀ l0 l2 l3 l4 x st h, zz_Y 195 (1, [l0, some (.int x), l2, l3, l4], st, h) = zz_Y 195 (2, [l0, some (.int x), l2, l3, l4], .int x :: st, h)) ∧ (∀ ls a0 a1 h, zz_Y 195 (2, ls, [a1, a0], h) = mo_k 195 5 ls [] (zz_run 183 [a0, a1] h)) ∧ (∀ ls a st h, zz_Y 195 (5, ls, .int a :: st, h) = if a = nI 0 then zz_Y 195 (25, ls, st, h) else zz_Y 195 (8, ls, st, h)) ∧ (∀ l1 l2 l3 l4 x st h, zz_Y 195 (8, [some (.ref x), l1, l2, l3, l4], st, h) = zz_Y 195 (9, [some (.ref x), l1, l2, l3, l4], .ref x :: st, h)) ∧ (∀ l0 l1 l3 l4 x st h, zz_Y 195 (9, [l0, l1, some (.int x), l3, l4], st, h) = zz_Y 195 (10, [l0, l1, some (.int x), l3, l4], .int x :: st, h)) ∧ (∀ ls a0 a1 h, zz_Y 195 (10, ls, [a1, a0], h) = mo_k 195 13 ls [] (zz_run 183 [a0, a1] h)) ∧ (∀ ls a st h, zz_Y 195 (13, ls, .int a :: st, h) = if a = nI 0 then zz_Y 195 (25, ls, st, h) else zz_Y 195 (16, ls, st, h)) ∧ (∀ l0 l1 l2 l4 x st h, zz_Y 195 (16, [l0, l1, l2, some (.int x), l4], st, h) = zz_Y 195 (17, [l0, l1, l2, some (.int x), l4], .int x :: st, h)) ∧ (∀ ls st h, zz_Y 195 (17, ls, st, h) = zz_Y 195 (18, ls, .int (nI 0) :: st, h)) ∧ (∀ ls st h, zz_Y 195 (18, ls, st, h) = zz_Y 195 (19, ls, .int (nI 5) :: st, h)) ∧ (∀ ls a0 a1 a2 h, zz_Y 195 (19, ls, [a2, a1, a0], h) = mo_k 195 22 ls [] (zz_run 154 [a0, a1, a2] h)) ∧ (∀ ls a st h, zz_Y 195 (22, ls, .int a :: st, h) = if a = nI 0 then zz_Y 195 (25, ls, st, h) else zz_Y 195 (27, ls, st, h)) ∧ (∀ ls st h, zz_Y 195 (25, ls, st, h) = zz_Y 195 (26, ls, .int (-1) :: st, h)) ∧ (∀ ls v h, zz_Y 195 (26, ls, [.int v], h) = some (some (.int v), h)) ∧ (∀ l1 l2 l3 l4 x st h, zz_Y 195 (27, [some (.ref x), l1, l2, l3, l4], st, h) = zz_Y 195 (28, [some (.ref x), l1, l2, l3, l4], .ref x :: st, h)) ∧ (∀ l1 l2 l3 l4 x st h, zz_Y 195 (28, [some (.ref x), l1, l2, l3, l4], st, h) = zz_Y 195 (29, [some (.ref x), l1, l2, l3, l4], .ref x :: st, h)) ∧ (∀ ls a st h, zz_Y 195 (29, ls, .ref a :: st, h) = mo_gf (hp_g h a) 11 7 195 32 ls st h) ∧ (∀ l0 l2 l3 l4 x st h, zz_Y 195 (32, [l0, some (.int x), l2, l3, l4], st, h) = zz_Y 195 (33, [l0, some (.int x), l2, l3, l4], .int x :: st, h)) ∧ (∀ ls a0 a1 a2 h, zz_Y 195 (33, ls, [a2, a1, a0], h) = mo_k 195 36 ls [] (zz_run 156 [a0, a1, a2] h)) ∧ (∀ l1 l2 l3 l4 x st h, zz_Y 195 (36, [some (.ref x), l1, l2, l3, l4], st, h) = zz_Y 195 (37, [some (.ref x), l1, l2, l3, l4], .ref x :: st, h)) ∧ (∀ l1 l2 l3 l4 x st h, zz_Y 195 (37, [some (.ref x), l1, l2, l3, l4], st, h) = zz_Y 195 (38, [some (.ref x), l1, l2, l3, l4], .ref x :: st, h)) ∧ (∀ ls a st h, zz_Y 195 (38, ls, .ref a :: st, h) = mo_gf (hp_g h a) 11 8 195 41 ls st h) ∧ (∀ l0 l1 l3 l4 x st h, zz_Y 195 (41, [l0, l1, some (.int x), l3, l4], st, h) = zz_Y 195 (42, [l0, l1, some (.int x), l3, l4], .int x :: st, h)) ∧ (∀ ls a0 a1 a2 h, zz_Y 195 (42, ls, [a2, a1, a0], h) = mo_k 195 45 ls [] (zz_run 156 [a0, a1, a2] h)) ∧ (∀ l1 l2 l3 l4 x st h, zz_Y 195 (45, [some (.ref x), l1, l2, l3, l4], st, h) = zz_Y 195 (46, [some (.ref x), l1, l2, l3, l4], .ref x :: st, h)) ∧ (∀ ls a0 h, zz_Y 195 (46, ls, [a0], h) = mo_k 195 49 ls [] (zz_run 196 [a0] h)) ∧ (∀ l0 l1 l2 l3 l4 x st h, zz_nl l3 = true → zz_Y 195 (49, [l0, l1, l2, l3, l4], .int x :: st, h) = zz_Y 195 (51, [l0, l1, l2, l3, some (.int x)], st, h)) ∧ (∀ l0 l1 l2 l4 x st h, zz_Y 195 (51, [l0, l1, l2, some (.int x), l4], st, h) = zz_Y 195 (52, [l0, l1, l2, some (.int x), l4], .int x :: st, h)) ∧ (∀ ls a st h, zz_Y 195 (52, ls, .int a :: st, h) = if a = nI 0 then zz_Y 195 (55, ls, st, h) else zz_Y 195 (58, ls, st, h)) ∧ (∀ l0 l1 l2 l3 x st h, zz_Y 195 (55, [l0, l1, l2, l3, some (.int x)], st, h) = zz_Y 195 (57, [l0, l1, l2, l3, some (.int x)], .int x :: st, h)) ∧ (∀ ls v h, zz_Y 195 (57, ls, [.int v], h) = some (some (.int v), h)) ∧ (∀ l0 l1 l2 l4 x st h, zz_Y 195 (58, [l0, l1, l2, some (.int x), l4], st, h) = zz_Y 195 (59, [l0, l1, l2, some (.int x), l4], .int x :: st, h)) ∧ (∀ ls st h, zz_Y 195 (59, ls, st, h) = zz_Y 195 (60, ls, .int (nI 1) :: st, h)) ∧ (∀ ls a b st h, zz_Y 195 (60, ls, .int b :: .int a :: st, h) = if a = b then zz_Y 195 (63, ls, st, h) else zz_Y 195 (82, ls, st, h)) ∧ (∀ l1 l2 l3 l4 x st h, zz_Y 195 (63, [some (.ref x), l1, l2, l3, l4], st, h) = zz_Y 195 (64, [some (.ref x), l1, l2, l3, l4], .ref x :: st, h)) ∧ (∀ ls a st h, zz_Y 195 (64, ls, .ref a :: st, h) = mo_gf (hp_g h a) 11 7 195 67 ls st h) ∧ (∀ ls a0 h, zz_Y 195 (67, ls, [a0], h) = mo_k 195 70 ls [] (zz_run 172 [a0] h)) ∧ (∀ l1 l2 l3 l4 x st h, zz_Y 195 (70, [some (.ref x), l1, l2, l3, l4], st, h) = zz_Y 195 (71, [some (.ref x), l1, l2, l3, l4], .ref x :: st, h)) ∧ (∀ ls a st h, zz_Y 195 (71, ls, .ref a :: st, h) = mo_gf (hp_g h a) 11 8 195 74 ls st h) ∧ (∀ ls a0 s0 h, zz_Y 195 (74, ls, [a0, s0], h) = mo_k 195 77 ls [s0] (zz_run 172 [a0] h)) ∧ (∀ ls a b st h, zz_Y 195 (77, ls, .int b :: .int a :: st, h) = zz_Y 195 (78, ls, .int (a + b) :: st, h)) ∧ (∀ l0 l1 l2 l3 x st h, zz_Y 195 (78, [l0, l1, l2, l3, some (.int x)], st, h) = zz_Y 195 (80, [l0, l1, l2, l3, some (.int x)], .int x :: st, h)) ∧ (∀ ls a b st h, zz_Y 195 (80, ls, .int b :: .int a :: st, h) = zz_Y 195 (81, ls, .int (a - b) :: st, h)) ∧ (∀ ls v h, zz_Y 195 (81, ls, [.int v], h) = some (some (.int v), h)) ∧ (∀ l0 l1 l2 l4 x st h, zz_Y 195 (82, [l0, l1, l2, some (.int x), l4], st, h) = zz_Y 195 (83, [l0, l1, l2, some (.int x), l4], .int x :: st, h)) ∧ (∀ ls st h, zz_Y 195 (83, ls, st, h) = zz_Y 195 (84, ls, .int (nI 2) :: st, h)) ∧ (∀ ls a b st h, zz_Y 195 (84, ls, .int b :: .int a :: st, h) = if a = b then zz_Y 195 (87, ls, st, h) else zz_Y 195 (100, ls, st, h)) ∧ (∀ l1 l2 l3 l4 x st h, zz_Y 195 (87, [some (.ref x), l1, l2, l3, l4], st, h) = zz_Y 195 (88, [some (.ref x), l1, l2, l3, l4], .ref x :: st, h)) ∧ (∀ ls a st h, zz_Y 195 (88, ls, .ref a :: st, h) = mo_gf (hp_g h a) 11 7 195 91 ls st h) ∧ (∀ ls a0 h, zz_Y 195 (91, ls, [a0], h) = mo_k 195 94 ls [] (zz_run 172 [a0] h)) ∧ (∀ l0 l1 l2 l3 x st h, zz_Y 195 (94, [l0, l1, l2, l3, some (.int x)], st, h) = zz_Y 195 (96, [l0, l1, l2, l3, some (.int x)], .int x :: st, h)) ∧ (∀ ls a b st h, zz_Y 195 (96, ls, .int b :: .int a :: st, h) = zz_Y 195 (97, ls, .int (a - b) :: st, h)) ∧ (∀ ls st h, zz_Y 195 (97, ls, st, h) = zz_Y 195 (114, ls, st, h)) ∧ (∀ l1 l2 l3 l4 x st h, zz_Y 195 (100, [some (.ref x), l1, l2, l3, l4], st, h) = zz_Y 195 (101, [some (.ref x), l1, l2, l3, l4], .ref x :: st, h)) ∧ (∀ ls a st h, zz_Y 195 (101, ls, .ref a :: st, h) = mo_gf (hp_g h a) 11 7 195 104 ls st h) ∧ (∀ l1 l2 l3 l4 x st h, zz_Y 195 (104, [some (.ref x), l1, l2, l3, l4], st, h) = zz_Y 195 (105, [some (.ref x), l1, l2, l3, l4], .ref x :: st, h)) ∧ (∀ ls a st h, zz_Y 195 (105, ls, .ref a :: st, h) = mo_gf (hp_g h a) 11 8 195 108 ls st h) ∧ (∀ l0 l1 l2 l4 x st h, zz_Y 195 (108, [l0, l1, l2, some (.int x), l4], st, h) = zz_Y 195 (109, [l0, l1, l2, some (.int x), l4], .int x :: st, h)) ∧ (∀ ls st h, zz_Y 195 (109, ls, st, h) = zz_Y 195 (110, ls, .int (nI 3) :: st, h)) :=
  ⟨fun _ _ _ _ _ _ _ => xl_aln d195_0 rfl,
   fun _ _ _ _ _ _ _ => xl_iln d195_1 rfl,
   fun ls a0 a1 h => xl_cv (As := [a0, a1]) (st := []) d195_2 xco195 xm_11_164 (congrArg Nat.succ xnp183) (by decide +kernel) rfl,
   fun _ _ _ _ => xl_ifeq d195_5 rfl,
   fun _ _ _ _ _ _ _ => xl_aln d195_8 rfl,
   fun _ _ _ _ _ _ _ => xl_iln d195_9 rfl,
   fun ls a0 a1 h => xl_cv (As := [a0, a1]) (st := []) d195_10 xco195 xm_11_164 (congrArg Nat.succ xnp183) (by decide +kernel) rfl,
   fun _ _ _ _ => xl_ifeq d195_13 rfl,
   fun _ _ _ _ _ _ _ => xl_iln d195_16 rfl,
   fun _ _ _ => xl_ic d195_17 (by decide +kernel),
   fun _ _ _ => xl_ic d195_18 (by decide +kernel),
   fun ls a0 a1 a2 h => xl_cs (As := [a0, a1, a2]) (st := []) d195_19 xco195 xm_11_57 xnp154 (by decide +kernel) rfl,
   fun _ _ _ _ => xl_ifne d195_22 rfl,
   fun _ _ _ => xl_ic d195_25 (by decide +kernel),
   fun _ _ _ => xl_iri d195_26 xrt195,
   fun _ _ _ _ _ _ _ => xl_aln d195_27 rfl,
   fun _ _ _ _ _ _ _ => xl_aln d195_28 rfl,
   fun _ _ _ _ => xl_gf d195_29 xco195 xf_11_24,
   fun _ _ _ _ _ _ _ => xl_iln d195_32 rfl,
   fun ls a0 a1 a2 h => xl_cv (As := [a0, a1, a2]) (st := []) d195_33 xco195 xm_11_96 (congrArg Nat.succ xnp156) (by decide +kernel) rfl,
   fun _ _ _ _ _ _ _ => xl_aln d195_36 rfl,
   fun _ _ _ _ _ _ _ => xl_aln d195_37 rfl,
   fun _ _ _ _ => xl_gf d195_38 xco195 xf_11_27,
   fun _ _ _ _ _ _ _ => xl_iln d195_41 rfl,
   fun ls a0 a1 a2 h => xl_cv (As := [a0, a1, a2]) (st := []) d195_42 xco195 xm_11_96 (congrArg Nat.succ xnp156) (by decide +kernel) rfl,
   fun _ _ _ _ _ _ _ => xl_aln d195_45 rfl,
   fun ls a0 h => xl_cv (As := [a0]) (st := []) d195_46 xco195 xm_11_177 (congrArg Nat.succ xnp196) (by decide +kernel) rfl,
   fun _ _ _ _ _ _ _ _ hc => xl_is d195_49 xml195 (by decide) (zz_nl_s1 hc),
   fun _ _ _ _ _ _ _ => xl_iln d195_51 rfl,
   fun _ _ _ _ => xl_ifne d195_52 rfl,
   fun _ _ _ _ _ _ _ => xl_il d195_55 rfl,
   fun _ _ _ => xl_iri d195_57 xrt195,
   fun _ _ _ _ _ _ _ => xl_iln d195_58 rfl,
   fun _ _ _ => xl_ic d195_59 (by decide +kernel),
   fun _ _ _ _ _ => xl_icne d195_60 rfl,
   fun _ _ _ _ _ _ _ => xl_aln d195_63 rfl,
   fun _ _ _ _ => xl_gf d195_64 xco195 xf_11_24,
   fun ls a0 h => xl_cs (As := [a0]) (st := []) d195_67 xco195 xm_11_109 xnp172 (by decide +kernel) rfl,
   fun _ _ _ _ _ _ _ => xl_aln d195_70 rfl,
   fun _ _ _ _ => xl_gf d195_71 xco195 xf_11_27,
   fun ls a0 s0 h => xl_cs (As := [a0]) (st := [s0]) d195_74 xco195 xm_11_109 xnp172 (by decide +kernel) rfl,
   fun _ _ _ _ _ => xl_iadd d195_77,
   fun _ _ _ _ _ _ _ => xl_il d195_78 rfl,
   fun _ _ _ _ _ => xl_isub d195_80,
   fun _ _ _ => xl_iri d195_81 xrt195,
   fun _ _ _ _ _ _ _ => xl_iln d195_82 rfl,
   fun _ _ _ => xl_ic d195_83 (by decide +kernel),
   fun _ _ _ _ _ => xl_icne d195_84 rfl,
   fun _ _ _ _ _ _ _ => xl_aln d195_87 rfl,
   fun _ _ _ _ => xl_gf d195_88 xco195 xf_11_24,
   fun ls a0 h => xl_cs (As := [a0]) (st := []) d195_91 xco195 xm_11_109 xnp172 (by decide +kernel) rfl,
   fun _ _ _ _ _ _ _ => xl_il d195_94 rfl,
   fun _ _ _ _ _ => xl_isub d195_96,
   fun _ _ _ => xl_goto d195_97 rfl,
   fun _ _ _ _ _ _ _ => xl_aln d195_100 rfl,
   fun _ _ _ _ => xl_gf d195_101 xco195 xf_11_24,
   fun _ _ _ _ _ _ _ => xl_aln d195_104 rfl,
   fun _ _ _ _ => xl_gf d195_105 xco195 xf_11_27,
   fun _ _ _ _ _ _ _ => xl_iln d195_108 rfl,
   fun _ _ _ => xl_ic d195_109 (by decide +kernel)⟩
theorem x195_p1 : (∀ ls a b st h, zz_Y 195 (110, ls, .int b :: .int a :: st, h) = zz_Y 195 (111, ls, .int (a - b) :: st, h)) ∧ (∀ ls a0 a1 a2 h, zz_Y 195 (111, ls, [a2, a1, a0], h) = mo_k 195 114 ls [] (zz_run 197 [a0, a1, a2] h)) ∧ (∀ ls v h, zz_Y 195 (114, ls, [.int v], h) = some (some (.int v), h)) :=
  ⟨fun _ _ _ _ _ => xl_isub d195_110,
   fun ls a0 a1 a2 h => xl_cs (As := [a0, a1, a2]) (st := []) d195_111 xco195 xm_11_180 xnp197 (by decide +kernel) rfl,
   fun _ _ _ => xl_iri d195_114 xrt195⟩
/-! 196 FacetSieveModel.inBoth()I -/
theorem d196_0 : decode (zz_c 196) 0 = .ok (.iconst 0, 1) := by decide +kernel
theorem d196_1 : decode (zz_c 196) 1 = .ok (.istore_n 1, 1) := by decide +kernel
theorem d196_2 : decode (zz_c 196) 2 = .ok (.iconst 0, 1) := by decide +kernel
theorem d196_3 : decode (zz_c 196) 3 = .ok (.istore_n 2, 1) := by decide +kernel
theorem d196_4 : decode (zz_c 196) 4 = .ok (.iload_n 2, 1) := by decide +kernel
theorem d196_5 : decode (zz_c 196) 5 = .ok (.bipush 8, 2) := by decide +kernel
theorem d196_7 : decode (zz_c 196) 7 = .ok (.if_icmp .ge 28, 3) := by decide +kernel
theorem d196_10 : decode (zz_c 196) 10 = .ok (.iload_n 1, 1) := by decide +kernel
theorem d196_11 : decode (zz_c 196) 11 = .ok (.aload_n 0, 1) := by decide +kernel
theorem d196_12 : decode (zz_c 196) 12 = .ok (.getfield 24, 3) := by decide +kernel
theorem d196_15 : decode (zz_c 196) 15 = .ok (.iload_n 2, 1) := by decide +kernel
theorem d196_16 : decode (zz_c 196) 16 = .ok (.iaload, 1) := by decide +kernel
theorem d196_17 : decode (zz_c 196) 17 = .ok (.aload_n 0, 1) := by decide +kernel
theorem d196_18 : decode (zz_c 196) 18 = .ok (.getfield 27, 3) := by decide +kernel
theorem d196_21 : decode (zz_c 196) 21 = .ok (.iload_n 2, 1) := by decide +kernel
theorem d196_22 : decode (zz_c 196) 22 = .ok (.iaload, 1) := by decide +kernel
theorem d196_23 : decode (zz_c 196) 23 = .ok (.iand, 1) := by decide +kernel
theorem d196_24 : decode (zz_c 196) 24 = .ok (.invokestatic 69, 3) := by decide +kernel
theorem d196_27 : decode (zz_c 196) 27 = .ok (.iadd, 1) := by decide +kernel
theorem d196_28 : decode (zz_c 196) 28 = .ok (.istore_n 1, 1) := by decide +kernel
theorem d196_29 : decode (zz_c 196) 29 = .ok (.iinc 2 1, 3) := by decide +kernel
theorem d196_32 : decode (zz_c 196) 32 = .ok (.goto (-28), 3) := by decide +kernel
theorem d196_35 : decode (zz_c 196) 35 = .ok (.iload_n 1, 1) := by decide +kernel
theorem d196_36 : decode (zz_c 196) 36 = .ok (.ireturn, 1) := by decide +kernel
theorem x196 : (∀ ls st h, zz_Y 196 (0, ls, st, h) = zz_Y 196 (1, ls, .int (nI 0) :: st, h)) ∧ (∀ l0 l1 l2 x st h, zz_nl l0 = true → zz_Y 196 (1, [l0, l1, l2], .int x :: st, h) = zz_Y 196 (2, [l0, some (.int x), l2], st, h)) ∧ (∀ ls st h, zz_Y 196 (2, ls, st, h) = zz_Y 196 (3, ls, .int (nI 0) :: st, h)) ∧ (∀ l0 l1 l2 x st h, zz_nl l1 = true → zz_Y 196 (3, [l0, l1, l2], .int x :: st, h) = zz_Y 196 (4, [l0, l1, some (.int x)], st, h)) ∧ (∀ ls st h, zz_Y 196 (5, ls, st, h) = zz_Y 196 (7, ls, .int (nI 8) :: st, h)) ∧ (∀ ls a b st h, zz_Y 196 (7, ls, .int b :: .int a :: st, h) = if a < b then zz_Y 196 (10, ls, st, h) else zz_Y 196 (35, ls, st, h)) ∧ (∀ l0 l2 x st h, zz_Y 196 (10, [l0, some (.int x), l2], st, h) = zz_Y 196 (11, [l0, some (.int x), l2], .int x :: st, h)) ∧ (∀ l1 l2 x st h, zz_Y 196 (11, [some (.ref x), l1, l2], st, h) = zz_Y 196 (12, [some (.ref x), l1, l2], .ref x :: st, h)) ∧ (∀ ls a st h, zz_Y 196 (12, ls, .ref a :: st, h) = mo_gf (hp_g h a) 11 7 196 15 ls st h) ∧ (∀ l0 l1 x st h, zz_Y 196 (15, [l0, l1, some (.int x)], st, h) = zz_Y 196 (16, [l0, l1, some (.int x)], .int x :: st, h)) ∧ (∀ ls a i st h, zz_Y 196 (16, ls, .int i :: .ref a :: st, h) = mo_ia (hp_g h a) i a 196 17 ls st h) ∧ (∀ l1 l2 x st h, zz_Y 196 (17, [some (.ref x), l1, l2], st, h) = zz_Y 196 (18, [some (.ref x), l1, l2], .ref x :: st, h)) ∧ (∀ ls a st h, zz_Y 196 (18, ls, .ref a :: st, h) = mo_gf (hp_g h a) 11 8 196 21 ls st h) ∧ (∀ l0 l1 x st h, zz_Y 196 (21, [l0, l1, some (.int x)], st, h) = zz_Y 196 (22, [l0, l1, some (.int x)], .int x :: st, h)) ∧ (∀ ls a i st h, zz_Y 196 (22, ls, .int i :: .ref a :: st, h) = mo_ia (hp_g h a) i a 196 23 ls st h) ∧ (∀ ls a b st h, zz_Y 196 (23, ls, .int b :: .int a :: st, h) = zz_Y 196 (24, ls, .int (a &&& b) :: st, h)) ∧ (∀ ls a0 s0 h, zz_Y 196 (24, ls, [a0, s0], h) = mo_k 196 27 ls [s0] (zz_run 160 [a0] h)) ∧ (∀ ls a b st h, zz_Y 196 (27, ls, .int b :: .int a :: st, h) = zz_Y 196 (28, ls, .int (a + b) :: st, h)) ∧ (∀ l0 l1 l2 x st h, zz_nl l0 = true → zz_Y 196 (28, [l0, l1, l2], .int x :: st, h) = zz_Y 196 (29, [l0, some (.int x), l2], st, h)) ∧ (∀ l0 l1 x st h, zz_nl l1 = true → zz_Y 196 (29, [l0, l1, some (.int x)], st, h) = zz_Y 196 (32, [l0, l1, some (.int (x + nI 1))], st, h)) ∧ (∀ ls st h, zz_Y 196 (32, ls, st, h) = zz_Y 196 (4, ls, st, h)) ∧ (∀ l0 l2 x st h, zz_Y 196 (35, [l0, some (.int x), l2], st, h) = zz_Y 196 (36, [l0, some (.int x), l2], .int x :: st, h)) ∧ (∀ ls v h, zz_Y 196 (36, ls, [.int v], h) = some (some (.int v), h)) :=
  ⟨fun _ _ _ => xl_ic d196_0 (by decide +kernel),
   fun _ _ _ _ _ _ hc => xl_isn d196_1 xml196 (by decide) (zz_nl_s1 hc),
   fun _ _ _ => xl_ic d196_2 (by decide +kernel),
   fun _ _ _ _ _ _ hc => xl_isn d196_3 xml196 (by decide) (zz_nl_s1 hc),
   fun _ _ _ => xl_bi d196_5 (by decide +kernel),
   fun _ _ _ _ _ => xl_icge d196_7 rfl,
   fun _ _ _ _ _ => xl_iln d196_10 rfl,
   fun _ _ _ _ _ => xl_aln d196_11 rfl,
   fun _ _ _ _ => xl_gf d196_12 xco196 xf_11_24,
   fun _ _ _ _ _ => xl_iln d196_15 rfl,
   fun _ _ _ _ _ => xl_ia d196_16,
   fun _ _ _ _ _ => xl_aln d196_17 rfl,
   fun _ _ _ _ => xl_gf d196_18 xco196 xf_11_27,
   fun _ _ _ _ _ => xl_iln d196_21 rfl,
   fun _ _ _ _ _ => xl_ia d196_22,
   fun _ _ _ _ _ => xl_iand d196_23,
   fun ls a0 s0 h => xl_cs (As := [a0]) (st := [s0]) d196_24 xco196 xm_11_69 xnp160 (by decide +kernel) rfl,
   fun _ _ _ _ _ => xl_iadd d196_27,
   fun _ _ _ _ _ _ hc => xl_isn d196_28 xml196 (by decide) (zz_nl_s1 hc),
   fun _ _ _ _ _ hc => xl_inc d196_29 xml196 (by decide) rfl (by decide +kernel) (zz_nl_s1 hc),
   fun _ _ _ => xl_goto d196_32 rfl,
   fun _ _ _ _ _ => xl_iln d196_35 rfl,
   fun _ _ _ => xl_iri d196_36 xrt196⟩
theorem x196_c4 : ∀ l0 l1 x st h, zz_Y 196 (4, [l0, l1, some (.int x)], st, h) = zz_Y 196 (5, [l0, l1, some (.int x)], .int x :: st, h) := fun _ _ _ _ _ => xl_iln d196_4 rfl
/-! 197 FacetSieveModel.work([I[II)I -/
theorem d197_0 : decode (zz_c 197) 0 = .ok (.iconst 0, 1) := by decide +kernel
theorem d197_1 : decode (zz_c 197) 1 = .ok (.istore_n 3, 1) := by decide +kernel
theorem d197_2 : decode (zz_c 197) 2 = .ok (.iconst 0, 1) := by decide +kernel
theorem d197_3 : decode (zz_c 197) 3 = .ok (.istore 4, 2) := by decide +kernel
theorem d197_5 : decode (zz_c 197) 5 = .ok (.iload 4, 2) := by decide +kernel
theorem d197_7 : decode (zz_c 197) 7 = .ok (.bipush 8, 2) := by decide +kernel
theorem d197_9 : decode (zz_c 197) 9 = .ok (.if_icmp .ge 67, 3) := by decide +kernel
theorem d197_12 : decode (zz_c 197) 12 = .ok (.iload_n 2, 1) := by decide +kernel
theorem d197_13 : decode (zz_c 197) 13 = .ok (.iconst 1, 1) := by decide +kernel
theorem d197_14 : decode (zz_c 197) 14 = .ok (.if_icmp .eq 22, 3) := by decide +kernel
theorem d197_17 : decode (zz_c 197) 17 = .ok (.aload_n 0, 1) := by decide +kernel
theorem d197_18 : decode (zz_c 197) 18 = .ok (.iload 4, 2) := by decide +kernel
theorem d197_20 : decode (zz_c 197) 20 = .ok (.iaload, 1) := by decide +kernel
theorem d197_21 : decode (zz_c 197) 21 = .ok (.ifCond .eq 19, 3) := by decide +kernel
theorem d197_24 : decode (zz_c 197) 24 = .ok (.iload_n 2, 1) := by decide +kernel
theorem d197_25 : decode (zz_c 197) 25 = .ok (.iconst 2, 1) := by decide +kernel
theorem d197_26 : decode (zz_c 197) 26 = .ok (.if_icmp .eq 10, 3) := by decide +kernel
theorem d197_29 : decode (zz_c 197) 29 = .ok (.aload_n 1, 1) := by decide +kernel
theorem d197_30 : decode (zz_c 197) 30 = .ok (.iload 4, 2) := by decide +kernel
theorem d197_32 : decode (zz_c 197) 32 = .ok (.iaload, 1) := by decide +kernel
theorem d197_33 : decode (zz_c 197) 33 = .ok (.ifCond .eq 7, 3) := by decide +kernel
theorem d197_36 : decode (zz_c 197) 36 = .ok (.iconst 1, 1) := by decide +kernel
theorem d197_37 : decode (zz_c 197) 37 = .ok (.goto 4, 3) := by decide +kernel
theorem d197_40 : decode (zz_c 197) 40 = .ok (.iconst 0, 1) := by decide +kernel
theorem d197_41 : decode (zz_c 197) 41 = .ok (.istore 5, 2) := by decide +kernel
theorem d197_43 : decode (zz_c 197) 43 = .ok (.iload_n 3, 1) := by decide +kernel
theorem d197_44 : decode (zz_c 197) 44 = .ok (.iload 5, 2) := by decide +kernel
theorem d197_46 : decode (zz_c 197) 46 = .ok (.ifCond .eq 21, 3) := by decide +kernel
theorem d197_49 : decode (zz_c 197) 49 = .ok (.aload_n 0, 1) := by decide +kernel
theorem d197_50 : decode (zz_c 197) 50 = .ok (.iload 4, 2) := by decide +kernel
theorem d197_52 : decode (zz_c 197) 52 = .ok (.iaload, 1) := by decide +kernel
theorem d197_53 : decode (zz_c 197) 53 = .ok (.invokestatic 86, 3) := by decide +kernel
theorem d197_56 : decode (zz_c 197) 56 = .ok (.aload_n 1, 1) := by decide +kernel
theorem d197_57 : decode (zz_c 197) 57 = .ok (.iload 4, 2) := by decide +kernel
theorem d197_59 : decode (zz_c 197) 59 = .ok (.iaload, 1) := by decide +kernel
theorem d197_60 : decode (zz_c 197) 60 = .ok (.invokestatic 86, 3) := by decide +kernel
theorem d197_63 : decode (zz_c 197) 63 = .ok (.iadd, 1) := by decide +kernel
theorem d197_64 : decode (zz_c 197) 64 = .ok (.goto 4, 3) := by decide +kernel
theorem d197_67 : decode (zz_c 197) 67 = .ok (.iconst 0, 1) := by decide +kernel
theorem d197_68 : decode (zz_c 197) 68 = .ok (.iadd, 1) := by decide +kernel
theorem d197_69 : decode (zz_c 197) 69 = .ok (.istore_n 3, 1) := by decide +kernel
theorem d197_70 : decode (zz_c 197) 70 = .ok (.iinc 4 1, 3) := by decide +kernel
theorem d197_73 : decode (zz_c 197) 73 = .ok (.goto (-68), 3) := by decide +kernel
theorem d197_76 : decode (zz_c 197) 76 = .ok (.iload_n 3, 1) := by decide +kernel
theorem d197_77 : decode (zz_c 197) 77 = .ok (.ireturn, 1) := by decide +kernel
theorem x197 : (∀ ls st h, zz_Y 197 (0, ls, st, h) = zz_Y 197 (1, ls, .int (nI 0) :: st, h)) ∧ (∀ l0 l1 l2 l3 l4 l5 x st h, zz_nl l2 = true → zz_Y 197 (1, [l0, l1, l2, l3, l4, l5], .int x :: st, h) = zz_Y 197 (2, [l0, l1, l2, some (.int x), l4, l5], st, h)) ∧ (∀ ls st h, zz_Y 197 (2, ls, st, h) = zz_Y 197 (3, ls, .int (nI 0) :: st, h)) ∧ (∀ l0 l1 l2 l3 l4 l5 x st h, zz_nl l3 = true → zz_Y 197 (3, [l0, l1, l2, l3, l4, l5], .int x :: st, h) = zz_Y 197 (5, [l0, l1, l2, l3, some (.int x), l5], st, h)) ∧ (∀ ls st h, zz_Y 197 (7, ls, st, h) = zz_Y 197 (9, ls, .int (nI 8) :: st, h)) ∧ (∀ ls a b st h, zz_Y 197 (9, ls, .int b :: .int a :: st, h) = if a < b then zz_Y 197 (12, ls, st, h) else zz_Y 197 (76, ls, st, h)) ∧ (∀ l0 l1 l3 l4 l5 x st h, zz_Y 197 (12, [l0, l1, some (.int x), l3, l4, l5], st, h) = zz_Y 197 (13, [l0, l1, some (.int x), l3, l4, l5], .int x :: st, h)) ∧ (∀ ls st h, zz_Y 197 (13, ls, st, h) = zz_Y 197 (14, ls, .int (nI 1) :: st, h)) ∧ (∀ ls a b st h, zz_Y 197 (14, ls, .int b :: .int a :: st, h) = if a = b then zz_Y 197 (36, ls, st, h) else zz_Y 197 (17, ls, st, h)) ∧ (∀ l1 l2 l3 l4 l5 x st h, zz_Y 197 (17, [some (.ref x), l1, l2, l3, l4, l5], st, h) = zz_Y 197 (18, [some (.ref x), l1, l2, l3, l4, l5], .ref x :: st, h)) ∧ (∀ l0 l1 l2 l3 l5 x st h, zz_Y 197 (18, [l0, l1, l2, l3, some (.int x), l5], st, h) = zz_Y 197 (20, [l0, l1, l2, l3, some (.int x), l5], .int x :: st, h)) ∧ (∀ ls a i st h, zz_Y 197 (20, ls, .int i :: .ref a :: st, h) = mo_ia (hp_g h a) i a 197 21 ls st h) ∧ (∀ ls a st h, zz_Y 197 (21, ls, .int a :: st, h) = if a = nI 0 then zz_Y 197 (40, ls, st, h) else zz_Y 197 (24, ls, st, h)) ∧ (∀ l0 l1 l3 l4 l5 x st h, zz_Y 197 (24, [l0, l1, some (.int x), l3, l4, l5], st, h) = zz_Y 197 (25, [l0, l1, some (.int x), l3, l4, l5], .int x :: st, h)) ∧ (∀ ls st h, zz_Y 197 (25, ls, st, h) = zz_Y 197 (26, ls, .int (nI 2) :: st, h)) ∧ (∀ ls a b st h, zz_Y 197 (26, ls, .int b :: .int a :: st, h) = if a = b then zz_Y 197 (36, ls, st, h) else zz_Y 197 (29, ls, st, h)) ∧ (∀ l0 l2 l3 l4 l5 x st h, zz_Y 197 (29, [l0, some (.ref x), l2, l3, l4, l5], st, h) = zz_Y 197 (30, [l0, some (.ref x), l2, l3, l4, l5], .ref x :: st, h)) ∧ (∀ l0 l1 l2 l3 l5 x st h, zz_Y 197 (30, [l0, l1, l2, l3, some (.int x), l5], st, h) = zz_Y 197 (32, [l0, l1, l2, l3, some (.int x), l5], .int x :: st, h)) ∧ (∀ ls a i st h, zz_Y 197 (32, ls, .int i :: .ref a :: st, h) = mo_ia (hp_g h a) i a 197 33 ls st h) ∧ (∀ ls a st h, zz_Y 197 (33, ls, .int a :: st, h) = if a = nI 0 then zz_Y 197 (40, ls, st, h) else zz_Y 197 (36, ls, st, h)) ∧ (∀ ls st h, zz_Y 197 (36, ls, st, h) = zz_Y 197 (37, ls, .int (nI 1) :: st, h)) ∧ (∀ ls st h, zz_Y 197 (37, ls, st, h) = zz_Y 197 (41, ls, st, h)) ∧ (∀ ls st h, zz_Y 197 (40, ls, st, h) = zz_Y 197 (41, ls, .int (nI 0) :: st, h)) ∧ (∀ l0 l1 l2 l3 l4 l5 x st h, zz_nl l4 = true → zz_Y 197 (41, [l0, l1, l2, l3, l4, l5], .int x :: st, h) = zz_Y 197 (43, [l0, l1, l2, l3, l4, some (.int x)], st, h)) ∧ (∀ l0 l1 l2 l4 l5 x st h, zz_Y 197 (43, [l0, l1, l2, some (.int x), l4, l5], st, h) = zz_Y 197 (44, [l0, l1, l2, some (.int x), l4, l5], .int x :: st, h)) ∧ (∀ l0 l1 l2 l3 l4 x st h, zz_Y 197 (44, [l0, l1, l2, l3, l4, some (.int x)], st, h) = zz_Y 197 (46, [l0, l1, l2, l3, l4, some (.int x)], .int x :: st, h)) ∧ (∀ ls a st h, zz_Y 197 (46, ls, .int a :: st, h) = if a = nI 0 then zz_Y 197 (67, ls, st, h) else zz_Y 197 (49, ls, st, h)) ∧ (∀ l1 l2 l3 l4 l5 x st h, zz_Y 197 (49, [some (.ref x), l1, l2, l3, l4, l5], st, h) = zz_Y 197 (50, [some (.ref x), l1, l2, l3, l4, l5], .ref x :: st, h)) ∧ (∀ l0 l1 l2 l3 l5 x st h, zz_Y 197 (50, [l0, l1, l2, l3, some (.int x), l5], st, h) = zz_Y 197 (52, [l0, l1, l2, l3, some (.int x), l5], .int x :: st, h)) ∧ (∀ ls a i st h, zz_Y 197 (52, ls, .int i :: .ref a :: st, h) = mo_ia (hp_g h a) i a 197 53 ls st h) ∧ (∀ ls a0 s0 h, zz_Y 197 (53, ls, [a0, s0], h) = mo_k 197 56 ls [s0] (zz_run 162 [a0] h)) ∧ (∀ l0 l2 l3 l4 l5 x st h, zz_Y 197 (56, [l0, some (.ref x), l2, l3, l4, l5], st, h) = zz_Y 197 (57, [l0, some (.ref x), l2, l3, l4, l5], .ref x :: st, h)) ∧ (∀ l0 l1 l2 l3 l5 x st h, zz_Y 197 (57, [l0, l1, l2, l3, some (.int x), l5], st, h) = zz_Y 197 (59, [l0, l1, l2, l3, some (.int x), l5], .int x :: st, h)) ∧ (∀ ls a i st h, zz_Y 197 (59, ls, .int i :: .ref a :: st, h) = mo_ia (hp_g h a) i a 197 60 ls st h) ∧ (∀ ls a0 s0 s1 h, zz_Y 197 (60, ls, [a0, s0, s1], h) = mo_k 197 63 ls [s0, s1] (zz_run 162 [a0] h)) ∧ (∀ ls a b st h, zz_Y 197 (63, ls, .int b :: .int a :: st, h) = zz_Y 197 (64, ls, .int (a + b) :: st, h)) ∧ (∀ ls st h, zz_Y 197 (64, ls, st, h) = zz_Y 197 (68, ls, st, h)) ∧ (∀ ls st h, zz_Y 197 (67, ls, st, h) = zz_Y 197 (68, ls, .int (nI 0) :: st, h)) ∧ (∀ ls a b st h, zz_Y 197 (68, ls, .int b :: .int a :: st, h) = zz_Y 197 (69, ls, .int (a + b) :: st, h)) ∧ (∀ l0 l1 l2 l3 l4 l5 x st h, zz_nl l2 = true → zz_Y 197 (69, [l0, l1, l2, l3, l4, l5], .int x :: st, h) = zz_Y 197 (70, [l0, l1, l2, some (.int x), l4, l5], st, h)) ∧ (∀ l0 l1 l2 l3 l5 x st h, zz_nl l3 = true → zz_Y 197 (70, [l0, l1, l2, l3, some (.int x), l5], st, h) = zz_Y 197 (73, [l0, l1, l2, l3, some (.int (x + nI 1)), l5], st, h)) ∧ (∀ ls st h, zz_Y 197 (73, ls, st, h) = zz_Y 197 (5, ls, st, h)) ∧ (∀ l0 l1 l2 l4 l5 x st h, zz_Y 197 (76, [l0, l1, l2, some (.int x), l4, l5], st, h) = zz_Y 197 (77, [l0, l1, l2, some (.int x), l4, l5], .int x :: st, h)) ∧ (∀ ls v h, zz_Y 197 (77, ls, [.int v], h) = some (some (.int v), h)) :=
  ⟨fun _ _ _ => xl_ic d197_0 (by decide +kernel),
   fun _ _ _ _ _ _ _ _ _ hc => xl_isn d197_1 xml197 (by decide) (zz_nl_s1 hc),
   fun _ _ _ => xl_ic d197_2 (by decide +kernel),
   fun _ _ _ _ _ _ _ _ _ hc => xl_is d197_3 xml197 (by decide) (zz_nl_s1 hc),
   fun _ _ _ => xl_bi d197_7 (by decide +kernel),
   fun _ _ _ _ _ => xl_icge d197_9 rfl,
   fun _ _ _ _ _ _ _ _ => xl_iln d197_12 rfl,
   fun _ _ _ => xl_ic d197_13 (by decide +kernel),
   fun _ _ _ _ _ => xl_iceq d197_14 rfl,
   fun _ _ _ _ _ _ _ _ => xl_aln d197_17 rfl,
   fun _ _ _ _ _ _ _ _ => xl_il d197_18 rfl,
   fun _ _ _ _ _ => xl_ia d197_20,
   fun _ _ _ _ => xl_ifeq d197_21 rfl,
   fun _ _ _ _ _ _ _ _ => xl_iln d197_24 rfl,
   fun _ _ _ => xl_ic d197_25 (by decide +kernel),
   fun _ _ _ _ _ => xl_iceq d197_26 rfl,
   fun _ _ _ _ _ _ _ _ => xl_aln d197_29 rfl,
   fun _ _ _ _ _ _ _ _ => xl_il d197_30 rfl,
   fun _ _ _ _ _ => xl_ia d197_32,
   fun _ _ _ _ => xl_ifeq d197_33 rfl,
   fun _ _ _ => xl_ic d197_36 (by decide +kernel),
   fun _ _ _ => xl_goto d197_37 rfl,
   fun _ _ _ => xl_ic d197_40 (by decide +kernel),
   fun _ _ _ _ _ _ _ _ _ hc => xl_is d197_41 xml197 (by decide) (zz_nl_s1 hc),
   fun _ _ _ _ _ _ _ _ => xl_iln d197_43 rfl,
   fun _ _ _ _ _ _ _ _ => xl_il d197_44 rfl,
   fun _ _ _ _ => xl_ifeq d197_46 rfl,
   fun _ _ _ _ _ _ _ _ => xl_aln d197_49 rfl,
   fun _ _ _ _ _ _ _ _ => xl_il d197_50 rfl,
   fun _ _ _ _ _ => xl_ia d197_52,
   fun ls a0 s0 h => xl_cs (As := [a0]) (st := [s0]) d197_53 xco197 xm_11_86 xnp162 (by decide +kernel) rfl,
   fun _ _ _ _ _ _ _ _ => xl_aln d197_56 rfl,
   fun _ _ _ _ _ _ _ _ => xl_il d197_57 rfl,
   fun _ _ _ _ _ => xl_ia d197_59,
   fun ls a0 s0 s1 h => xl_cs (As := [a0]) (st := [s0, s1]) d197_60 xco197 xm_11_86 xnp162 (by decide +kernel) rfl,
   fun _ _ _ _ _ => xl_iadd d197_63,
   fun _ _ _ => xl_goto d197_64 rfl,
   fun _ _ _ => xl_ic d197_67 (by decide +kernel),
   fun _ _ _ _ _ => xl_iadd d197_68,
   fun _ _ _ _ _ _ _ _ _ hc => xl_isn d197_69 xml197 (by decide) (zz_nl_s1 hc),
   fun _ _ _ _ _ _ _ _ hc => xl_inc d197_70 xml197 (by decide) rfl (by decide +kernel) (zz_nl_s1 hc),
   fun _ _ _ => xl_goto d197_73 rfl,
   fun _ _ _ _ _ _ _ _ => xl_iln d197_76 rfl,
   fun _ _ _ => xl_iri d197_77 xrt197⟩
theorem x197_c5 : ∀ l0 l1 l2 l3 l5 x st h, zz_Y 197 (5, [l0, l1, l2, l3, some (.int x), l5], st, h) = zz_Y 197 (7, [l0, l1, l2, l3, some (.int x), l5], .int x :: st, h) := fun _ _ _ _ _ _ _ _ => xl_il d197_5 rfl
/-! 198 FacetSieveModel.alike(I)I -/
theorem d198_0 : decode (zz_c 198) 0 = .ok (.aload_n 0, 1) := by decide +kernel
theorem d198_1 : decode (zz_c 198) 1 = .ok (.iload_n 1, 1) := by decide +kernel
theorem d198_2 : decode (zz_c 198) 2 = .ok (.invokevirtual 164, 3) := by decide +kernel
theorem d198_5 : decode (zz_c 198) 5 = .ok (.ifCond .ne 5, 3) := by decide +kernel
theorem d198_8 : decode (zz_c 198) 8 = .ok (.iconst (-1), 1) := by decide +kernel
theorem d198_9 : decode (zz_c 198) 9 = .ok (.ireturn, 1) := by decide +kernel
theorem d198_10 : decode (zz_c 198) 10 = .ok (.iconst (-1), 1) := by decide +kernel
theorem d198_11 : decode (zz_c 198) 11 = .ok (.istore_n 2, 1) := by decide +kernel
theorem d198_12 : decode (zz_c 198) 12 = .ok (.iconst 0, 1) := by decide +kernel
theorem d198_13 : decode (zz_c 198) 13 = .ok (.istore_n 3, 1) := by decide +kernel
theorem d198_14 : decode (zz_c 198) 14 = .ok (.iconst 1, 1) := by decide +kernel
theorem d198_15 : decode (zz_c 198) 15 = .ok (.istore 4, 2) := by decide +kernel
theorem d198_17 : decode (zz_c 198) 17 = .ok (.aload_n 0, 1) := by decide +kernel
theorem d198_18 : decode (zz_c 198) 18 = .ok (.aload_n 0, 1) := by decide +kernel
theorem d198_19 : decode (zz_c 198) 19 = .ok (.getfield 24, 3) := by decide +kernel
theorem d198_22 : decode (zz_c 198) 22 = .ok (.iload_n 1, 1) := by decide +kernel
theorem d198_23 : decode (zz_c 198) 23 = .ok (.invokevirtual 96, 3) := by decide +kernel
theorem d198_26 : decode (zz_c 198) 26 = .ok (.iconst 0, 1) := by decide +kernel
theorem d198_27 : decode (zz_c 198) 27 = .ok (.istore 5, 2) := by decide +kernel
theorem d198_29 : decode (zz_c 198) 29 = .ok (.iload 5, 2) := by decide +kernel
theorem d198_31 : decode (zz_c 198) 31 = .ok (.aload_n 0, 1) := by decide +kernel
theorem d198_32 : decode (zz_c 198) 32 = .ok (.getfield 7, 3) := by decide +kernel
theorem d198_35 : decode (zz_c 198) 35 = .ok (.iconst 1, 1) := by decide +kernel
theorem d198_36 : decode (zz_c 198) 36 = .ok (.iaload, 1) := by decide +kernel
theorem d198_37 : decode (zz_c 198) 37 = .ok (.if_icmp .ge 96, 3) := by decide +kernel
theorem d198_40 : decode (zz_c 198) 40 = .ok (.iload 5, 2) := by decide +kernel
theorem d198_42 : decode (zz_c 198) 42 = .ok (.iload_n 1, 1) := by decide +kernel
theorem d198_43 : decode (zz_c 198) 43 = .ok (.if_icmp .ne 6, 3) := by decide +kernel
theorem d198_46 : decode (zz_c 198) 46 = .ok (.goto 81, 3) := by decide +kernel
theorem d198_49 : decode (zz_c 198) 49 = .ok (.aload_n 0, 1) := by decide +kernel
theorem d198_50 : decode (zz_c 198) 50 = .ok (.aload_n 0, 1) := by decide +kernel
theorem d198_51 : decode (zz_c 198) 51 = .ok (.getfield 27, 3) := by decide +kernel
theorem d198_54 : decode (zz_c 198) 54 = .ok (.iload 5, 2) := by decide +kernel
theorem d198_56 : decode (zz_c 198) 56 = .ok (.invokevirtual 96, 3) := by decide +kernel
theorem d198_59 : decode (zz_c 198) 59 = .ok (.aload_n 0, 1) := by decide +kernel
theorem d198_60 : decode (zz_c 198) 60 = .ok (.invokevirtual 177, 3) := by decide +kernel
theorem d198_63 : decode (zz_c 198) 63 = .ok (.istore 6, 2) := by decide +kernel
theorem d198_65 : decode (zz_c 198) 65 = .ok (.aload_n 0, 1) := by decide +kernel
theorem d198_66 : decode (zz_c 198) 66 = .ok (.getfield 24, 3) := by decide +kernel
theorem d198_69 : decode (zz_c 198) 69 = .ok (.invokestatic 109, 3) := by decide +kernel
theorem d198_72 : decode (zz_c 198) 72 = .ok (.aload_n 0, 1) := by decide +kernel
theorem d198_73 : decode (zz_c 198) 73 = .ok (.getfield 27, 3) := by decide +kernel
theorem d198_76 : decode (zz_c 198) 76 = .ok (.invokestatic 109, 3) := by decide +kernel
theorem d198_79 : decode (zz_c 198) 79 = .ok (.iadd, 1) := by decide +kernel
theorem d198_80 : decode (zz_c 198) 80 = .ok (.iload 6, 2) := by decide +kernel
theorem d198_82 : decode (zz_c 198) 82 = .ok (.isub, 1) := by decide +kernel
theorem d198_83 : decode (zz_c 198) 83 = .ok (.istore 7, 2) := by decide +kernel
theorem d198_85 : decode (zz_c 198) 85 = .ok (.iload 7, 2) := by decide +kernel
theorem d198_87 : decode (zz_c 198) 87 = .ok (.ifCond .ne 7, 3) := by decide +kernel
theorem d198_90 : decode (zz_c 198) 90 = .ok (.iconst 1, 1) := by decide +kernel
theorem d198_91 : decode (zz_c 198) 91 = .ok (.goto 5, 3) := by decide +kernel
theorem d198_94 : decode (zz_c 198) 94 = .ok (.iload 7, 2) := by decide +kernel
theorem d198_96 : decode (zz_c 198) 96 = .ok (.istore 7, 2) := by decide +kernel
theorem d198_98 : decode (zz_c 198) 98 = .ok (.iload_n 2, 1) := by decide +kernel
theorem d198_99 : decode (zz_c 198) 99 = .ok (.ifCond .lt 18, 3) := by decide +kernel
theorem d198_102 : decode (zz_c 198) 102 = .ok (.iload 6, 2) := by decide +kernel
theorem d198_104 : decode (zz_c 198) 104 = .ok (.iload 4, 2) := by decide +kernel
theorem d198_106 : decode (zz_c 198) 106 = .ok (.imul, 1) := by decide +kernel
theorem d198_107 : decode (zz_c 198) 107 = .ok (.iload_n 3, 1) := by decide +kernel
theorem d198_108 : decode (zz_c 198) 108 = .ok (.iload 7, 2) := by decide +kernel
theorem d198_110 : decode (zz_c 198) 110 = .ok (.imul, 1) := by decide +kernel
theorem d198_111 : decode (zz_c 198) 111 = .ok (.if_icmp .gt 6, 3) := by decide +kernel
theorem d198_114 : decode (zz_c 198) 114 = .ok (.goto 13, 3) := by decide +kernel
theorem d198_117 : decode (zz_c 198) 117 = .ok (.iload 5, 2) := by decide +kernel
theorem d198_119 : decode (zz_c 198) 119 = .ok (.istore_n 2, 1) := by decide +kernel
theorem d198_120 : decode (zz_c 198) 120 = .ok (.iload 6, 2) := by decide +kernel
theorem d198_122 : decode (zz_c 198) 122 = .ok (.istore_n 3, 1) := by decide +kernel
theorem d198_123 : decode (zz_c 198) 123 = .ok (.iload 7, 2) := by decide +kernel
theorem d198_125 : decode (zz_c 198) 125 = .ok (.istore 4, 2) := by decide +kernel
theorem d198_127 : decode (zz_c 198) 127 = .ok (.iinc 5 1, 3) := by decide +kernel
theorem d198_130 : decode (zz_c 198) 130 = .ok (.goto (-101), 3) := by decide +kernel
theorem d198_133 : decode (zz_c 198) 133 = .ok (.iload_n 2, 1) := by decide +kernel
theorem d198_134 : decode (zz_c 198) 134 = .ok (.ireturn, 1) := by decide +kernel
theorem x198_p0 : (∀ l1 l2 l3 l4 l5 l6 l7 x st h, zz_Y 198 (0, [some (.ref x), l1, l2, l3, l4, l5, l6, l7], st, h) = zz_Y 198 (1, [some (.ref x), l1, l2, l3, l4, l5, l6, l7], .ref x :: st, h)) ∧ (∀ l0 l2 l3 l4 l5 l6 l7 x st h, zz_Y 198 (1, [l0, some (.int x), l2, l3, l4, l5, l6, l7], st, h) = zz_Y 198 (2, [l0, some (.int x), l2, l3, l4, l5, l6, l7], .int x :: st, h)) ∧ (∀ ls a0 a1 h, zz_Y 198 (2, ls, [a1, a0], h) = mo_k 198 5 ls [] (zz_run 183 [a0, a1] h)) ∧ (∀ ls a st h, zz_Y 198 (5, ls, .int a :: st, h) = if a = nI 0 then zz_Y 198 (8, ls, st, h) else zz_Y 198 (10, ls, st, h)) ∧ (∀ ls st h, zz_Y 198 (8, ls, st, h) = zz_Y 198 (9, ls, .int (-1) :: st, h)) ∧ (∀ ls v h, zz_Y 198 (9, ls, [.int v], h) = some (some (.int v), h)) ∧ (∀ ls st h, zz_Y 198 (10, ls, st, h) = zz_Y 198 (11, ls, .int (-1) :: st, h)) ∧ (∀ l0 l1 l2 l3 l4 l5 l6 l7 x st h, zz_nl l1 = true → zz_Y 198 (11, [l0, l1, l2, l3, l4, l5, l6, l7], .int x :: st, h) = zz_Y 198 (12, [l0, l1, some (.int x), l3, l4, l5, l6, l7], st, h)) ∧ (∀ ls st h, zz_Y 198 (12, ls, st, h) = zz_Y 198 (13, ls, .int (nI 0) :: st, h)) ∧ (∀ l0 l1 l2 l3 l4 l5 l6 l7 x st h, zz_nl l2 = true → zz_Y 198 (13, [l0, l1, l2, l3, l4, l5, l6, l7], .int x :: st, h) = zz_Y 198 (14, [l0, l1, l2, some (.int x), l4, l5, l6, l7], st, h)) ∧ (∀ ls st h, zz_Y 198 (14, ls, st, h) = zz_Y 198 (15, ls, .int (nI 1) :: st, h)) ∧ (∀ l0 l1 l2 l3 l4 l5 l6 l7 x st h, zz_nl l3 = true → zz_Y 198 (15, [l0, l1, l2, l3, l4, l5, l6, l7], .int x :: st, h) = zz_Y 198 (17, [l0, l1, l2, l3, some (.int x), l5, l6, l7], st, h)) ∧ (∀ l1 l2 l3 l4 l5 l6 l7 x st h, zz_Y 198 (17, [some (.ref x), l1, l2, l3, l4, l5, l6, l7], st, h) = zz_Y 198 (18, [some (.ref x), l1, l2, l3, l4, l5, l6, l7], .ref x :: st, h)) ∧ (∀ l1 l2 l3 l4 l5 l6 l7 x st h, zz_Y 198 (18, [some (.ref x), l1, l2, l3, l4, l5, l6, l7], st, h) = zz_Y 198 (19, [some (.ref x), l1, l2, l3, l4, l5, l6, l7], .ref x :: st, h)) ∧ (∀ ls a st h, zz_Y 198 (19, ls, .ref a :: st, h) = mo_gf (hp_g h a) 11 7 198 22 ls st h) ∧ (∀ l0 l2 l3 l4 l5 l6 l7 x st h, zz_Y 198 (22, [l0, some (.int x), l2, l3, l4, l5, l6, l7], st, h) = zz_Y 198 (23, [l0, some (.int x), l2, l3, l4, l5, l6, l7], .int x :: st, h)) ∧ (∀ ls a0 a1 a2 h, zz_Y 198 (23, ls, [a2, a1, a0], h) = mo_k 198 26 ls [] (zz_run 156 [a0, a1, a2] h)) ∧ (∀ ls st h, zz_Y 198 (26, ls, st, h) = zz_Y 198 (27, ls, .int (nI 0) :: st, h)) ∧ (∀ l0 l1 l2 l3 l4 l5 l6 l7 x st h, zz_nl l4 = true → zz_Y 198 (27, [l0, l1, l2, l3, l4, l5, l6, l7], .int x :: st, h) = zz_Y 198 (29, [l0, l1, l2, l3, l4, some (.int x), l6, l7], st, h)) ∧ (∀ l1 l2 l3 l4 l5 l6 l7 x st h, zz_Y 198 (31, [some (.ref x), l1, l2, l3, l4, l5, l6, l7], st, h) = zz_Y 198 (32, [some (.ref x), l1, l2, l3, l4, l5, l6, l7], .ref x :: st, h)) ∧ (∀ ls a st h, zz_Y 198 (32, ls, .ref a :: st, h) = mo_gf (hp_g h a) 11 0 198 35 ls st h) ∧ (∀ ls st h, zz_Y 198 (35, ls, st, h) = zz_Y 198 (36, ls, .int (nI 1) :: st, h)) ∧ (∀ ls a i st h, zz_Y 198 (36, ls, .int i :: .ref a :: st, h) = mo_ia (hp_g h a) i a 198 37 ls st h) ∧ (∀ ls a b st h, zz_Y 198 (37, ls, .int b :: .int a :: st, h) = if a < b then zz_Y 198 (40, ls, st, h) else zz_Y 198 (133, ls, st, h)) ∧ (∀ l0 l1 l2 l3 l4 l6 l7 x st h, zz_Y 198 (40, [l0, l1, l2, l3, l4, some (.int x), l6, l7], st, h) = zz_Y 198 (42, [l0, l1, l2, l3, l4, some (.int x), l6, l7], .int x :: st, h)) ∧ (∀ l0 l2 l3 l4 l5 l6 l7 x st h, zz_Y 198 (42, [l0, some (.int x), l2, l3, l4, l5, l6, l7], st, h) = zz_Y 198 (43, [l0, some (.int x), l2, l3, l4, l5, l6, l7], .int x :: st, h)) ∧ (∀ ls a b st h, zz_Y 198 (43, ls, .int b :: .int a :: st, h) = if a = b then zz_Y 198 (46, ls, st, h) else zz_Y 198 (49, ls, st, h)) ∧ (∀ ls st h, zz_Y 198 (46, ls, st, h) = zz_Y 198 (127, ls, st, h)) ∧ (∀ l1 l2 l3 l4 l5 l6 l7 x st h, zz_Y 198 (49, [some (.ref x), l1, l2, l3, l4, l5, l6, l7], st, h) = zz_Y 198 (50, [some (.ref x), l1, l2, l3, l4, l5, l6, l7], .ref x :: st, h)) ∧ (∀ l1 l2 l3 l4 l5 l6 l7 x st h, zz_Y 198 (50, [some (.ref x), l1, l2, l3, l4, l5, l6, l7], st, h) = zz_Y 198 (51, [some (.ref x), l1, l2, l3, l4, l5, l6, l7], .ref x :: st, h)) ∧ (∀ ls a st h, zz_Y 198 (51, ls, .ref a :: st, h) = mo_gf (hp_g h a) 11 8 198 54 ls st h) ∧ (∀ l0 l1 l2 l3 l4 l6 l7 x st h, zz_Y 198 (54, [l0, l1, l2, l3, l4, some (.int x), l6, l7], st, h) = zz_Y 198 (56, [l0, l1, l2, l3, l4, some (.int x), l6, l7], .int x :: st, h)) ∧ (∀ ls a0 a1 a2 h, zz_Y 198 (56, ls, [a2, a1, a0], h) = mo_k 198 59 ls [] (zz_run 156 [a0, a1, a2] h)) ∧ (∀ l1 l2 l3 l4 l5 l6 l7 x st h, zz_Y 198 (59, [some (.ref x), l1, l2, l3, l4, l5, l6, l7], st, h) = zz_Y 198 (60, [some (.ref x), l1, l2, l3, l4, l5, l6, l7], .ref x :: st, h)) ∧ (∀ ls a0 h, zz_Y 198 (60, ls, [a0], h) = mo_k 198 63 ls [] (zz_run 196 [a0] h)) ∧ (∀ l0 l1 l2 l3 l4 l5 l6 l7 x st h, zz_nl l5 = true → zz_Y 198 (63, [l0, l1, l2, l3, l4, l5, l6, l7], .int x :: st, h) = zz_Y 198 (65, [l0, l1, l2, l3, l4, l5, some (.int x), l7], st, h)) ∧ (∀ l1 l2 l3 l4 l5 l6 l7 x st h, zz_Y 198 (65, [some (.ref x), l1, l2, l3, l4, l5, l6, l7], st, h) = zz_Y 198 (66, [some (.ref x), l1, l2, l3, l4, l5, l6, l7], .ref x :: st, h)) ∧ (∀ ls a st h, zz_Y 198 (66, ls, .ref a :: st, h) = mo_gf (hp_g h a) 11 7 198 69 ls st h) ∧ (∀ ls a0 h, zz_Y 198 (69, ls, [a0], h) = mo_k 198 72 ls [] (zz_run 172 [a0] h)) ∧ (∀ l1 l2 l3 l4 l5 l6 l7 x st h, zz_Y 198 (72, [some (.ref x), l1, l2, l3, l4, l5, l6, l7], st, h) = zz_Y 198 (73, [some (.ref x), l1, l2, l3, l4, l5, l6, l7], .ref x :: st, h)) ∧ (∀ ls a st h, zz_Y 198 (73, ls, .ref a :: st, h) = mo_gf (hp_g h a) 11 8 198 76 ls st h) ∧ (∀ ls a0 s0 h, zz_Y 198 (76, ls, [a0, s0], h) = mo_k 198 79 ls [s0] (zz_run 172 [a0] h)) ∧ (∀ ls a b st h, zz_Y 198 (79, ls, .int b :: .int a :: st, h) = zz_Y 198 (80, ls, .int (a + b) :: st, h)) ∧ (∀ l0 l1 l2 l3 l4 l5 l7 x st h, zz_Y 198 (80, [l0, l1, l2, l3, l4, l5, some (.int x), l7], st, h) = zz_Y 198 (82, [l0, l1, l2, l3, l4, l5, some (.int x), l7], .int x :: st, h)) ∧ (∀ ls a b st h, zz_Y 198 (82, ls, .int b :: .int a :: st, h) = zz_Y 198 (83, ls, .int (a - b) :: st, h)) ∧ (∀ l0 l1 l2 l3 l4 l5 l6 l7 x st h, zz_nl l6 = true → zz_Y 198 (83, [l0, l1, l2, l3, l4, l5, l6, l7], .int x :: st, h) = zz_Y 198 (85, [l0, l1, l2, l3, l4, l5, l6, some (.int x)], st, h)) ∧ (∀ l0 l1 l2 l3 l4 l5 l6 x st h, zz_Y 198 (85, [l0, l1, l2, l3, l4, l5, l6, some (.int x)], st, h) = zz_Y 198 (87, [l0, l1, l2, l3, l4, l5, l6, some (.int x)], .int x :: st, h)) ∧ (∀ ls a st h, zz_Y 198 (87, ls, .int a :: st, h) = if a = nI 0 then zz_Y 198 (90, ls, st, h) else zz_Y 198 (94, ls, st, h)) ∧ (∀ ls st h, zz_Y 198 (90, ls, st, h) = zz_Y 198 (91, ls, .int (nI 1) :: st, h)) ∧ (∀ ls st h, zz_Y 198 (91, ls, st, h) = zz_Y 198 (96, ls, st, h)) ∧ (∀ l0 l1 l2 l3 l4 l5 l6 x st h, zz_Y 198 (94, [l0, l1, l2, l3, l4, l5, l6, some (.int x)], st, h) = zz_Y 198 (96, [l0, l1, l2, l3, l4, l5, l6, some (.int x)], .int x :: st, h)) ∧ (∀ l0 l1 l2 l3 l4 l5 l6 l7 x st h, zz_nl l6 = true → zz_Y 198 (96, [l0, l1, l2, l3, l4, l5, l6, l7], .int x :: st, h) = zz_Y 198 (98, [l0, l1, l2, l3, l4, l5, l6, some (.int x)], st, h)) ∧ (∀ l0 l1 l3 l4 l5 l6 l7 x st h, zz_Y 198 (98, [l0, l1, some (.int x), l3, l4, l5, l6, l7], st, h) = zz_Y 198 (99, [l0, l1, some (.int x), l3, l4, l5, l6, l7], .int x :: st, h)) ∧ (∀ ls a st h, zz_Y 198 (99, ls, .int a :: st, h) = if a < nI 0 then zz_Y 198 (117, ls, st, h) else zz_Y 198 (102, ls, st, h)) ∧ (∀ l0 l1 l2 l3 l4 l5 l7 x st h, zz_Y 198 (102, [l0, l1, l2, l3, l4, l5, some (.int x), l7], st, h) = zz_Y 198 (104, [l0, l1, l2, l3, l4, l5, some (.int x), l7], .int x :: st, h)) ∧ (∀ l0 l1 l2 l3 l5 l6 l7 x st h, zz_Y 198 (104, [l0, l1, l2, l3, some (.int x), l5, l6, l7], st, h) = zz_Y 198 (106, [l0, l1, l2, l3, some (.int x), l5, l6, l7], .int x :: st, h)) ∧ (∀ ls a b st h, zz_Y 198 (106, ls, .int b :: .int a :: st, h) = zz_Y 198 (107, ls, .int (a * b) :: st, h)) ∧ (∀ l0 l1 l2 l4 l5 l6 l7 x st h, zz_Y 198 (107, [l0, l1, l2, some (.int x), l4, l5, l6, l7], st, h) = zz_Y 198 (108, [l0, l1, l2, some (.int x), l4, l5, l6, l7], .int x :: st, h)) ∧ (∀ l0 l1 l2 l3 l4 l5 l6 x st h, zz_Y 198 (108, [l0, l1, l2, l3, l4, l5, l6, some (.int x)], st, h) = zz_Y 198 (110, [l0, l1, l2, l3, l4, l5, l6, some (.int x)], .int x :: st, h)) ∧ (∀ ls a b st h, zz_Y 198 (110, ls, .int b :: .int a :: st, h) = zz_Y 198 (111, ls, .int (a * b) :: st, h)) :=
  ⟨fun _ _ _ _ _ _ _ _ _ _ => xl_aln d198_0 rfl,
   fun _ _ _ _ _ _ _ _ _ _ => xl_iln d198_1 rfl,
   fun ls a0 a1 h => xl_cv (As := [a0, a1]) (st := []) d198_2 xco198 xm_11_164 (congrArg Nat.succ xnp183) (by decide +kernel) rfl,
   fun _ _ _ _ => xl_ifne d198_5 rfl,
   fun _ _ _ => xl_ic d198_8 (by decide +kernel),
   fun _ _ _ => xl_iri d198_9 xrt198,
   fun _ _ _ => xl_ic d198_10 (by decide +kernel),
   fun _ _ _ _ _ _ _ _ _ _ _ hc => xl_isn d198_11 xml198 (by decide) (zz_nl_s1 hc),
   fun _ _ _ => xl_ic d198_12 (by decide +kernel),
   fun _ _ _ _ _ _ _ _ _ _ _ hc => xl_isn d198_13 xml198 (by decide) (zz_nl_s1 hc),
   fun _ _ _ => xl_ic d198_14 (by decide +kernel),
   fun _ _ _ _ _ _ _ _ _ _ _ hc => xl_is d198_15 xml198 (by decide) (zz_nl_s1 hc),
   fun _ _ _ _ _ _ _ _ _ _ => xl_aln d198_17 rfl,
   fun _ _ _ _ _ _ _ _ _ _ => xl_aln d198_18 rfl,
   fun _ _ _ _ => xl_gf d198_19 xco198 xf_11_24,
   fun _ _ _ _ _ _ _ _ _ _ => xl_iln d198_22 rfl,
   fun ls a0 a1 a2 h => xl_cv (As := [a0, a1, a2]) (st := []) d198_23 xco198 xm_11_96 (congrArg Nat.succ xnp156) (by decide +kernel) rfl,
   fun _ _ _ => xl_ic d198_26 (by decide +kernel),
   fun _ _ _ _ _ _ _ _ _ _ _ hc => xl_is d198_27 xml198 (by decide) (zz_nl_s1 hc),
   fun _ _ _ _ _ _ _ _ _ _ => xl_aln d198_31 rfl,
   fun _ _ _ _ => xl_gf d198_32 xco198 xf_11_7,
   fun _ _ _ => xl_ic d198_35 (by decide +kernel),
   fun _ _ _ _ _ => xl_ia d198_36,
   fun _ _ _ _ _ => xl_icge d198_37 rfl,
   fun _ _ _ _ _ _ _ _ _ _ => xl_il d198_40 rfl,
   fun _ _ _ _ _ _ _ _ _ _ => xl_iln d198_42 rfl,
   fun _ _ _ _ _ => xl_icne d198_43 rfl,
   fun _ _ _ => xl_goto d198_46 rfl,
   fun _ _ _ _ _ _ _ _ _ _ => xl_aln d198_49 rfl,
   fun _ _ _ _ _ _ _ _ _ _ => xl_aln d198_50 rfl,
   fun _ _ _ _ => xl_gf d198_51 xco198 xf_11_27,
   fun _ _ _ _ _ _ _ _ _ _ => xl_il d198_54 rfl,
   fun ls a0 a1 a2 h => xl_cv (As := [a0, a1, a2]) (st := []) d198_56 xco198 xm_11_96 (congrArg Nat.succ xnp156) (by decide +kernel) rfl,
   fun _ _ _ _ _ _ _ _ _ _ => xl_aln d198_59 rfl,
   fun ls a0 h => xl_cv (As := [a0]) (st := []) d198_60 xco198 xm_11_177 (congrArg Nat.succ xnp196) (by decide +kernel) rfl,
   fun _ _ _ _ _ _ _ _ _ _ _ hc => xl_is d198_63 xml198 (by decide) (zz_nl_s1 hc),
   fun _ _ _ _ _ _ _ _ _ _ => xl_aln d198_65 rfl,
   fun _ _ _ _ => xl_gf d198_66 xco198 xf_11_24,
   fun ls a0 h => xl_cs (As := [a0]) (st := []) d198_69 xco198 xm_11_109 xnp172 (by decide +kernel) rfl,
   fun _ _ _ _ _ _ _ _ _ _ => xl_aln d198_72 rfl,
   fun _ _ _ _ => xl_gf d198_73 xco198 xf_11_27,
   fun ls a0 s0 h => xl_cs (As := [a0]) (st := [s0]) d198_76 xco198 xm_11_109 xnp172 (by decide +kernel) rfl,
   fun _ _ _ _ _ => xl_iadd d198_79,
   fun _ _ _ _ _ _ _ _ _ _ => xl_il d198_80 rfl,
   fun _ _ _ _ _ => xl_isub d198_82,
   fun _ _ _ _ _ _ _ _ _ _ _ hc => xl_is d198_83 xml198 (by decide) (zz_nl_s1 hc),
   fun _ _ _ _ _ _ _ _ _ _ => xl_il d198_85 rfl,
   fun _ _ _ _ => xl_ifne d198_87 rfl,
   fun _ _ _ => xl_ic d198_90 (by decide +kernel),
   fun _ _ _ => xl_goto d198_91 rfl,
   fun _ _ _ _ _ _ _ _ _ _ => xl_il d198_94 rfl,
   fun _ _ _ _ _ _ _ _ _ _ _ hc => xl_is d198_96 xml198 (by decide) (zz_nl_s1 hc),
   fun _ _ _ _ _ _ _ _ _ _ => xl_iln d198_98 rfl,
   fun _ _ _ _ => xl_iflt d198_99 rfl,
   fun _ _ _ _ _ _ _ _ _ _ => xl_il d198_102 rfl,
   fun _ _ _ _ _ _ _ _ _ _ => xl_il d198_104 rfl,
   fun _ _ _ _ _ => xl_imul d198_106,
   fun _ _ _ _ _ _ _ _ _ _ => xl_iln d198_107 rfl,
   fun _ _ _ _ _ _ _ _ _ _ => xl_il d198_108 rfl,
   fun _ _ _ _ _ => xl_imul d198_110⟩
theorem x198_p1 : (∀ ls a b st h, zz_Y 198 (111, ls, .int b :: .int a :: st, h) = if b < a then zz_Y 198 (117, ls, st, h) else zz_Y 198 (114, ls, st, h)) ∧ (∀ ls st h, zz_Y 198 (114, ls, st, h) = zz_Y 198 (127, ls, st, h)) ∧ (∀ l0 l1 l2 l3 l4 l6 l7 x st h, zz_Y 198 (117, [l0, l1, l2, l3, l4, some (.int x), l6, l7], st, h) = zz_Y 198 (119, [l0, l1, l2, l3, l4, some (.int x), l6, l7], .int x :: st, h)) ∧ (∀ l0 l1 l2 l3 l4 l5 l6 l7 x st h, zz_nl l1 = true → zz_Y 198 (119, [l0, l1, l2, l3, l4, l5, l6, l7], .int x :: st, h) = zz_Y 198 (120, [l0, l1, some (.int x), l3, l4, l5, l6, l7], st, h)) ∧ (∀ l0 l1 l2 l3 l4 l5 l7 x st h, zz_Y 198 (120, [l0, l1, l2, l3, l4, l5, some (.int x), l7], st, h) = zz_Y 198 (122, [l0, l1, l2, l3, l4, l5, some (.int x), l7], .int x :: st, h)) ∧ (∀ l0 l1 l2 l3 l4 l5 l6 l7 x st h, zz_nl l2 = true → zz_Y 198 (122, [l0, l1, l2, l3, l4, l5, l6, l7], .int x :: st, h) = zz_Y 198 (123, [l0, l1, l2, some (.int x), l4, l5, l6, l7], st, h)) ∧ (∀ l0 l1 l2 l3 l4 l5 l6 x st h, zz_Y 198 (123, [l0, l1, l2, l3, l4, l5, l6, some (.int x)], st, h) = zz_Y 198 (125, [l0, l1, l2, l3, l4, l5, l6, some (.int x)], .int x :: st, h)) ∧ (∀ l0 l1 l2 l3 l4 l5 l6 l7 x st h, zz_nl l3 = true → zz_Y 198 (125, [l0, l1, l2, l3, l4, l5, l6, l7], .int x :: st, h) = zz_Y 198 (127, [l0, l1, l2, l3, some (.int x), l5, l6, l7], st, h)) ∧ (∀ l0 l1 l2 l3 l4 l6 l7 x st h, zz_nl l4 = true → zz_Y 198 (127, [l0, l1, l2, l3, l4, some (.int x), l6, l7], st, h) = zz_Y 198 (130, [l0, l1, l2, l3, l4, some (.int (x + nI 1)), l6, l7], st, h)) ∧ (∀ ls st h, zz_Y 198 (130, ls, st, h) = zz_Y 198 (29, ls, st, h)) ∧ (∀ l0 l1 l3 l4 l5 l6 l7 x st h, zz_Y 198 (133, [l0, l1, some (.int x), l3, l4, l5, l6, l7], st, h) = zz_Y 198 (134, [l0, l1, some (.int x), l3, l4, l5, l6, l7], .int x :: st, h)) ∧ (∀ ls v h, zz_Y 198 (134, ls, [.int v], h) = some (some (.int v), h)) :=
  ⟨fun _ _ _ _ _ => xl_icgt d198_111 rfl,
   fun _ _ _ => xl_goto d198_114 rfl,
   fun _ _ _ _ _ _ _ _ _ _ => xl_il d198_117 rfl,
   fun _ _ _ _ _ _ _ _ _ _ _ hc => xl_isn d198_119 xml198 (by decide) (zz_nl_s1 hc),
   fun _ _ _ _ _ _ _ _ _ _ => xl_il d198_120 rfl,
   fun _ _ _ _ _ _ _ _ _ _ _ hc => xl_isn d198_122 xml198 (by decide) (zz_nl_s1 hc),
   fun _ _ _ _ _ _ _ _ _ _ => xl_il d198_123 rfl,
   fun _ _ _ _ _ _ _ _ _ _ _ hc => xl_is d198_125 xml198 (by decide) (zz_nl_s1 hc),
   fun _ _ _ _ _ _ _ _ _ _ hc => xl_inc d198_127 xml198 (by decide) rfl (by decide +kernel) (zz_nl_s1 hc),
   fun _ _ _ => xl_goto d198_130 rfl,
   fun _ _ _ _ _ _ _ _ _ _ => xl_iln d198_133 rfl,
   fun _ _ _ => xl_iri d198_134 xrt198⟩
theorem x198_c29 : ∀ l0 l1 l2 l3 l4 l6 l7 x st h, zz_Y 198 (29, [l0, l1, l2, l3, l4, some (.int x), l6, l7], st, h) = zz_Y 198 (31, [l0, l1, l2, l3, l4, some (.int x), l6, l7], .int x :: st, h) := fun _ _ _ _ _ _ _ _ _ _ => xl_il d198_29 rfl
/-! 199 FacetSieveModel.named(II)I -/
theorem d199_0 : decode (zz_c 199) 0 = .ok (.aload_n 0, 1) := by decide +kernel
theorem d199_1 : decode (zz_c 199) 1 = .ok (.iload_n 1, 1) := by decide +kernel
theorem d199_2 : decode (zz_c 199) 2 = .ok (.invokevirtual 170, 3) := by decide +kernel
theorem d199_5 : decode (zz_c 199) 5 = .ok (.ifCond .ne 6, 3) := by decide +kernel
theorem d199_8 : decode (zz_c 199) 8 = .ok (.bipush (-2), 2) := by decide +kernel
theorem d199_10 : decode (zz_c 199) 10 = .ok (.ireturn, 1) := by decide +kernel
theorem d199_11 : decode (zz_c 199) 11 = .ok (.iconst 0, 1) := by decide +kernel
theorem d199_12 : decode (zz_c 199) 12 = .ok (.istore_n 3, 1) := by decide +kernel
theorem d199_13 : decode (zz_c 199) 13 = .ok (.iload_n 3, 1) := by decide +kernel
theorem d199_14 : decode (zz_c 199) 14 = .ok (.iconst 3, 1) := by decide +kernel
theorem d199_15 : decode (zz_c 199) 15 = .ok (.if_icmp .gt 102, 3) := by decide +kernel
theorem d199_18 : decode (zz_c 199) 18 = .ok (.iload_n 3, 1) := by decide +kernel
theorem d199_19 : decode (zz_c 199) 19 = .ok (.aload_n 0, 1) := by decide +kernel
theorem d199_20 : decode (zz_c 199) 20 = .ok (.getfield 7, 3) := by decide +kernel
theorem d199_23 : decode (zz_c 199) 23 = .ok (.iconst 1, 1) := by decide +kernel
theorem d199_24 : decode (zz_c 199) 24 = .ok (.iaload, 1) := by decide +kernel
theorem d199_25 : decode (zz_c 199) 25 = .ok (.if_icmp .gt 92, 3) := by decide +kernel
theorem d199_28 : decode (zz_c 199) 28 = .ok (.iconst 0, 1) := by decide +kernel
theorem d199_29 : decode (zz_c 199) 29 = .ok (.istore 4, 2) := by decide +kernel
theorem d199_31 : decode (zz_c 199) 31 = .ok (.iload 4, 2) := by decide +kernel
theorem d199_33 : decode (zz_c 199) 33 = .ok (.iload_n 3, 1) := by decide +kernel
theorem d199_34 : decode (zz_c 199) 34 = .ok (.if_icmp .ge 18, 3) := by decide +kernel
theorem d199_37 : decode (zz_c 199) 37 = .ok (.aload_n 0, 1) := by decide +kernel
theorem d199_38 : decode (zz_c 199) 38 = .ok (.getfield 36, 3) := by decide +kernel
theorem d199_41 : decode (zz_c 199) 41 = .ok (.iload 4, 2) := by decide +kernel
theorem d199_43 : decode (zz_c 199) 43 = .ok (.iload 4, 2) := by decide +kernel
theorem d199_45 : decode (zz_c 199) 45 = .ok (.iastore, 1) := by decide +kernel
theorem d199_46 : decode (zz_c 199) 46 = .ok (.iinc 4 1, 3) := by decide +kernel
theorem d199_49 : decode (zz_c 199) 49 = .ok (.goto (-18), 3) := by decide +kernel
theorem d199_52 : decode (zz_c 199) 52 = .ok (.iconst 1, 1) := by decide +kernel
theorem d199_53 : decode (zz_c 199) 53 = .ok (.istore 4, 2) := by decide +kernel
theorem d199_55 : decode (zz_c 199) 55 = .ok (.iload 4, 2) := by decide +kernel
theorem d199_57 : decode (zz_c 199) 57 = .ok (.ifCond .eq 54, 3) := by decide +kernel
theorem d199_60 : decode (zz_c 199) 60 = .ok (.aload_n 0, 1) := by decide +kernel
theorem d199_61 : decode (zz_c 199) 61 = .ok (.iload_n 1, 1) := by decide +kernel
theorem d199_62 : decode (zz_c 199) 62 = .ok (.iload_n 3, 1) := by decide +kernel
theorem d199_63 : decode (zz_c 199) 63 = .ok (.invokevirtual 184, 3) := by decide +kernel
theorem d199_66 : decode (zz_c 199) 66 = .ok (.ifCond .eq 35, 3) := by decide +kernel
theorem d199_69 : decode (zz_c 199) 69 = .ok (.iload_n 2, 1) := by decide +kernel
theorem d199_70 : decode (zz_c 199) 70 = .ok (.iconst (-1), 1) := by decide +kernel
theorem d199_71 : decode (zz_c 199) 71 = .ok (.if_icmp .ne 7, 3) := by decide +kernel
theorem d199_74 : decode (zz_c 199) 74 = .ok (.iload_n 3, 1) := by decide +kernel
theorem d199_75 : decode (zz_c 199) 75 = .ok (.goto 25, 3) := by decide +kernel
theorem d199_78 : decode (zz_c 199) 78 = .ok (.iload_n 2, 1) := by decide +kernel
theorem d199_79 : decode (zz_c 199) 79 = .ok (.iconst 0, 1) := by decide +kernel
theorem d199_80 : decode (zz_c 199) 80 = .ok (.iload_n 3, 1) := by decide +kernel
theorem d199_81 : decode (zz_c 199) 81 = .ok (.iconst 1, 1) := by decide +kernel
theorem d199_82 : decode (zz_c 199) 82 = .ok (.isub, 1) := by decide +kernel
theorem d199_83 : decode (zz_c 199) 83 = .ok (.invokestatic 57, 3) := by decide +kernel
theorem d199_86 : decode (zz_c 199) 86 = .ok (.ifCond .eq 12, 3) := by decide +kernel
theorem d199_89 : decode (zz_c 199) 89 = .ok (.aload_n 0, 1) := by decide +kernel
theorem d199_90 : decode (zz_c 199) 90 = .ok (.getfield 36, 3) := by decide +kernel
theorem d199_93 : decode (zz_c 199) 93 = .ok (.iload_n 2, 1) := by decide +kernel
theorem d199_94 : decode (zz_c 199) 94 = .ok (.iaload, 1) := by decide +kernel
theorem d199_95 : decode (zz_c 199) 95 = .ok (.goto 5, 3) := by decide +kernel
theorem d199_98 : decode (zz_c 199) 98 = .ok (.bipush (-2), 2) := by decide +kernel
theorem d199_100 : decode (zz_c 199) 100 = .ok (.ireturn, 1) := by decide +kernel
theorem d199_101 : decode (zz_c 199) 101 = .ok (.aload_n 0, 1) := by decide +kernel
theorem d199_102 : decode (zz_c 199) 102 = .ok (.iload_n 3, 1) := by decide +kernel
theorem d199_103 : decode (zz_c 199) 103 = .ok (.invokevirtual 187, 3) := by decide +kernel
theorem d199_106 : decode (zz_c 199) 106 = .ok (.istore 4, 2) := by decide +kernel
theorem d199_108 : decode (zz_c 199) 108 = .ok (.goto (-53), 3) := by decide +kernel
theorem d199_111 : decode (zz_c 199) 111 = .ok (.iinc 3 1, 3) := by decide +kernel
theorem d199_114 : decode (zz_c 199) 114 = .ok (.goto (-101), 3) := by decide +kernel
theorem d199_117 : decode (zz_c 199) 117 = .ok (.bipush (-2), 2) := by decide +kernel
theorem d199_119 : decode (zz_c 199) 119 = .ok (.ireturn, 1) := by decide +kernel
theorem x199_p0 : (∀ l1 l2 l3 l4 x st h, zz_Y 199 (0, [some (.ref x), l1, l2, l3, l4], st, h) = zz_Y 199 (1, [some (.ref x), l1, l2, l3, l4], .ref x :: st, h)) ∧ (∀ l0 l2 l3 l4 x st h, zz_Y 199 (1, [l0, some (.int x), l2, l3, l4], st, h) = zz_Y 199 (2, [l0, some (.int x), l2, l3, l4], .int x :: st, h)) ∧ (∀ ls a0 a1 h, zz_Y 199 (2, ls, [a1, a0], h) = mo_k 199 5 ls [] (zz_run 187 [a0, a1] h)) ∧ (∀ ls a st h, zz_Y 199 (5, ls, .int a :: st, h) = if a = nI 0 then zz_Y 199 (8, ls, st, h) else zz_Y 199 (11, ls, st, h)) ∧ (∀ ls st h, zz_Y 199 (8, ls, st, h) = zz_Y 199 (10, ls, .int (-2) :: st, h)) ∧ (∀ ls v h, zz_Y 199 (10, ls, [.int v], h) = some (some (.int v), h)) ∧ (∀ ls st h, zz_Y 199 (11, ls, st, h) = zz_Y 199 (12, ls, .int (nI 0) :: st, h)) ∧ (∀ l0 l1 l2 l3 l4 x st h, zz_nl l2 = true → zz_Y 199 (12, [l0, l1, l2, l3, l4], .int x :: st, h) = zz_Y 199 (13, [l0, l1, l2, some (.int x), l4], st, h)) ∧ (∀ ls st h, zz_Y 199 (14, ls, st, h) = zz_Y 199 (15, ls, .int (nI 3) :: st, h)) ∧ (∀ ls a b st h, zz_Y 199 (15, ls, .int b :: .int a :: st, h) = if b < a then zz_Y 199 (117, ls, st, h) else zz_Y 199 (18, ls, st, h)) ∧ (∀ l0 l1 l2 l4 x st h, zz_Y 199 (18, [l0, l1, l2, some (.int x), l4], st, h) = zz_Y 199 (19, [l0, l1, l2, some (.int x), l4], .int x :: st, h)) ∧ (∀ l1 l2 l3 l4 x st h, zz_Y 199 (19, [some (.ref x), l1, l2, l3, l4], st, h) = zz_Y 199 (20, [some (.ref x), l1, l2, l3, l4], .ref x :: st, h)) ∧ (∀ ls a st h, zz_Y 199 (20, ls, .ref a :: st, h) = mo_gf (hp_g h a) 11 0 199 23 ls st h) ∧ (∀ ls st h, zz_Y 199 (23, ls, st, h) = zz_Y 199 (24, ls, .int (nI 1) :: st, h)) ∧ (∀ ls a i st h, zz_Y 199 (24, ls, .int i :: .ref a :: st, h) = mo_ia (hp_g h a) i a 199 25 ls st h) ∧ (∀ ls a b st h, zz_Y 199 (25, ls, .int b :: .int a :: st, h) = if b < a then zz_Y 199 (117, ls, st, h) else zz_Y 199 (28, ls, st, h)) ∧ (∀ ls st h, zz_Y 199 (28, ls, st, h) = zz_Y 199 (29, ls, .int (nI 0) :: st, h)) ∧ (∀ l0 l1 l2 l3 l4 x st h, zz_nl l3 = true → zz_Y 199 (29, [l0, l1, l2, l3, l4], .int x :: st, h) = zz_Y 199 (31, [l0, l1, l2, l3, some (.int x)], st, h)) ∧ (∀ l0 l1 l2 l4 x st h, zz_Y 199 (33, [l0, l1, l2, some (.int x), l4], st, h) = zz_Y 199 (34, [l0, l1, l2, some (.int x), l4], .int x :: st, h)) ∧ (∀ ls a b st h, zz_Y 199 (34, ls, .int b :: .int a :: st, h) = if a < b then zz_Y 199 (37, ls, st, h) else zz_Y 199 (52, ls, st, h)) ∧ (∀ l1 l2 l3 l4 x st h, zz_Y 199 (37, [some (.ref x), l1, l2, l3, l4], st, h) = zz_Y 199 (38, [some (.ref x), l1, l2, l3, l4], .ref x :: st, h)) ∧ (∀ ls a st h, zz_Y 199 (38, ls, .ref a :: st, h) = mo_gf (hp_g h a) 11 11 199 41 ls st h) ∧ (∀ l0 l1 l2 l3 x st h, zz_Y 199 (41, [l0, l1, l2, l3, some (.int x)], st, h) = zz_Y 199 (43, [l0, l1, l2, l3, some (.int x)], .int x :: st, h)) ∧ (∀ l0 l1 l2 l3 x st h, zz_Y 199 (43, [l0, l1, l2, l3, some (.int x)], st, h) = zz_Y 199 (45, [l0, l1, l2, l3, some (.int x)], .int x :: st, h)) ∧ (∀ ls a i x st h, zz_Y 199 (45, ls, .int x :: .int i :: .ref a :: st, h) = mo_is (hp_g h a) x i a 199 46 ls st h) ∧ (∀ l0 l1 l2 l3 x st h, zz_nl l3 = true → zz_Y 199 (46, [l0, l1, l2, l3, some (.int x)], st, h) = zz_Y 199 (49, [l0, l1, l2, l3, some (.int (x + nI 1))], st, h)) ∧ (∀ ls st h, zz_Y 199 (49, ls, st, h) = zz_Y 199 (31, ls, st, h)) ∧ (∀ ls st h, zz_Y 199 (52, ls, st, h) = zz_Y 199 (53, ls, .int (nI 1) :: st, h)) ∧ (∀ l0 l1 l2 l3 l4 x st h, zz_nl l3 = true → zz_Y 199 (53, [l0, l1, l2, l3, l4], .int x :: st, h) = zz_Y 199 (55, [l0, l1, l2, l3, some (.int x)], st, h)) ∧ (∀ ls a st h, zz_Y 199 (57, ls, .int a :: st, h) = if a = nI 0 then zz_Y 199 (111, ls, st, h) else zz_Y 199 (60, ls, st, h)) ∧ (∀ l1 l2 l3 l4 x st h, zz_Y 199 (60, [some (.ref x), l1, l2, l3, l4], st, h) = zz_Y 199 (61, [some (.ref x), l1, l2, l3, l4], .ref x :: st, h)) ∧ (∀ l0 l2 l3 l4 x st h, zz_Y 199 (61, [l0, some (.int x), l2, l3, l4], st, h) = zz_Y 199 (62, [l0, some (.int x), l2, l3, l4], .int x :: st, h)) ∧ (∀ l0 l1 l2 l4 x st h, zz_Y 199 (62, [l0, l1, l2, some (.int x), l4], st, h) = zz_Y 199 (63, [l0, l1, l2, some (.int x), l4], .int x :: st, h)) ∧ (∀ ls a0 a1 a2 h, zz_Y 199 (63, ls, [a2, a1, a0], h) = mo_k 199 66 ls [] (zz_run 200 [a0, a1, a2] h)) ∧ (∀ ls a st h, zz_Y 199 (66, ls, .int a :: st, h) = if a = nI 0 then zz_Y 199 (101, ls, st, h) else zz_Y 199 (69, ls, st, h)) ∧ (∀ l0 l1 l3 l4 x st h, zz_Y 199 (69, [l0, l1, some (.int x), l3, l4], st, h) = zz_Y 199 (70, [l0, l1, some (.int x), l3, l4], .int x :: st, h)) ∧ (∀ ls st h, zz_Y 199 (70, ls, st, h) = zz_Y 199 (71, ls, .int (-1) :: st, h)) ∧ (∀ ls a b st h, zz_Y 199 (71, ls, .int b :: .int a :: st, h) = if a = b then zz_Y 199 (74, ls, st, h) else zz_Y 199 (78, ls, st, h)) ∧ (∀ l0 l1 l2 l4 x st h, zz_Y 199 (74, [l0, l1, l2, some (.int x), l4], st, h) = zz_Y 199 (75, [l0, l1, l2, some (.int x), l4], .int x :: st, h)) ∧ (∀ ls st h, zz_Y 199 (75, ls, st, h) = zz_Y 199 (100, ls, st, h)) ∧ (∀ l0 l1 l3 l4 x st h, zz_Y 199 (78, [l0, l1, some (.int x), l3, l4], st, h) = zz_Y 199 (79, [l0, l1, some (.int x), l3, l4], .int x :: st, h)) ∧ (∀ ls st h, zz_Y 199 (79, ls, st, h) = zz_Y 199 (80, ls, .int (nI 0) :: st, h)) ∧ (∀ l0 l1 l2 l4 x st h, zz_Y 199 (80, [l0, l1, l2, some (.int x), l4], st, h) = zz_Y 199 (81, [l0, l1, l2, some (.int x), l4], .int x :: st, h)) ∧ (∀ ls st h, zz_Y 199 (81, ls, st, h) = zz_Y 199 (82, ls, .int (nI 1) :: st, h)) ∧ (∀ ls a b st h, zz_Y 199 (82, ls, .int b :: .int a :: st, h) = zz_Y 199 (83, ls, .int (a - b) :: st, h)) ∧ (∀ ls a0 a1 a2 h, zz_Y 199 (83, ls, [a2, a1, a0], h) = mo_k 199 86 ls [] (zz_run 154 [a0, a1, a2] h)) ∧ (∀ ls a st h, zz_Y 199 (86, ls, .int a :: st, h) = if a = nI 0 then zz_Y 199 (98, ls, st, h) else zz_Y 199 (89, ls, st, h)) ∧ (∀ l1 l2 l3 l4 x st h, zz_Y 199 (89, [some (.ref x), l1, l2, l3, l4], st, h) = zz_Y 199 (90, [some (.ref x), l1, l2, l3, l4], .ref x :: st, h)) ∧ (∀ ls a st h, zz_Y 199 (90, ls, .ref a :: st, h) = mo_gf (hp_g h a) 11 11 199 93 ls st h) ∧ (∀ l0 l1 l3 l4 x st h, zz_Y 199 (93, [l0, l1, some (.int x), l3, l4], st, h) = zz_Y 199 (94, [l0, l1, some (.int x), l3, l4], .int x :: st, h)) ∧ (∀ ls a i st h, zz_Y 199 (94, ls, .int i :: .ref a :: st, h) = mo_ia (hp_g h a) i a 199 95 ls st h) ∧ (∀ ls st h, zz_Y 199 (95, ls, st, h) = zz_Y 199 (100, ls, st, h)) ∧ (∀ ls st h, zz_Y 199 (98, ls, st, h) = zz_Y 199 (100, ls, .int (-2) :: st, h)) ∧ (∀ ls v h, zz_Y 199 (100, ls, [.int v], h) = some (some (.int v), h)) ∧ (∀ l1 l2 l3 l4 x st h, zz_Y 199 (101, [some (.ref x), l1, l2, l3, l4], st, h) = zz_Y 199 (102, [some (.ref x), l1, l2, l3, l4], .ref x :: st, h)) ∧ (∀ l0 l1 l2 l4 x st h, zz_Y 199 (102, [l0, l1, l2, some (.int x), l4], st, h) = zz_Y 199 (103, [l0, l1, l2, some (.int x), l4], .int x :: st, h)) ∧ (∀ ls a0 a1 h, zz_Y 199 (103, ls, [a1, a0], h) = mo_k 199 106 ls [] (zz_run 201 [a0, a1] h)) ∧ (∀ l0 l1 l2 l3 l4 x st h, zz_nl l3 = true → zz_Y 199 (106, [l0, l1, l2, l3, l4], .int x :: st, h) = zz_Y 199 (108, [l0, l1, l2, l3, some (.int x)], st, h)) ∧ (∀ ls st h, zz_Y 199 (108, ls, st, h) = zz_Y 199 (55, ls, st, h)) ∧ (∀ l0 l1 l2 l4 x st h, zz_nl l2 = true → zz_Y 199 (111, [l0, l1, l2, some (.int x), l4], st, h) = zz_Y 199 (114, [l0, l1, l2, some (.int (x + nI 1)), l4], st, h)) :=
  ⟨fun _ _ _ _ _ _ _ => xl_aln d199_0 rfl,
   fun _ _ _ _ _ _ _ => xl_iln d199_1 rfl,
   fun ls a0 a1 h => xl_cv (As := [a0, a1]) (st := []) d199_2 xco199 xm_11_170 (congrArg Nat.succ xnp187) (by decide +kernel) rfl,
   fun _ _ _ _ => xl_ifne d199_5 rfl,
   fun _ _ _ => xl_bi d199_8 (by decide +kernel),
   fun _ _ _ => xl_iri d199_10 xrt199,
   fun _ _ _ => xl_ic d199_11 (by decide +kernel),
   fun _ _ _ _ _ _ _ _ hc => xl_isn d199_12 xml199 (by decide) (zz_nl_s1 hc),
   fun _ _ _ => xl_ic d199_14 (by decide +kernel),
   fun _ _ _ _ _ => xl_icgt d199_15 rfl,
   fun _ _ _ _ _ _ _ => xl_iln d199_18 rfl,
   fun _ _ _ _ _ _ _ => xl_aln d199_19 rfl,
   fun _ _ _ _ => xl_gf d199_20 xco199 xf_11_7,
   fun _ _ _ => xl_ic d199_23 (by decide +kernel),
   fun _ _ _ _ _ => xl_ia d199_24,
   fun _ _ _ _ _ => xl_icgt d199_25 rfl,
   fun _ _ _ => xl_ic d199_28 (by decide +kernel),
   fun _ _ _ _ _ _ _ _ hc => xl_is d199_29 xml199 (by decide) (zz_nl_s1 hc),
   fun _ _ _ _ _ _ _ => xl_iln d199_33 rfl,
   fun _ _ _ _ _ => xl_icge d199_34 rfl,
   fun _ _ _ _ _ _ _ => xl_aln d199_37 rfl,
   fun _ _ _ _ => xl_gf d199_38 xco199 xf_11_36,
   fun _ _ _ _ _ _ _ => xl_il d199_41 rfl,
   fun _ _ _ _ _ _ _ => xl_il d199_43 rfl,
   fun _ _ _ _ _ _ => xl_ist d199_45,
   fun _ _ _ _ _ _ _ hc => xl_inc d199_46 xml199 (by decide) rfl (by decide +kernel) (zz_nl_s1 hc),
   fun _ _ _ => xl_goto d199_49 rfl,
   fun _ _ _ => xl_ic d199_52 (by decide +kernel),
   fun _ _ _ _ _ _ _ _ hc => xl_is d199_53 xml199 (by decide) (zz_nl_s1 hc),
   fun _ _ _ _ => xl_ifeq d199_57 rfl,
   fun _ _ _ _ _ _ _ => xl_aln d199_60 rfl,
   fun _ _ _ _ _ _ _ => xl_iln d199_61 rfl,
   fun _ _ _ _ _ _ _ => xl_iln d199_62 rfl,
   fun ls a0 a1 a2 h => xl_cv (As := [a0, a1, a2]) (st := []) d199_63 xco199 xm_11_184 (congrArg Nat.succ xnp200) (by decide +kernel) rfl,
   fun _ _ _ _ => xl_ifeq d199_66 rfl,
   fun _ _ _ _ _ _ _ => xl_iln d199_69 rfl,
   fun _ _ _ => xl_ic d199_70 (by decide +kernel),
   fun _ _ _ _ _ => xl_icne d199_71 rfl,
   fun _ _ _ _ _ _ _ => xl_iln d199_74 rfl,
   fun _ _ _ => xl_goto d199_75 rfl,
   fun _ _ _ _ _ _ _ => xl_iln d199_78 rfl,
   fun _ _ _ => xl_ic d199_79 (by decide +kernel),
   fun _ _ _ _ _ _ _ => xl_iln d199_80 rfl,
   fun _ _ _ => xl_ic d199_81 (by decide +kernel),
   fun _ _ _ _ _ => xl_isub d199_82,
   fun ls a0 a1 a2 h => xl_cs (As := [a0, a1, a2]) (st := []) d199_83 xco199 xm_11_57 xnp154 (by decide +kernel) rfl,
   fun _ _ _ _ => xl_ifeq d199_86 rfl,
   fun _ _ _ _ _ _ _ => xl_aln d199_89 rfl,
   fun _ _ _ _ => xl_gf d199_90 xco199 xf_11_36,
   fun _ _ _ _ _ _ _ => xl_iln d199_93 rfl,
   fun _ _ _ _ _ => xl_ia d199_94,
   fun _ _ _ => xl_goto d199_95 rfl,
   fun _ _ _ => xl_bi d199_98 (by decide +kernel),
   fun _ _ _ => xl_iri d199_100 xrt199,
   fun _ _ _ _ _ _ _ => xl_aln d199_101 rfl,
   fun _ _ _ _ _ _ _ => xl_iln d199_102 rfl,
   fun ls a0 a1 h => xl_cv (As := [a0, a1]) (st := []) d199_103 xco199 xm_11_187 (congrArg Nat.succ xnp201) (by decide +kernel) rfl,
   fun _ _ _ _ _ _ _ _ hc => xl_is d199_106 xml199 (by decide) (zz_nl_s1 hc),
   fun _ _ _ => xl_goto d199_108 rfl,
   fun _ _ _ _ _ _ _ hc => xl_inc d199_111 xml199 (by decide) rfl (by decide +kernel) (zz_nl_s1 hc)⟩
theorem x199_p1 : (∀ ls st h, zz_Y 199 (114, ls, st, h) = zz_Y 199 (13, ls, st, h)) ∧ (∀ ls st h, zz_Y 199 (117, ls, st, h) = zz_Y 199 (119, ls, .int (-2) :: st, h)) ∧ (∀ ls v h, zz_Y 199 (119, ls, [.int v], h) = some (some (.int v), h)) :=
  ⟨fun _ _ _ => xl_goto d199_114 rfl,
   fun _ _ _ => xl_bi d199_117 (by decide +kernel),
   fun _ _ _ => xl_iri d199_119 xrt199⟩
theorem x199_c13 : ∀ l0 l1 l2 l4 x st h, zz_Y 199 (13, [l0, l1, l2, some (.int x), l4], st, h) = zz_Y 199 (14, [l0, l1, l2, some (.int x), l4], .int x :: st, h) := fun _ _ _ _ _ _ _ => xl_iln d199_13 rfl
theorem x199_c31 : ∀ l0 l1 l2 l3 x st h, zz_Y 199 (31, [l0, l1, l2, l3, some (.int x)], st, h) = zz_Y 199 (33, [l0, l1, l2, l3, some (.int x)], .int x :: st, h) := fun _ _ _ _ _ _ _ => xl_il d199_31 rfl
theorem x199_c55 : ∀ l0 l1 l2 l3 x st h, zz_Y 199 (55, [l0, l1, l2, l3, some (.int x)], st, h) = zz_Y 199 (57, [l0, l1, l2, l3, some (.int x)], .int x :: st, h) := fun _ _ _ _ _ _ _ => xl_il d199_55 rfl
/-! 200 FacetSieveModel.doName(II)Z -/
theorem d200_0 : decode (zz_c 200) 0 = .ok (.iconst 0, 1) := by decide +kernel
theorem d200_1 : decode (zz_c 200) 1 = .ok (.istore_n 3, 1) := by decide +kernel
theorem d200_2 : decode (zz_c 200) 2 = .ok (.iload_n 3, 1) := by decide +kernel
theorem d200_3 : decode (zz_c 200) 3 = .ok (.bipush 8, 2) := by decide +kernel
theorem d200_5 : decode (zz_c 200) 5 = .ok (.if_icmp .ge 25, 3) := by decide +kernel
theorem d200_8 : decode (zz_c 200) 8 = .ok (.aload_n 0, 1) := by decide +kernel
theorem d200_9 : decode (zz_c 200) 9 = .ok (.getfield 24, 3) := by decide +kernel
theorem d200_12 : decode (zz_c 200) 12 = .ok (.iload_n 3, 1) := by decide +kernel
theorem d200_13 : decode (zz_c 200) 13 = .ok (.aload_n 0, 1) := by decide +kernel
theorem d200_14 : decode (zz_c 200) 14 = .ok (.getfield 7, 3) := by decide +kernel
theorem d200_17 : decode (zz_c 200) 17 = .ok (.sipush 294, 3) := by decide +kernel
theorem d200_20 : decode (zz_c 200) 20 = .ok (.iload_n 3, 1) := by decide +kernel
theorem d200_21 : decode (zz_c 200) 21 = .ok (.iadd, 1) := by decide +kernel
theorem d200_22 : decode (zz_c 200) 22 = .ok (.iaload, 1) := by decide +kernel
theorem d200_23 : decode (zz_c 200) 23 = .ok (.iastore, 1) := by decide +kernel
theorem d200_24 : decode (zz_c 200) 24 = .ok (.iinc 3 1, 3) := by decide +kernel
theorem d200_27 : decode (zz_c 200) 27 = .ok (.goto (-25), 3) := by decide +kernel
theorem d200_30 : decode (zz_c 200) 30 = .ok (.iconst 0, 1) := by decide +kernel
theorem d200_31 : decode (zz_c 200) 31 = .ok (.istore_n 3, 1) := by decide +kernel
theorem d200_32 : decode (zz_c 200) 32 = .ok (.iload_n 3, 1) := by decide +kernel
theorem d200_33 : decode (zz_c 200) 33 = .ok (.iload_n 2, 1) := by decide +kernel
theorem d200_34 : decode (zz_c 200) 34 = .ok (.if_icmp .ge 56, 3) := by decide +kernel
theorem d200_37 : decode (zz_c 200) 37 = .ok (.aload_n 0, 1) := by decide +kernel
theorem d200_38 : decode (zz_c 200) 38 = .ok (.aload_n 0, 1) := by decide +kernel
theorem d200_39 : decode (zz_c 200) 39 = .ok (.getfield 27, 3) := by decide +kernel
theorem d200_42 : decode (zz_c 200) 42 = .ok (.aload_n 0, 1) := by decide +kernel
theorem d200_43 : decode (zz_c 200) 43 = .ok (.getfield 36, 3) := by decide +kernel
theorem d200_46 : decode (zz_c 200) 46 = .ok (.iload_n 3, 1) := by decide +kernel
theorem d200_47 : decode (zz_c 200) 47 = .ok (.iaload, 1) := by decide +kernel
theorem d200_48 : decode (zz_c 200) 48 = .ok (.invokevirtual 96, 3) := by decide +kernel
theorem d200_51 : decode (zz_c 200) 51 = .ok (.iconst 0, 1) := by decide +kernel
theorem d200_52 : decode (zz_c 200) 52 = .ok (.istore 4, 2) := by decide +kernel
theorem d200_54 : decode (zz_c 200) 54 = .ok (.iload 4, 2) := by decide +kernel
theorem d200_56 : decode (zz_c 200) 56 = .ok (.bipush 8, 2) := by decide +kernel
theorem d200_58 : decode (zz_c 200) 58 = .ok (.if_icmp .ge 26, 3) := by decide +kernel
theorem d200_61 : decode (zz_c 200) 61 = .ok (.aload_n 0, 1) := by decide +kernel
theorem d200_62 : decode (zz_c 200) 62 = .ok (.getfield 24, 3) := by decide +kernel
theorem d200_65 : decode (zz_c 200) 65 = .ok (.iload 4, 2) := by decide +kernel
theorem d200_67 : decode (zz_c 200) 67 = .ok (.dup2, 1) := by decide +kernel
theorem d200_68 : decode (zz_c 200) 68 = .ok (.iaload, 1) := by decide +kernel
theorem d200_69 : decode (zz_c 200) 69 = .ok (.aload_n 0, 1) := by decide +kernel
theorem d200_70 : decode (zz_c 200) 70 = .ok (.getfield 27, 3) := by decide +kernel
theorem d200_73 : decode (zz_c 200) 73 = .ok (.iload 4, 2) := by decide +kernel
theorem d200_75 : decode (zz_c 200) 75 = .ok (.iaload, 1) := by decide +kernel
theorem d200_76 : decode (zz_c 200) 76 = .ok (.iand, 1) := by decide +kernel
theorem d200_77 : decode (zz_c 200) 77 = .ok (.iastore, 1) := by decide +kernel
theorem d200_78 : decode (zz_c 200) 78 = .ok (.iinc 4 1, 3) := by decide +kernel
theorem d200_81 : decode (zz_c 200) 81 = .ok (.goto (-27), 3) := by decide +kernel
theorem d200_84 : decode (zz_c 200) 84 = .ok (.iinc 3 1, 3) := by decide +kernel
theorem d200_87 : decode (zz_c 200) 87 = .ok (.goto (-55), 3) := by decide +kernel
theorem d200_90 : decode (zz_c 200) 90 = .ok (.aload_n 0, 1) := by decide +kernel
theorem d200_91 : decode (zz_c 200) 91 = .ok (.getfield 24, 3) := by decide +kernel
theorem d200_94 : decode (zz_c 200) 94 = .ok (.iload_n 1, 1) := by decide +kernel
theorem d200_95 : decode (zz_c 200) 95 = .ok (.invokestatic 73, 3) := by decide +kernel
theorem d200_98 : decode (zz_c 200) 98 = .ok (.ifCond .eq 18, 3) := by decide +kernel
theorem d200_101 : decode (zz_c 200) 101 = .ok (.aload_n 0, 1) := by decide +kernel
theorem d200_102 : decode (zz_c 200) 102 = .ok (.getfield 24, 3) := by decide +kernel
theorem d200_105 : decode (zz_c 200) 105 = .ok (.invokestatic 109, 3) := by decide +kernel
theorem d200_108 : decode (zz_c 200) 108 = .ok (.iconst 1, 1) := by decide +kernel
theorem d200_109 : decode (zz_c 200) 109 = .ok (.if_icmp .ne 7, 3) := by decide +kernel
theorem d200_112 : decode (zz_c 200) 112 = .ok (.iconst 1, 1) := by decide +kernel
theorem d200_113 : decode (zz_c 200) 113 = .ok (.goto 4, 3) := by decide +kernel
theorem d200_116 : decode (zz_c 200) 116 = .ok (.iconst 0, 1) := by decide +kernel
theorem d200_117 : decode (zz_c 200) 117 = .ok (.ireturn, 1) := by decide +kernel
theorem x200_p0 : (∀ ls st h, zz_Y 200 (0, ls, st, h) = zz_Y 200 (1, ls, .int (nI 0) :: st, h)) ∧ (∀ l0 l1 l2 l3 l4 x st h, zz_nl l2 = true → zz_Y 200 (1, [l0, l1, l2, l3, l4], .int x :: st, h) = zz_Y 200 (2, [l0, l1, l2, some (.int x), l4], st, h)) ∧ (∀ ls st h, zz_Y 200 (3, ls, st, h) = zz_Y 200 (5, ls, .int (nI 8) :: st, h)) ∧ (∀ ls a b st h, zz_Y 200 (5, ls, .int b :: .int a :: st, h) = if a < b then zz_Y 200 (8, ls, st, h) else zz_Y 200 (30, ls, st, h)) ∧ (∀ l1 l2 l3 l4 x st h, zz_Y 200 (8, [some (.ref x), l1, l2, l3, l4], st, h) = zz_Y 200 (9, [some (.ref x), l1, l2, l3, l4], .ref x :: st, h)) ∧ (∀ ls a st h, zz_Y 200 (9, ls, .ref a :: st, h) = mo_gf (hp_g h a) 11 7 200 12 ls st h) ∧ (∀ l0 l1 l2 l4 x st h, zz_Y 200 (12, [l0, l1, l2, some (.int x), l4], st, h) = zz_Y 200 (13, [l0, l1, l2, some (.int x), l4], .int x :: st, h)) ∧ (∀ l1 l2 l3 l4 x st h, zz_Y 200 (13, [some (.ref x), l1, l2, l3, l4], st, h) = zz_Y 200 (14, [some (.ref x), l1, l2, l3, l4], .ref x :: st, h)) ∧ (∀ ls a st h, zz_Y 200 (14, ls, .ref a :: st, h) = mo_gf (hp_g h a) 11 0 200 17 ls st h) ∧ (∀ ls st h, zz_Y 200 (17, ls, st, h) = zz_Y 200 (20, ls, .int (nI 294) :: st, h)) ∧ (∀ l0 l1 l2 l4 x st h, zz_Y 200 (20, [l0, l1, l2, some (.int x), l4], st, h) = zz_Y 200 (21, [l0, l1, l2, some (.int x), l4], .int x :: st, h)) ∧ (∀ ls a b st h, zz_Y 200 (21, ls, .int b :: .int a :: st, h) = zz_Y 200 (22, ls, .int (a + b) :: st, h)) ∧ (∀ ls a i st h, zz_Y 200 (22, ls, .int i :: .ref a :: st, h) = mo_ia (hp_g h a) i a 200 23 ls st h) ∧ (∀ ls a i x st h, zz_Y 200 (23, ls, .int x :: .int i :: .ref a :: st, h) = mo_is (hp_g h a) x i a 200 24 ls st h) ∧ (∀ l0 l1 l2 l4 x st h, zz_nl l2 = true → zz_Y 200 (24, [l0, l1, l2, some (.int x), l4], st, h) = zz_Y 200 (27, [l0, l1, l2, some (.int (x + nI 1)), l4], st, h)) ∧ (∀ ls st h, zz_Y 200 (27, ls, st, h) = zz_Y 200 (2, ls, st, h)) ∧ (∀ ls st h, zz_Y 200 (30, ls, st, h) = zz_Y 200 (31, ls, .int (nI 0) :: st, h)) ∧ (∀ l0 l1 l2 l3 l4 x st h, zz_nl l2 = true → zz_Y 200 (31, [l0, l1, l2, l3, l4], .int x :: st, h) = zz_Y 200 (32, [l0, l1, l2, some (.int x), l4], st, h)) ∧ (∀ l0 l1 l3 l4 x st h, zz_Y 200 (33, [l0, l1, some (.int x), l3, l4], st, h) = zz_Y 200 (34, [l0, l1, some (.int x), l3, l4], .int x :: st, h)) ∧ (∀ ls a b st h, zz_Y 200 (34, ls, .int b :: .int a :: st, h) = if a < b then zz_Y 200 (37, ls, st, h) else zz_Y 200 (90, ls, st, h)) ∧ (∀ l1 l2 l3 l4 x st h, zz_Y 200 (37, [some (.ref x), l1, l2, l3, l4], st, h) = zz_Y 200 (38, [some (.ref x), l1, l2, l3, l4], .ref x :: st, h)) ∧ (∀ l1 l2 l3 l4 x st h, zz_Y 200 (38, [some (.ref x), l1, l2, l3, l4], st, h) = zz_Y 200 (39, [some (.ref x), l1, l2, l3, l4], .ref x :: st, h)) ∧ (∀ ls a st h, zz_Y 200 (39, ls, .ref a :: st, h) = mo_gf (hp_g h a) 11 8 200 42 ls st h) ∧ (∀ l1 l2 l3 l4 x st h, zz_Y 200 (42, [some (.ref x), l1, l2, l3, l4], st, h) = zz_Y 200 (43, [some (.ref x), l1, l2, l3, l4], .ref x :: st, h)) ∧ (∀ ls a st h, zz_Y 200 (43, ls, .ref a :: st, h) = mo_gf (hp_g h a) 11 11 200 46 ls st h) ∧ (∀ l0 l1 l2 l4 x st h, zz_Y 200 (46, [l0, l1, l2, some (.int x), l4], st, h) = zz_Y 200 (47, [l0, l1, l2, some (.int x), l4], .int x :: st, h)) ∧ (∀ ls a i st h, zz_Y 200 (47, ls, .int i :: .ref a :: st, h) = mo_ia (hp_g h a) i a 200 48 ls st h) ∧ (∀ ls a0 a1 a2 h, zz_Y 200 (48, ls, [a2, a1, a0], h) = mo_k 200 51 ls [] (zz_run 156 [a0, a1, a2] h)) ∧ (∀ ls st h, zz_Y 200 (51, ls, st, h) = zz_Y 200 (52, ls, .int (nI 0) :: st, h)) ∧ (∀ l0 l1 l2 l3 l4 x st h, zz_nl l3 = true → zz_Y 200 (52, [l0, l1, l2, l3, l4], .int x :: st, h) = zz_Y 200 (54, [l0, l1, l2, l3, some (.int x)], st, h)) ∧ (∀ ls st h, zz_Y 200 (56, ls, st, h) = zz_Y 200 (58, ls, .int (nI 8) :: st, h)) ∧ (∀ ls a b st h, zz_Y 200 (58, ls, .int b :: .int a :: st, h) = if a < b then zz_Y 200 (61, ls, st, h) else zz_Y 200 (84, ls, st, h)) ∧ (∀ l1 l2 l3 l4 x st h, zz_Y 200 (61, [some (.ref x), l1, l2, l3, l4], st, h) = zz_Y 200 (62, [some (.ref x), l1, l2, l3, l4], .ref x :: st, h)) ∧ (∀ ls a st h, zz_Y 200 (62, ls, .ref a :: st, h) = mo_gf (hp_g h a) 11 7 200 65 ls st h) ∧ (∀ l0 l1 l2 l3 x st h, zz_Y 200 (65, [l0, l1, l2, l3, some (.int x)], st, h) = zz_Y 200 (67, [l0, l1, l2, l3, some (.int x)], .int x :: st, h)) ∧ (∀ ls a b st h, zz_Y 200 (67, ls, .int b :: .ref a :: st, h) = zz_Y 200 (68, ls, .int b :: .ref a :: .int b :: .ref a :: st, h)) ∧ (∀ ls a i st h, zz_Y 200 (68, ls, .int i :: .ref a :: st, h) = mo_ia (hp_g h a) i a 200 69 ls st h) ∧ (∀ l1 l2 l3 l4 x st h, zz_Y 200 (69, [some (.ref x), l1, l2, l3, l4], st, h) = zz_Y 200 (70, [some (.ref x), l1, l2, l3, l4], .ref x :: st, h)) ∧ (∀ ls a st h, zz_Y 200 (70, ls, .ref a :: st, h) = mo_gf (hp_g h a) 11 8 200 73 ls st h) ∧ (∀ l0 l1 l2 l3 x st h, zz_Y 200 (73, [l0, l1, l2, l3, some (.int x)], st, h) = zz_Y 200 (75, [l0, l1, l2, l3, some (.int x)], .int x :: st, h)) ∧ (∀ ls a i st h, zz_Y 200 (75, ls, .int i :: .ref a :: st, h) = mo_ia (hp_g h a) i a 200 76 ls st h) ∧ (∀ ls a b st h, zz_Y 200 (76, ls, .int b :: .int a :: st, h) = zz_Y 200 (77, ls, .int (a &&& b) :: st, h)) ∧ (∀ ls a i x st h, zz_Y 200 (77, ls, .int x :: .int i :: .ref a :: st, h) = mo_is (hp_g h a) x i a 200 78 ls st h) ∧ (∀ l0 l1 l2 l3 x st h, zz_nl l3 = true → zz_Y 200 (78, [l0, l1, l2, l3, some (.int x)], st, h) = zz_Y 200 (81, [l0, l1, l2, l3, some (.int (x + nI 1))], st, h)) ∧ (∀ ls st h, zz_Y 200 (81, ls, st, h) = zz_Y 200 (54, ls, st, h)) ∧ (∀ l0 l1 l2 l4 x st h, zz_nl l2 = true → zz_Y 200 (84, [l0, l1, l2, some (.int x), l4], st, h) = zz_Y 200 (87, [l0, l1, l2, some (.int (x + nI 1)), l4], st, h)) ∧ (∀ ls st h, zz_Y 200 (87, ls, st, h) = zz_Y 200 (32, ls, st, h)) ∧ (∀ l1 l2 l3 l4 x st h, zz_Y 200 (90, [some (.ref x), l1, l2, l3, l4], st, h) = zz_Y 200 (91, [some (.ref x), l1, l2, l3, l4], .ref x :: st, h)) ∧ (∀ ls a st h, zz_Y 200 (91, ls, .ref a :: st, h) = mo_gf (hp_g h a) 11 7 200 94 ls st h) ∧ (∀ l0 l2 l3 l4 x st h, zz_Y 200 (94, [l0, some (.int x), l2, l3, l4], st, h) = zz_Y 200 (95, [l0, some (.int x), l2, l3, l4], .int x :: st, h)) ∧ (∀ ls a0 a1 h, zz_Y 200 (95, ls, [a1, a0], h) = mo_k 200 98 ls [] (zz_run 190 [a0, a1] h)) ∧ (∀ ls a st h, zz_Y 200 (98, ls, .int a :: st, h) = if a = nI 0 then zz_Y 200 (116, ls, st, h) else zz_Y 200 (101, ls, st, h)) ∧ (∀ l1 l2 l3 l4 x st h, zz_Y 200 (101, [some (.ref x), l1, l2, l3, l4], st, h) = zz_Y 200 (102, [some (.ref x), l1, l2, l3, l4], .ref x :: st, h)) ∧ (∀ ls a st h, zz_Y 200 (102, ls, .ref a :: st, h) = mo_gf (hp_g h a) 11 7 200 105 ls st h) ∧ (∀ ls a0 h, zz_Y 200 (105, ls, [a0], h) = mo_k 200 108 ls [] (zz_run 172 [a0] h)) ∧ (∀ ls st h, zz_Y 200 (108, ls, st, h) = zz_Y 200 (109, ls, .int (nI 1) :: st, h)) ∧ (∀ ls a b st h, zz_Y 200 (109, ls, .int b :: .int a :: st, h) = if a = b then zz_Y 200 (112, ls, st, h) else zz_Y 200 (116, ls, st, h)) ∧ (∀ ls st h, zz_Y 200 (112, ls, st, h) = zz_Y 200 (113, ls, .int (nI 1) :: st, h)) ∧ (∀ ls st h, zz_Y 200 (113, ls, st, h) = zz_Y 200 (117, ls, st, h)) ∧ (∀ ls st h, zz_Y 200 (116, ls, st, h) = zz_Y 200 (117, ls, .int (nI 0) :: st, h)) :=
  ⟨fun _ _ _ => xl_ic d200_0 (by decide +kernel),
   fun _ _ _ _ _ _ _ _ hc => xl_isn d200_1 xml200 (by decide) (zz_nl_s1 hc),
   fun _ _ _ => xl_bi d200_3 (by decide +kernel),
   fun _ _ _ _ _ => xl_icge d200_5 rfl,
   fun _ _ _ _ _ _ _ => xl_aln d200_8 rfl,
   fun _ _ _ _ => xl_gf d200_9 xco200 xf_11_24,
   fun _ _ _ _ _ _ _ => xl_iln d200_12 rfl,
   fun _ _ _ _ _ _ _ => xl_aln d200_13 rfl,
   fun _ _ _ _ => xl_gf d200_14 xco200 xf_11_7,
   fun _ _ _ => xl_si d200_17 (by decide +kernel),
   fun _ _ _ _ _ _ _ => xl_iln d200_20 rfl,
   fun _ _ _ _ _ => xl_iadd d200_21,
   fun _ _ _ _ _ => xl_ia d200_22,
   fun _ _ _ _ _ _ => xl_ist d200_23,
   fun _ _ _ _ _ _ _ hc => xl_inc d200_24 xml200 (by decide) rfl (by decide +kernel) (zz_nl_s1 hc),
   fun _ _ _ => xl_goto d200_27 rfl,
   fun _ _ _ => xl_ic d200_30 (by decide +kernel),
   fun _ _ _ _ _ _ _ _ hc => xl_isn d200_31 xml200 (by decide) (zz_nl_s1 hc),
   fun _ _ _ _ _ _ _ => xl_iln d200_33 rfl,
   fun _ _ _ _ _ => xl_icge d200_34 rfl,
   fun _ _ _ _ _ _ _ => xl_aln d200_37 rfl,
   fun _ _ _ _ _ _ _ => xl_aln d200_38 rfl,
   fun _ _ _ _ => xl_gf d200_39 xco200 xf_11_27,
   fun _ _ _ _ _ _ _ => xl_aln d200_42 rfl,
   fun _ _ _ _ => xl_gf d200_43 xco200 xf_11_36,
   fun _ _ _ _ _ _ _ => xl_iln d200_46 rfl,
   fun _ _ _ _ _ => xl_ia d200_47,
   fun ls a0 a1 a2 h => xl_cv (As := [a0, a1, a2]) (st := []) d200_48 xco200 xm_11_96 (congrArg Nat.succ xnp156) (by decide +kernel) rfl,
   fun _ _ _ => xl_ic d200_51 (by decide +kernel),
   fun _ _ _ _ _ _ _ _ hc => xl_is d200_52 xml200 (by decide) (zz_nl_s1 hc),
   fun _ _ _ => xl_bi d200_56 (by decide +kernel),
   fun _ _ _ _ _ => xl_icge d200_58 rfl,
   fun _ _ _ _ _ _ _ => xl_aln d200_61 rfl,
   fun _ _ _ _ => xl_gf d200_62 xco200 xf_11_24,
   fun _ _ _ _ _ _ _ => xl_il d200_65 rfl,
   fun _ _ _ _ _ => xl_dup2 d200_67,
   fun _ _ _ _ _ => xl_ia d200_68,
   fun _ _ _ _ _ _ _ => xl_aln d200_69 rfl,
   fun _ _ _ _ => xl_gf d200_70 xco200 xf_11_27,
   fun _ _ _ _ _ _ _ => xl_il d200_73 rfl,
   fun _ _ _ _ _ => xl_ia d200_75,
   fun _ _ _ _ _ => xl_iand d200_76,
   fun _ _ _ _ _ _ => xl_ist d200_77,
   fun _ _ _ _ _ _ _ hc => xl_inc d200_78 xml200 (by decide) rfl (by decide +kernel) (zz_nl_s1 hc),
   fun _ _ _ => xl_goto d200_81 rfl,
   fun _ _ _ _ _ _ _ hc => xl_inc d200_84 xml200 (by decide) rfl (by decide +kernel) (zz_nl_s1 hc),
   fun _ _ _ => xl_goto d200_87 rfl,
   fun _ _ _ _ _ _ _ => xl_aln d200_90 rfl,
   fun _ _ _ _ => xl_gf d200_91 xco200 xf_11_24,
   fun _ _ _ _ _ _ _ => xl_iln d200_94 rfl,
   fun ls a0 a1 h => xl_cs (As := [a0, a1]) (st := []) d200_95 xco200 xm_11_73 xnp190 (by decide +kernel) rfl,
   fun _ _ _ _ => xl_ifeq d200_98 rfl,
   fun _ _ _ _ _ _ _ => xl_aln d200_101 rfl,
   fun _ _ _ _ => xl_gf d200_102 xco200 xf_11_24,
   fun ls a0 h => xl_cs (As := [a0]) (st := []) d200_105 xco200 xm_11_109 xnp172 (by decide +kernel) rfl,
   fun _ _ _ => xl_ic d200_108 (by decide +kernel),
   fun _ _ _ _ _ => xl_icne d200_109 rfl,
   fun _ _ _ => xl_ic d200_112 (by decide +kernel),
   fun _ _ _ => xl_goto d200_113 rfl,
   fun _ _ _ => xl_ic d200_116 (by decide +kernel)⟩
theorem x200_p1 : ∀ ls v h, v = nI 0 ∨ v = nI 1 → zz_Y 200 (117, ls, [.int v], h) = some (some (.int v), h) := fun _ _ _ hc => xl_irz d200_117 xrt200 hc
theorem x200_c2 : ∀ l0 l1 l2 l4 x st h, zz_Y 200 (2, [l0, l1, l2, some (.int x), l4], st, h) = zz_Y 200 (3, [l0, l1, l2, some (.int x), l4], .int x :: st, h) := fun _ _ _ _ _ _ _ => xl_iln d200_2 rfl
theorem x200_c32 : ∀ l0 l1 l2 l4 x st h, zz_Y 200 (32, [l0, l1, l2, some (.int x), l4], st, h) = zz_Y 200 (33, [l0, l1, l2, some (.int x), l4], .int x :: st, h) := fun _ _ _ _ _ _ _ => xl_iln d200_32 rfl
theorem x200_c54 : ∀ l0 l1 l2 l3 x st h, zz_Y 200 (54, [l0, l1, l2, l3, some (.int x)], st, h) = zz_Y 200 (56, [l0, l1, l2, l3, some (.int x)], .int x :: st, h) := fun _ _ _ _ _ _ _ => xl_il d200_54 rfl
/-! 201 FacetSieveModel.nextPick(I)Z -/
theorem d201_0 : decode (zz_c 201) 0 = .ok (.iload_n 1, 1) := by decide +kernel
theorem d201_1 : decode (zz_c 201) 1 = .ok (.iconst 1, 1) := by decide +kernel
theorem d201_2 : decode (zz_c 201) 2 = .ok (.isub, 1) := by decide +kernel
theorem d201_3 : decode (zz_c 201) 3 = .ok (.istore_n 2, 1) := by decide +kernel
theorem d201_4 : decode (zz_c 201) 4 = .ok (.iload_n 2, 1) := by decide +kernel
theorem d201_5 : decode (zz_c 201) 5 = .ok (.ifCond .lt 74, 3) := by decide +kernel
theorem d201_8 : decode (zz_c 201) 8 = .ok (.aload_n 0, 1) := by decide +kernel
theorem d201_9 : decode (zz_c 201) 9 = .ok (.getfield 36, 3) := by decide +kernel
theorem d201_12 : decode (zz_c 201) 12 = .ok (.iload_n 2, 1) := by decide +kernel
theorem d201_13 : decode (zz_c 201) 13 = .ok (.iaload, 1) := by decide +kernel
theorem d201_14 : decode (zz_c 201) 14 = .ok (.aload_n 0, 1) := by decide +kernel
theorem d201_15 : decode (zz_c 201) 15 = .ok (.getfield 7, 3) := by decide +kernel
theorem d201_18 : decode (zz_c 201) 18 = .ok (.iconst 1, 1) := by decide +kernel
theorem d201_19 : decode (zz_c 201) 19 = .ok (.iaload, 1) := by decide +kernel
theorem d201_20 : decode (zz_c 201) 20 = .ok (.iload_n 1, 1) := by decide +kernel
theorem d201_21 : decode (zz_c 201) 21 = .ok (.isub, 1) := by decide +kernel
theorem d201_22 : decode (zz_c 201) 22 = .ok (.iload_n 2, 1) := by decide +kernel
theorem d201_23 : decode (zz_c 201) 23 = .ok (.iadd, 1) := by decide +kernel
theorem d201_24 : decode (zz_c 201) 24 = .ok (.if_icmp .lt 6, 3) := by decide +kernel
theorem d201_27 : decode (zz_c 201) 27 = .ok (.goto 46, 3) := by decide +kernel
theorem d201_30 : decode (zz_c 201) 30 = .ok (.aload_n 0, 1) := by decide +kernel
theorem d201_31 : decode (zz_c 201) 31 = .ok (.getfield 36, 3) := by decide +kernel
theorem d201_34 : decode (zz_c 201) 34 = .ok (.iload_n 2, 1) := by decide +kernel
theorem d201_35 : decode (zz_c 201) 35 = .ok (.dup2, 1) := by decide +kernel
theorem d201_36 : decode (zz_c 201) 36 = .ok (.iaload, 1) := by decide +kernel
theorem d201_37 : decode (zz_c 201) 37 = .ok (.iconst 1, 1) := by decide +kernel
theorem d201_38 : decode (zz_c 201) 38 = .ok (.iadd, 1) := by decide +kernel
theorem d201_39 : decode (zz_c 201) 39 = .ok (.iastore, 1) := by decide +kernel
theorem d201_40 : decode (zz_c 201) 40 = .ok (.iload_n 2, 1) := by decide +kernel
theorem d201_41 : decode (zz_c 201) 41 = .ok (.iconst 1, 1) := by decide +kernel
theorem d201_42 : decode (zz_c 201) 42 = .ok (.iadd, 1) := by decide +kernel
theorem d201_43 : decode (zz_c 201) 43 = .ok (.istore_n 3, 1) := by decide +kernel
theorem d201_44 : decode (zz_c 201) 44 = .ok (.iload_n 3, 1) := by decide +kernel
theorem d201_45 : decode (zz_c 201) 45 = .ok (.iload_n 1, 1) := by decide +kernel
theorem d201_46 : decode (zz_c 201) 46 = .ok (.if_icmp .ge 25, 3) := by decide +kernel
theorem d201_49 : decode (zz_c 201) 49 = .ok (.aload_n 0, 1) := by decide +kernel
theorem d201_50 : decode (zz_c 201) 50 = .ok (.getfield 36, 3) := by decide +kernel
theorem d201_53 : decode (zz_c 201) 53 = .ok (.iload_n 3, 1) := by decide +kernel
theorem d201_54 : decode (zz_c 201) 54 = .ok (.aload_n 0, 1) := by decide +kernel
theorem d201_55 : decode (zz_c 201) 55 = .ok (.getfield 36, 3) := by decide +kernel
theorem d201_58 : decode (zz_c 201) 58 = .ok (.iload_n 3, 1) := by decide +kernel
theorem d201_59 : decode (zz_c 201) 59 = .ok (.iconst 1, 1) := by decide +kernel
theorem d201_60 : decode (zz_c 201) 60 = .ok (.isub, 1) := by decide +kernel
theorem d201_61 : decode (zz_c 201) 61 = .ok (.iaload, 1) := by decide +kernel
theorem d201_62 : decode (zz_c 201) 62 = .ok (.iconst 1, 1) := by decide +kernel
theorem d201_63 : decode (zz_c 201) 63 = .ok (.iadd, 1) := by decide +kernel
theorem d201_64 : decode (zz_c 201) 64 = .ok (.iastore, 1) := by decide +kernel
theorem d201_65 : decode (zz_c 201) 65 = .ok (.iinc 3 1, 3) := by decide +kernel
theorem d201_68 : decode (zz_c 201) 68 = .ok (.goto (-24), 3) := by decide +kernel
theorem d201_71 : decode (zz_c 201) 71 = .ok (.iconst 1, 1) := by decide +kernel
theorem d201_72 : decode (zz_c 201) 72 = .ok (.ireturn, 1) := by decide +kernel
theorem d201_73 : decode (zz_c 201) 73 = .ok (.iinc 2 (-1), 3) := by decide +kernel
theorem d201_76 : decode (zz_c 201) 76 = .ok (.goto (-72), 3) := by decide +kernel
theorem d201_79 : decode (zz_c 201) 79 = .ok (.iconst 0, 1) := by decide +kernel
theorem d201_80 : decode (zz_c 201) 80 = .ok (.ireturn, 1) := by decide +kernel
theorem x201 : (∀ l0 l2 l3 x st h, zz_Y 201 (0, [l0, some (.int x), l2, l3], st, h) = zz_Y 201 (1, [l0, some (.int x), l2, l3], .int x :: st, h)) ∧ (∀ ls st h, zz_Y 201 (1, ls, st, h) = zz_Y 201 (2, ls, .int (nI 1) :: st, h)) ∧ (∀ ls a b st h, zz_Y 201 (2, ls, .int b :: .int a :: st, h) = zz_Y 201 (3, ls, .int (a - b) :: st, h)) ∧ (∀ l0 l1 l2 l3 x st h, zz_nl l1 = true → zz_Y 201 (3, [l0, l1, l2, l3], .int x :: st, h) = zz_Y 201 (4, [l0, l1, some (.int x), l3], st, h)) ∧ (∀ ls a st h, zz_Y 201 (5, ls, .int a :: st, h) = if a < nI 0 then zz_Y 201 (79, ls, st, h) else zz_Y 201 (8, ls, st, h)) ∧ (∀ l1 l2 l3 x st h, zz_Y 201 (8, [some (.ref x), l1, l2, l3], st, h) = zz_Y 201 (9, [some (.ref x), l1, l2, l3], .ref x :: st, h)) ∧ (∀ ls a st h, zz_Y 201 (9, ls, .ref a :: st, h) = mo_gf (hp_g h a) 11 11 201 12 ls st h) ∧ (∀ l0 l1 l3 x st h, zz_Y 201 (12, [l0, l1, some (.int x), l3], st, h) = zz_Y 201 (13, [l0, l1, some (.int x), l3], .int x :: st, h)) ∧ (∀ ls a i st h, zz_Y 201 (13, ls, .int i :: .ref a :: st, h) = mo_ia (hp_g h a) i a 201 14 ls st h) ∧ (∀ l1 l2 l3 x st h, zz_Y 201 (14, [some (.ref x), l1, l2, l3], st, h) = zz_Y 201 (15, [some (.ref x), l1, l2, l3], .ref x :: st, h)) ∧ (∀ ls a st h, zz_Y 201 (15, ls, .ref a :: st, h) = mo_gf (hp_g h a) 11 0 201 18 ls st h) ∧ (∀ ls st h, zz_Y 201 (18, ls, st, h) = zz_Y 201 (19, ls, .int (nI 1) :: st, h)) ∧ (∀ ls a i st h, zz_Y 201 (19, ls, .int i :: .ref a :: st, h) = mo_ia (hp_g h a) i a 201 20 ls st h) ∧ (∀ l0 l2 l3 x st h, zz_Y 201 (20, [l0, some (.int x), l2, l3], st, h) = zz_Y 201 (21, [l0, some (.int x), l2, l3], .int x :: st, h)) ∧ (∀ ls a b st h, zz_Y 201 (21, ls, .int b :: .int a :: st, h) = zz_Y 201 (22, ls, .int (a - b) :: st, h)) ∧ (∀ l0 l1 l3 x st h, zz_Y 201 (22, [l0, l1, some (.int x), l3], st, h) = zz_Y 201 (23, [l0, l1, some (.int x), l3], .int x :: st, h)) ∧ (∀ ls a b st h, zz_Y 201 (23, ls, .int b :: .int a :: st, h) = zz_Y 201 (24, ls, .int (a + b) :: st, h)) ∧ (∀ ls a b st h, zz_Y 201 (24, ls, .int b :: .int a :: st, h) = if a < b then zz_Y 201 (30, ls, st, h) else zz_Y 201 (27, ls, st, h)) ∧ (∀ ls st h, zz_Y 201 (27, ls, st, h) = zz_Y 201 (73, ls, st, h)) ∧ (∀ l1 l2 l3 x st h, zz_Y 201 (30, [some (.ref x), l1, l2, l3], st, h) = zz_Y 201 (31, [some (.ref x), l1, l2, l3], .ref x :: st, h)) ∧ (∀ ls a st h, zz_Y 201 (31, ls, .ref a :: st, h) = mo_gf (hp_g h a) 11 11 201 34 ls st h) ∧ (∀ l0 l1 l3 x st h, zz_Y 201 (34, [l0, l1, some (.int x), l3], st, h) = zz_Y 201 (35, [l0, l1, some (.int x), l3], .int x :: st, h)) ∧ (∀ ls a b st h, zz_Y 201 (35, ls, .int b :: .ref a :: st, h) = zz_Y 201 (36, ls, .int b :: .ref a :: .int b :: .ref a :: st, h)) ∧ (∀ ls a i st h, zz_Y 201 (36, ls, .int i :: .ref a :: st, h) = mo_ia (hp_g h a) i a 201 37 ls st h) ∧ (∀ ls st h, zz_Y 201 (37, ls, st, h) = zz_Y 201 (38, ls, .int (nI 1) :: st, h)) ∧ (∀ ls a b st h, zz_Y 201 (38, ls, .int b :: .int a :: st, h) = zz_Y 201 (39, ls, .int (a + b) :: st, h)) ∧ (∀ ls a i x st h, zz_Y 201 (39, ls, .int x :: .int i :: .ref a :: st, h) = mo_is (hp_g h a) x i a 201 40 ls st h) ∧ (∀ l0 l1 l3 x st h, zz_Y 201 (40, [l0, l1, some (.int x), l3], st, h) = zz_Y 201 (41, [l0, l1, some (.int x), l3], .int x :: st, h)) ∧ (∀ ls st h, zz_Y 201 (41, ls, st, h) = zz_Y 201 (42, ls, .int (nI 1) :: st, h)) ∧ (∀ ls a b st h, zz_Y 201 (42, ls, .int b :: .int a :: st, h) = zz_Y 201 (43, ls, .int (a + b) :: st, h)) ∧ (∀ l0 l1 l2 l3 x st h, zz_nl l2 = true → zz_Y 201 (43, [l0, l1, l2, l3], .int x :: st, h) = zz_Y 201 (44, [l0, l1, l2, some (.int x)], st, h)) ∧ (∀ l0 l2 l3 x st h, zz_Y 201 (45, [l0, some (.int x), l2, l3], st, h) = zz_Y 201 (46, [l0, some (.int x), l2, l3], .int x :: st, h)) ∧ (∀ ls a b st h, zz_Y 201 (46, ls, .int b :: .int a :: st, h) = if a < b then zz_Y 201 (49, ls, st, h) else zz_Y 201 (71, ls, st, h)) ∧ (∀ l1 l2 l3 x st h, zz_Y 201 (49, [some (.ref x), l1, l2, l3], st, h) = zz_Y 201 (50, [some (.ref x), l1, l2, l3], .ref x :: st, h)) ∧ (∀ ls a st h, zz_Y 201 (50, ls, .ref a :: st, h) = mo_gf (hp_g h a) 11 11 201 53 ls st h) ∧ (∀ l0 l1 l2 x st h, zz_Y 201 (53, [l0, l1, l2, some (.int x)], st, h) = zz_Y 201 (54, [l0, l1, l2, some (.int x)], .int x :: st, h)) ∧ (∀ l1 l2 l3 x st h, zz_Y 201 (54, [some (.ref x), l1, l2, l3], st, h) = zz_Y 201 (55, [some (.ref x), l1, l2, l3], .ref x :: st, h)) ∧ (∀ ls a st h, zz_Y 201 (55, ls, .ref a :: st, h) = mo_gf (hp_g h a) 11 11 201 58 ls st h) ∧ (∀ l0 l1 l2 x st h, zz_Y 201 (58, [l0, l1, l2, some (.int x)], st, h) = zz_Y 201 (59, [l0, l1, l2, some (.int x)], .int x :: st, h)) ∧ (∀ ls st h, zz_Y 201 (59, ls, st, h) = zz_Y 201 (60, ls, .int (nI 1) :: st, h)) ∧ (∀ ls a b st h, zz_Y 201 (60, ls, .int b :: .int a :: st, h) = zz_Y 201 (61, ls, .int (a - b) :: st, h)) ∧ (∀ ls a i st h, zz_Y 201 (61, ls, .int i :: .ref a :: st, h) = mo_ia (hp_g h a) i a 201 62 ls st h) ∧ (∀ ls st h, zz_Y 201 (62, ls, st, h) = zz_Y 201 (63, ls, .int (nI 1) :: st, h)) ∧ (∀ ls a b st h, zz_Y 201 (63, ls, .int b :: .int a :: st, h) = zz_Y 201 (64, ls, .int (a + b) :: st, h)) ∧ (∀ ls a i x st h, zz_Y 201 (64, ls, .int x :: .int i :: .ref a :: st, h) = mo_is (hp_g h a) x i a 201 65 ls st h) ∧ (∀ l0 l1 l2 x st h, zz_nl l2 = true → zz_Y 201 (65, [l0, l1, l2, some (.int x)], st, h) = zz_Y 201 (68, [l0, l1, l2, some (.int (x + nI 1))], st, h)) ∧ (∀ ls st h, zz_Y 201 (68, ls, st, h) = zz_Y 201 (44, ls, st, h)) ∧ (∀ ls st h, zz_Y 201 (71, ls, st, h) = zz_Y 201 (72, ls, .int (nI 1) :: st, h)) ∧ (∀ ls v h, v = nI 0 ∨ v = nI 1 → zz_Y 201 (72, ls, [.int v], h) = some (some (.int v), h)) ∧ (∀ l0 l1 l3 x st h, zz_nl l1 = true → zz_Y 201 (73, [l0, l1, some (.int x), l3], st, h) = zz_Y 201 (76, [l0, l1, some (.int (x + (-1))), l3], st, h)) ∧ (∀ ls st h, zz_Y 201 (76, ls, st, h) = zz_Y 201 (4, ls, st, h)) ∧ (∀ ls st h, zz_Y 201 (79, ls, st, h) = zz_Y 201 (80, ls, .int (nI 0) :: st, h)) ∧ (∀ ls v h, v = nI 0 ∨ v = nI 1 → zz_Y 201 (80, ls, [.int v], h) = some (some (.int v), h)) :=
  ⟨fun _ _ _ _ _ _ => xl_iln d201_0 rfl,
   fun _ _ _ => xl_ic d201_1 (by decide +kernel),
   fun _ _ _ _ _ => xl_isub d201_2,
   fun _ _ _ _ _ _ _ hc => xl_isn d201_3 xml201 (by decide) (zz_nl_s1 hc),
   fun _ _ _ _ => xl_iflt d201_5 rfl,
   fun _ _ _ _ _ _ => xl_aln d201_8 rfl,
   fun _ _ _ _ => xl_gf d201_9 xco201 xf_11_36,
   fun _ _ _ _ _ _ => xl_iln d201_12 rfl,
   fun _ _ _ _ _ => xl_ia d201_13,
   fun _ _ _ _ _ _ => xl_aln d201_14 rfl,
   fun _ _ _ _ => xl_gf d201_15 xco201 xf_11_7,
   fun _ _ _ => xl_ic d201_18 (by decide +kernel),
   fun _ _ _ _ _ => xl_ia d201_19,
   fun _ _ _ _ _ _ => xl_iln d201_20 rfl,
   fun _ _ _ _ _ => xl_isub d201_21,
   fun _ _ _ _ _ _ => xl_iln d201_22 rfl,
   fun _ _ _ _ _ => xl_iadd d201_23,
   fun _ _ _ _ _ => xl_iclt d201_24 rfl,
   fun _ _ _ => xl_goto d201_27 rfl,
   fun _ _ _ _ _ _ => xl_aln d201_30 rfl,
   fun _ _ _ _ => xl_gf d201_31 xco201 xf_11_36,
   fun _ _ _ _ _ _ => xl_iln d201_34 rfl,
   fun _ _ _ _ _ => xl_dup2 d201_35,
   fun _ _ _ _ _ => xl_ia d201_36,
   fun _ _ _ => xl_ic d201_37 (by decide +kernel),
   fun _ _ _ _ _ => xl_iadd d201_38,
   fun _ _ _ _ _ _ => xl_ist d201_39,
   fun _ _ _ _ _ _ => xl_iln d201_40 rfl,
   fun _ _ _ => xl_ic d201_41 (by decide +kernel),
   fun _ _ _ _ _ => xl_iadd d201_42,
   fun _ _ _ _ _ _ _ hc => xl_isn d201_43 xml201 (by decide) (zz_nl_s1 hc),
   fun _ _ _ _ _ _ => xl_iln d201_45 rfl,
   fun _ _ _ _ _ => xl_icge d201_46 rfl,
   fun _ _ _ _ _ _ => xl_aln d201_49 rfl,
   fun _ _ _ _ => xl_gf d201_50 xco201 xf_11_36,
   fun _ _ _ _ _ _ => xl_iln d201_53 rfl,
   fun _ _ _ _ _ _ => xl_aln d201_54 rfl,
   fun _ _ _ _ => xl_gf d201_55 xco201 xf_11_36,
   fun _ _ _ _ _ _ => xl_iln d201_58 rfl,
   fun _ _ _ => xl_ic d201_59 (by decide +kernel),
   fun _ _ _ _ _ => xl_isub d201_60,
   fun _ _ _ _ _ => xl_ia d201_61,
   fun _ _ _ => xl_ic d201_62 (by decide +kernel),
   fun _ _ _ _ _ => xl_iadd d201_63,
   fun _ _ _ _ _ _ => xl_ist d201_64,
   fun _ _ _ _ _ _ hc => xl_inc d201_65 xml201 (by decide) rfl (by decide +kernel) (zz_nl_s1 hc),
   fun _ _ _ => xl_goto d201_68 rfl,
   fun _ _ _ => xl_ic d201_71 (by decide +kernel),
   fun _ _ _ hc => xl_irz d201_72 xrt201 hc,
   fun _ _ _ _ _ _ hc => xl_inc d201_73 xml201 (by decide) rfl (by decide +kernel) (zz_nl_s1 hc),
   fun _ _ _ => xl_goto d201_76 rfl,
   fun _ _ _ => xl_ic d201_79 (by decide +kernel),
   fun _ _ _ hc => xl_irz d201_80 xrt201 hc⟩
theorem x201_c4 : ∀ l0 l1 l3 x st h, zz_Y 201 (4, [l0, l1, some (.int x), l3], st, h) = zz_Y 201 (5, [l0, l1, some (.int x), l3], .int x :: st, h) := fun _ _ _ _ _ _ => xl_iln d201_4 rfl
theorem x201_c44 : ∀ l0 l1 l2 x st h, zz_Y 201 (44, [l0, l1, l2, some (.int x)], st, h) = zz_Y 201 (45, [l0, l1, l2, some (.int x)], .int x :: st, h) := fun _ _ _ _ _ _ => xl_iln d201_44 rfl
/-! 202 FacetSieveModel.likes(I)I -/
theorem d202_0 : decode (zz_c 202) 0 = .ok (.aload_n 0, 1) := by decide +kernel
theorem d202_1 : decode (zz_c 202) 1 = .ok (.iload_n 1, 1) := by decide +kernel
theorem d202_2 : decode (zz_c 202) 2 = .ok (.invokevirtual 170, 3) := by decide +kernel
theorem d202_5 : decode (zz_c 202) 5 = .ok (.ifCond .ne 5, 3) := by decide +kernel
theorem d202_8 : decode (zz_c 202) 8 = .ok (.iconst (-1), 1) := by decide +kernel
theorem d202_9 : decode (zz_c 202) 9 = .ok (.ireturn, 1) := by decide +kernel
theorem d202_10 : decode (zz_c 202) 10 = .ok (.iconst 0, 1) := by decide +kernel
theorem d202_11 : decode (zz_c 202) 11 = .ok (.istore_n 2, 1) := by decide +kernel
theorem d202_12 : decode (zz_c 202) 12 = .ok (.iload_n 2, 1) := by decide +kernel
theorem d202_13 : decode (zz_c 202) 13 = .ok (.bipush 8, 2) := by decide +kernel
theorem d202_15 : decode (zz_c 202) 15 = .ok (.if_icmp .ge 25, 3) := by decide +kernel
theorem d202_18 : decode (zz_c 202) 18 = .ok (.aload_n 0, 1) := by decide +kernel
theorem d202_19 : decode (zz_c 202) 19 = .ok (.getfield 24, 3) := by decide +kernel
theorem d202_22 : decode (zz_c 202) 22 = .ok (.iload_n 2, 1) := by decide +kernel
theorem d202_23 : decode (zz_c 202) 23 = .ok (.aload_n 0, 1) := by decide +kernel
theorem d202_24 : decode (zz_c 202) 24 = .ok (.getfield 7, 3) := by decide +kernel
theorem d202_27 : decode (zz_c 202) 27 = .ok (.sipush 294, 3) := by decide +kernel
theorem d202_30 : decode (zz_c 202) 30 = .ok (.iload_n 2, 1) := by decide +kernel
theorem d202_31 : decode (zz_c 202) 31 = .ok (.iadd, 1) := by decide +kernel
theorem d202_32 : decode (zz_c 202) 32 = .ok (.iaload, 1) := by decide +kernel
theorem d202_33 : decode (zz_c 202) 33 = .ok (.iastore, 1) := by decide +kernel
theorem d202_34 : decode (zz_c 202) 34 = .ok (.iinc 2 1, 3) := by decide +kernel
theorem d202_37 : decode (zz_c 202) 37 = .ok (.goto (-25), 3) := by decide +kernel
theorem d202_40 : decode (zz_c 202) 40 = .ok (.iconst 0, 1) := by decide +kernel
theorem d202_41 : decode (zz_c 202) 41 = .ok (.istore_n 2, 1) := by decide +kernel
theorem d202_42 : decode (zz_c 202) 42 = .ok (.iload_n 2, 1) := by decide +kernel
theorem d202_43 : decode (zz_c 202) 43 = .ok (.aload_n 0, 1) := by decide +kernel
theorem d202_44 : decode (zz_c 202) 44 = .ok (.getfield 7, 3) := by decide +kernel
theorem d202_47 : decode (zz_c 202) 47 = .ok (.iconst 1, 1) := by decide +kernel
theorem d202_48 : decode (zz_c 202) 48 = .ok (.iaload, 1) := by decide +kernel
theorem d202_49 : decode (zz_c 202) 49 = .ok (.if_icmp .ge 66, 3) := by decide +kernel
theorem d202_52 : decode (zz_c 202) 52 = .ok (.aload_n 0, 1) := by decide +kernel
theorem d202_53 : decode (zz_c 202) 53 = .ok (.sipush 302, 3) := by decide +kernel
theorem d202_56 : decode (zz_c 202) 56 = .ok (.bipush 8, 2) := by decide +kernel
theorem d202_58 : decode (zz_c 202) 58 = .ok (.iload_n 2, 1) := by decide +kernel
theorem d202_59 : decode (zz_c 202) 59 = .ok (.imul, 1) := by decide +kernel
theorem d202_60 : decode (zz_c 202) 60 = .ok (.iadd, 1) := by decide +kernel
theorem d202_61 : decode (zz_c 202) 61 = .ok (.iload_n 1, 1) := by decide +kernel
theorem d202_62 : decode (zz_c 202) 62 = .ok (.invokevirtual 65, 3) := by decide +kernel
theorem d202_65 : decode (zz_c 202) 65 = .ok (.ifCond .ne 6, 3) := by decide +kernel
theorem d202_68 : decode (zz_c 202) 68 = .ok (.goto 41, 3) := by decide +kernel
theorem d202_71 : decode (zz_c 202) 71 = .ok (.iconst 0, 1) := by decide +kernel
theorem d202_72 : decode (zz_c 202) 72 = .ok (.istore_n 3, 1) := by decide +kernel
theorem d202_73 : decode (zz_c 202) 73 = .ok (.iload_n 3, 1) := by decide +kernel
theorem d202_74 : decode (zz_c 202) 74 = .ok (.bipush 8, 2) := by decide +kernel
theorem d202_76 : decode (zz_c 202) 76 = .ok (.if_icmp .ge 33, 3) := by decide +kernel
theorem d202_79 : decode (zz_c 202) 79 = .ok (.aload_n 0, 1) := by decide +kernel
theorem d202_80 : decode (zz_c 202) 80 = .ok (.getfield 24, 3) := by decide +kernel
theorem d202_83 : decode (zz_c 202) 83 = .ok (.iload_n 3, 1) := by decide +kernel
theorem d202_84 : decode (zz_c 202) 84 = .ok (.dup2, 1) := by decide +kernel
theorem d202_85 : decode (zz_c 202) 85 = .ok (.iaload, 1) := by decide +kernel
theorem d202_86 : decode (zz_c 202) 86 = .ok (.aload_n 0, 1) := by decide +kernel
theorem d202_87 : decode (zz_c 202) 87 = .ok (.getfield 7, 3) := by decide +kernel
theorem d202_90 : decode (zz_c 202) 90 = .ok (.sipush 302, 3) := by decide +kernel
theorem d202_93 : decode (zz_c 202) 93 = .ok (.bipush 8, 2) := by decide +kernel
theorem d202_95 : decode (zz_c 202) 95 = .ok (.iload_n 2, 1) := by decide +kernel
theorem d202_96 : decode (zz_c 202) 96 = .ok (.imul, 1) := by decide +kernel
theorem d202_97 : decode (zz_c 202) 97 = .ok (.iadd, 1) := by decide +kernel
theorem d202_98 : decode (zz_c 202) 98 = .ok (.iload_n 3, 1) := by decide +kernel
theorem d202_99 : decode (zz_c 202) 99 = .ok (.iadd, 1) := by decide +kernel
theorem d202_100 : decode (zz_c 202) 100 = .ok (.iaload, 1) := by decide +kernel
theorem d202_101 : decode (zz_c 202) 101 = .ok (.iand, 1) := by decide +kernel
theorem d202_102 : decode (zz_c 202) 102 = .ok (.iastore, 1) := by decide +kernel
theorem d202_103 : decode (zz_c 202) 103 = .ok (.iinc 3 1, 3) := by decide +kernel
theorem d202_106 : decode (zz_c 202) 106 = .ok (.goto (-33), 3) := by decide +kernel
theorem d202_109 : decode (zz_c 202) 109 = .ok (.iinc 2 1, 3) := by decide +kernel
theorem d202_112 : decode (zz_c 202) 112 = .ok (.goto (-70), 3) := by decide +kernel
theorem d202_115 : decode (zz_c 202) 115 = .ok (.aload_n 0, 1) := by decide +kernel
theorem d202_116 : decode (zz_c 202) 116 = .ok (.getfield 24, 3) := by decide +kernel
theorem d202_119 : decode (zz_c 202) 119 = .ok (.invokestatic 109, 3) := by decide +kernel
theorem d202_122 : decode (zz_c 202) 122 = .ok (.ireturn, 1) := by decide +kernel
theorem x202_p0 : (∀ l1 l2 l3 x st h, zz_Y 202 (0, [some (.ref x), l1, l2, l3], st, h) = zz_Y 202 (1, [some (.ref x), l1, l2, l3], .ref x :: st, h)) ∧ (∀ l0 l2 l3 x st h, zz_Y 202 (1, [l0, some (.int x), l2, l3], st, h) = zz_Y 202 (2, [l0, some (.int x), l2, l3], .int x :: st, h)) ∧ (∀ ls a0 a1 h, zz_Y 202 (2, ls, [a1, a0], h) = mo_k 202 5 ls [] (zz_run 187 [a0, a1] h)) ∧ (∀ ls a st h, zz_Y 202 (5, ls, .int a :: st, h) = if a = nI 0 then zz_Y 202 (8, ls, st, h) else zz_Y 202 (10, ls, st, h)) ∧ (∀ ls st h, zz_Y 202 (8, ls, st, h) = zz_Y 202 (9, ls, .int (-1) :: st, h)) ∧ (∀ ls v h, zz_Y 202 (9, ls, [.int v], h) = some (some (.int v), h)) ∧ (∀ ls st h, zz_Y 202 (10, ls, st, h) = zz_Y 202 (11, ls, .int (nI 0) :: st, h)) ∧ (∀ l0 l1 l2 l3 x st h, zz_nl l1 = true → zz_Y 202 (11, [l0, l1, l2, l3], .int x :: st, h) = zz_Y 202 (12, [l0, l1, some (.int x), l3], st, h)) ∧ (∀ ls st h, zz_Y 202 (13, ls, st, h) = zz_Y 202 (15, ls, .int (nI 8) :: st, h)) ∧ (∀ ls a b st h, zz_Y 202 (15, ls, .int b :: .int a :: st, h) = if a < b then zz_Y 202 (18, ls, st, h) else zz_Y 202 (40, ls, st, h)) ∧ (∀ l1 l2 l3 x st h, zz_Y 202 (18, [some (.ref x), l1, l2, l3], st, h) = zz_Y 202 (19, [some (.ref x), l1, l2, l3], .ref x :: st, h)) ∧ (∀ ls a st h, zz_Y 202 (19, ls, .ref a :: st, h) = mo_gf (hp_g h a) 11 7 202 22 ls st h) ∧ (∀ l0 l1 l3 x st h, zz_Y 202 (22, [l0, l1, some (.int x), l3], st, h) = zz_Y 202 (23, [l0, l1, some (.int x), l3], .int x :: st, h)) ∧ (∀ l1 l2 l3 x st h, zz_Y 202 (23, [some (.ref x), l1, l2, l3], st, h) = zz_Y 202 (24, [some (.ref x), l1, l2, l3], .ref x :: st, h)) ∧ (∀ ls a st h, zz_Y 202 (24, ls, .ref a :: st, h) = mo_gf (hp_g h a) 11 0 202 27 ls st h) ∧ (∀ ls st h, zz_Y 202 (27, ls, st, h) = zz_Y 202 (30, ls, .int (nI 294) :: st, h)) ∧ (∀ l0 l1 l3 x st h, zz_Y 202 (30, [l0, l1, some (.int x), l3], st, h) = zz_Y 202 (31, [l0, l1, some (.int x), l3], .int x :: st, h)) ∧ (∀ ls a b st h, zz_Y 202 (31, ls, .int b :: .int a :: st, h) = zz_Y 202 (32, ls, .int (a + b) :: st, h)) ∧ (∀ ls a i st h, zz_Y 202 (32, ls, .int i :: .ref a :: st, h) = mo_ia (hp_g h a) i a 202 33 ls st h) ∧ (∀ ls a i x st h, zz_Y 202 (33, ls, .int x :: .int i :: .ref a :: st, h) = mo_is (hp_g h a) x i a 202 34 ls st h) ∧ (∀ l0 l1 l3 x st h, zz_nl l1 = true → zz_Y 202 (34, [l0, l1, some (.int x), l3], st, h) = zz_Y 202 (37, [l0, l1, some (.int (x + nI 1)), l3], st, h)) ∧ (∀ ls st h, zz_Y 202 (37, ls, st, h) = zz_Y 202 (12, ls, st, h)) ∧ (∀ ls st h, zz_Y 202 (40, ls, st, h) = zz_Y 202 (41, ls, .int (nI 0) :: st, h)) ∧ (∀ l0 l1 l2 l3 x st h, zz_nl l1 = true → zz_Y 202 (41, [l0, l1, l2, l3], .int x :: st, h) = zz_Y 202 (42, [l0, l1, some (.int x), l3], st, h)) ∧ (∀ l1 l2 l3 x st h, zz_Y 202 (43, [some (.ref x), l1, l2, l3], st, h) = zz_Y 202 (44, [some (.ref x), l1, l2, l3], .ref x :: st, h)) ∧ (∀ ls a st h, zz_Y 202 (44, ls, .ref a :: st, h) = mo_gf (hp_g h a) 11 0 202 47 ls st h) ∧ (∀ ls st h, zz_Y 202 (47, ls, st, h) = zz_Y 202 (48, ls, .int (nI 1) :: st, h)) ∧ (∀ ls a i st h, zz_Y 202 (48, ls, .int i :: .ref a :: st, h) = mo_ia (hp_g h a) i a 202 49 ls st h) ∧ (∀ ls a b st h, zz_Y 202 (49, ls, .int b :: .int a :: st, h) = if a < b then zz_Y 202 (52, ls, st, h) else zz_Y 202 (115, ls, st, h)) ∧ (∀ l1 l2 l3 x st h, zz_Y 202 (52, [some (.ref x), l1, l2, l3], st, h) = zz_Y 202 (53, [some (.ref x), l1, l2, l3], .ref x :: st, h)) ∧ (∀ ls st h, zz_Y 202 (53, ls, st, h) = zz_Y 202 (56, ls, .int (nI 302) :: st, h)) ∧ (∀ ls st h, zz_Y 202 (56, ls, st, h) = zz_Y 202 (58, ls, .int (nI 8) :: st, h)) ∧ (∀ l0 l1 l3 x st h, zz_Y 202 (58, [l0, l1, some (.int x), l3], st, h) = zz_Y 202 (59, [l0, l1, some (.int x), l3], .int x :: st, h)) ∧ (∀ ls a b st h, zz_Y 202 (59, ls, .int b :: .int a :: st, h) = zz_Y 202 (60, ls, .int (a * b) :: st, h)) ∧ (∀ ls a b st h, zz_Y 202 (60, ls, .int b :: .int a :: st, h) = zz_Y 202 (61, ls, .int (a + b) :: st, h)) ∧ (∀ l0 l2 l3 x st h, zz_Y 202 (61, [l0, some (.int x), l2, l3], st, h) = zz_Y 202 (62, [l0, some (.int x), l2, l3], .int x :: st, h)) ∧ (∀ ls a0 a1 a2 h, zz_Y 202 (62, ls, [a2, a1, a0], h) = mo_k 202 65 ls [] (zz_run 189 [a0, a1, a2] h)) ∧ (∀ ls a st h, zz_Y 202 (65, ls, .int a :: st, h) = if a = nI 0 then zz_Y 202 (68, ls, st, h) else zz_Y 202 (71, ls, st, h)) ∧ (∀ ls st h, zz_Y 202 (68, ls, st, h) = zz_Y 202 (109, ls, st, h)) ∧ (∀ ls st h, zz_Y 202 (71, ls, st, h) = zz_Y 202 (72, ls, .int (nI 0) :: st, h)) ∧ (∀ l0 l1 l2 l3 x st h, zz_nl l2 = true → zz_Y 202 (72, [l0, l1, l2, l3], .int x :: st, h) = zz_Y 202 (73, [l0, l1, l2, some (.int x)], st, h)) ∧ (∀ ls st h, zz_Y 202 (74, ls, st, h) = zz_Y 202 (76, ls, .int (nI 8) :: st, h)) ∧ (∀ ls a b st h, zz_Y 202 (76, ls, .int b :: .int a :: st, h) = if a < b then zz_Y 202 (79, ls, st, h) else zz_Y 202 (109, ls, st, h)) ∧ (∀ l1 l2 l3 x st h, zz_Y 202 (79, [some (.ref x), l1, l2, l3], st, h) = zz_Y 202 (80, [some (.ref x), l1, l2, l3], .ref x :: st, h)) ∧ (∀ ls a st h, zz_Y 202 (80, ls, .ref a :: st, h) = mo_gf (hp_g h a) 11 7 202 83 ls st h) ∧ (∀ l0 l1 l2 x st h, zz_Y 202 (83, [l0, l1, l2, some (.int x)], st, h) = zz_Y 202 (84, [l0, l1, l2, some (.int x)], .int x :: st, h)) ∧ (∀ ls a b st h, zz_Y 202 (84, ls, .int b :: .ref a :: st, h) = zz_Y 202 (85, ls, .int b :: .ref a :: .int b :: .ref a :: st, h)) ∧ (∀ ls a i st h, zz_Y 202 (85, ls, .int i :: .ref a :: st, h) = mo_ia (hp_g h a) i a 202 86 ls st h) ∧ (∀ l1 l2 l3 x st h, zz_Y 202 (86, [some (.ref x), l1, l2, l3], st, h) = zz_Y 202 (87, [some (.ref x), l1, l2, l3], .ref x :: st, h)) ∧ (∀ ls a st h, zz_Y 202 (87, ls, .ref a :: st, h) = mo_gf (hp_g h a) 11 0 202 90 ls st h) ∧ (∀ ls st h, zz_Y 202 (90, ls, st, h) = zz_Y 202 (93, ls, .int (nI 302) :: st, h)) ∧ (∀ ls st h, zz_Y 202 (93, ls, st, h) = zz_Y 202 (95, ls, .int (nI 8) :: st, h)) ∧ (∀ l0 l1 l3 x st h, zz_Y 202 (95, [l0, l1, some (.int x), l3], st, h) = zz_Y 202 (96, [l0, l1, some (.int x), l3], .int x :: st, h)) ∧ (∀ ls a b st h, zz_Y 202 (96, ls, .int b :: .int a :: st, h) = zz_Y 202 (97, ls, .int (a * b) :: st, h)) ∧ (∀ ls a b st h, zz_Y 202 (97, ls, .int b :: .int a :: st, h) = zz_Y 202 (98, ls, .int (a + b) :: st, h)) ∧ (∀ l0 l1 l2 x st h, zz_Y 202 (98, [l0, l1, l2, some (.int x)], st, h) = zz_Y 202 (99, [l0, l1, l2, some (.int x)], .int x :: st, h)) ∧ (∀ ls a b st h, zz_Y 202 (99, ls, .int b :: .int a :: st, h) = zz_Y 202 (100, ls, .int (a + b) :: st, h)) ∧ (∀ ls a i st h, zz_Y 202 (100, ls, .int i :: .ref a :: st, h) = mo_ia (hp_g h a) i a 202 101 ls st h) ∧ (∀ ls a b st h, zz_Y 202 (101, ls, .int b :: .int a :: st, h) = zz_Y 202 (102, ls, .int (a &&& b) :: st, h)) ∧ (∀ ls a i x st h, zz_Y 202 (102, ls, .int x :: .int i :: .ref a :: st, h) = mo_is (hp_g h a) x i a 202 103 ls st h) :=
  ⟨fun _ _ _ _ _ _ => xl_aln d202_0 rfl,
   fun _ _ _ _ _ _ => xl_iln d202_1 rfl,
   fun ls a0 a1 h => xl_cv (As := [a0, a1]) (st := []) d202_2 xco202 xm_11_170 (congrArg Nat.succ xnp187) (by decide +kernel) rfl,
   fun _ _ _ _ => xl_ifne d202_5 rfl,
   fun _ _ _ => xl_ic d202_8 (by decide +kernel),
   fun _ _ _ => xl_iri d202_9 xrt202,
   fun _ _ _ => xl_ic d202_10 (by decide +kernel),
   fun _ _ _ _ _ _ _ hc => xl_isn d202_11 xml202 (by decide) (zz_nl_s1 hc),
   fun _ _ _ => xl_bi d202_13 (by decide +kernel),
   fun _ _ _ _ _ => xl_icge d202_15 rfl,
   fun _ _ _ _ _ _ => xl_aln d202_18 rfl,
   fun _ _ _ _ => xl_gf d202_19 xco202 xf_11_24,
   fun _ _ _ _ _ _ => xl_iln d202_22 rfl,
   fun _ _ _ _ _ _ => xl_aln d202_23 rfl,
   fun _ _ _ _ => xl_gf d202_24 xco202 xf_11_7,
   fun _ _ _ => xl_si d202_27 (by decide +kernel),
   fun _ _ _ _ _ _ => xl_iln d202_30 rfl,
   fun _ _ _ _ _ => xl_iadd d202_31,
   fun _ _ _ _ _ => xl_ia d202_32,
   fun _ _ _ _ _ _ => xl_ist d202_33,
   fun _ _ _ _ _ _ hc => xl_inc d202_34 xml202 (by decide) rfl (by decide +kernel) (zz_nl_s1 hc),
   fun _ _ _ => xl_goto d202_37 rfl,
   fun _ _ _ => xl_ic d202_40 (by decide +kernel),
   fun _ _ _ _ _ _ _ hc => xl_isn d202_41 xml202 (by decide) (zz_nl_s1 hc),
   fun _ _ _ _ _ _ => xl_aln d202_43 rfl,
   fun _ _ _ _ => xl_gf d202_44 xco202 xf_11_7,
   fun _ _ _ => xl_ic d202_47 (by decide +kernel),
   fun _ _ _ _ _ => xl_ia d202_48,
   fun _ _ _ _ _ => xl_icge d202_49 rfl,
   fun _ _ _ _ _ _ => xl_aln d202_52 rfl,
   fun _ _ _ => xl_si d202_53 (by decide +kernel),
   fun _ _ _ => xl_bi d202_56 (by decide +kernel),
   fun _ _ _ _ _ _ => xl_iln d202_58 rfl,
   fun _ _ _ _ _ => xl_imul d202_59,
   fun _ _ _ _ _ => xl_iadd d202_60,
   fun _ _ _ _ _ _ => xl_iln d202_61 rfl,
   fun ls a0 a1 a2 h => xl_cv (As := [a0, a1, a2]) (st := []) d202_62 xco202 xm_11_65 (congrArg Nat.succ xnp189) (by decide +kernel) rfl,
   fun _ _ _ _ => xl_ifne d202_65 rfl,
   fun _ _ _ => xl_goto d202_68 rfl,
   fun _ _ _ => xl_ic d202_71 (by decide +kernel),
   fun _ _ _ _ _ _ _ hc => xl_isn d202_72 xml202 (by decide) (zz_nl_s1 hc),
   fun _ _ _ => xl_bi d202_74 (by decide +kernel),
   fun _ _ _ _ _ => xl_icge d202_76 rfl,
   fun _ _ _ _ _ _ => xl_aln d202_79 rfl,
   fun _ _ _ _ => xl_gf d202_80 xco202 xf_11_24,
   fun _ _ _ _ _ _ => xl_iln d202_83 rfl,
   fun _ _ _ _ _ => xl_dup2 d202_84,
   fun _ _ _ _ _ => xl_ia d202_85,
   fun _ _ _ _ _ _ => xl_aln d202_86 rfl,
   fun _ _ _ _ => xl_gf d202_87 xco202 xf_11_7,
   fun _ _ _ => xl_si d202_90 (by decide +kernel),
   fun _ _ _ => xl_bi d202_93 (by decide +kernel),
   fun _ _ _ _ _ _ => xl_iln d202_95 rfl,
   fun _ _ _ _ _ => xl_imul d202_96,
   fun _ _ _ _ _ => xl_iadd d202_97,
   fun _ _ _ _ _ _ => xl_iln d202_98 rfl,
   fun _ _ _ _ _ => xl_iadd d202_99,
   fun _ _ _ _ _ => xl_ia d202_100,
   fun _ _ _ _ _ => xl_iand d202_101,
   fun _ _ _ _ _ _ => xl_ist d202_102⟩
theorem x202_p1 : (∀ l0 l1 l2 x st h, zz_nl l2 = true → zz_Y 202 (103, [l0, l1, l2, some (.int x)], st, h) = zz_Y 202 (106, [l0, l1, l2, some (.int (x + nI 1))], st, h)) ∧ (∀ ls st h, zz_Y 202 (106, ls, st, h) = zz_Y 202 (73, ls, st, h)) ∧ (∀ l0 l1 l3 x st h, zz_nl l1 = true → zz_Y 202 (109, [l0, l1, some (.int x), l3], st, h) = zz_Y 202 (112, [l0, l1, some (.int (x + nI 1)), l3], st, h)) ∧ (∀ ls st h, zz_Y 202 (112, ls, st, h) = zz_Y 202 (42, ls, st, h)) ∧ (∀ l1 l2 l3 x st h, zz_Y 202 (115, [some (.ref x), l1, l2, l3], st, h) = zz_Y 202 (116, [some (.ref x), l1, l2, l3], .ref x :: st, h)) ∧ (∀ ls a st h, zz_Y 202 (116, ls, .ref a :: st, h) = mo_gf (hp_g h a) 11 7 202 119 ls st h) ∧ (∀ ls a0 h, zz_Y 202 (119, ls, [a0], h) = mo_k 202 122 ls [] (zz_run 172 [a0] h)) ∧ (∀ ls v h, zz_Y 202 (122, ls, [.int v], h) = some (some (.int v), h)) :=
  ⟨fun _ _ _ _ _ _ hc => xl_inc d202_103 xml202 (by decide) rfl (by decide +kernel) (zz_nl_s1 hc),
   fun _ _ _ => xl_goto d202_106 rfl,
   fun _ _ _ _ _ _ hc => xl_inc d202_109 xml202 (by decide) rfl (by decide +kernel) (zz_nl_s1 hc),
   fun _ _ _ => xl_goto d202_112 rfl,
   fun _ _ _ _ _ _ => xl_aln d202_115 rfl,
   fun _ _ _ _ => xl_gf d202_116 xco202 xf_11_24,
   fun ls a0 h => xl_cs (As := [a0]) (st := []) d202_119 xco202 xm_11_109 xnp172 (by decide +kernel) rfl,
   fun _ _ _ => xl_iri d202_122 xrt202⟩
theorem x202_c12 : ∀ l0 l1 l3 x st h, zz_Y 202 (12, [l0, l1, some (.int x), l3], st, h) = zz_Y 202 (13, [l0, l1, some (.int x), l3], .int x :: st, h) := fun _ _ _ _ _ _ => xl_iln d202_12 rfl
theorem x202_c42 : ∀ l0 l1 l3 x st h, zz_Y 202 (42, [l0, l1, some (.int x), l3], st, h) = zz_Y 202 (43, [l0, l1, some (.int x), l3], .int x :: st, h) := fun _ _ _ _ _ _ => xl_iln d202_42 rfl
theorem x202_c73 : ∀ l0 l1 l2 x st h, zz_Y 202 (73, [l0, l1, l2, some (.int x)], st, h) = zz_Y 202 (74, [l0, l1, l2, some (.int x)], .int x :: st, h) := fun _ _ _ _ _ _ => xl_iln d202_73 rfl
/-! 203 FacetSieveModel.spread(I)I -/
theorem d203_0 : decode (zz_c 203) 0 = .ok (.iload_n 1, 1) := by decide +kernel
theorem d203_1 : decode (zz_c 203) 1 = .ok (.iconst 0, 1) := by decide +kernel
theorem d203_2 : decode (zz_c 203) 2 = .ok (.bipush 20, 2) := by decide +kernel
theorem d203_4 : decode (zz_c 203) 4 = .ok (.invokestatic 57, 3) := by decide +kernel
theorem d203_7 : decode (zz_c 203) 7 = .ok (.ifCond .ne 5, 3) := by decide +kernel
theorem d203_10 : decode (zz_c 203) 10 = .ok (.iconst (-1), 1) := by decide +kernel
theorem d203_11 : decode (zz_c 203) 11 = .ok (.ireturn, 1) := by decide +kernel
theorem d203_12 : decode (zz_c 203) 12 = .ok (.iconst 0, 1) := by decide +kernel
theorem d203_13 : decode (zz_c 203) 13 = .ok (.istore_n 2, 1) := by decide +kernel
theorem d203_14 : decode (zz_c 203) 14 = .ok (.iload_n 2, 1) := by decide +kernel
theorem d203_15 : decode (zz_c 203) 15 = .ok (.sipush 256, 3) := by decide +kernel
theorem d203_18 : decode (zz_c 203) 18 = .ok (.if_icmp .ge 16, 3) := by decide +kernel
theorem d203_21 : decode (zz_c 203) 21 = .ok (.aload_n 0, 1) := by decide +kernel
theorem d203_22 : decode (zz_c 203) 22 = .ok (.getfield 39, 3) := by decide +kernel
theorem d203_25 : decode (zz_c 203) 25 = .ok (.iload_n 2, 1) := by decide +kernel
theorem d203_26 : decode (zz_c 203) 26 = .ok (.iconst 0, 1) := by decide +kernel
theorem d203_27 : decode (zz_c 203) 27 = .ok (.iastore, 1) := by decide +kernel
theorem d203_28 : decode (zz_c 203) 28 = .ok (.iinc 2 1, 3) := by decide +kernel
theorem d203_31 : decode (zz_c 203) 31 = .ok (.goto (-17), 3) := by decide +kernel
theorem d203_34 : decode (zz_c 203) 34 = .ok (.iconst 0, 1) := by decide +kernel
theorem d203_35 : decode (zz_c 203) 35 = .ok (.istore_n 2, 1) := by decide +kernel
theorem d203_36 : decode (zz_c 203) 36 = .ok (.iload_n 2, 1) := by decide +kernel
theorem d203_37 : decode (zz_c 203) 37 = .ok (.aload_n 0, 1) := by decide +kernel
theorem d203_38 : decode (zz_c 203) 38 = .ok (.getfield 7, 3) := by decide +kernel
theorem d203_41 : decode (zz_c 203) 41 = .ok (.iconst 1, 1) := by decide +kernel
theorem d203_42 : decode (zz_c 203) 42 = .ok (.iaload, 1) := by decide +kernel
theorem d203_43 : decode (zz_c 203) 43 = .ok (.if_icmp .ge 58, 3) := by decide +kernel
theorem d203_46 : decode (zz_c 203) 46 = .ok (.aload_n 0, 1) := by decide +kernel
theorem d203_47 : decode (zz_c 203) 47 = .ok (.aload_n 0, 1) := by decide +kernel
theorem d203_48 : decode (zz_c 203) 48 = .ok (.getfield 24, 3) := by decide +kernel
theorem d203_51 : decode (zz_c 203) 51 = .ok (.iload_n 2, 1) := by decide +kernel
theorem d203_52 : decode (zz_c 203) 52 = .ok (.invokevirtual 96, 3) := by decide +kernel
theorem d203_55 : decode (zz_c 203) 55 = .ok (.iconst 0, 1) := by decide +kernel
theorem d203_56 : decode (zz_c 203) 56 = .ok (.istore_n 3, 1) := by decide +kernel
theorem d203_57 : decode (zz_c 203) 57 = .ok (.iload_n 3, 1) := by decide +kernel
theorem d203_58 : decode (zz_c 203) 58 = .ok (.sipush 256, 3) := by decide +kernel
theorem d203_61 : decode (zz_c 203) 61 = .ok (.if_icmp .ge 34, 3) := by decide +kernel
theorem d203_64 : decode (zz_c 203) 64 = .ok (.aload_n 0, 1) := by decide +kernel
theorem d203_65 : decode (zz_c 203) 65 = .ok (.getfield 39, 3) := by decide +kernel
theorem d203_68 : decode (zz_c 203) 68 = .ok (.iload_n 3, 1) := by decide +kernel
theorem d203_69 : decode (zz_c 203) 69 = .ok (.dup2, 1) := by decide +kernel
theorem d203_70 : decode (zz_c 203) 70 = .ok (.iaload, 1) := by decide +kernel
theorem d203_71 : decode (zz_c 203) 71 = .ok (.aload_n 0, 1) := by decide +kernel
theorem d203_72 : decode (zz_c 203) 72 = .ok (.getfield 24, 3) := by decide +kernel
theorem d203_75 : decode (zz_c 203) 75 = .ok (.iload_n 3, 1) := by decide +kernel
theorem d203_76 : decode (zz_c 203) 76 = .ok (.invokestatic 73, 3) := by decide +kernel
theorem d203_79 : decode (zz_c 203) 79 = .ok (.ifCond .eq 7, 3) := by decide +kernel
theorem d203_82 : decode (zz_c 203) 82 = .ok (.iconst 1, 1) := by decide +kernel
theorem d203_83 : decode (zz_c 203) 83 = .ok (.goto 4, 3) := by decide +kernel
theorem d203_86 : decode (zz_c 203) 86 = .ok (.iconst 0, 1) := by decide +kernel
theorem d203_87 : decode (zz_c 203) 87 = .ok (.iadd, 1) := by decide +kernel
theorem d203_88 : decode (zz_c 203) 88 = .ok (.iastore, 1) := by decide +kernel
theorem d203_89 : decode (zz_c 203) 89 = .ok (.iinc 3 1, 3) := by decide +kernel
theorem d203_92 : decode (zz_c 203) 92 = .ok (.goto (-35), 3) := by decide +kernel
theorem d203_95 : decode (zz_c 203) 95 = .ok (.iinc 2 1, 3) := by decide +kernel
theorem d203_98 : decode (zz_c 203) 98 = .ok (.goto (-62), 3) := by decide +kernel
theorem d203_101 : decode (zz_c 203) 101 = .ok (.aload_n 0, 1) := by decide +kernel
theorem d203_102 : decode (zz_c 203) 102 = .ok (.iconst (-1), 1) := by decide +kernel
theorem d203_103 : decode (zz_c 203) 103 = .ok (.invokevirtual 106, 3) := by decide +kernel
theorem d203_106 : decode (zz_c 203) 106 = .ok (.iconst 0, 1) := by decide +kernel
theorem d203_107 : decode (zz_c 203) 107 = .ok (.istore_n 2, 1) := by decide +kernel
theorem d203_108 : decode (zz_c 203) 108 = .ok (.iconst 0, 1) := by decide +kernel
theorem d203_109 : decode (zz_c 203) 109 = .ok (.istore_n 3, 1) := by decide +kernel
theorem d203_110 : decode (zz_c 203) 110 = .ok (.iload_n 3, 1) := by decide +kernel
theorem d203_111 : decode (zz_c 203) 111 = .ok (.sipush 256, 3) := by decide +kernel
theorem d203_114 : decode (zz_c 203) 114 = .ok (.if_icmp .ge 38, 3) := by decide +kernel
theorem d203_117 : decode (zz_c 203) 117 = .ok (.iload_n 2, 1) := by decide +kernel
theorem d203_118 : decode (zz_c 203) 118 = .ok (.aload_n 0, 1) := by decide +kernel
theorem d203_119 : decode (zz_c 203) 119 = .ok (.getfield 30, 3) := by decide +kernel
theorem d203_122 : decode (zz_c 203) 122 = .ok (.iload_n 3, 1) := by decide +kernel
theorem d203_123 : decode (zz_c 203) 123 = .ok (.invokestatic 73, 3) := by decide +kernel
theorem d203_126 : decode (zz_c 203) 126 = .ok (.ifCond .eq 17, 3) := by decide +kernel
theorem d203_129 : decode (zz_c 203) 129 = .ok (.aload_n 0, 1) := by decide +kernel
theorem d203_130 : decode (zz_c 203) 130 = .ok (.getfield 39, 3) := by decide +kernel
theorem d203_133 : decode (zz_c 203) 133 = .ok (.iload_n 3, 1) := by decide +kernel
theorem d203_134 : decode (zz_c 203) 134 = .ok (.iaload, 1) := by decide +kernel
theorem d203_135 : decode (zz_c 203) 135 = .ok (.iload_n 1, 1) := by decide +kernel
theorem d203_136 : decode (zz_c 203) 136 = .ok (.if_icmp .ne 7, 3) := by decide +kernel
theorem d203_139 : decode (zz_c 203) 139 = .ok (.iconst 1, 1) := by decide +kernel
theorem d203_140 : decode (zz_c 203) 140 = .ok (.goto 4, 3) := by decide +kernel
theorem d203_143 : decode (zz_c 203) 143 = .ok (.iconst 0, 1) := by decide +kernel
theorem d203_144 : decode (zz_c 203) 144 = .ok (.iadd, 1) := by decide +kernel
theorem d203_145 : decode (zz_c 203) 145 = .ok (.istore_n 2, 1) := by decide +kernel
theorem d203_146 : decode (zz_c 203) 146 = .ok (.iinc 3 1, 3) := by decide +kernel
theorem d203_149 : decode (zz_c 203) 149 = .ok (.goto (-39), 3) := by decide +kernel
theorem d203_152 : decode (zz_c 203) 152 = .ok (.iload_n 2, 1) := by decide +kernel
theorem d203_153 : decode (zz_c 203) 153 = .ok (.ireturn, 1) := by decide +kernel
theorem x203_p0 : (∀ l0 l2 l3 x st h, zz_Y 203 (0, [l0, some (.int x), l2, l3], st, h) = zz_Y 203 (1, [l0, some (.int x), l2, l3], .int x :: st, h)) ∧ (∀ ls st h, zz_Y 203 (1, ls, st, h) = zz_Y 203 (2, ls, .int (nI 0) :: st, h)) ∧ (∀ ls st h, zz_Y 203 (2, ls, st, h) = zz_Y 203 (4, ls, .int (nI 20) :: st, h)) ∧ (∀ ls a0 a1 a2 h, zz_Y 203 (4, ls, [a2, a1, a0], h) = mo_k 203 7 ls [] (zz_run 154 [a0, a1, a2] h)) ∧ (∀ ls a st h, zz_Y 203 (7, ls, .int a :: st, h) = if a = nI 0 then zz_Y 203 (10, ls, st, h) else zz_Y 203 (12, ls, st, h)) ∧ (∀ ls st h, zz_Y 203 (10, ls, st, h) = zz_Y 203 (11, ls, .int (-1) :: st, h)) ∧ (∀ ls v h, zz_Y 203 (11, ls, [.int v], h) = some (some (.int v), h)) ∧ (∀ ls st h, zz_Y 203 (12, ls, st, h) = zz_Y 203 (13, ls, .int (nI 0) :: st, h)) ∧ (∀ l0 l1 l2 l3 x st h, zz_nl l1 = true → zz_Y 203 (13, [l0, l1, l2, l3], .int x :: st, h) = zz_Y 203 (14, [l0, l1, some (.int x), l3], st, h)) ∧ (∀ ls st h, zz_Y 203 (15, ls, st, h) = zz_Y 203 (18, ls, .int (nI 256) :: st, h)) ∧ (∀ ls a b st h, zz_Y 203 (18, ls, .int b :: .int a :: st, h) = if a < b then zz_Y 203 (21, ls, st, h) else zz_Y 203 (34, ls, st, h)) ∧ (∀ l1 l2 l3 x st h, zz_Y 203 (21, [some (.ref x), l1, l2, l3], st, h) = zz_Y 203 (22, [some (.ref x), l1, l2, l3], .ref x :: st, h)) ∧ (∀ ls a st h, zz_Y 203 (22, ls, .ref a :: st, h) = mo_gf (hp_g h a) 11 12 203 25 ls st h) ∧ (∀ l0 l1 l3 x st h, zz_Y 203 (25, [l0, l1, some (.int x), l3], st, h) = zz_Y 203 (26, [l0, l1, some (.int x), l3], .int x :: st, h)) ∧ (∀ ls st h, zz_Y 203 (26, ls, st, h) = zz_Y 203 (27, ls, .int (nI 0) :: st, h)) ∧ (∀ ls a i x st h, zz_Y 203 (27, ls, .int x :: .int i :: .ref a :: st, h) = mo_is (hp_g h a) x i a 203 28 ls st h) ∧ (∀ l0 l1 l3 x st h, zz_nl l1 = true → zz_Y 203 (28, [l0, l1, some (.int x), l3], st, h) = zz_Y 203 (31, [l0, l1, some (.int (x + nI 1)), l3], st, h)) ∧ (∀ ls st h, zz_Y 203 (31, ls, st, h) = zz_Y 203 (14, ls, st, h)) ∧ (∀ ls st h, zz_Y 203 (34, ls, st, h) = zz_Y 203 (35, ls, .int (nI 0) :: st, h)) ∧ (∀ l0 l1 l2 l3 x st h, zz_nl l1 = true → zz_Y 203 (35, [l0, l1, l2, l3], .int x :: st, h) = zz_Y 203 (36, [l0, l1, some (.int x), l3], st, h)) ∧ (∀ l1 l2 l3 x st h, zz_Y 203 (37, [some (.ref x), l1, l2, l3], st, h) = zz_Y 203 (38, [some (.ref x), l1, l2, l3], .ref x :: st, h)) ∧ (∀ ls a st h, zz_Y 203 (38, ls, .ref a :: st, h) = mo_gf (hp_g h a) 11 0 203 41 ls st h) ∧ (∀ ls st h, zz_Y 203 (41, ls, st, h) = zz_Y 203 (42, ls, .int (nI 1) :: st, h)) ∧ (∀ ls a i st h, zz_Y 203 (42, ls, .int i :: .ref a :: st, h) = mo_ia (hp_g h a) i a 203 43 ls st h) ∧ (∀ ls a b st h, zz_Y 203 (43, ls, .int b :: .int a :: st, h) = if a < b then zz_Y 203 (46, ls, st, h) else zz_Y 203 (101, ls, st, h)) ∧ (∀ l1 l2 l3 x st h, zz_Y 203 (46, [some (.ref x), l1, l2, l3], st, h) = zz_Y 203 (47, [some (.ref x), l1, l2, l3], .ref x :: st, h)) ∧ (∀ l1 l2 l3 x st h, zz_Y 203 (47, [some (.ref x), l1, l2, l3], st, h) = zz_Y 203 (48, [some (.ref x), l1, l2, l3], .ref x :: st, h)) ∧ (∀ ls a st h, zz_Y 203 (48, ls, .ref a :: st, h) = mo_gf (hp_g h a) 11 7 203 51 ls st h) ∧ (∀ l0 l1 l3 x st h, zz_Y 203 (51, [l0, l1, some (.int x), l3], st, h) = zz_Y 203 (52, [l0, l1, some (.int x), l3], .int x :: st, h)) ∧ (∀ ls a0 a1 a2 h, zz_Y 203 (52, ls, [a2, a1, a0], h) = mo_k 203 55 ls [] (zz_run 156 [a0, a1, a2] h)) ∧ (∀ ls st h, zz_Y 203 (55, ls, st, h) = zz_Y 203 (56, ls, .int (nI 0) :: st, h)) ∧ (∀ l0 l1 l2 l3 x st h, zz_nl l2 = true → zz_Y 203 (56, [l0, l1, l2, l3], .int x :: st, h) = zz_Y 203 (57, [l0, l1, l2, some (.int x)], st, h)) ∧ (∀ ls st h, zz_Y 203 (58, ls, st, h) = zz_Y 203 (61, ls, .int (nI 256) :: st, h)) ∧ (∀ ls a b st h, zz_Y 203 (61, ls, .int b :: .int a :: st, h) = if a < b then zz_Y 203 (64, ls, st, h) else zz_Y 203 (95, ls, st, h)) ∧ (∀ l1 l2 l3 x st h, zz_Y 203 (64, [some (.ref x), l1, l2, l3], st, h) = zz_Y 203 (65, [some (.ref x), l1, l2, l3], .ref x :: st, h)) ∧ (∀ ls a st h, zz_Y 203 (65, ls, .ref a :: st, h) = mo_gf (hp_g h a) 11 12 203 68 ls st h) ∧ (∀ l0 l1 l2 x st h, zz_Y 203 (68, [l0, l1, l2, some (.int x)], st, h) = zz_Y 203 (69, [l0, l1, l2, some (.int x)], .int x :: st, h)) ∧ (∀ ls a b st h, zz_Y 203 (69, ls, .int b :: .ref a :: st, h) = zz_Y 203 (70, ls, .int b :: .ref a :: .int b :: .ref a :: st, h)) ∧ (∀ ls a i st h, zz_Y 203 (70, ls, .int i :: .ref a :: st, h) = mo_ia (hp_g h a) i a 203 71 ls st h) ∧ (∀ l1 l2 l3 x st h, zz_Y 203 (71, [some (.ref x), l1, l2, l3], st, h) = zz_Y 203 (72, [some (.ref x), l1, l2, l3], .ref x :: st, h)) ∧ (∀ ls a st h, zz_Y 203 (72, ls, .ref a :: st, h) = mo_gf (hp_g h a) 11 7 203 75 ls st h) ∧ (∀ l0 l1 l2 x st h, zz_Y 203 (75, [l0, l1, l2, some (.int x)], st, h) = zz_Y 203 (76, [l0, l1, l2, some (.int x)], .int x :: st, h)) ∧ (∀ ls a0 a1 s0 s1 s2 h, zz_Y 203 (76, ls, [a1, a0, s0, s1, s2], h) = mo_k 203 79 ls [s0, s1, s2] (zz_run 190 [a0, a1] h)) ∧ (∀ ls a st h, zz_Y 203 (79, ls, .int a :: st, h) = if a = nI 0 then zz_Y 203 (86, ls, st, h) else zz_Y 203 (82, ls, st, h)) ∧ (∀ ls st h, zz_Y 203 (82, ls, st, h) = zz_Y 203 (83, ls, .int (nI 1) :: st, h)) ∧ (∀ ls st h, zz_Y 203 (83, ls, st, h) = zz_Y 203 (87, ls, st, h)) ∧ (∀ ls st h, zz_Y 203 (86, ls, st, h) = zz_Y 203 (87, ls, .int (nI 0) :: st, h)) ∧ (∀ ls a b st h, zz_Y 203 (87, ls, .int b :: .int a :: st, h) = zz_Y 203 (88, ls, .int (a + b) :: st, h)) ∧ (∀ ls a i x st h, zz_Y 203 (88, ls, .int x :: .int i :: .ref a :: st, h) = mo_is (hp_g h a) x i a 203 89 ls st h) ∧ (∀ l0 l1 l2 x st h, zz_nl l2 = true → zz_Y 203 (89, [l0, l1, l2, some (.int x)], st, h) = zz_Y 203 (92, [l0, l1, l2, some (.int (x + nI 1))], st, h)) ∧ (∀ ls st h, zz_Y 203 (92, ls, st, h) = zz_Y 203 (57, ls, st, h)) ∧ (∀ l0 l1 l3 x st h, zz_nl l1 = true → zz_Y 203 (95, [l0, l1, some (.int x), l3], st, h) = zz_Y 203 (98, [l0, l1, some (.int (x + nI 1)), l3], st, h)) ∧ (∀ ls st h, zz_Y 203 (98, ls, st, h) = zz_Y 203 (36, ls, st, h)) ∧ (∀ l1 l2 l3 x st h, zz_Y 203 (101, [some (.ref x), l1, l2, l3], st, h) = zz_Y 203 (102, [some (.ref x), l1, l2, l3], .ref x :: st, h)) ∧ (∀ ls st h, zz_Y 203 (102, ls, st, h) = zz_Y 203 (103, ls, .int (-1) :: st, h)) ∧ (∀ ls a0 a1 h, zz_Y 203 (103, ls, [a1, a0], h) = mo_k 203 106 ls [] (zz_run 167 [a0, a1] h)) ∧ (∀ ls st h, zz_Y 203 (106, ls, st, h) = zz_Y 203 (107, ls, .int (nI 0) :: st, h)) ∧ (∀ l0 l1 l2 l3 x st h, zz_nl l1 = true → zz_Y 203 (107, [l0, l1, l2, l3], .int x :: st, h) = zz_Y 203 (108, [l0, l1, some (.int x), l3], st, h)) ∧ (∀ ls st h, zz_Y 203 (108, ls, st, h) = zz_Y 203 (109, ls, .int (nI 0) :: st, h)) ∧ (∀ l0 l1 l2 l3 x st h, zz_nl l2 = true → zz_Y 203 (109, [l0, l1, l2, l3], .int x :: st, h) = zz_Y 203 (110, [l0, l1, l2, some (.int x)], st, h)) :=
  ⟨fun _ _ _ _ _ _ => xl_iln d203_0 rfl,
   fun _ _ _ => xl_ic d203_1 (by decide +kernel),
   fun _ _ _ => xl_bi d203_2 (by decide +kernel),
   fun ls a0 a1 a2 h => xl_cs (As := [a0, a1, a2]) (st := []) d203_4 xco203 xm_11_57 xnp154 (by decide +kernel) rfl,
   fun _ _ _ _ => xl_ifne d203_7 rfl,
   fun _ _ _ => xl_ic d203_10 (by decide +kernel),
   fun _ _ _ => xl_iri d203_11 xrt203,
   fun _ _ _ => xl_ic d203_12 (by decide +kernel),
   fun _ _ _ _ _ _ _ hc => xl_isn d203_13 xml203 (by decide) (zz_nl_s1 hc),
   fun _ _ _ => xl_si d203_15 (by decide +kernel),
   fun _ _ _ _ _ => xl_icge d203_18 rfl,
   fun _ _ _ _ _ _ => xl_aln d203_21 rfl,
   fun _ _ _ _ => xl_gf d203_22 xco203 xf_11_39,
   fun _ _ _ _ _ _ => xl_iln d203_25 rfl,
   fun _ _ _ => xl_ic d203_26 (by decide +kernel),
   fun _ _ _ _ _ _ => xl_ist d203_27,
   fun _ _ _ _ _ _ hc => xl_inc d203_28 xml203 (by decide) rfl (by decide +kernel) (zz_nl_s1 hc),
   fun _ _ _ => xl_goto d203_31 rfl,
   fun _ _ _ => xl_ic d203_34 (by decide +kernel),
   fun _ _ _ _ _ _ _ hc => xl_isn d203_35 xml203 (by decide) (zz_nl_s1 hc),
   fun _ _ _ _ _ _ => xl_aln d203_37 rfl,
   fun _ _ _ _ => xl_gf d203_38 xco203 xf_11_7,
   fun _ _ _ => xl_ic d203_41 (by decide +kernel),
   fun _ _ _ _ _ => xl_ia d203_42,
   fun _ _ _ _ _ => xl_icge d203_43 rfl,
   fun _ _ _ _ _ _ => xl_aln d203_46 rfl,
   fun _ _ _ _ _ _ => xl_aln d203_47 rfl,
   fun _ _ _ _ => xl_gf d203_48 xco203 xf_11_24,
   fun _ _ _ _ _ _ => xl_iln d203_51 rfl,
   fun ls a0 a1 a2 h => xl_cv (As := [a0, a1, a2]) (st := []) d203_52 xco203 xm_11_96 (congrArg Nat.succ xnp156) (by decide +kernel) rfl,
   fun _ _ _ => xl_ic d203_55 (by decide +kernel),
   fun _ _ _ _ _ _ _ hc => xl_isn d203_56 xml203 (by decide) (zz_nl_s1 hc),
   fun _ _ _ => xl_si d203_58 (by decide +kernel),
   fun _ _ _ _ _ => xl_icge d203_61 rfl,
   fun _ _ _ _ _ _ => xl_aln d203_64 rfl,
   fun _ _ _ _ => xl_gf d203_65 xco203 xf_11_39,
   fun _ _ _ _ _ _ => xl_iln d203_68 rfl,
   fun _ _ _ _ _ => xl_dup2 d203_69,
   fun _ _ _ _ _ => xl_ia d203_70,
   fun _ _ _ _ _ _ => xl_aln d203_71 rfl,
   fun _ _ _ _ => xl_gf d203_72 xco203 xf_11_24,
   fun _ _ _ _ _ _ => xl_iln d203_75 rfl,
   fun ls a0 a1 s0 s1 s2 h => xl_cs (As := [a0, a1]) (st := [s0, s1, s2]) d203_76 xco203 xm_11_73 xnp190 (by decide +kernel) rfl,
   fun _ _ _ _ => xl_ifeq d203_79 rfl,
   fun _ _ _ => xl_ic d203_82 (by decide +kernel),
   fun _ _ _ => xl_goto d203_83 rfl,
   fun _ _ _ => xl_ic d203_86 (by decide +kernel),
   fun _ _ _ _ _ => xl_iadd d203_87,
   fun _ _ _ _ _ _ => xl_ist d203_88,
   fun _ _ _ _ _ _ hc => xl_inc d203_89 xml203 (by decide) rfl (by decide +kernel) (zz_nl_s1 hc),
   fun _ _ _ => xl_goto d203_92 rfl,
   fun _ _ _ _ _ _ hc => xl_inc d203_95 xml203 (by decide) rfl (by decide +kernel) (zz_nl_s1 hc),
   fun _ _ _ => xl_goto d203_98 rfl,
   fun _ _ _ _ _ _ => xl_aln d203_101 rfl,
   fun _ _ _ => xl_ic d203_102 (by decide +kernel),
   fun ls a0 a1 h => xl_cv (As := [a0, a1]) (st := []) d203_103 xco203 xm_11_106 (congrArg Nat.succ xnp167) (by decide +kernel) rfl,
   fun _ _ _ => xl_ic d203_106 (by decide +kernel),
   fun _ _ _ _ _ _ _ hc => xl_isn d203_107 xml203 (by decide) (zz_nl_s1 hc),
   fun _ _ _ => xl_ic d203_108 (by decide +kernel),
   fun _ _ _ _ _ _ _ hc => xl_isn d203_109 xml203 (by decide) (zz_nl_s1 hc)⟩
theorem x203_p1 : (∀ ls st h, zz_Y 203 (111, ls, st, h) = zz_Y 203 (114, ls, .int (nI 256) :: st, h)) ∧ (∀ ls a b st h, zz_Y 203 (114, ls, .int b :: .int a :: st, h) = if a < b then zz_Y 203 (117, ls, st, h) else zz_Y 203 (152, ls, st, h)) ∧ (∀ l0 l1 l3 x st h, zz_Y 203 (117, [l0, l1, some (.int x), l3], st, h) = zz_Y 203 (118, [l0, l1, some (.int x), l3], .int x :: st, h)) ∧ (∀ l1 l2 l3 x st h, zz_Y 203 (118, [some (.ref x), l1, l2, l3], st, h) = zz_Y 203 (119, [some (.ref x), l1, l2, l3], .ref x :: st, h)) ∧ (∀ ls a st h, zz_Y 203 (119, ls, .ref a :: st, h) = mo_gf (hp_g h a) 11 9 203 122 ls st h) ∧ (∀ l0 l1 l2 x st h, zz_Y 203 (122, [l0, l1, l2, some (.int x)], st, h) = zz_Y 203 (123, [l0, l1, l2, some (.int x)], .int x :: st, h)) ∧ (∀ ls a0 a1 s0 h, zz_Y 203 (123, ls, [a1, a0, s0], h) = mo_k 203 126 ls [s0] (zz_run 190 [a0, a1] h)) ∧ (∀ ls a st h, zz_Y 203 (126, ls, .int a :: st, h) = if a = nI 0 then zz_Y 203 (143, ls, st, h) else zz_Y 203 (129, ls, st, h)) ∧ (∀ l1 l2 l3 x st h, zz_Y 203 (129, [some (.ref x), l1, l2, l3], st, h) = zz_Y 203 (130, [some (.ref x), l1, l2, l3], .ref x :: st, h)) ∧ (∀ ls a st h, zz_Y 203 (130, ls, .ref a :: st, h) = mo_gf (hp_g h a) 11 12 203 133 ls st h) ∧ (∀ l0 l1 l2 x st h, zz_Y 203 (133, [l0, l1, l2, some (.int x)], st, h) = zz_Y 203 (134, [l0, l1, l2, some (.int x)], .int x :: st, h)) ∧ (∀ ls a i st h, zz_Y 203 (134, ls, .int i :: .ref a :: st, h) = mo_ia (hp_g h a) i a 203 135 ls st h) ∧ (∀ l0 l2 l3 x st h, zz_Y 203 (135, [l0, some (.int x), l2, l3], st, h) = zz_Y 203 (136, [l0, some (.int x), l2, l3], .int x :: st, h)) ∧ (∀ ls a b st h, zz_Y 203 (136, ls, .int b :: .int a :: st, h) = if a = b then zz_Y 203 (139, ls, st, h) else zz_Y 203 (143, ls, st, h)) ∧ (∀ ls st h, zz_Y 203 (139, ls, st, h) = zz_Y 203 (140, ls, .int (nI 1) :: st, h)) ∧ (∀ ls st h, zz_Y 203 (140, ls, st, h) = zz_Y 203 (144, ls, st, h)) ∧ (∀ ls st h, zz_Y 203 (143, ls, st, h) = zz_Y 203 (144, ls, .int (nI 0) :: st, h)) ∧ (∀ ls a b st h, zz_Y 203 (144, ls, .int b :: .int a :: st, h) = zz_Y 203 (145, ls, .int (a + b) :: st, h)) ∧ (∀ l0 l1 l2 l3 x st h, zz_nl l1 = true → zz_Y 203 (145, [l0, l1, l2, l3], .int x :: st, h) = zz_Y 203 (146, [l0, l1, some (.int x), l3], st, h)) ∧ (∀ l0 l1 l2 x st h, zz_nl l2 = true → zz_Y 203 (146, [l0, l1, l2, some (.int x)], st, h) = zz_Y 203 (149, [l0, l1, l2, some (.int (x + nI 1))], st, h)) ∧ (∀ ls st h, zz_Y 203 (149, ls, st, h) = zz_Y 203 (110, ls, st, h)) ∧ (∀ l0 l1 l3 x st h, zz_Y 203 (152, [l0, l1, some (.int x), l3], st, h) = zz_Y 203 (153, [l0, l1, some (.int x), l3], .int x :: st, h)) ∧ (∀ ls v h, zz_Y 203 (153, ls, [.int v], h) = some (some (.int v), h)) :=
  ⟨fun _ _ _ => xl_si d203_111 (by decide +kernel),
   fun _ _ _ _ _ => xl_icge d203_114 rfl,
   fun _ _ _ _ _ _ => xl_iln d203_117 rfl,
   fun _ _ _ _ _ _ => xl_aln d203_118 rfl,
   fun _ _ _ _ => xl_gf d203_119 xco203 xf_11_30,
   fun _ _ _ _ _ _ => xl_iln d203_122 rfl,
   fun ls a0 a1 s0 h => xl_cs (As := [a0, a1]) (st := [s0]) d203_123 xco203 xm_11_73 xnp190 (by decide +kernel) rfl,
   fun _ _ _ _ => xl_ifeq d203_126 rfl,
   fun _ _ _ _ _ _ => xl_aln d203_129 rfl,
   fun _ _ _ _ => xl_gf d203_130 xco203 xf_11_39,
   fun _ _ _ _ _ _ => xl_iln d203_133 rfl,
   fun _ _ _ _ _ => xl_ia d203_134,
   fun _ _ _ _ _ _ => xl_iln d203_135 rfl,
   fun _ _ _ _ _ => xl_icne d203_136 rfl,
   fun _ _ _ => xl_ic d203_139 (by decide +kernel),
   fun _ _ _ => xl_goto d203_140 rfl,
   fun _ _ _ => xl_ic d203_143 (by decide +kernel),
   fun _ _ _ _ _ => xl_iadd d203_144,
   fun _ _ _ _ _ _ _ hc => xl_isn d203_145 xml203 (by decide) (zz_nl_s1 hc),
   fun _ _ _ _ _ _ hc => xl_inc d203_146 xml203 (by decide) rfl (by decide +kernel) (zz_nl_s1 hc),
   fun _ _ _ => xl_goto d203_149 rfl,
   fun _ _ _ _ _ _ => xl_iln d203_152 rfl,
   fun _ _ _ => xl_iri d203_153 xrt203⟩
theorem x203_c14 : ∀ l0 l1 l3 x st h, zz_Y 203 (14, [l0, l1, some (.int x), l3], st, h) = zz_Y 203 (15, [l0, l1, some (.int x), l3], .int x :: st, h) := fun _ _ _ _ _ _ => xl_iln d203_14 rfl
theorem x203_c36 : ∀ l0 l1 l3 x st h, zz_Y 203 (36, [l0, l1, some (.int x), l3], st, h) = zz_Y 203 (37, [l0, l1, some (.int x), l3], .int x :: st, h) := fun _ _ _ _ _ _ => xl_iln d203_36 rfl
theorem x203_c57 : ∀ l0 l1 l2 x st h, zz_Y 203 (57, [l0, l1, l2, some (.int x)], st, h) = zz_Y 203 (58, [l0, l1, l2, some (.int x)], .int x :: st, h) := fun _ _ _ _ _ _ => xl_iln d203_57 rfl
theorem x203_c110 : ∀ l0 l1 l2 x st h, zz_Y 203 (110, [l0, l1, l2, some (.int x)], st, h) = zz_Y 203 (111, [l0, l1, l2, some (.int x)], .int x :: st, h) := fun _ _ _ _ _ _ => xl_iln d203_110 rfl
/-! 204 FacetSieveModel.add(II)I -/
theorem d204_0 : decode (zz_c 204) 0 = .ok (.aload_n 0, 1) := by decide +kernel
theorem d204_1 : decode (zz_c 204) 1 = .ok (.iload_n 1, 1) := by decide +kernel
theorem d204_2 : decode (zz_c 204) 2 = .ok (.invokestatic 61, 3) := by decide +kernel
theorem d204_5 : decode (zz_c 204) 5 = .ok (.ifCond .eq 14, 3) := by decide +kernel
theorem d204_8 : decode (zz_c 204) 8 = .ok (.iload_n 2, 1) := by decide +kernel
theorem d204_9 : decode (zz_c 204) 9 = .ok (.iconst 0, 1) := by decide +kernel
theorem d204_10 : decode (zz_c 204) 10 = .ok (.sipush 999, 3) := by decide +kernel
theorem d204_13 : decode (zz_c 204) 13 = .ok (.invokestatic 57, 3) := by decide +kernel
theorem d204_16 : decode (zz_c 204) 16 = .ok (.ifCond .ne 7, 3) := by decide +kernel
theorem d204_19 : decode (zz_c 204) 19 = .ok (.iconst 1, 1) := by decide +kernel
theorem d204_20 : decode (zz_c 204) 20 = .ok (.goto 16, 3) := by decide +kernel
theorem d204_23 : decode (zz_c 204) 23 = .ok (.aload_n 0, 1) := by decide +kernel
theorem d204_24 : decode (zz_c 204) 24 = .ok (.iload_n 1, 1) := by decide +kernel
theorem d204_25 : decode (zz_c 204) 25 = .ok (.invokevirtual 170, 3) := by decide +kernel
theorem d204_28 : decode (zz_c 204) 28 = .ok (.ifCond .eq 7, 3) := by decide +kernel
theorem d204_31 : decode (zz_c 204) 31 = .ok (.iconst 2, 1) := by decide +kernel
theorem d204_32 : decode (zz_c 204) 32 = .ok (.goto 4, 3) := by decide +kernel
theorem d204_35 : decode (zz_c 204) 35 = .ok (.iconst 0, 1) := by decide +kernel
theorem d204_36 : decode (zz_c 204) 36 = .ok (.iconst (-1), 1) := by decide +kernel
theorem d204_37 : decode (zz_c 204) 37 = .ok (.invokevirtual 197, 3) := by decide +kernel
theorem d204_40 : decode (zz_c 204) 40 = .ok (.istore_n 3, 1) := by decide +kernel
theorem d204_41 : decode (zz_c 204) 41 = .ok (.iload_n 3, 1) := by decide +kernel
theorem d204_42 : decode (zz_c 204) 42 = .ok (.ifCond .le 5, 3) := by decide +kernel
theorem d204_45 : decode (zz_c 204) 45 = .ok (.iload_n 3, 1) := by decide +kernel
theorem d204_46 : decode (zz_c 204) 46 = .ok (.ireturn, 1) := by decide +kernel
theorem d204_47 : decode (zz_c 204) 47 = .ok (.aload_n 0, 1) := by decide +kernel
theorem d204_48 : decode (zz_c 204) 48 = .ok (.sipush 294, 3) := by decide +kernel
theorem d204_51 : decode (zz_c 204) 51 = .ok (.iload_n 1, 1) := by decide +kernel
theorem d204_52 : decode (zz_c 204) 52 = .ok (.invokevirtual 200, 3) := by decide +kernel
theorem d204_55 : decode (zz_c 204) 55 = .ok (.aload_n 0, 1) := by decide +kernel
theorem d204_56 : decode (zz_c 204) 56 = .ok (.getfield 7, 3) := by decide +kernel
theorem d204_59 : decode (zz_c 204) 59 = .ok (.sipush 462, 3) := by decide +kernel
theorem d204_62 : decode (zz_c 204) 62 = .ok (.iload_n 1, 1) := by decide +kernel
theorem d204_63 : decode (zz_c 204) 63 = .ok (.iadd, 1) := by decide +kernel
theorem d204_64 : decode (zz_c 204) 64 = .ok (.iload_n 2, 1) := by decide +kernel
theorem d204_65 : decode (zz_c 204) 65 = .ok (.iastore, 1) := by decide +kernel
theorem d204_66 : decode (zz_c 204) 66 = .ok (.iconst 0, 1) := by decide +kernel
theorem d204_67 : decode (zz_c 204) 67 = .ok (.ireturn, 1) := by decide +kernel
theorem x204 : (∀ l1 l2 l3 x st h, zz_Y 204 (0, [some (.ref x), l1, l2, l3], st, h) = zz_Y 204 (1, [some (.ref x), l1, l2, l3], .ref x :: st, h)) ∧ (∀ l0 l2 l3 x st h, zz_Y 204 (1, [l0, some (.int x), l2, l3], st, h) = zz_Y 204 (2, [l0, some (.int x), l2, l3], .int x :: st, h)) ∧ (∀ ls a0 s0 h, zz_Y 204 (2, ls, [a0, s0], h) = mo_k 204 5 ls [s0] (zz_run 188 [a0] h)) ∧ (∀ ls a st h, zz_Y 204 (5, ls, .int a :: st, h) = if a = nI 0 then zz_Y 204 (19, ls, st, h) else zz_Y 204 (8, ls, st, h)) ∧ (∀ l0 l1 l3 x st h, zz_Y 204 (8, [l0, l1, some (.int x), l3], st, h) = zz_Y 204 (9, [l0, l1, some (.int x), l3], .int x :: st, h)) ∧ (∀ ls st h, zz_Y 204 (9, ls, st, h) = zz_Y 204 (10, ls, .int (nI 0) :: st, h)) ∧ (∀ ls st h, zz_Y 204 (10, ls, st, h) = zz_Y 204 (13, ls, .int (nI 999) :: st, h)) ∧ (∀ ls a0 a1 a2 s0 h, zz_Y 204 (13, ls, [a2, a1, a0, s0], h) = mo_k 204 16 ls [s0] (zz_run 154 [a0, a1, a2] h)) ∧ (∀ ls a st h, zz_Y 204 (16, ls, .int a :: st, h) = if a = nI 0 then zz_Y 204 (19, ls, st, h) else zz_Y 204 (23, ls, st, h)) ∧ (∀ ls st h, zz_Y 204 (19, ls, st, h) = zz_Y 204 (20, ls, .int (nI 1) :: st, h)) ∧ (∀ ls st h, zz_Y 204 (20, ls, st, h) = zz_Y 204 (36, ls, st, h)) ∧ (∀ l1 l2 l3 x st h, zz_Y 204 (23, [some (.ref x), l1, l2, l3], st, h) = zz_Y 204 (24, [some (.ref x), l1, l2, l3], .ref x :: st, h)) ∧ (∀ l0 l2 l3 x st h, zz_Y 204 (24, [l0, some (.int x), l2, l3], st, h) = zz_Y 204 (25, [l0, some (.int x), l2, l3], .int x :: st, h)) ∧ (∀ ls a0 a1 s0 h, zz_Y 204 (25, ls, [a1, a0, s0], h) = mo_k 204 28 ls [s0] (zz_run 187 [a0, a1] h)) ∧ (∀ ls a st h, zz_Y 204 (28, ls, .int a :: st, h) = if a = nI 0 then zz_Y 204 (35, ls, st, h) else zz_Y 204 (31, ls, st, h)) ∧ (∀ ls st h, zz_Y 204 (31, ls, st, h) = zz_Y 204 (32, ls, .int (nI 2) :: st, h)) ∧ (∀ ls st h, zz_Y 204 (32, ls, st, h) = zz_Y 204 (36, ls, st, h)) ∧ (∀ ls st h, zz_Y 204 (35, ls, st, h) = zz_Y 204 (36, ls, .int (nI 0) :: st, h)) ∧ (∀ ls st h, zz_Y 204 (36, ls, st, h) = zz_Y 204 (37, ls, .int (-1) :: st, h)) ∧ (∀ ls a0 a1 a2 h, zz_Y 204 (37, ls, [a2, a1, a0], h) = mo_k 204 40 ls [] (zz_run 205 [a0, a1, a2] h)) ∧ (∀ l0 l1 l2 l3 x st h, zz_nl l2 = true → zz_Y 204 (40, [l0, l1, l2, l3], .int x :: st, h) = zz_Y 204 (41, [l0, l1, l2, some (.int x)], st, h)) ∧ (∀ l0 l1 l2 x st h, zz_Y 204 (41, [l0, l1, l2, some (.int x)], st, h) = zz_Y 204 (42, [l0, l1, l2, some (.int x)], .int x :: st, h)) ∧ (∀ ls a st h, zz_Y 204 (42, ls, .int a :: st, h) = if nI 0 < a then zz_Y 204 (45, ls, st, h) else zz_Y 204 (47, ls, st, h)) ∧ (∀ l0 l1 l2 x st h, zz_Y 204 (45, [l0, l1, l2, some (.int x)], st, h) = zz_Y 204 (46, [l0, l1, l2, some (.int x)], .int x :: st, h)) ∧ (∀ ls v h, zz_Y 204 (46, ls, [.int v], h) = some (some (.int v), h)) ∧ (∀ l1 l2 l3 x st h, zz_Y 204 (47, [some (.ref x), l1, l2, l3], st, h) = zz_Y 204 (48, [some (.ref x), l1, l2, l3], .ref x :: st, h)) ∧ (∀ ls st h, zz_Y 204 (48, ls, st, h) = zz_Y 204 (51, ls, .int (nI 294) :: st, h)) ∧ (∀ l0 l2 l3 x st h, zz_Y 204 (51, [l0, some (.int x), l2, l3], st, h) = zz_Y 204 (52, [l0, some (.int x), l2, l3], .int x :: st, h)) ∧ (∀ ls a0 a1 a2 h, zz_Y 204 (52, ls, [a2, a1, a0], h) = mo_k 204 55 ls [] (zz_run 208 [a0, a1, a2] h)) ∧ (∀ l1 l2 l3 x st h, zz_Y 204 (55, [some (.ref x), l1, l2, l3], st, h) = zz_Y 204 (56, [some (.ref x), l1, l2, l3], .ref x :: st, h)) ∧ (∀ ls a st h, zz_Y 204 (56, ls, .ref a :: st, h) = mo_gf (hp_g h a) 11 0 204 59 ls st h) ∧ (∀ ls st h, zz_Y 204 (59, ls, st, h) = zz_Y 204 (62, ls, .int (nI 462) :: st, h)) ∧ (∀ l0 l2 l3 x st h, zz_Y 204 (62, [l0, some (.int x), l2, l3], st, h) = zz_Y 204 (63, [l0, some (.int x), l2, l3], .int x :: st, h)) ∧ (∀ ls a b st h, zz_Y 204 (63, ls, .int b :: .int a :: st, h) = zz_Y 204 (64, ls, .int (a + b) :: st, h)) ∧ (∀ l0 l1 l3 x st h, zz_Y 204 (64, [l0, l1, some (.int x), l3], st, h) = zz_Y 204 (65, [l0, l1, some (.int x), l3], .int x :: st, h)) ∧ (∀ ls a i x st h, zz_Y 204 (65, ls, .int x :: .int i :: .ref a :: st, h) = mo_is (hp_g h a) x i a 204 66 ls st h) ∧ (∀ ls st h, zz_Y 204 (66, ls, st, h) = zz_Y 204 (67, ls, .int (nI 0) :: st, h)) ∧ (∀ ls v h, zz_Y 204 (67, ls, [.int v], h) = some (some (.int v), h)) :=
  ⟨fun _ _ _ _ _ _ => xl_aln d204_0 rfl,
   fun _ _ _ _ _ _ => xl_iln d204_1 rfl,
   fun ls a0 s0 h => xl_cs (As := [a0]) (st := [s0]) d204_2 xco204 xm_11_61 xnp188 (by decide +kernel) rfl,
   fun _ _ _ _ => xl_ifeq d204_5 rfl,
   fun _ _ _ _ _ _ => xl_iln d204_8 rfl,
   fun _ _ _ => xl_ic d204_9 (by decide +kernel),
   fun _ _ _ => xl_si d204_10 (by decide +kernel),
   fun ls a0 a1 a2 s0 h => xl_cs (As := [a0, a1, a2]) (st := [s0]) d204_13 xco204 xm_11_57 xnp154 (by decide +kernel) rfl,
   fun _ _ _ _ => xl_ifne d204_16 rfl,
   fun _ _ _ => xl_ic d204_19 (by decide +kernel),
   fun _ _ _ => xl_goto d204_20 rfl,
   fun _ _ _ _ _ _ => xl_aln d204_23 rfl,
   fun _ _ _ _ _ _ => xl_iln d204_24 rfl,
   fun ls a0 a1 s0 h => xl_cv (As := [a0, a1]) (st := [s0]) d204_25 xco204 xm_11_170 (congrArg Nat.succ xnp187) (by decide +kernel) rfl,
   fun _ _ _ _ => xl_ifeq d204_28 rfl,
   fun _ _ _ => xl_ic d204_31 (by decide +kernel),
   fun _ _ _ => xl_goto d204_32 rfl,
   fun _ _ _ => xl_ic d204_35 (by decide +kernel),
   fun _ _ _ => xl_ic d204_36 (by decide +kernel),
   fun ls a0 a1 a2 h => xl_cv (As := [a0, a1, a2]) (st := []) d204_37 xco204 xm_11_197 (congrArg Nat.succ xnp205) (by decide +kernel) rfl,
   fun _ _ _ _ _ _ _ hc => xl_isn d204_40 xml204 (by decide) (zz_nl_s1 hc),
   fun _ _ _ _ _ _ => xl_iln d204_41 rfl,
   fun _ _ _ _ => xl_ifle d204_42 rfl,
   fun _ _ _ _ _ _ => xl_iln d204_45 rfl,
   fun _ _ _ => xl_iri d204_46 xrt204,
   fun _ _ _ _ _ _ => xl_aln d204_47 rfl,
   fun _ _ _ => xl_si d204_48 (by decide +kernel),
   fun _ _ _ _ _ _ => xl_iln d204_51 rfl,
   fun ls a0 a1 a2 h => xl_cv (As := [a0, a1, a2]) (st := []) d204_52 xco204 xm_11_200 (congrArg Nat.succ xnp208) (by decide +kernel) rfl,
   fun _ _ _ _ _ _ => xl_aln d204_55 rfl,
   fun _ _ _ _ => xl_gf d204_56 xco204 xf_11_7,
   fun _ _ _ => xl_si d204_59 (by decide +kernel),
   fun _ _ _ _ _ _ => xl_iln d204_62 rfl,
   fun _ _ _ _ _ => xl_iadd d204_63,
   fun _ _ _ _ _ _ => xl_iln d204_64 rfl,
   fun _ _ _ _ _ _ => xl_ist d204_65,
   fun _ _ _ => xl_ic d204_66 (by decide +kernel),
   fun _ _ _ => xl_iri d204_67 xrt204⟩
/-! 205 FacetSieveModel.refused(II)I -/
theorem d205_0 : decode (zz_c 205) 0 = .ok (.aload_n 0, 1) := by decide +kernel
theorem d205_1 : decode (zz_c 205) 1 = .ok (.getfield 7, 3) := by decide +kernel
theorem d205_4 : decode (zz_c 205) 4 = .ok (.sipush 728, 3) := by decide +kernel
theorem d205_7 : decode (zz_c 205) 7 = .ok (.iload_n 1, 1) := by decide +kernel
theorem d205_8 : decode (zz_c 205) 8 = .ok (.iastore, 1) := by decide +kernel
theorem d205_9 : decode (zz_c 205) 9 = .ok (.aload_n 0, 1) := by decide +kernel
theorem d205_10 : decode (zz_c 205) 10 = .ok (.getfield 7, 3) := by decide +kernel
theorem d205_13 : decode (zz_c 205) 13 = .ok (.sipush 729, 3) := by decide +kernel
theorem d205_16 : decode (zz_c 205) 16 = .ok (.iload_n 2, 1) := by decide +kernel
theorem d205_17 : decode (zz_c 205) 17 = .ok (.iastore, 1) := by decide +kernel
theorem d205_18 : decode (zz_c 205) 18 = .ok (.iload_n 1, 1) := by decide +kernel
theorem d205_19 : decode (zz_c 205) 19 = .ok (.ifCond .ne 7, 3) := by decide +kernel
theorem d205_22 : decode (zz_c 205) 22 = .ok (.aload_n 0, 1) := by decide +kernel
theorem d205_23 : decode (zz_c 205) 23 = .ok (.invokevirtual 194, 3) := by decide +kernel
theorem d205_26 : decode (zz_c 205) 26 = .ok (.iload_n 1, 1) := by decide +kernel
theorem d205_27 : decode (zz_c 205) 27 = .ok (.ireturn, 1) := by decide +kernel
theorem x205 : (∀ l1 l2 x st h, zz_Y 205 (0, [some (.ref x), l1, l2], st, h) = zz_Y 205 (1, [some (.ref x), l1, l2], .ref x :: st, h)) ∧ (∀ ls a st h, zz_Y 205 (1, ls, .ref a :: st, h) = mo_gf (hp_g h a) 11 0 205 4 ls st h) ∧ (∀ ls st h, zz_Y 205 (4, ls, st, h) = zz_Y 205 (7, ls, .int (nI 728) :: st, h)) ∧ (∀ l0 l2 x st h, zz_Y 205 (7, [l0, some (.int x), l2], st, h) = zz_Y 205 (8, [l0, some (.int x), l2], .int x :: st, h)) ∧ (∀ ls a i x st h, zz_Y 205 (8, ls, .int x :: .int i :: .ref a :: st, h) = mo_is (hp_g h a) x i a 205 9 ls st h) ∧ (∀ l1 l2 x st h, zz_Y 205 (9, [some (.ref x), l1, l2], st, h) = zz_Y 205 (10, [some (.ref x), l1, l2], .ref x :: st, h)) ∧ (∀ ls a st h, zz_Y 205 (10, ls, .ref a :: st, h) = mo_gf (hp_g h a) 11 0 205 13 ls st h) ∧ (∀ ls st h, zz_Y 205 (13, ls, st, h) = zz_Y 205 (16, ls, .int (nI 729) :: st, h)) ∧ (∀ l0 l1 x st h, zz_Y 205 (16, [l0, l1, some (.int x)], st, h) = zz_Y 205 (17, [l0, l1, some (.int x)], .int x :: st, h)) ∧ (∀ ls a i x st h, zz_Y 205 (17, ls, .int x :: .int i :: .ref a :: st, h) = mo_is (hp_g h a) x i a 205 18 ls st h) ∧ (∀ l0 l2 x st h, zz_Y 205 (18, [l0, some (.int x), l2], st, h) = zz_Y 205 (19, [l0, some (.int x), l2], .int x :: st, h)) ∧ (∀ ls a st h, zz_Y 205 (19, ls, .int a :: st, h) = if a = nI 0 then zz_Y 205 (22, ls, st, h) else zz_Y 205 (26, ls, st, h)) ∧ (∀ l1 l2 x st h, zz_Y 205 (22, [some (.ref x), l1, l2], st, h) = zz_Y 205 (23, [some (.ref x), l1, l2], .ref x :: st, h)) ∧ (∀ ls a0 h, zz_Y 205 (23, ls, [a0], h) = mo_k 205 26 ls [] (zz_run 206 [a0] h)) ∧ (∀ l0 l2 x st h, zz_Y 205 (26, [l0, some (.int x), l2], st, h) = zz_Y 205 (27, [l0, some (.int x), l2], .int x :: st, h)) ∧ (∀ ls v h, zz_Y 205 (27, ls, [.int v], h) = some (some (.int v), h)) :=
  ⟨fun _ _ _ _ _ => xl_aln d205_0 rfl,
   fun _ _ _ _ => xl_gf d205_1 xco205 xf_11_7,
   fun _ _ _ => xl_si d205_4 (by decide +kernel),
   fun _ _ _ _ _ => xl_iln d205_7 rfl,
   fun _ _ _ _ _ _ => xl_ist d205_8,
   fun _ _ _ _ _ => xl_aln d205_9 rfl,
   fun _ _ _ _ => xl_gf d205_10 xco205 xf_11_7,
   fun _ _ _ => xl_si d205_13 (by decide +kernel),
   fun _ _ _ _ _ => xl_iln d205_16 rfl,
   fun _ _ _ _ _ _ => xl_ist d205_17,
   fun _ _ _ _ _ => xl_iln d205_18 rfl,
   fun _ _ _ _ => xl_ifne d205_19 rfl,
   fun _ _ _ _ _ => xl_aln d205_22 rfl,
   fun ls a0 h => xl_cv (As := [a0]) (st := []) d205_23 xco205 xm_11_194 (congrArg Nat.succ xnp206) (by decide +kernel) rfl,
   fun _ _ _ _ _ => xl_iln d205_26 rfl,
   fun _ _ _ => xl_iri d205_27 xrt205⟩
/-! 206 FacetSieveModel.keeps()V -/
theorem d206_0 : decode (zz_c 206) 0 = .ok (.aload_n 0, 1) := by decide +kernel
theorem d206_1 : decode (zz_c 206) 1 = .ok (.getfield 144, 3) := by decide +kernel
theorem d206_4 : decode (zz_c 206) 4 = .ok (.bipush 10, 2) := by decide +kernel
theorem d206_6 : decode (zz_c 206) 6 = .ok (.if_icmp .ne 26, 3) := by decide +kernel
theorem d206_9 : decode (zz_c 206) 9 = .ok (.aload_n 0, 1) := by decide +kernel
theorem d206_10 : decode (zz_c 206) 10 = .ok (.sipush 2178, 3) := by decide +kernel
theorem d206_13 : decode (zz_c 206) 13 = .ok (.sipush 1460, 3) := by decide +kernel
theorem d206_16 : decode (zz_c 206) 16 = .ok (.sipush 6462, 3) := by decide +kernel
theorem d206_19 : decode (zz_c 206) 19 = .ok (.invokevirtual 190, 3) := by decide +kernel
theorem d206_22 : decode (zz_c 206) 22 = .ok (.aload_n 0, 1) := by decide +kernel
theorem d206_23 : decode (zz_c 206) 23 = .ok (.dup, 1) := by decide +kernel
theorem d206_24 : decode (zz_c 206) 24 = .ok (.getfield 144, 3) := by decide +kernel
theorem d206_27 : decode (zz_c 206) 27 = .ok (.iconst 1, 1) := by decide +kernel
theorem d206_28 : decode (zz_c 206) 28 = .ok (.isub, 1) := by decide +kernel
theorem d206_29 : decode (zz_c 206) 29 = .ok (.putfield 144, 3) := by decide +kernel
theorem d206_32 : decode (zz_c 206) 32 = .ok (.aload_n 0, 1) := by decide +kernel
theorem d206_33 : decode (zz_c 206) 33 = .ok (.iconst 0, 1) := by decide +kernel
theorem d206_34 : decode (zz_c 206) 34 = .ok (.sipush 1460, 3) := by decide +kernel
theorem d206_37 : decode (zz_c 206) 37 = .ok (.sipush 718, 3) := by decide +kernel
theorem d206_40 : decode (zz_c 206) 40 = .ok (.aload_n 0, 1) := by decide +kernel
theorem d206_41 : decode (zz_c 206) 41 = .ok (.getfield 144, 3) := by decide +kernel
theorem d206_44 : decode (zz_c 206) 44 = .ok (.imul, 1) := by decide +kernel
theorem d206_45 : decode (zz_c 206) 45 = .ok (.iadd, 1) := by decide +kernel
theorem d206_46 : decode (zz_c 206) 46 = .ok (.sipush 718, 3) := by decide +kernel
theorem d206_49 : decode (zz_c 206) 49 = .ok (.invokevirtual 190, 3) := by decide +kernel
theorem d206_52 : decode (zz_c 206) 52 = .ok (.aload_n 0, 1) := by decide +kernel
theorem d206_53 : decode (zz_c 206) 53 = .ok (.dup, 1) := by decide +kernel
theorem d206_54 : decode (zz_c 206) 54 = .ok (.getfield 144, 3) := by decide +kernel
theorem d206_57 : decode (zz_c 206) 57 = .ok (.iconst 1, 1) := by decide +kernel
theorem d206_58 : decode (zz_c 206) 58 = .ok (.iadd, 1) := by decide +kernel
theorem d206_59 : decode (zz_c 206) 59 = .ok (.putfield 144, 3) := by decide +kernel
theorem d206_62 : decode (zz_c 206) 62 = .ok (.return_, 1) := by decide +kernel
theorem x206 : (∀ x st h, zz_Y 206 (0, [some (.ref x)], st, h) = zz_Y 206 (1, [some (.ref x)], .ref x :: st, h)) ∧ (∀ ls a st h, zz_Y 206 (1, ls, .ref a :: st, h) = mo_gf (hp_g h a) 11 6 206 4 ls st h) ∧ (∀ ls st h, zz_Y 206 (4, ls, st, h) = zz_Y 206 (6, ls, .int (nI 10) :: st, h)) ∧ (∀ ls a b st h, zz_Y 206 (6, ls, .int b :: .int a :: st, h) = if a = b then zz_Y 206 (9, ls, st, h) else zz_Y 206 (32, ls, st, h)) ∧ (∀ x st h, zz_Y 206 (9, [some (.ref x)], st, h) = zz_Y 206 (10, [some (.ref x)], .ref x :: st, h)) ∧ (∀ ls st h, zz_Y 206 (10, ls, st, h) = zz_Y 206 (13, ls, .int (nI 2178) :: st, h)) ∧ (∀ ls st h, zz_Y 206 (13, ls, st, h) = zz_Y 206 (16, ls, .int (nI 1460) :: st, h)) ∧ (∀ ls st h, zz_Y 206 (16, ls, st, h) = zz_Y 206 (19, ls, .int (nI 6462) :: st, h)) ∧ (∀ ls a0 a1 a2 a3 h, zz_Y 206 (19, ls, [a3, a2, a1, a0], h) = mo_k 206 22 ls [] (zz_run 207 [a0, a1, a2, a3] h)) ∧ (∀ x st h, zz_Y 206 (22, [some (.ref x)], st, h) = zz_Y 206 (23, [some (.ref x)], .ref x :: st, h)) ∧ (∀ ls a st h, zz_Y 206 (23, ls, .ref a :: st, h) = zz_Y 206 (24, ls, .ref a :: .ref a :: st, h)) ∧ (∀ ls a st h, zz_Y 206 (24, ls, .ref a :: st, h) = mo_gf (hp_g h a) 11 6 206 27 ls st h) ∧ (∀ ls st h, zz_Y 206 (27, ls, st, h) = zz_Y 206 (28, ls, .int (nI 1) :: st, h)) ∧ (∀ ls a b st h, zz_Y 206 (28, ls, .int b :: .int a :: st, h) = zz_Y 206 (29, ls, .int (a - b) :: st, h)) ∧ (∀ ls a v st h, zz_Y 206 (29, ls, v :: .ref a :: st, h) = mo_pf (hp_g h a) 11 6 .int v a 206 32 ls st h) ∧ (∀ x st h, zz_Y 206 (32, [some (.ref x)], st, h) = zz_Y 206 (33, [some (.ref x)], .ref x :: st, h)) ∧ (∀ ls st h, zz_Y 206 (33, ls, st, h) = zz_Y 206 (34, ls, .int (nI 0) :: st, h)) ∧ (∀ ls st h, zz_Y 206 (34, ls, st, h) = zz_Y 206 (37, ls, .int (nI 1460) :: st, h)) ∧ (∀ ls st h, zz_Y 206 (37, ls, st, h) = zz_Y 206 (40, ls, .int (nI 718) :: st, h)) ∧ (∀ x st h, zz_Y 206 (40, [some (.ref x)], st, h) = zz_Y 206 (41, [some (.ref x)], .ref x :: st, h)) ∧ (∀ ls a st h, zz_Y 206 (41, ls, .ref a :: st, h) = mo_gf (hp_g h a) 11 6 206 44 ls st h) ∧ (∀ ls a b st h, zz_Y 206 (44, ls, .int b :: .int a :: st, h) = zz_Y 206 (45, ls, .int (a * b) :: st, h)) ∧ (∀ ls a b st h, zz_Y 206 (45, ls, .int b :: .int a :: st, h) = zz_Y 206 (46, ls, .int (a + b) :: st, h)) ∧ (∀ ls st h, zz_Y 206 (46, ls, st, h) = zz_Y 206 (49, ls, .int (nI 718) :: st, h)) ∧ (∀ ls a0 a1 a2 a3 h, zz_Y 206 (49, ls, [a3, a2, a1, a0], h) = mo_k 206 52 ls [] (zz_run 207 [a0, a1, a2, a3] h)) ∧ (∀ x st h, zz_Y 206 (52, [some (.ref x)], st, h) = zz_Y 206 (53, [some (.ref x)], .ref x :: st, h)) ∧ (∀ ls a st h, zz_Y 206 (53, ls, .ref a :: st, h) = zz_Y 206 (54, ls, .ref a :: .ref a :: st, h)) ∧ (∀ ls a st h, zz_Y 206 (54, ls, .ref a :: st, h) = mo_gf (hp_g h a) 11 6 206 57 ls st h) ∧ (∀ ls st h, zz_Y 206 (57, ls, st, h) = zz_Y 206 (58, ls, .int (nI 1) :: st, h)) ∧ (∀ ls a b st h, zz_Y 206 (58, ls, .int b :: .int a :: st, h) = zz_Y 206 (59, ls, .int (a + b) :: st, h)) ∧ (∀ ls a v st h, zz_Y 206 (59, ls, v :: .ref a :: st, h) = mo_pf (hp_g h a) 11 6 .int v a 206 62 ls st h) ∧ (∀ ls h, zz_Y 206 (62, ls, [], h) = some (none, h)) :=
  ⟨fun _ _ _ => xl_aln d206_0 rfl,
   fun _ _ _ _ => xl_gf d206_1 xco206 xf_11_144,
   fun _ _ _ => xl_bi d206_4 (by decide +kernel),
   fun _ _ _ _ _ => xl_icne d206_6 rfl,
   fun _ _ _ => xl_aln d206_9 rfl,
   fun _ _ _ => xl_si d206_10 (by decide +kernel),
   fun _ _ _ => xl_si d206_13 (by decide +kernel),
   fun _ _ _ => xl_si d206_16 (by decide +kernel),
   fun ls a0 a1 a2 a3 h => xl_cv (As := [a0, a1, a2, a3]) (st := []) d206_19 xco206 xm_11_190 (congrArg Nat.succ xnp207) (by decide +kernel) rfl,
   fun _ _ _ => xl_aln d206_22 rfl,
   fun _ _ _ _ => xl_dupr d206_23,
   fun _ _ _ _ => xl_gf d206_24 xco206 xf_11_144,
   fun _ _ _ => xl_ic d206_27 (by decide +kernel),
   fun _ _ _ _ _ => xl_isub d206_28,
   fun _ _ _ _ _ => xl_pf d206_29 xco206 xf_11_144 (by decide +kernel) rfl,
   fun _ _ _ => xl_aln d206_32 rfl,
   fun _ _ _ => xl_ic d206_33 (by decide +kernel),
   fun _ _ _ => xl_si d206_34 (by decide +kernel),
   fun _ _ _ => xl_si d206_37 (by decide +kernel),
   fun _ _ _ => xl_aln d206_40 rfl,
   fun _ _ _ _ => xl_gf d206_41 xco206 xf_11_144,
   fun _ _ _ _ _ => xl_imul d206_44,
   fun _ _ _ _ _ => xl_iadd d206_45,
   fun _ _ _ => xl_si d206_46 (by decide +kernel),
   fun ls a0 a1 a2 a3 h => xl_cv (As := [a0, a1, a2, a3]) (st := []) d206_49 xco206 xm_11_190 (congrArg Nat.succ xnp207) (by decide +kernel) rfl,
   fun _ _ _ => xl_aln d206_52 rfl,
   fun _ _ _ _ => xl_dupr d206_53,
   fun _ _ _ _ => xl_gf d206_54 xco206 xf_11_144,
   fun _ _ _ => xl_ic d206_57 (by decide +kernel),
   fun _ _ _ _ _ => xl_iadd d206_58,
   fun _ _ _ _ _ => xl_pf d206_59 xco206 xf_11_144 (by decide +kernel) rfl,
   fun _ _ => xl_r d206_62 xrt206⟩
/-! 207 FacetSieveModel.copies(III)V -/
theorem d207_0 : decode (zz_c 207) 0 = .ok (.iconst 0, 1) := by decide +kernel
theorem d207_1 : decode (zz_c 207) 1 = .ok (.istore 4, 2) := by decide +kernel
theorem d207_3 : decode (zz_c 207) 3 = .ok (.iload 4, 2) := by decide +kernel
theorem d207_5 : decode (zz_c 207) 5 = .ok (.iload_n 3, 1) := by decide +kernel
theorem d207_6 : decode (zz_c 207) 6 = .ok (.if_icmp .ge 27, 3) := by decide +kernel
theorem d207_9 : decode (zz_c 207) 9 = .ok (.aload_n 0, 1) := by decide +kernel
theorem d207_10 : decode (zz_c 207) 10 = .ok (.getfield 7, 3) := by decide +kernel
theorem d207_13 : decode (zz_c 207) 13 = .ok (.iload_n 2, 1) := by decide +kernel
theorem d207_14 : decode (zz_c 207) 14 = .ok (.iload 4, 2) := by decide +kernel
theorem d207_16 : decode (zz_c 207) 16 = .ok (.iadd, 1) := by decide +kernel
theorem d207_17 : decode (zz_c 207) 17 = .ok (.aload_n 0, 1) := by decide +kernel
theorem d207_18 : decode (zz_c 207) 18 = .ok (.getfield 7, 3) := by decide +kernel
theorem d207_21 : decode (zz_c 207) 21 = .ok (.iload_n 1, 1) := by decide +kernel
theorem d207_22 : decode (zz_c 207) 22 = .ok (.iload 4, 2) := by decide +kernel
theorem d207_24 : decode (zz_c 207) 24 = .ok (.iadd, 1) := by decide +kernel
theorem d207_25 : decode (zz_c 207) 25 = .ok (.iaload, 1) := by decide +kernel
theorem d207_26 : decode (zz_c 207) 26 = .ok (.iastore, 1) := by decide +kernel
theorem d207_27 : decode (zz_c 207) 27 = .ok (.iinc 4 1, 3) := by decide +kernel
theorem d207_30 : decode (zz_c 207) 30 = .ok (.goto (-27), 3) := by decide +kernel
theorem d207_33 : decode (zz_c 207) 33 = .ok (.return_, 1) := by decide +kernel
theorem x207 : (∀ ls st h, zz_Y 207 (0, ls, st, h) = zz_Y 207 (1, ls, .int (nI 0) :: st, h)) ∧ (∀ l0 l1 l2 l3 l4 x st h, zz_nl l3 = true → zz_Y 207 (1, [l0, l1, l2, l3, l4], .int x :: st, h) = zz_Y 207 (3, [l0, l1, l2, l3, some (.int x)], st, h)) ∧ (∀ l0 l1 l2 l4 x st h, zz_Y 207 (5, [l0, l1, l2, some (.int x), l4], st, h) = zz_Y 207 (6, [l0, l1, l2, some (.int x), l4], .int x :: st, h)) ∧ (∀ ls a b st h, zz_Y 207 (6, ls, .int b :: .int a :: st, h) = if a < b then zz_Y 207 (9, ls, st, h) else zz_Y 207 (33, ls, st, h)) ∧ (∀ l1 l2 l3 l4 x st h, zz_Y 207 (9, [some (.ref x), l1, l2, l3, l4], st, h) = zz_Y 207 (10, [some (.ref x), l1, l2, l3, l4], .ref x :: st, h)) ∧ (∀ ls a st h, zz_Y 207 (10, ls, .ref a :: st, h) = mo_gf (hp_g h a) 11 0 207 13 ls st h) ∧ (∀ l0 l1 l3 l4 x st h, zz_Y 207 (13, [l0, l1, some (.int x), l3, l4], st, h) = zz_Y 207 (14, [l0, l1, some (.int x), l3, l4], .int x :: st, h)) ∧ (∀ l0 l1 l2 l3 x st h, zz_Y 207 (14, [l0, l1, l2, l3, some (.int x)], st, h) = zz_Y 207 (16, [l0, l1, l2, l3, some (.int x)], .int x :: st, h)) ∧ (∀ ls a b st h, zz_Y 207 (16, ls, .int b :: .int a :: st, h) = zz_Y 207 (17, ls, .int (a + b) :: st, h)) ∧ (∀ l1 l2 l3 l4 x st h, zz_Y 207 (17, [some (.ref x), l1, l2, l3, l4], st, h) = zz_Y 207 (18, [some (.ref x), l1, l2, l3, l4], .ref x :: st, h)) ∧ (∀ ls a st h, zz_Y 207 (18, ls, .ref a :: st, h) = mo_gf (hp_g h a) 11 0 207 21 ls st h) ∧ (∀ l0 l2 l3 l4 x st h, zz_Y 207 (21, [l0, some (.int x), l2, l3, l4], st, h) = zz_Y 207 (22, [l0, some (.int x), l2, l3, l4], .int x :: st, h)) ∧ (∀ l0 l1 l2 l3 x st h, zz_Y 207 (22, [l0, l1, l2, l3, some (.int x)], st, h) = zz_Y 207 (24, [l0, l1, l2, l3, some (.int x)], .int x :: st, h)) ∧ (∀ ls a b st h, zz_Y 207 (24, ls, .int b :: .int a :: st, h) = zz_Y 207 (25, ls, .int (a + b) :: st, h)) ∧ (∀ ls a i st h, zz_Y 207 (25, ls, .int i :: .ref a :: st, h) = mo_ia (hp_g h a) i a 207 26 ls st h) ∧ (∀ ls a i x st h, zz_Y 207 (26, ls, .int x :: .int i :: .ref a :: st, h) = mo_is (hp_g h a) x i a 207 27 ls st h) ∧ (∀ l0 l1 l2 l3 x st h, zz_nl l3 = true → zz_Y 207 (27, [l0, l1, l2, l3, some (.int x)], st, h) = zz_Y 207 (30, [l0, l1, l2, l3, some (.int (x + nI 1))], st, h)) ∧ (∀ ls st h, zz_Y 207 (30, ls, st, h) = zz_Y 207 (3, ls, st, h)) ∧ (∀ ls h, zz_Y 207 (33, ls, [], h) = some (none, h)) :=
  ⟨fun _ _ _ => xl_ic d207_0 (by decide +kernel),
   fun _ _ _ _ _ _ _ _ hc => xl_is d207_1 xml207 (by decide) (zz_nl_s1 hc),
   fun _ _ _ _ _ _ _ => xl_iln d207_5 rfl,
   fun _ _ _ _ _ => xl_icge d207_6 rfl,
   fun _ _ _ _ _ _ _ => xl_aln d207_9 rfl,
   fun _ _ _ _ => xl_gf d207_10 xco207 xf_11_7,
   fun _ _ _ _ _ _ _ => xl_iln d207_13 rfl,
   fun _ _ _ _ _ _ _ => xl_il d207_14 rfl,
   fun _ _ _ _ _ => xl_iadd d207_16,
   fun _ _ _ _ _ _ _ => xl_aln d207_17 rfl,
   fun _ _ _ _ => xl_gf d207_18 xco207 xf_11_7,
   fun _ _ _ _ _ _ _ => xl_iln d207_21 rfl,
   fun _ _ _ _ _ _ _ => xl_il d207_22 rfl,
   fun _ _ _ _ _ => xl_iadd d207_24,
   fun _ _ _ _ _ => xl_ia d207_25,
   fun _ _ _ _ _ _ => xl_ist d207_26,
   fun _ _ _ _ _ _ _ hc => xl_inc d207_27 xml207 (by decide) rfl (by decide +kernel) (zz_nl_s1 hc),
   fun _ _ _ => xl_goto d207_30 rfl,
   fun _ _ => xl_r d207_33 xrt207⟩
theorem x207_c3 : ∀ l0 l1 l2 l3 x st h, zz_Y 207 (3, [l0, l1, l2, l3, some (.int x)], st, h) = zz_Y 207 (5, [l0, l1, l2, l3, some (.int x)], .int x :: st, h) := fun _ _ _ _ _ _ _ => xl_il d207_3 rfl
/-! 208 FacetSieveModel.turns(II)V -/
theorem d208_0 : decode (zz_c 208) 0 = .ok (.aload_n 0, 1) := by decide +kernel
theorem d208_1 : decode (zz_c 208) 1 = .ok (.getfield 7, 3) := by decide +kernel
theorem d208_4 : decode (zz_c 208) 4 = .ok (.iload_n 1, 1) := by decide +kernel
theorem d208_5 : decode (zz_c 208) 5 = .ok (.iload_n 2, 1) := by decide +kernel
theorem d208_6 : decode (zz_c 208) 6 = .ok (.bipush 32, 2) := by decide +kernel
theorem d208_8 : decode (zz_c 208) 8 = .ok (.idiv, 1) := by decide +kernel
theorem d208_9 : decode (zz_c 208) 9 = .ok (.iadd, 1) := by decide +kernel
theorem d208_10 : decode (zz_c 208) 10 = .ok (.dup2, 1) := by decide +kernel
theorem d208_11 : decode (zz_c 208) 11 = .ok (.iaload, 1) := by decide +kernel
theorem d208_12 : decode (zz_c 208) 12 = .ok (.iconst 1, 1) := by decide +kernel
theorem d208_13 : decode (zz_c 208) 13 = .ok (.iload_n 2, 1) := by decide +kernel
theorem d208_14 : decode (zz_c 208) 14 = .ok (.bipush 32, 2) := by decide +kernel
theorem d208_16 : decode (zz_c 208) 16 = .ok (.irem, 1) := by decide +kernel
theorem d208_17 : decode (zz_c 208) 17 = .ok (.ishl, 1) := by decide +kernel
theorem d208_18 : decode (zz_c 208) 18 = .ok (.ixor, 1) := by decide +kernel
theorem d208_19 : decode (zz_c 208) 19 = .ok (.iastore, 1) := by decide +kernel
theorem d208_20 : decode (zz_c 208) 20 = .ok (.return_, 1) := by decide +kernel
theorem x208 : (∀ l1 l2 x st h, zz_Y 208 (0, [some (.ref x), l1, l2], st, h) = zz_Y 208 (1, [some (.ref x), l1, l2], .ref x :: st, h)) ∧ (∀ ls a st h, zz_Y 208 (1, ls, .ref a :: st, h) = mo_gf (hp_g h a) 11 0 208 4 ls st h) ∧ (∀ l0 l2 x st h, zz_Y 208 (4, [l0, some (.int x), l2], st, h) = zz_Y 208 (5, [l0, some (.int x), l2], .int x :: st, h)) ∧ (∀ l0 l1 x st h, zz_Y 208 (5, [l0, l1, some (.int x)], st, h) = zz_Y 208 (6, [l0, l1, some (.int x)], .int x :: st, h)) ∧ (∀ ls st h, zz_Y 208 (6, ls, st, h) = zz_Y 208 (8, ls, .int (nI 32) :: st, h)) ∧ (∀ ls a b st h, ¬ b = 0 → zz_Y 208 (8, ls, .int b :: .int a :: st, h) = zz_Y 208 (9, ls, .int (a / b) :: st, h)) ∧ (∀ ls a b st h, zz_Y 208 (9, ls, .int b :: .int a :: st, h) = zz_Y 208 (10, ls, .int (a + b) :: st, h)) ∧ (∀ ls a b st h, zz_Y 208 (10, ls, .int b :: .ref a :: st, h) = zz_Y 208 (11, ls, .int b :: .ref a :: .int b :: .ref a :: st, h)) ∧ (∀ ls a i st h, zz_Y 208 (11, ls, .int i :: .ref a :: st, h) = mo_ia (hp_g h a) i a 208 12 ls st h) ∧ (∀ ls st h, zz_Y 208 (12, ls, st, h) = zz_Y 208 (13, ls, .int (nI 1) :: st, h)) ∧ (∀ l0 l1 x st h, zz_Y 208 (13, [l0, l1, some (.int x)], st, h) = zz_Y 208 (14, [l0, l1, some (.int x)], .int x :: st, h)) ∧ (∀ ls st h, zz_Y 208 (14, ls, st, h) = zz_Y 208 (16, ls, .int (nI 32) :: st, h)) ∧ (∀ ls a b st h, ¬ b = 0 → zz_Y 208 (16, ls, .int b :: .int a :: st, h) = zz_Y 208 (17, ls, .int (a - a / b * b) :: st, h)) ∧ (∀ ls a b st h, zz_Y 208 (17, ls, .int b :: .int a :: st, h) = zz_Y 208 (18, ls, .int (a <<< (b &&& 31)) :: st, h)) ∧ (∀ ls a b st h, zz_Y 208 (18, ls, .int b :: .int a :: st, h) = zz_Y 208 (19, ls, .int (a ^^^ b) :: st, h)) ∧ (∀ ls a i x st h, zz_Y 208 (19, ls, .int x :: .int i :: .ref a :: st, h) = mo_is (hp_g h a) x i a 208 20 ls st h) ∧ (∀ ls h, zz_Y 208 (20, ls, [], h) = some (none, h)) :=
  ⟨fun _ _ _ _ _ => xl_aln d208_0 rfl,
   fun _ _ _ _ => xl_gf d208_1 xco208 xf_11_7,
   fun _ _ _ _ _ => xl_iln d208_4 rfl,
   fun _ _ _ _ _ => xl_iln d208_5 rfl,
   fun _ _ _ => xl_bi d208_6 (by decide +kernel),
   fun _ _ _ _ _ hc => xl_idiv d208_8 hc,
   fun _ _ _ _ _ => xl_iadd d208_9,
   fun _ _ _ _ _ => xl_dup2 d208_10,
   fun _ _ _ _ _ => xl_ia d208_11,
   fun _ _ _ => xl_ic d208_12 (by decide +kernel),
   fun _ _ _ _ _ => xl_iln d208_13 rfl,
   fun _ _ _ => xl_bi d208_14 (by decide +kernel),
   fun _ _ _ _ _ hc => xl_irem d208_16 hc,
   fun _ _ _ _ _ => xl_ishl d208_17,
   fun _ _ _ _ _ => xl_ixor d208_18,
   fun _ _ _ _ _ _ => xl_ist d208_19,
   fun _ _ => xl_r d208_20 xrt208⟩
/-! 209 FacetSieveModel.drop(I)I -/
theorem d209_0 : decode (zz_c 209) 0 = .ok (.aload_n 0, 1) := by decide +kernel
theorem d209_1 : decode (zz_c 209) 1 = .ok (.iload_n 1, 1) := by decide +kernel
theorem d209_2 : decode (zz_c 209) 2 = .ok (.invokestatic 61, 3) := by decide +kernel
theorem d209_5 : decode (zz_c 209) 5 = .ok (.ifCond .ne 7, 3) := by decide +kernel
theorem d209_8 : decode (zz_c 209) 8 = .ok (.iconst 1, 1) := by decide +kernel
theorem d209_9 : decode (zz_c 209) 9 = .ok (.goto 16, 3) := by decide +kernel
theorem d209_12 : decode (zz_c 209) 12 = .ok (.aload_n 0, 1) := by decide +kernel
theorem d209_13 : decode (zz_c 209) 13 = .ok (.iload_n 1, 1) := by decide +kernel
theorem d209_14 : decode (zz_c 209) 14 = .ok (.invokevirtual 170, 3) := by decide +kernel
theorem d209_17 : decode (zz_c 209) 17 = .ok (.ifCond .ne 7, 3) := by decide +kernel
theorem d209_20 : decode (zz_c 209) 20 = .ok (.iconst 3, 1) := by decide +kernel
theorem d209_21 : decode (zz_c 209) 21 = .ok (.goto 4, 3) := by decide +kernel
theorem d209_24 : decode (zz_c 209) 24 = .ok (.iconst 0, 1) := by decide +kernel
theorem d209_25 : decode (zz_c 209) 25 = .ok (.iconst (-1), 1) := by decide +kernel
theorem d209_26 : decode (zz_c 209) 26 = .ok (.invokevirtual 197, 3) := by decide +kernel
theorem d209_29 : decode (zz_c 209) 29 = .ok (.istore_n 2, 1) := by decide +kernel
theorem d209_30 : decode (zz_c 209) 30 = .ok (.iload_n 2, 1) := by decide +kernel
theorem d209_31 : decode (zz_c 209) 31 = .ok (.ifCond .le 5, 3) := by decide +kernel
theorem d209_34 : decode (zz_c 209) 34 = .ok (.iload_n 2, 1) := by decide +kernel
theorem d209_35 : decode (zz_c 209) 35 = .ok (.ireturn, 1) := by decide +kernel
theorem d209_36 : decode (zz_c 209) 36 = .ok (.aload_n 0, 1) := by decide +kernel
theorem d209_37 : decode (zz_c 209) 37 = .ok (.sipush 294, 3) := by decide +kernel
theorem d209_40 : decode (zz_c 209) 40 = .ok (.iload_n 1, 1) := by decide +kernel
theorem d209_41 : decode (zz_c 209) 41 = .ok (.invokevirtual 200, 3) := by decide +kernel
theorem d209_44 : decode (zz_c 209) 44 = .ok (.aload_n 0, 1) := by decide +kernel
theorem d209_45 : decode (zz_c 209) 45 = .ok (.getfield 7, 3) := by decide +kernel
theorem d209_48 : decode (zz_c 209) 48 = .ok (.sipush 462, 3) := by decide +kernel
theorem d209_51 : decode (zz_c 209) 51 = .ok (.iload_n 1, 1) := by decide +kernel
theorem d209_52 : decode (zz_c 209) 52 = .ok (.iadd, 1) := by decide +kernel
theorem d209_53 : decode (zz_c 209) 53 = .ok (.iconst 0, 1) := by decide +kernel
theorem d209_54 : decode (zz_c 209) 54 = .ok (.iastore, 1) := by decide +kernel
theorem d209_55 : decode (zz_c 209) 55 = .ok (.iconst 0, 1) := by decide +kernel
theorem d209_56 : decode (zz_c 209) 56 = .ok (.istore_n 3, 1) := by decide +kernel
theorem d209_57 : decode (zz_c 209) 57 = .ok (.iload_n 3, 1) := by decide +kernel
theorem d209_58 : decode (zz_c 209) 58 = .ok (.aload_n 0, 1) := by decide +kernel
theorem d209_59 : decode (zz_c 209) 59 = .ok (.getfield 7, 3) := by decide +kernel
theorem d209_62 : decode (zz_c 209) 62 = .ok (.iconst 1, 1) := by decide +kernel
theorem d209_63 : decode (zz_c 209) 63 = .ok (.iaload, 1) := by decide +kernel
theorem d209_64 : decode (zz_c 209) 64 = .ok (.if_icmp .ge 38, 3) := by decide +kernel
theorem d209_67 : decode (zz_c 209) 67 = .ok (.aload_n 0, 1) := by decide +kernel
theorem d209_68 : decode (zz_c 209) 68 = .ok (.sipush 302, 3) := by decide +kernel
theorem d209_71 : decode (zz_c 209) 71 = .ok (.bipush 8, 2) := by decide +kernel
theorem d209_73 : decode (zz_c 209) 73 = .ok (.iload_n 3, 1) := by decide +kernel
theorem d209_74 : decode (zz_c 209) 74 = .ok (.imul, 1) := by decide +kernel
theorem d209_75 : decode (zz_c 209) 75 = .ok (.iadd, 1) := by decide +kernel
theorem d209_76 : decode (zz_c 209) 76 = .ok (.iload_n 1, 1) := by decide +kernel
theorem d209_77 : decode (zz_c 209) 77 = .ok (.invokevirtual 65, 3) := by decide +kernel
theorem d209_80 : decode (zz_c 209) 80 = .ok (.ifCond .eq 16, 3) := by decide +kernel
theorem d209_83 : decode (zz_c 209) 83 = .ok (.aload_n 0, 1) := by decide +kernel
theorem d209_84 : decode (zz_c 209) 84 = .ok (.sipush 302, 3) := by decide +kernel
theorem d209_87 : decode (zz_c 209) 87 = .ok (.bipush 8, 2) := by decide +kernel
theorem d209_89 : decode (zz_c 209) 89 = .ok (.iload_n 3, 1) := by decide +kernel
theorem d209_90 : decode (zz_c 209) 90 = .ok (.imul, 1) := by decide +kernel
theorem d209_91 : decode (zz_c 209) 91 = .ok (.iadd, 1) := by decide +kernel
theorem d209_92 : decode (zz_c 209) 92 = .ok (.iload_n 1, 1) := by decide +kernel
theorem d209_93 : decode (zz_c 209) 93 = .ok (.invokevirtual 200, 3) := by decide +kernel
theorem d209_96 : decode (zz_c 209) 96 = .ok (.iinc 3 1, 3) := by decide +kernel
theorem d209_99 : decode (zz_c 209) 99 = .ok (.goto (-42), 3) := by decide +kernel
theorem d209_102 : decode (zz_c 209) 102 = .ok (.iconst 0, 1) := by decide +kernel
theorem d209_103 : decode (zz_c 209) 103 = .ok (.ireturn, 1) := by decide +kernel
theorem x209 : (∀ l1 l2 l3 x st h, zz_Y 209 (0, [some (.ref x), l1, l2, l3], st, h) = zz_Y 209 (1, [some (.ref x), l1, l2, l3], .ref x :: st, h)) ∧ (∀ l0 l2 l3 x st h, zz_Y 209 (1, [l0, some (.int x), l2, l3], st, h) = zz_Y 209 (2, [l0, some (.int x), l2, l3], .int x :: st, h)) ∧ (∀ ls a0 s0 h, zz_Y 209 (2, ls, [a0, s0], h) = mo_k 209 5 ls [s0] (zz_run 188 [a0] h)) ∧ (∀ ls a st h, zz_Y 209 (5, ls, .int a :: st, h) = if a = nI 0 then zz_Y 209 (8, ls, st, h) else zz_Y 209 (12, ls, st, h)) ∧ (∀ ls st h, zz_Y 209 (8, ls, st, h) = zz_Y 209 (9, ls, .int (nI 1) :: st, h)) ∧ (∀ ls st h, zz_Y 209 (9, ls, st, h) = zz_Y 209 (25, ls, st, h)) ∧ (∀ l1 l2 l3 x st h, zz_Y 209 (12, [some (.ref x), l1, l2, l3], st, h) = zz_Y 209 (13, [some (.ref x), l1, l2, l3], .ref x :: st, h)) ∧ (∀ l0 l2 l3 x st h, zz_Y 209 (13, [l0, some (.int x), l2, l3], st, h) = zz_Y 209 (14, [l0, some (.int x), l2, l3], .int x :: st, h)) ∧ (∀ ls a0 a1 s0 h, zz_Y 209 (14, ls, [a1, a0, s0], h) = mo_k 209 17 ls [s0] (zz_run 187 [a0, a1] h)) ∧ (∀ ls a st h, zz_Y 209 (17, ls, .int a :: st, h) = if a = nI 0 then zz_Y 209 (20, ls, st, h) else zz_Y 209 (24, ls, st, h)) ∧ (∀ ls st h, zz_Y 209 (20, ls, st, h) = zz_Y 209 (21, ls, .int (nI 3) :: st, h)) ∧ (∀ ls st h, zz_Y 209 (21, ls, st, h) = zz_Y 209 (25, ls, st, h)) ∧ (∀ ls st h, zz_Y 209 (24, ls, st, h) = zz_Y 209 (25, ls, .int (nI 0) :: st, h)) ∧ (∀ ls st h, zz_Y 209 (25, ls, st, h) = zz_Y 209 (26, ls, .int (-1) :: st, h)) ∧ (∀ ls a0 a1 a2 h, zz_Y 209 (26, ls, [a2, a1, a0], h) = mo_k 209 29 ls [] (zz_run 205 [a0, a1, a2] h)) ∧ (∀ l0 l1 l2 l3 x st h, zz_nl l1 = true → zz_Y 209 (29, [l0, l1, l2, l3], .int x :: st, h) = zz_Y 209 (30, [l0, l1, some (.int x), l3], st, h)) ∧ (∀ l0 l1 l3 x st h, zz_Y 209 (30, [l0, l1, some (.int x), l3], st, h) = zz_Y 209 (31, [l0, l1, some (.int x), l3], .int x :: st, h)) ∧ (∀ ls a st h, zz_Y 209 (31, ls, .int a :: st, h) = if nI 0 < a then zz_Y 209 (34, ls, st, h) else zz_Y 209 (36, ls, st, h)) ∧ (∀ l0 l1 l3 x st h, zz_Y 209 (34, [l0, l1, some (.int x), l3], st, h) = zz_Y 209 (35, [l0, l1, some (.int x), l3], .int x :: st, h)) ∧ (∀ ls v h, zz_Y 209 (35, ls, [.int v], h) = some (some (.int v), h)) ∧ (∀ l1 l2 l3 x st h, zz_Y 209 (36, [some (.ref x), l1, l2, l3], st, h) = zz_Y 209 (37, [some (.ref x), l1, l2, l3], .ref x :: st, h)) ∧ (∀ ls st h, zz_Y 209 (37, ls, st, h) = zz_Y 209 (40, ls, .int (nI 294) :: st, h)) ∧ (∀ l0 l2 l3 x st h, zz_Y 209 (40, [l0, some (.int x), l2, l3], st, h) = zz_Y 209 (41, [l0, some (.int x), l2, l3], .int x :: st, h)) ∧ (∀ ls a0 a1 a2 h, zz_Y 209 (41, ls, [a2, a1, a0], h) = mo_k 209 44 ls [] (zz_run 208 [a0, a1, a2] h)) ∧ (∀ l1 l2 l3 x st h, zz_Y 209 (44, [some (.ref x), l1, l2, l3], st, h) = zz_Y 209 (45, [some (.ref x), l1, l2, l3], .ref x :: st, h)) ∧ (∀ ls a st h, zz_Y 209 (45, ls, .ref a :: st, h) = mo_gf (hp_g h a) 11 0 209 48 ls st h) ∧ (∀ ls st h, zz_Y 209 (48, ls, st, h) = zz_Y 209 (51, ls, .int (nI 462) :: st, h)) ∧ (∀ l0 l2 l3 x st h, zz_Y 209 (51, [l0, some (.int x), l2, l3], st, h) = zz_Y 209 (52, [l0, some (.int x), l2, l3], .int x :: st, h)) ∧ (∀ ls a b st h, zz_Y 209 (52, ls, .int b :: .int a :: st, h) = zz_Y 209 (53, ls, .int (a + b) :: st, h)) ∧ (∀ ls st h, zz_Y 209 (53, ls, st, h) = zz_Y 209 (54, ls, .int (nI 0) :: st, h)) ∧ (∀ ls a i x st h, zz_Y 209 (54, ls, .int x :: .int i :: .ref a :: st, h) = mo_is (hp_g h a) x i a 209 55 ls st h) ∧ (∀ ls st h, zz_Y 209 (55, ls, st, h) = zz_Y 209 (56, ls, .int (nI 0) :: st, h)) ∧ (∀ l0 l1 l2 l3 x st h, zz_nl l2 = true → zz_Y 209 (56, [l0, l1, l2, l3], .int x :: st, h) = zz_Y 209 (57, [l0, l1, l2, some (.int x)], st, h)) ∧ (∀ l1 l2 l3 x st h, zz_Y 209 (58, [some (.ref x), l1, l2, l3], st, h) = zz_Y 209 (59, [some (.ref x), l1, l2, l3], .ref x :: st, h)) ∧ (∀ ls a st h, zz_Y 209 (59, ls, .ref a :: st, h) = mo_gf (hp_g h a) 11 0 209 62 ls st h) ∧ (∀ ls st h, zz_Y 209 (62, ls, st, h) = zz_Y 209 (63, ls, .int (nI 1) :: st, h)) ∧ (∀ ls a i st h, zz_Y 209 (63, ls, .int i :: .ref a :: st, h) = mo_ia (hp_g h a) i a 209 64 ls st h) ∧ (∀ ls a b st h, zz_Y 209 (64, ls, .int b :: .int a :: st, h) = if a < b then zz_Y 209 (67, ls, st, h) else zz_Y 209 (102, ls, st, h)) ∧ (∀ l1 l2 l3 x st h, zz_Y 209 (67, [some (.ref x), l1, l2, l3], st, h) = zz_Y 209 (68, [some (.ref x), l1, l2, l3], .ref x :: st, h)) ∧ (∀ ls st h, zz_Y 209 (68, ls, st, h) = zz_Y 209 (71, ls, .int (nI 302) :: st, h)) ∧ (∀ ls st h, zz_Y 209 (71, ls, st, h) = zz_Y 209 (73, ls, .int (nI 8) :: st, h)) ∧ (∀ l0 l1 l2 x st h, zz_Y 209 (73, [l0, l1, l2, some (.int x)], st, h) = zz_Y 209 (74, [l0, l1, l2, some (.int x)], .int x :: st, h)) ∧ (∀ ls a b st h, zz_Y 209 (74, ls, .int b :: .int a :: st, h) = zz_Y 209 (75, ls, .int (a * b) :: st, h)) ∧ (∀ ls a b st h, zz_Y 209 (75, ls, .int b :: .int a :: st, h) = zz_Y 209 (76, ls, .int (a + b) :: st, h)) ∧ (∀ l0 l2 l3 x st h, zz_Y 209 (76, [l0, some (.int x), l2, l3], st, h) = zz_Y 209 (77, [l0, some (.int x), l2, l3], .int x :: st, h)) ∧ (∀ ls a0 a1 a2 h, zz_Y 209 (77, ls, [a2, a1, a0], h) = mo_k 209 80 ls [] (zz_run 189 [a0, a1, a2] h)) ∧ (∀ ls a st h, zz_Y 209 (80, ls, .int a :: st, h) = if a = nI 0 then zz_Y 209 (96, ls, st, h) else zz_Y 209 (83, ls, st, h)) ∧ (∀ l1 l2 l3 x st h, zz_Y 209 (83, [some (.ref x), l1, l2, l3], st, h) = zz_Y 209 (84, [some (.ref x), l1, l2, l3], .ref x :: st, h)) ∧ (∀ ls st h, zz_Y 209 (84, ls, st, h) = zz_Y 209 (87, ls, .int (nI 302) :: st, h)) ∧ (∀ ls st h, zz_Y 209 (87, ls, st, h) = zz_Y 209 (89, ls, .int (nI 8) :: st, h)) ∧ (∀ l0 l1 l2 x st h, zz_Y 209 (89, [l0, l1, l2, some (.int x)], st, h) = zz_Y 209 (90, [l0, l1, l2, some (.int x)], .int x :: st, h)) ∧ (∀ ls a b st h, zz_Y 209 (90, ls, .int b :: .int a :: st, h) = zz_Y 209 (91, ls, .int (a * b) :: st, h)) ∧ (∀ ls a b st h, zz_Y 209 (91, ls, .int b :: .int a :: st, h) = zz_Y 209 (92, ls, .int (a + b) :: st, h)) ∧ (∀ l0 l2 l3 x st h, zz_Y 209 (92, [l0, some (.int x), l2, l3], st, h) = zz_Y 209 (93, [l0, some (.int x), l2, l3], .int x :: st, h)) ∧ (∀ ls a0 a1 a2 h, zz_Y 209 (93, ls, [a2, a1, a0], h) = mo_k 209 96 ls [] (zz_run 208 [a0, a1, a2] h)) ∧ (∀ l0 l1 l2 x st h, zz_nl l2 = true → zz_Y 209 (96, [l0, l1, l2, some (.int x)], st, h) = zz_Y 209 (99, [l0, l1, l2, some (.int (x + nI 1))], st, h)) ∧ (∀ ls st h, zz_Y 209 (99, ls, st, h) = zz_Y 209 (57, ls, st, h)) ∧ (∀ ls st h, zz_Y 209 (102, ls, st, h) = zz_Y 209 (103, ls, .int (nI 0) :: st, h)) ∧ (∀ ls v h, zz_Y 209 (103, ls, [.int v], h) = some (some (.int v), h)) :=
  ⟨fun _ _ _ _ _ _ => xl_aln d209_0 rfl,
   fun _ _ _ _ _ _ => xl_iln d209_1 rfl,
   fun ls a0 s0 h => xl_cs (As := [a0]) (st := [s0]) d209_2 xco209 xm_11_61 xnp188 (by decide +kernel) rfl,
   fun _ _ _ _ => xl_ifne d209_5 rfl,
   fun _ _ _ => xl_ic d209_8 (by decide +kernel),
   fun _ _ _ => xl_goto d209_9 rfl,
   fun _ _ _ _ _ _ => xl_aln d209_12 rfl,
   fun _ _ _ _ _ _ => xl_iln d209_13 rfl,
   fun ls a0 a1 s0 h => xl_cv (As := [a0, a1]) (st := [s0]) d209_14 xco209 xm_11_170 (congrArg Nat.succ xnp187) (by decide +kernel) rfl,
   fun _ _ _ _ => xl_ifne d209_17 rfl,
   fun _ _ _ => xl_ic d209_20 (by decide +kernel),
   fun _ _ _ => xl_goto d209_21 rfl,
   fun _ _ _ => xl_ic d209_24 (by decide +kernel),
   fun _ _ _ => xl_ic d209_25 (by decide +kernel),
   fun ls a0 a1 a2 h => xl_cv (As := [a0, a1, a2]) (st := []) d209_26 xco209 xm_11_197 (congrArg Nat.succ xnp205) (by decide +kernel) rfl,
   fun _ _ _ _ _ _ _ hc => xl_isn d209_29 xml209 (by decide) (zz_nl_s1 hc),
   fun _ _ _ _ _ _ => xl_iln d209_30 rfl,
   fun _ _ _ _ => xl_ifle d209_31 rfl,
   fun _ _ _ _ _ _ => xl_iln d209_34 rfl,
   fun _ _ _ => xl_iri d209_35 xrt209,
   fun _ _ _ _ _ _ => xl_aln d209_36 rfl,
   fun _ _ _ => xl_si d209_37 (by decide +kernel),
   fun _ _ _ _ _ _ => xl_iln d209_40 rfl,
   fun ls a0 a1 a2 h => xl_cv (As := [a0, a1, a2]) (st := []) d209_41 xco209 xm_11_200 (congrArg Nat.succ xnp208) (by decide +kernel) rfl,
   fun _ _ _ _ _ _ => xl_aln d209_44 rfl,
   fun _ _ _ _ => xl_gf d209_45 xco209 xf_11_7,
   fun _ _ _ => xl_si d209_48 (by decide +kernel),
   fun _ _ _ _ _ _ => xl_iln d209_51 rfl,
   fun _ _ _ _ _ => xl_iadd d209_52,
   fun _ _ _ => xl_ic d209_53 (by decide +kernel),
   fun _ _ _ _ _ _ => xl_ist d209_54,
   fun _ _ _ => xl_ic d209_55 (by decide +kernel),
   fun _ _ _ _ _ _ _ hc => xl_isn d209_56 xml209 (by decide) (zz_nl_s1 hc),
   fun _ _ _ _ _ _ => xl_aln d209_58 rfl,
   fun _ _ _ _ => xl_gf d209_59 xco209 xf_11_7,
   fun _ _ _ => xl_ic d209_62 (by decide +kernel),
   fun _ _ _ _ _ => xl_ia d209_63,
   fun _ _ _ _ _ => xl_icge d209_64 rfl,
   fun _ _ _ _ _ _ => xl_aln d209_67 rfl,
   fun _ _ _ => xl_si d209_68 (by decide +kernel),
   fun _ _ _ => xl_bi d209_71 (by decide +kernel),
   fun _ _ _ _ _ _ => xl_iln d209_73 rfl,
   fun _ _ _ _ _ => xl_imul d209_74,
   fun _ _ _ _ _ => xl_iadd d209_75,
   fun _ _ _ _ _ _ => xl_iln d209_76 rfl,
   fun ls a0 a1 a2 h => xl_cv (As := [a0, a1, a2]) (st := []) d209_77 xco209 xm_11_65 (congrArg Nat.succ xnp189) (by decide +kernel) rfl,
   fun _ _ _ _ => xl_ifeq d209_80 rfl,
   fun _ _ _ _ _ _ => xl_aln d209_83 rfl,
   fun _ _ _ => xl_si d209_84 (by decide +kernel),
   fun _ _ _ => xl_bi d209_87 (by decide +kernel),
   fun _ _ _ _ _ _ => xl_iln d209_89 rfl,
   fun _ _ _ _ _ => xl_imul d209_90,
   fun _ _ _ _ _ => xl_iadd d209_91,
   fun _ _ _ _ _ _ => xl_iln d209_92 rfl,
   fun ls a0 a1 a2 h => xl_cv (As := [a0, a1, a2]) (st := []) d209_93 xco209 xm_11_200 (congrArg Nat.succ xnp208) (by decide +kernel) rfl,
   fun _ _ _ _ _ _ hc => xl_inc d209_96 xml209 (by decide) rfl (by decide +kernel) (zz_nl_s1 hc),
   fun _ _ _ => xl_goto d209_99 rfl,
   fun _ _ _ => xl_ic d209_102 (by decide +kernel),
   fun _ _ _ => xl_iri d209_103 xrt209⟩
theorem x209_c57 : ∀ l0 l1 l2 x st h, zz_Y 209 (57, [l0, l1, l2, some (.int x)], st, h) = zz_Y 209 (58, [l0, l1, l2, some (.int x)], .int x :: st, h) := fun _ _ _ _ _ _ => xl_iln d209_57 rfl
/-! 210 FacetSieveModel.tag(II)I -/
theorem d210_0 : decode (zz_c 210) 0 = .ok (.iload_n 1, 1) := by decide +kernel
theorem d210_1 : decode (zz_c 210) 1 = .ok (.invokestatic 61, 3) := by decide +kernel
theorem d210_4 : decode (zz_c 210) 4 = .ok (.ifCond .eq 15, 3) := by decide +kernel
theorem d210_7 : decode (zz_c 210) 7 = .ok (.aload_n 0, 1) := by decide +kernel
theorem d210_8 : decode (zz_c 210) 8 = .ok (.iload_n 2, 1) := by decide +kernel
theorem d210_9 : decode (zz_c 210) 9 = .ok (.invokevirtual 164, 3) := by decide +kernel
theorem d210_12 : decode (zz_c 210) 12 = .ok (.ifCond .eq 7, 3) := by decide +kernel
theorem d210_15 : decode (zz_c 210) 15 = .ok (.iconst 1, 1) := by decide +kernel
theorem d210_16 : decode (zz_c 210) 16 = .ok (.goto 4, 3) := by decide +kernel
theorem d210_19 : decode (zz_c 210) 19 = .ok (.iconst 0, 1) := by decide +kernel
theorem d210_20 : decode (zz_c 210) 20 = .ok (.istore_n 3, 1) := by decide +kernel
theorem d210_21 : decode (zz_c 210) 21 = .ok (.iload_n 3, 1) := by decide +kernel
theorem d210_22 : decode (zz_c 210) 22 = .ok (.ifCond .eq 13, 3) := by decide +kernel
theorem d210_25 : decode (zz_c 210) 25 = .ok (.aload_n 0, 1) := by decide +kernel
theorem d210_26 : decode (zz_c 210) 26 = .ok (.iconst 0, 1) := by decide +kernel
theorem d210_27 : decode (zz_c 210) 27 = .ok (.iload_n 1, 1) := by decide +kernel
theorem d210_28 : decode (zz_c 210) 28 = .ok (.iload_n 2, 1) := by decide +kernel
theorem d210_29 : decode (zz_c 210) 29 = .ok (.invokevirtual 204, 3) := by decide +kernel
theorem d210_32 : decode (zz_c 210) 32 = .ok (.goto 4, 3) := by decide +kernel
theorem d210_35 : decode (zz_c 210) 35 = .ok (.iconst (-1), 1) := by decide +kernel
theorem d210_36 : decode (zz_c 210) 36 = .ok (.istore 4, 2) := by decide +kernel
theorem d210_38 : decode (zz_c 210) 38 = .ok (.iload_n 3, 1) := by decide +kernel
theorem d210_39 : decode (zz_c 210) 39 = .ok (.ifCond .ne 7, 3) := by decide +kernel
theorem d210_42 : decode (zz_c 210) 42 = .ok (.iconst 1, 1) := by decide +kernel
theorem d210_43 : decode (zz_c 210) 43 = .ok (.goto 45, 3) := by decide +kernel
theorem d210_46 : decode (zz_c 210) 46 = .ok (.aload_n 0, 1) := by decide +kernel
theorem d210_47 : decode (zz_c 210) 47 = .ok (.iload_n 1, 1) := by decide +kernel
theorem d210_48 : decode (zz_c 210) 48 = .ok (.invokevirtual 170, 3) := by decide +kernel
theorem d210_51 : decode (zz_c 210) 51 = .ok (.ifCond .ne 7, 3) := by decide +kernel
theorem d210_54 : decode (zz_c 210) 54 = .ok (.iconst 3, 1) := by decide +kernel
theorem d210_55 : decode (zz_c 210) 55 = .ok (.goto 33, 3) := by decide +kernel
theorem d210_58 : decode (zz_c 210) 58 = .ok (.aload_n 0, 1) := by decide +kernel
theorem d210_59 : decode (zz_c 210) 59 = .ok (.sipush 302, 3) := by decide +kernel
theorem d210_62 : decode (zz_c 210) 62 = .ok (.bipush 8, 2) := by decide +kernel
theorem d210_64 : decode (zz_c 210) 64 = .ok (.iload_n 2, 1) := by decide +kernel
theorem d210_65 : decode (zz_c 210) 65 = .ok (.imul, 1) := by decide +kernel
theorem d210_66 : decode (zz_c 210) 66 = .ok (.iadd, 1) := by decide +kernel
theorem d210_67 : decode (zz_c 210) 67 = .ok (.iload_n 1, 1) := by decide +kernel
theorem d210_68 : decode (zz_c 210) 68 = .ok (.invokevirtual 65, 3) := by decide +kernel
theorem d210_71 : decode (zz_c 210) 71 = .ok (.ifCond .eq 7, 3) := by decide +kernel
theorem d210_74 : decode (zz_c 210) 74 = .ok (.iconst 2, 1) := by decide +kernel
theorem d210_75 : decode (zz_c 210) 75 = .ok (.goto 13, 3) := by decide +kernel
theorem d210_78 : decode (zz_c 210) 78 = .ok (.iload 4, 2) := by decide +kernel
theorem d210_80 : decode (zz_c 210) 80 = .ok (.ifCond .lt 7, 3) := by decide +kernel
theorem d210_83 : decode (zz_c 210) 83 = .ok (.iconst 4, 1) := by decide +kernel
theorem d210_84 : decode (zz_c 210) 84 = .ok (.goto 4, 3) := by decide +kernel
theorem d210_87 : decode (zz_c 210) 87 = .ok (.iconst 0, 1) := by decide +kernel
theorem d210_88 : decode (zz_c 210) 88 = .ok (.istore 5, 2) := by decide +kernel
theorem d210_90 : decode (zz_c 210) 90 = .ok (.aload_n 0, 1) := by decide +kernel
theorem d210_91 : decode (zz_c 210) 91 = .ok (.iload 5, 2) := by decide +kernel
theorem d210_93 : decode (zz_c 210) 93 = .ok (.iload 5, 2) := by decide +kernel
theorem d210_95 : decode (zz_c 210) 95 = .ok (.iconst 4, 1) := by decide +kernel
theorem d210_96 : decode (zz_c 210) 96 = .ok (.if_icmp .ne 8, 3) := by decide +kernel
theorem d210_99 : decode (zz_c 210) 99 = .ok (.iload 4, 2) := by decide +kernel
theorem d210_101 : decode (zz_c 210) 101 = .ok (.goto 4, 3) := by decide +kernel
theorem d210_104 : decode (zz_c 210) 104 = .ok (.iconst (-1), 1) := by decide +kernel
theorem d210_105 : decode (zz_c 210) 105 = .ok (.invokevirtual 197, 3) := by decide +kernel
theorem d210_108 : decode (zz_c 210) 108 = .ok (.istore 6, 2) := by decide +kernel
theorem d210_110 : decode (zz_c 210) 110 = .ok (.iload 6, 2) := by decide +kernel
theorem d210_112 : decode (zz_c 210) 112 = .ok (.ifCond .le 6, 3) := by decide +kernel
theorem d210_115 : decode (zz_c 210) 115 = .ok (.iload 6, 2) := by decide +kernel
theorem d210_117 : decode (zz_c 210) 117 = .ok (.ireturn, 1) := by decide +kernel
theorem d210_118 : decode (zz_c 210) 118 = .ok (.aload_n 0, 1) := by decide +kernel
theorem d210_119 : decode (zz_c 210) 119 = .ok (.sipush 302, 3) := by decide +kernel
theorem d210_122 : decode (zz_c 210) 122 = .ok (.bipush 8, 2) := by decide +kernel
theorem d210_124 : decode (zz_c 210) 124 = .ok (.iload_n 2, 1) := by decide +kernel
theorem d210_125 : decode (zz_c 210) 125 = .ok (.imul, 1) := by decide +kernel
theorem d210_126 : decode (zz_c 210) 126 = .ok (.iadd, 1) := by decide +kernel
theorem d210_127 : decode (zz_c 210) 127 = .ok (.iload_n 1, 1) := by decide +kernel
theorem d210_128 : decode (zz_c 210) 128 = .ok (.invokevirtual 200, 3) := by decide +kernel
theorem d210_131 : decode (zz_c 210) 131 = .ok (.iconst 0, 1) := by decide +kernel
theorem d210_132 : decode (zz_c 210) 132 = .ok (.ireturn, 1) := by decide +kernel
theorem x210_p0 : (∀ l0 l2 l3 l4 l5 l6 x st h, zz_Y 210 (0, [l0, some (.int x), l2, l3, l4, l5, l6], st, h) = zz_Y 210 (1, [l0, some (.int x), l2, l3, l4, l5, l6], .int x :: st, h)) ∧ (∀ ls a0 h, zz_Y 210 (1, ls, [a0], h) = mo_k 210 4 ls [] (zz_run 188 [a0] h)) ∧ (∀ ls a st h, zz_Y 210 (4, ls, .int a :: st, h) = if a = nI 0 then zz_Y 210 (19, ls, st, h) else zz_Y 210 (7, ls, st, h)) ∧ (∀ l1 l2 l3 l4 l5 l6 x st h, zz_Y 210 (7, [some (.ref x), l1, l2, l3, l4, l5, l6], st, h) = zz_Y 210 (8, [some (.ref x), l1, l2, l3, l4, l5, l6], .ref x :: st, h)) ∧ (∀ l0 l1 l3 l4 l5 l6 x st h, zz_Y 210 (8, [l0, l1, some (.int x), l3, l4, l5, l6], st, h) = zz_Y 210 (9, [l0, l1, some (.int x), l3, l4, l5, l6], .int x :: st, h)) ∧ (∀ ls a0 a1 h, zz_Y 210 (9, ls, [a1, a0], h) = mo_k 210 12 ls [] (zz_run 183 [a0, a1] h)) ∧ (∀ ls a st h, zz_Y 210 (12, ls, .int a :: st, h) = if a = nI 0 then zz_Y 210 (19, ls, st, h) else zz_Y 210 (15, ls, st, h)) ∧ (∀ ls st h, zz_Y 210 (15, ls, st, h) = zz_Y 210 (16, ls, .int (nI 1) :: st, h)) ∧ (∀ ls st h, zz_Y 210 (16, ls, st, h) = zz_Y 210 (20, ls, st, h)) ∧ (∀ ls st h, zz_Y 210 (19, ls, st, h) = zz_Y 210 (20, ls, .int (nI 0) :: st, h)) ∧ (∀ l0 l1 l2 l3 l4 l5 l6 x st h, zz_nl l2 = true → zz_Y 210 (20, [l0, l1, l2, l3, l4, l5, l6], .int x :: st, h) = zz_Y 210 (21, [l0, l1, l2, some (.int x), l4, l5, l6], st, h)) ∧ (∀ l0 l1 l2 l4 l5 l6 x st h, zz_Y 210 (21, [l0, l1, l2, some (.int x), l4, l5, l6], st, h) = zz_Y 210 (22, [l0, l1, l2, some (.int x), l4, l5, l6], .int x :: st, h)) ∧ (∀ ls a st h, zz_Y 210 (22, ls, .int a :: st, h) = if a = nI 0 then zz_Y 210 (35, ls, st, h) else zz_Y 210 (25, ls, st, h)) ∧ (∀ l1 l2 l3 l4 l5 l6 x st h, zz_Y 210 (25, [some (.ref x), l1, l2, l3, l4, l5, l6], st, h) = zz_Y 210 (26, [some (.ref x), l1, l2, l3, l4, l5, l6], .ref x :: st, h)) ∧ (∀ ls st h, zz_Y 210 (26, ls, st, h) = zz_Y 210 (27, ls, .int (nI 0) :: st, h)) ∧ (∀ l0 l2 l3 l4 l5 l6 x st h, zz_Y 210 (27, [l0, some (.int x), l2, l3, l4, l5, l6], st, h) = zz_Y 210 (28, [l0, some (.int x), l2, l3, l4, l5, l6], .int x :: st, h)) ∧ (∀ l0 l1 l3 l4 l5 l6 x st h, zz_Y 210 (28, [l0, l1, some (.int x), l3, l4, l5, l6], st, h) = zz_Y 210 (29, [l0, l1, some (.int x), l3, l4, l5, l6], .int x :: st, h)) ∧ (∀ ls a0 a1 a2 a3 h, zz_Y 210 (29, ls, [a3, a2, a1, a0], h) = mo_k 210 32 ls [] (zz_run 211 [a0, a1, a2, a3] h)) ∧ (∀ ls st h, zz_Y 210 (32, ls, st, h) = zz_Y 210 (36, ls, st, h)) ∧ (∀ ls st h, zz_Y 210 (35, ls, st, h) = zz_Y 210 (36, ls, .int (-1) :: st, h)) ∧ (∀ l0 l1 l2 l3 l4 l5 l6 x st h, zz_nl l3 = true → zz_Y 210 (36, [l0, l1, l2, l3, l4, l5, l6], .int x :: st, h) = zz_Y 210 (38, [l0, l1, l2, l3, some (.int x), l5, l6], st, h)) ∧ (∀ l0 l1 l2 l4 l5 l6 x st h, zz_Y 210 (38, [l0, l1, l2, some (.int x), l4, l5, l6], st, h) = zz_Y 210 (39, [l0, l1, l2, some (.int x), l4, l5, l6], .int x :: st, h)) ∧ (∀ ls a st h, zz_Y 210 (39, ls, .int a :: st, h) = if a = nI 0 then zz_Y 210 (42, ls, st, h) else zz_Y 210 (46, ls, st, h)) ∧ (∀ ls st h, zz_Y 210 (42, ls, st, h) = zz_Y 210 (43, ls, .int (nI 1) :: st, h)) ∧ (∀ ls st h, zz_Y 210 (43, ls, st, h) = zz_Y 210 (88, ls, st, h)) ∧ (∀ l1 l2 l3 l4 l5 l6 x st h, zz_Y 210 (46, [some (.ref x), l1, l2, l3, l4, l5, l6], st, h) = zz_Y 210 (47, [some (.ref x), l1, l2, l3, l4, l5, l6], .ref x :: st, h)) ∧ (∀ l0 l2 l3 l4 l5 l6 x st h, zz_Y 210 (47, [l0, some (.int x), l2, l3, l4, l5, l6], st, h) = zz_Y 210 (48, [l0, some (.int x), l2, l3, l4, l5, l6], .int x :: st, h)) ∧ (∀ ls a0 a1 h, zz_Y 210 (48, ls, [a1, a0], h) = mo_k 210 51 ls [] (zz_run 187 [a0, a1] h)) ∧ (∀ ls a st h, zz_Y 210 (51, ls, .int a :: st, h) = if a = nI 0 then zz_Y 210 (54, ls, st, h) else zz_Y 210 (58, ls, st, h)) ∧ (∀ ls st h, zz_Y 210 (54, ls, st, h) = zz_Y 210 (55, ls, .int (nI 3) :: st, h)) ∧ (∀ ls st h, zz_Y 210 (55, ls, st, h) = zz_Y 210 (88, ls, st, h)) ∧ (∀ l1 l2 l3 l4 l5 l6 x st h, zz_Y 210 (58, [some (.ref x), l1, l2, l3, l4, l5, l6], st, h) = zz_Y 210 (59, [some (.ref x), l1, l2, l3, l4, l5, l6], .ref x :: st, h)) ∧ (∀ ls st h, zz_Y 210 (59, ls, st, h) = zz_Y 210 (62, ls, .int (nI 302) :: st, h)) ∧ (∀ ls st h, zz_Y 210 (62, ls, st, h) = zz_Y 210 (64, ls, .int (nI 8) :: st, h)) ∧ (∀ l0 l1 l3 l4 l5 l6 x st h, zz_Y 210 (64, [l0, l1, some (.int x), l3, l4, l5, l6], st, h) = zz_Y 210 (65, [l0, l1, some (.int x), l3, l4, l5, l6], .int x :: st, h)) ∧ (∀ ls a b st h, zz_Y 210 (65, ls, .int b :: .int a :: st, h) = zz_Y 210 (66, ls, .int (a * b) :: st, h)) ∧ (∀ ls a b st h, zz_Y 210 (66, ls, .int b :: .int a :: st, h) = zz_Y 210 (67, ls, .int (a + b) :: st, h)) ∧ (∀ l0 l2 l3 l4 l5 l6 x st h, zz_Y 210 (67, [l0, some (.int x), l2, l3, l4, l5, l6], st, h) = zz_Y 210 (68, [l0, some (.int x), l2, l3, l4, l5, l6], .int x :: st, h)) ∧ (∀ ls a0 a1 a2 h, zz_Y 210 (68, ls, [a2, a1, a0], h) = mo_k 210 71 ls [] (zz_run 189 [a0, a1, a2] h)) ∧ (∀ ls a st h, zz_Y 210 (71, ls, .int a :: st, h) = if a = nI 0 then zz_Y 210 (78, ls, st, h) else zz_Y 210 (74, ls, st, h)) ∧ (∀ ls st h, zz_Y 210 (74, ls, st, h) = zz_Y 210 (75, ls, .int (nI 2) :: st, h)) ∧ (∀ ls st h, zz_Y 210 (75, ls, st, h) = zz_Y 210 (88, ls, st, h)) ∧ (∀ l0 l1 l2 l3 l5 l6 x st h, zz_Y 210 (78, [l0, l1, l2, l3, some (.int x), l5, l6], st, h) = zz_Y 210 (80, [l0, l1, l2, l3, some (.int x), l5, l6], .int x :: st, h)) ∧ (∀ ls a st h, zz_Y 210 (80, ls, .int a :: st, h) = if a < nI 0 then zz_Y 210 (87, ls, st, h) else zz_Y 210 (83, ls, st, h)) ∧ (∀ ls st h, zz_Y 210 (83, ls, st, h) = zz_Y 210 (84, ls, .int (nI 4) :: st, h)) ∧ (∀ ls st h, zz_Y 210 (84, ls, st, h) = zz_Y 210 (88, ls, st, h)) ∧ (∀ ls st h, zz_Y 210 (87, ls, st, h) = zz_Y 210 (88, ls, .int (nI 0) :: st, h)) ∧ (∀ l0 l1 l2 l3 l4 l5 l6 x st h, zz_nl l4 = true → zz_Y 210 (88, [l0, l1, l2, l3, l4, l5, l6], .int x :: st, h) = zz_Y 210 (90, [l0, l1, l2, l3, l4, some (.int x), l6], st, h)) ∧ (∀ l1 l2 l3 l4 l5 l6 x st h, zz_Y 210 (90, [some (.ref x), l1, l2, l3, l4, l5, l6], st, h) = zz_Y 210 (91, [some (.ref x), l1, l2, l3, l4, l5, l6], .ref x :: st, h)) ∧ (∀ l0 l1 l2 l3 l4 l6 x st h, zz_Y 210 (91, [l0, l1, l2, l3, l4, some (.int x), l6], st, h) = zz_Y 210 (93, [l0, l1, l2, l3, l4, some (.int x), l6], .int x :: st, h)) ∧ (∀ l0 l1 l2 l3 l4 l6 x st h, zz_Y 210 (93, [l0, l1, l2, l3, l4, some (.int x), l6], st, h) = zz_Y 210 (95, [l0, l1, l2, l3, l4, some (.int x), l6], .int x :: st, h)) ∧ (∀ ls st h, zz_Y 210 (95, ls, st, h) = zz_Y 210 (96, ls, .int (nI 4) :: st, h)) ∧ (∀ ls a b st h, zz_Y 210 (96, ls, .int b :: .int a :: st, h) = if a = b then zz_Y 210 (99, ls, st, h) else zz_Y 210 (104, ls, st, h)) ∧ (∀ l0 l1 l2 l3 l5 l6 x st h, zz_Y 210 (99, [l0, l1, l2, l3, some (.int x), l5, l6], st, h) = zz_Y 210 (101, [l0, l1, l2, l3, some (.int x), l5, l6], .int x :: st, h)) ∧ (∀ ls st h, zz_Y 210 (101, ls, st, h) = zz_Y 210 (105, ls, st, h)) ∧ (∀ ls st h, zz_Y 210 (104, ls, st, h) = zz_Y 210 (105, ls, .int (-1) :: st, h)) ∧ (∀ ls a0 a1 a2 h, zz_Y 210 (105, ls, [a2, a1, a0], h) = mo_k 210 108 ls [] (zz_run 205 [a0, a1, a2] h)) ∧ (∀ l0 l1 l2 l3 l4 l5 l6 x st h, zz_nl l5 = true → zz_Y 210 (108, [l0, l1, l2, l3, l4, l5, l6], .int x :: st, h) = zz_Y 210 (110, [l0, l1, l2, l3, l4, l5, some (.int x)], st, h)) ∧ (∀ l0 l1 l2 l3 l4 l5 x st h, zz_Y 210 (110, [l0, l1, l2, l3, l4, l5, some (.int x)], st, h) = zz_Y 210 (112, [l0, l1, l2, l3, l4, l5, some (.int x)], .int x :: st, h)) ∧ (∀ ls a st h, zz_Y 210 (112, ls, .int a :: st, h) = if nI 0 < a then zz_Y 210 (115, ls, st, h) else zz_Y 210 (118, ls, st, h)) :=
  ⟨fun _ _ _ _ _ _ _ _ _ => xl_iln d210_0 rfl,
   fun ls a0 h => xl_cs (As := [a0]) (st := []) d210_1 xco210 xm_11_61 xnp188 (by decide +kernel) rfl,
   fun _ _ _ _ => xl_ifeq d210_4 rfl,
   fun _ _ _ _ _ _ _ _ _ => xl_aln d210_7 rfl,
   fun _ _ _ _ _ _ _ _ _ => xl_iln d210_8 rfl,
   fun ls a0 a1 h => xl_cv (As := [a0, a1]) (st := []) d210_9 xco210 xm_11_164 (congrArg Nat.succ xnp183) (by decide +kernel) rfl,
   fun _ _ _ _ => xl_ifeq d210_12 rfl,
   fun _ _ _ => xl_ic d210_15 (by decide +kernel),
   fun _ _ _ => xl_goto d210_16 rfl,
   fun _ _ _ => xl_ic d210_19 (by decide +kernel),
   fun _ _ _ _ _ _ _ _ _ _ hc => xl_isn d210_20 xml210 (by decide) (zz_nl_s1 hc),
   fun _ _ _ _ _ _ _ _ _ => xl_iln d210_21 rfl,
   fun _ _ _ _ => xl_ifeq d210_22 rfl,
   fun _ _ _ _ _ _ _ _ _ => xl_aln d210_25 rfl,
   fun _ _ _ => xl_ic d210_26 (by decide +kernel),
   fun _ _ _ _ _ _ _ _ _ => xl_iln d210_27 rfl,
   fun _ _ _ _ _ _ _ _ _ => xl_iln d210_28 rfl,
   fun ls a0 a1 a2 a3 h => xl_cv (As := [a0, a1, a2, a3]) (st := []) d210_29 xco210 xm_11_204 (congrArg Nat.succ xnp211) (by decide +kernel) rfl,
   fun _ _ _ => xl_goto d210_32 rfl,
   fun _ _ _ => xl_ic d210_35 (by decide +kernel),
   fun _ _ _ _ _ _ _ _ _ _ hc => xl_is d210_36 xml210 (by decide) (zz_nl_s1 hc),
   fun _ _ _ _ _ _ _ _ _ => xl_iln d210_38 rfl,
   fun _ _ _ _ => xl_ifne d210_39 rfl,
   fun _ _ _ => xl_ic d210_42 (by decide +kernel),
   fun _ _ _ => xl_goto d210_43 rfl,
   fun _ _ _ _ _ _ _ _ _ => xl_aln d210_46 rfl,
   fun _ _ _ _ _ _ _ _ _ => xl_iln d210_47 rfl,
   fun ls a0 a1 h => xl_cv (As := [a0, a1]) (st := []) d210_48 xco210 xm_11_170 (congrArg Nat.succ xnp187) (by decide +kernel) rfl,
   fun _ _ _ _ => xl_ifne d210_51 rfl,
   fun _ _ _ => xl_ic d210_54 (by decide +kernel),
   fun _ _ _ => xl_goto d210_55 rfl,
   fun _ _ _ _ _ _ _ _ _ => xl_aln d210_58 rfl,
   fun _ _ _ => xl_si d210_59 (by decide +kernel),
   fun _ _ _ => xl_bi d210_62 (by decide +kernel),
   fun _ _ _ _ _ _ _ _ _ => xl_iln d210_64 rfl,
   fun _ _ _ _ _ => xl_imul d210_65,
   fun _ _ _ _ _ => xl_iadd d210_66,
   fun _ _ _ _ _ _ _ _ _ => xl_iln d210_67 rfl,
   fun ls a0 a1 a2 h => xl_cv (As := [a0, a1, a2]) (st := []) d210_68 xco210 xm_11_65 (congrArg Nat.succ xnp189) (by decide +kernel) rfl,
   fun _ _ _ _ => xl_ifeq d210_71 rfl,
   fun _ _ _ => xl_ic d210_74 (by decide +kernel),
   fun _ _ _ => xl_goto d210_75 rfl,
   fun _ _ _ _ _ _ _ _ _ => xl_il d210_78 rfl,
   fun _ _ _ _ => xl_iflt d210_80 rfl,
   fun _ _ _ => xl_ic d210_83 (by decide +kernel),
   fun _ _ _ => xl_goto d210_84 rfl,
   fun _ _ _ => xl_ic d210_87 (by decide +kernel),
   fun _ _ _ _ _ _ _ _ _ _ hc => xl_is d210_88 xml210 (by decide) (zz_nl_s1 hc),
   fun _ _ _ _ _ _ _ _ _ => xl_aln d210_90 rfl,
   fun _ _ _ _ _ _ _ _ _ => xl_il d210_91 rfl,
   fun _ _ _ _ _ _ _ _ _ => xl_il d210_93 rfl,
   fun _ _ _ => xl_ic d210_95 (by decide +kernel),
   fun _ _ _ _ _ => xl_icne d210_96 rfl,
   fun _ _ _ _ _ _ _ _ _ => xl_il d210_99 rfl,
   fun _ _ _ => xl_goto d210_101 rfl,
   fun _ _ _ => xl_ic d210_104 (by decide +kernel),
   fun ls a0 a1 a2 h => xl_cv (As := [a0, a1, a2]) (st := []) d210_105 xco210 xm_11_197 (congrArg Nat.succ xnp205) (by decide +kernel) rfl,
   fun _ _ _ _ _ _ _ _ _ _ hc => xl_is d210_108 xml210 (by decide) (zz_nl_s1 hc),
   fun _ _ _ _ _ _ _ _ _ => xl_il d210_110 rfl,
   fun _ _ _ _ => xl_ifle d210_112 rfl⟩
theorem x210_p1 : (∀ l0 l1 l2 l3 l4 l5 x st h, zz_Y 210 (115, [l0, l1, l2, l3, l4, l5, some (.int x)], st, h) = zz_Y 210 (117, [l0, l1, l2, l3, l4, l5, some (.int x)], .int x :: st, h)) ∧ (∀ ls v h, zz_Y 210 (117, ls, [.int v], h) = some (some (.int v), h)) ∧ (∀ l1 l2 l3 l4 l5 l6 x st h, zz_Y 210 (118, [some (.ref x), l1, l2, l3, l4, l5, l6], st, h) = zz_Y 210 (119, [some (.ref x), l1, l2, l3, l4, l5, l6], .ref x :: st, h)) ∧ (∀ ls st h, zz_Y 210 (119, ls, st, h) = zz_Y 210 (122, ls, .int (nI 302) :: st, h)) ∧ (∀ ls st h, zz_Y 210 (122, ls, st, h) = zz_Y 210 (124, ls, .int (nI 8) :: st, h)) ∧ (∀ l0 l1 l3 l4 l5 l6 x st h, zz_Y 210 (124, [l0, l1, some (.int x), l3, l4, l5, l6], st, h) = zz_Y 210 (125, [l0, l1, some (.int x), l3, l4, l5, l6], .int x :: st, h)) ∧ (∀ ls a b st h, zz_Y 210 (125, ls, .int b :: .int a :: st, h) = zz_Y 210 (126, ls, .int (a * b) :: st, h)) ∧ (∀ ls a b st h, zz_Y 210 (126, ls, .int b :: .int a :: st, h) = zz_Y 210 (127, ls, .int (a + b) :: st, h)) ∧ (∀ l0 l2 l3 l4 l5 l6 x st h, zz_Y 210 (127, [l0, some (.int x), l2, l3, l4, l5, l6], st, h) = zz_Y 210 (128, [l0, some (.int x), l2, l3, l4, l5, l6], .int x :: st, h)) ∧ (∀ ls a0 a1 a2 h, zz_Y 210 (128, ls, [a2, a1, a0], h) = mo_k 210 131 ls [] (zz_run 208 [a0, a1, a2] h)) ∧ (∀ ls st h, zz_Y 210 (131, ls, st, h) = zz_Y 210 (132, ls, .int (nI 0) :: st, h)) ∧ (∀ ls v h, zz_Y 210 (132, ls, [.int v], h) = some (some (.int v), h)) :=
  ⟨fun _ _ _ _ _ _ _ _ _ => xl_il d210_115 rfl,
   fun _ _ _ => xl_iri d210_117 xrt210,
   fun _ _ _ _ _ _ _ _ _ => xl_aln d210_118 rfl,
   fun _ _ _ => xl_si d210_119 (by decide +kernel),
   fun _ _ _ => xl_bi d210_122 (by decide +kernel),
   fun _ _ _ _ _ _ _ _ _ => xl_iln d210_124 rfl,
   fun _ _ _ _ _ => xl_imul d210_125,
   fun _ _ _ _ _ => xl_iadd d210_126,
   fun _ _ _ _ _ _ _ _ _ => xl_iln d210_127 rfl,
   fun ls a0 a1 a2 h => xl_cv (As := [a0, a1, a2]) (st := []) d210_128 xco210 xm_11_200 (congrArg Nat.succ xnp208) (by decide +kernel) rfl,
   fun _ _ _ => xl_ic d210_131 (by decide +kernel),
   fun _ _ _ => xl_iri d210_132 xrt210⟩
