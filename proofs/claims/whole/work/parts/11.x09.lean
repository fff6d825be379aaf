/-! 211 FacetSieveModel.held(III)I -/
theorem d211_0 : decode (zz_c 211) 0 = .ok (.aload_n 0, 1) := by decide +kernel
theorem d211_1 : decode (zz_c 211) 1 = .ok (.getfield 7, 3) := by decide +kernel
theorem d211_4 : decode (zz_c 211) 4 = .ok (.iload_n 1, 1) := by decide +kernel
theorem d211_5 : decode (zz_c 211) 5 = .ok (.iload_n 3, 1) := by decide +kernel
theorem d211_6 : decode (zz_c 211) 6 = .ok (.invokestatic 77, 3) := by decide +kernel
theorem d211_9 : decode (zz_c 211) 9 = .ok (.iadd, 1) := by decide +kernel
theorem d211_10 : decode (zz_c 211) 10 = .ok (.iconst 0, 1) := by decide +kernel
theorem d211_11 : decode (zz_c 211) 11 = .ok (.iadd, 1) := by decide +kernel
theorem d211_12 : decode (zz_c 211) 12 = .ok (.iaload, 1) := by decide +kernel
theorem d211_13 : decode (zz_c 211) 13 = .ok (.istore 4, 2) := by decide +kernel
theorem d211_15 : decode (zz_c 211) 15 = .ok (.aload_n 0, 1) := by decide +kernel
theorem d211_16 : decode (zz_c 211) 16 = .ok (.getfield 7, 3) := by decide +kernel
theorem d211_19 : decode (zz_c 211) 19 = .ok (.iload_n 1, 1) := by decide +kernel
theorem d211_20 : decode (zz_c 211) 20 = .ok (.iload 4, 2) := by decide +kernel
theorem d211_22 : decode (zz_c 211) 22 = .ok (.invokestatic 100, 3) := by decide +kernel
theorem d211_25 : decode (zz_c 211) 25 = .ok (.iadd, 1) := by decide +kernel
theorem d211_26 : decode (zz_c 211) 26 = .ok (.iconst 0, 1) := by decide +kernel
theorem d211_27 : decode (zz_c 211) 27 = .ok (.iadd, 1) := by decide +kernel
theorem d211_28 : decode (zz_c 211) 28 = .ok (.iaload, 1) := by decide +kernel
theorem d211_29 : decode (zz_c 211) 29 = .ok (.iconst 1, 1) := by decide +kernel
theorem d211_30 : decode (zz_c 211) 30 = .ok (.if_icmp .ne 5, 3) := by decide +kernel
theorem d211_33 : decode (zz_c 211) 33 = .ok (.iconst (-1), 1) := by decide +kernel
theorem d211_34 : decode (zz_c 211) 34 = .ok (.ireturn, 1) := by decide +kernel
theorem d211_35 : decode (zz_c 211) 35 = .ok (.iconst 0, 1) := by decide +kernel
theorem d211_36 : decode (zz_c 211) 36 = .ok (.istore 5, 2) := by decide +kernel
theorem d211_38 : decode (zz_c 211) 38 = .ok (.iload 5, 2) := by decide +kernel
theorem d211_40 : decode (zz_c 211) 40 = .ok (.aload_n 0, 1) := by decide +kernel
theorem d211_41 : decode (zz_c 211) 41 = .ok (.getfield 7, 3) := by decide +kernel
theorem d211_44 : decode (zz_c 211) 44 = .ok (.iload_n 1, 1) := by decide +kernel
theorem d211_45 : decode (zz_c 211) 45 = .ok (.iconst 1, 1) := by decide +kernel
theorem d211_46 : decode (zz_c 211) 46 = .ok (.iadd, 1) := by decide +kernel
theorem d211_47 : decode (zz_c 211) 47 = .ok (.iaload, 1) := by decide +kernel
theorem d211_48 : decode (zz_c 211) 48 = .ok (.if_icmp .ge 50, 3) := by decide +kernel
theorem d211_51 : decode (zz_c 211) 51 = .ok (.aload_n 0, 1) := by decide +kernel
theorem d211_52 : decode (zz_c 211) 52 = .ok (.getfield 7, 3) := by decide +kernel
theorem d211_55 : decode (zz_c 211) 55 = .ok (.iload_n 1, 1) := by decide +kernel
theorem d211_56 : decode (zz_c 211) 56 = .ok (.iload 5, 2) := by decide +kernel
theorem d211_58 : decode (zz_c 211) 58 = .ok (.invokestatic 77, 3) := by decide +kernel
theorem d211_61 : decode (zz_c 211) 61 = .ok (.iadd, 1) := by decide +kernel
theorem d211_62 : decode (zz_c 211) 62 = .ok (.iconst 0, 1) := by decide +kernel
theorem d211_63 : decode (zz_c 211) 63 = .ok (.iadd, 1) := by decide +kernel
theorem d211_64 : decode (zz_c 211) 64 = .ok (.iaload, 1) := by decide +kernel
theorem d211_65 : decode (zz_c 211) 65 = .ok (.iload 4, 2) := by decide +kernel
theorem d211_67 : decode (zz_c 211) 67 = .ok (.if_icmp .ne 25, 3) := by decide +kernel
theorem d211_70 : decode (zz_c 211) 70 = .ok (.aload_n 0, 1) := by decide +kernel
theorem d211_71 : decode (zz_c 211) 71 = .ok (.iload_n 1, 1) := by decide +kernel
theorem d211_72 : decode (zz_c 211) 72 = .ok (.sipush 302, 3) := by decide +kernel
theorem d211_75 : decode (zz_c 211) 75 = .ok (.iadd, 1) := by decide +kernel
theorem d211_76 : decode (zz_c 211) 76 = .ok (.bipush 8, 2) := by decide +kernel
theorem d211_78 : decode (zz_c 211) 78 = .ok (.iload 5, 2) := by decide +kernel
theorem d211_80 : decode (zz_c 211) 80 = .ok (.imul, 1) := by decide +kernel
theorem d211_81 : decode (zz_c 211) 81 = .ok (.iadd, 1) := by decide +kernel
theorem d211_82 : decode (zz_c 211) 82 = .ok (.iload_n 2, 1) := by decide +kernel
theorem d211_83 : decode (zz_c 211) 83 = .ok (.invokevirtual 65, 3) := by decide +kernel
theorem d211_86 : decode (zz_c 211) 86 = .ok (.ifCond .eq 6, 3) := by decide +kernel
theorem d211_89 : decode (zz_c 211) 89 = .ok (.iload 5, 2) := by decide +kernel
theorem d211_91 : decode (zz_c 211) 91 = .ok (.ireturn, 1) := by decide +kernel
theorem d211_92 : decode (zz_c 211) 92 = .ok (.iinc 5 1, 3) := by decide +kernel
theorem d211_95 : decode (zz_c 211) 95 = .ok (.goto (-57), 3) := by decide +kernel
theorem d211_98 : decode (zz_c 211) 98 = .ok (.iconst (-1), 1) := by decide +kernel
theorem d211_99 : decode (zz_c 211) 99 = .ok (.ireturn, 1) := by decide +kernel
theorem x211 : (∀ l1 l2 l3 l4 l5 x st h, zz_Y 211 (0, [some (.ref x), l1, l2, l3, l4, l5], st, h) = zz_Y 211 (1, [some (.ref x), l1, l2, l3, l4, l5], .ref x :: st, h)) ∧ (∀ ls a st h, zz_Y 211 (1, ls, .ref a :: st, h) = mo_gf (hp_g h a) 11 0 211 4 ls st h) ∧ (∀ l0 l2 l3 l4 l5 x st h, zz_Y 211 (4, [l0, some (.int x), l2, l3, l4, l5], st, h) = zz_Y 211 (5, [l0, some (.int x), l2, l3, l4, l5], .int x :: st, h)) ∧ (∀ l0 l1 l2 l4 l5 x st h, zz_Y 211 (5, [l0, l1, l2, some (.int x), l4, l5], st, h) = zz_Y 211 (6, [l0, l1, l2, some (.int x), l4, l5], .int x :: st, h)) ∧ (∀ ls a0 s0 s1 h, zz_Y 211 (6, ls, [a0, s0, s1], h) = mo_k 211 9 ls [s0, s1] (zz_run 158 [a0] h)) ∧ (∀ ls a b st h, zz_Y 211 (9, ls, .int b :: .int a :: st, h) = zz_Y 211 (10, ls, .int (a + b) :: st, h)) ∧ (∀ ls st h, zz_Y 211 (10, ls, st, h) = zz_Y 211 (11, ls, .int (nI 0) :: st, h)) ∧ (∀ ls a b st h, zz_Y 211 (11, ls, .int b :: .int a :: st, h) = zz_Y 211 (12, ls, .int (a + b) :: st, h)) ∧ (∀ ls a i st h, zz_Y 211 (12, ls, .int i :: .ref a :: st, h) = mo_ia (hp_g h a) i a 211 13 ls st h) ∧ (∀ l0 l1 l2 l3 l4 l5 x st h, zz_nl l3 = true → zz_Y 211 (13, [l0, l1, l2, l3, l4, l5], .int x :: st, h) = zz_Y 211 (15, [l0, l1, l2, l3, some (.int x), l5], st, h)) ∧ (∀ l1 l2 l3 l4 l5 x st h, zz_Y 211 (15, [some (.ref x), l1, l2, l3, l4, l5], st, h) = zz_Y 211 (16, [some (.ref x), l1, l2, l3, l4, l5], .ref x :: st, h)) ∧ (∀ ls a st h, zz_Y 211 (16, ls, .ref a :: st, h) = mo_gf (hp_g h a) 11 0 211 19 ls st h) ∧ (∀ l0 l2 l3 l4 l5 x st h, zz_Y 211 (19, [l0, some (.int x), l2, l3, l4, l5], st, h) = zz_Y 211 (20, [l0, some (.int x), l2, l3, l4, l5], .int x :: st, h)) ∧ (∀ l0 l1 l2 l3 l5 x st h, zz_Y 211 (20, [l0, l1, l2, l3, some (.int x), l5], st, h) = zz_Y 211 (22, [l0, l1, l2, l3, some (.int x), l5], .int x :: st, h)) ∧ (∀ ls a0 s0 s1 h, zz_Y 211 (22, ls, [a0, s0, s1], h) = mo_k 211 25 ls [s0, s1] (zz_run 169 [a0] h)) ∧ (∀ ls a b st h, zz_Y 211 (25, ls, .int b :: .int a :: st, h) = zz_Y 211 (26, ls, .int (a + b) :: st, h)) ∧ (∀ ls st h, zz_Y 211 (26, ls, st, h) = zz_Y 211 (27, ls, .int (nI 0) :: st, h)) ∧ (∀ ls a b st h, zz_Y 211 (27, ls, .int b :: .int a :: st, h) = zz_Y 211 (28, ls, .int (a + b) :: st, h)) ∧ (∀ ls a i st h, zz_Y 211 (28, ls, .int i :: .ref a :: st, h) = mo_ia (hp_g h a) i a 211 29 ls st h) ∧ (∀ ls st h, zz_Y 211 (29, ls, st, h) = zz_Y 211 (30, ls, .int (nI 1) :: st, h)) ∧ (∀ ls a b st h, zz_Y 211 (30, ls, .int b :: .int a :: st, h) = if a = b then zz_Y 211 (33, ls, st, h) else zz_Y 211 (35, ls, st, h)) ∧ (∀ ls st h, zz_Y 211 (33, ls, st, h) = zz_Y 211 (34, ls, .int (-1) :: st, h)) ∧ (∀ ls v h, zz_Y 211 (34, ls, [.int v], h) = some (some (.int v), h)) ∧ (∀ ls st h, zz_Y 211 (35, ls, st, h) = zz_Y 211 (36, ls, .int (nI 0) :: st, h)) ∧ (∀ l0 l1 l2 l3 l4 l5 x st h, zz_nl l4 = true → zz_Y 211 (36, [l0, l1, l2, l3, l4, l5], .int x :: st, h) = zz_Y 211 (38, [l0, l1, l2, l3, l4, some (.int x)], st, h)) ∧ (∀ l1 l2 l3 l4 l5 x st h, zz_Y 211 (40, [some (.ref x), l1, l2, l3, l4, l5], st, h) = zz_Y 211 (41, [some (.ref x), l1, l2, l3, l4, l5], .ref x :: st, h)) ∧ (∀ ls a st h, zz_Y 211 (41, ls, .ref a :: st, h) = mo_gf (hp_g h a) 11 0 211 44 ls st h) ∧ (∀ l0 l2 l3 l4 l5 x st h, zz_Y 211 (44, [l0, some (.int x), l2, l3, l4, l5], st, h) = zz_Y 211 (45, [l0, some (.int x), l2, l3, l4, l5], .int x :: st, h)) ∧ (∀ ls st h, zz_Y 211 (45, ls, st, h) = zz_Y 211 (46, ls, .int (nI 1) :: st, h)) ∧ (∀ ls a b st h, zz_Y 211 (46, ls, .int b :: .int a :: st, h) = zz_Y 211 (47, ls, .int (a + b) :: st, h)) ∧ (∀ ls a i st h, zz_Y 211 (47, ls, .int i :: .ref a :: st, h) = mo_ia (hp_g h a) i a 211 48 ls st h) ∧ (∀ ls a b st h, zz_Y 211 (48, ls, .int b :: .int a :: st, h) = if a < b then zz_Y 211 (51, ls, st, h) else zz_Y 211 (98, ls, st, h)) ∧ (∀ l1 l2 l3 l4 l5 x st h, zz_Y 211 (51, [some (.ref x), l1, l2, l3, l4, l5], st, h) = zz_Y 211 (52, [some (.ref x), l1, l2, l3, l4, l5], .ref x :: st, h)) ∧ (∀ ls a st h, zz_Y 211 (52, ls, .ref a :: st, h) = mo_gf (hp_g h a) 11 0 211 55 ls st h) ∧ (∀ l0 l2 l3 l4 l5 x st h, zz_Y 211 (55, [l0, some (.int x), l2, l3, l4, l5], st, h) = zz_Y 211 (56, [l0, some (.int x), l2, l3, l4, l5], .int x :: st, h)) ∧ (∀ l0 l1 l2 l3 l4 x st h, zz_Y 211 (56, [l0, l1, l2, l3, l4, some (.int x)], st, h) = zz_Y 211 (58, [l0, l1, l2, l3, l4, some (.int x)], .int x :: st, h)) ∧ (∀ ls a0 s0 s1 h, zz_Y 211 (58, ls, [a0, s0, s1], h) = mo_k 211 61 ls [s0, s1] (zz_run 158 [a0] h)) ∧ (∀ ls a b st h, zz_Y 211 (61, ls, .int b :: .int a :: st, h) = zz_Y 211 (62, ls, .int (a + b) :: st, h)) ∧ (∀ ls st h, zz_Y 211 (62, ls, st, h) = zz_Y 211 (63, ls, .int (nI 0) :: st, h)) ∧ (∀ ls a b st h, zz_Y 211 (63, ls, .int b :: .int a :: st, h) = zz_Y 211 (64, ls, .int (a + b) :: st, h)) ∧ (∀ ls a i st h, zz_Y 211 (64, ls, .int i :: .ref a :: st, h) = mo_ia (hp_g h a) i a 211 65 ls st h) ∧ (∀ l0 l1 l2 l3 l5 x st h, zz_Y 211 (65, [l0, l1, l2, l3, some (.int x), l5], st, h) = zz_Y 211 (67, [l0, l1, l2, l3, some (.int x), l5], .int x :: st, h)) ∧ (∀ ls a b st h, zz_Y 211 (67, ls, .int b :: .int a :: st, h) = if a = b then zz_Y 211 (70, ls, st, h) else zz_Y 211 (92, ls, st, h)) ∧ (∀ l1 l2 l3 l4 l5 x st h, zz_Y 211 (70, [some (.ref x), l1, l2, l3, l4, l5], st, h) = zz_Y 211 (71, [some (.ref x), l1, l2, l3, l4, l5], .ref x :: st, h)) ∧ (∀ l0 l2 l3 l4 l5 x st h, zz_Y 211 (71, [l0, some (.int x), l2, l3, l4, l5], st, h) = zz_Y 211 (72, [l0, some (.int x), l2, l3, l4, l5], .int x :: st, h)) ∧ (∀ ls st h, zz_Y 211 (72, ls, st, h) = zz_Y 211 (75, ls, .int (nI 302) :: st, h)) ∧ (∀ ls a b st h, zz_Y 211 (75, ls, .int b :: .int a :: st, h) = zz_Y 211 (76, ls, .int (a + b) :: st, h)) ∧ (∀ ls st h, zz_Y 211 (76, ls, st, h) = zz_Y 211 (78, ls, .int (nI 8) :: st, h)) ∧ (∀ l0 l1 l2 l3 l4 x st h, zz_Y 211 (78, [l0, l1, l2, l3, l4, some (.int x)], st, h) = zz_Y 211 (80, [l0, l1, l2, l3, l4, some (.int x)], .int x :: st, h)) ∧ (∀ ls a b st h, zz_Y 211 (80, ls, .int b :: .int a :: st, h) = zz_Y 211 (81, ls, .int (a * b) :: st, h)) ∧ (∀ ls a b st h, zz_Y 211 (81, ls, .int b :: .int a :: st, h) = zz_Y 211 (82, ls, .int (a + b) :: st, h)) ∧ (∀ l0 l1 l3 l4 l5 x st h, zz_Y 211 (82, [l0, l1, some (.int x), l3, l4, l5], st, h) = zz_Y 211 (83, [l0, l1, some (.int x), l3, l4, l5], .int x :: st, h)) ∧ (∀ ls a0 a1 a2 h, zz_Y 211 (83, ls, [a2, a1, a0], h) = mo_k 211 86 ls [] (zz_run 189 [a0, a1, a2] h)) ∧ (∀ ls a st h, zz_Y 211 (86, ls, .int a :: st, h) = if a = nI 0 then zz_Y 211 (92, ls, st, h) else zz_Y 211 (89, ls, st, h)) ∧ (∀ l0 l1 l2 l3 l4 x st h, zz_Y 211 (89, [l0, l1, l2, l3, l4, some (.int x)], st, h) = zz_Y 211 (91, [l0, l1, l2, l3, l4, some (.int x)], .int x :: st, h)) ∧ (∀ ls v h, zz_Y 211 (91, ls, [.int v], h) = some (some (.int v), h)) ∧ (∀ l0 l1 l2 l3 l4 x st h, zz_nl l4 = true → zz_Y 211 (92, [l0, l1, l2, l3, l4, some (.int x)], st, h) = zz_Y 211 (95, [l0, l1, l2, l3, l4, some (.int (x + nI 1))], st, h)) ∧ (∀ ls st h, zz_Y 211 (95, ls, st, h) = zz_Y 211 (38, ls, st, h)) ∧ (∀ ls st h, zz_Y 211 (98, ls, st, h) = zz_Y 211 (99, ls, .int (-1) :: st, h)) ∧ (∀ ls v h, zz_Y 211 (99, ls, [.int v], h) = some (some (.int v), h)) :=
  ⟨fun _ _ _ _ _ _ _ _ => xl_aln d211_0 rfl,
   fun _ _ _ _ => xl_gf d211_1 xco211 xf_11_7,
   fun _ _ _ _ _ _ _ _ => xl_iln d211_4 rfl,
   fun _ _ _ _ _ _ _ _ => xl_iln d211_5 rfl,
   fun ls a0 s0 s1 h => xl_cs (As := [a0]) (st := [s0, s1]) d211_6 xco211 xm_11_77 xnp158 (by decide +kernel) rfl,
   fun _ _ _ _ _ => xl_iadd d211_9,
   fun _ _ _ => xl_ic d211_10 (by decide +kernel),
   fun _ _ _ _ _ => xl_iadd d211_11,
   fun _ _ _ _ _ => xl_ia d211_12,
   fun _ _ _ _ _ _ _ _ _ hc => xl_is d211_13 xml211 (by decide) (zz_nl_s1 hc),
   fun _ _ _ _ _ _ _ _ => xl_aln d211_15 rfl,
   fun _ _ _ _ => xl_gf d211_16 xco211 xf_11_7,
   fun _ _ _ _ _ _ _ _ => xl_iln d211_19 rfl,
   fun _ _ _ _ _ _ _ _ => xl_il d211_20 rfl,
   fun ls a0 s0 s1 h => xl_cs (As := [a0]) (st := [s0, s1]) d211_22 xco211 xm_11_100 xnp169 (by decide +kernel) rfl,
   fun _ _ _ _ _ => xl_iadd d211_25,
   fun _ _ _ => xl_ic d211_26 (by decide +kernel),
   fun _ _ _ _ _ => xl_iadd d211_27,
   fun _ _ _ _ _ => xl_ia d211_28,
   fun _ _ _ => xl_ic d211_29 (by decide +kernel),
   fun _ _ _ _ _ => xl_icne d211_30 rfl,
   fun _ _ _ => xl_ic d211_33 (by decide +kernel),
   fun _ _ _ => xl_iri d211_34 xrt211,
   fun _ _ _ => xl_ic d211_35 (by decide +kernel),
   fun _ _ _ _ _ _ _ _ _ hc => xl_is d211_36 xml211 (by decide) (zz_nl_s1 hc),
   fun _ _ _ _ _ _ _ _ => xl_aln d211_40 rfl,
   fun _ _ _ _ => xl_gf d211_41 xco211 xf_11_7,
   fun _ _ _ _ _ _ _ _ => xl_iln d211_44 rfl,
   fun _ _ _ => xl_ic d211_45 (by decide +kernel),
   fun _ _ _ _ _ => xl_iadd d211_46,
   fun _ _ _ _ _ => xl_ia d211_47,
   fun _ _ _ _ _ => xl_icge d211_48 rfl,
   fun _ _ _ _ _ _ _ _ => xl_aln d211_51 rfl,
   fun _ _ _ _ => xl_gf d211_52 xco211 xf_11_7,
   fun _ _ _ _ _ _ _ _ => xl_iln d211_55 rfl,
   fun _ _ _ _ _ _ _ _ => xl_il d211_56 rfl,
   fun ls a0 s0 s1 h => xl_cs (As := [a0]) (st := [s0, s1]) d211_58 xco211 xm_11_77 xnp158 (by decide +kernel) rfl,
   fun _ _ _ _ _ => xl_iadd d211_61,
   fun _ _ _ => xl_ic d211_62 (by decide +kernel),
   fun _ _ _ _ _ => xl_iadd d211_63,
   fun _ _ _ _ _ => xl_ia d211_64,
   fun _ _ _ _ _ _ _ _ => xl_il d211_65 rfl,
   fun _ _ _ _ _ => xl_icne d211_67 rfl,
   fun _ _ _ _ _ _ _ _ => xl_aln d211_70 rfl,
   fun _ _ _ _ _ _ _ _ => xl_iln d211_71 rfl,
   fun _ _ _ => xl_si d211_72 (by decide +kernel),
   fun _ _ _ _ _ => xl_iadd d211_75,
   fun _ _ _ => xl_bi d211_76 (by decide +kernel),
   fun _ _ _ _ _ _ _ _ => xl_il d211_78 rfl,
   fun _ _ _ _ _ => xl_imul d211_80,
   fun _ _ _ _ _ => xl_iadd d211_81,
   fun _ _ _ _ _ _ _ _ => xl_iln d211_82 rfl,
   fun ls a0 a1 a2 h => xl_cv (As := [a0, a1, a2]) (st := []) d211_83 xco211 xm_11_65 (congrArg Nat.succ xnp189) (by decide +kernel) rfl,
   fun _ _ _ _ => xl_ifeq d211_86 rfl,
   fun _ _ _ _ _ _ _ _ => xl_il d211_89 rfl,
   fun _ _ _ => xl_iri d211_91 xrt211,
   fun _ _ _ _ _ _ _ _ hc => xl_inc d211_92 xml211 (by decide) rfl (by decide +kernel) (zz_nl_s1 hc),
   fun _ _ _ => xl_goto d211_95 rfl,
   fun _ _ _ => xl_ic d211_98 (by decide +kernel),
   fun _ _ _ => xl_iri d211_99 xrt211⟩
theorem x211_c38 : ∀ l0 l1 l2 l3 l4 x st h, zz_Y 211 (38, [l0, l1, l2, l3, l4, some (.int x)], st, h) = zz_Y 211 (40, [l0, l1, l2, l3, l4, some (.int x)], .int x :: st, h) := fun _ _ _ _ _ _ _ _ => xl_il d211_38 rfl
/-! 212 FacetSieveModel.untag(II)I -/
theorem d212_0 : decode (zz_c 212) 0 = .ok (.iload_n 1, 1) := by decide +kernel
theorem d212_1 : decode (zz_c 212) 1 = .ok (.invokestatic 61, 3) := by decide +kernel
theorem d212_4 : decode (zz_c 212) 4 = .ok (.ifCond .eq 15, 3) := by decide +kernel
theorem d212_7 : decode (zz_c 212) 7 = .ok (.aload_n 0, 1) := by decide +kernel
theorem d212_8 : decode (zz_c 212) 8 = .ok (.iload_n 2, 1) := by decide +kernel
theorem d212_9 : decode (zz_c 212) 9 = .ok (.invokevirtual 164, 3) := by decide +kernel
theorem d212_12 : decode (zz_c 212) 12 = .ok (.ifCond .eq 7, 3) := by decide +kernel
theorem d212_15 : decode (zz_c 212) 15 = .ok (.iconst 1, 1) := by decide +kernel
theorem d212_16 : decode (zz_c 212) 16 = .ok (.goto 4, 3) := by decide +kernel
theorem d212_19 : decode (zz_c 212) 19 = .ok (.iconst 0, 1) := by decide +kernel
theorem d212_20 : decode (zz_c 212) 20 = .ok (.istore_n 3, 1) := by decide +kernel
theorem d212_21 : decode (zz_c 212) 21 = .ok (.aload_n 0, 1) := by decide +kernel
theorem d212_22 : decode (zz_c 212) 22 = .ok (.iload_n 3, 1) := by decide +kernel
theorem d212_23 : decode (zz_c 212) 23 = .ok (.ifCond .ne 7, 3) := by decide +kernel
theorem d212_26 : decode (zz_c 212) 26 = .ok (.iconst 1, 1) := by decide +kernel
theorem d212_27 : decode (zz_c 212) 27 = .ok (.goto 32, 3) := by decide +kernel
theorem d212_30 : decode (zz_c 212) 30 = .ok (.aload_n 0, 1) := by decide +kernel
theorem d212_31 : decode (zz_c 212) 31 = .ok (.iload_n 1, 1) := by decide +kernel
theorem d212_32 : decode (zz_c 212) 32 = .ok (.invokevirtual 170, 3) := by decide +kernel
theorem d212_35 : decode (zz_c 212) 35 = .ok (.ifCond .eq 19, 3) := by decide +kernel
theorem d212_38 : decode (zz_c 212) 38 = .ok (.aload_n 0, 1) := by decide +kernel
theorem d212_39 : decode (zz_c 212) 39 = .ok (.sipush 302, 3) := by decide +kernel
theorem d212_42 : decode (zz_c 212) 42 = .ok (.bipush 8, 2) := by decide +kernel
theorem d212_44 : decode (zz_c 212) 44 = .ok (.iload_n 2, 1) := by decide +kernel
theorem d212_45 : decode (zz_c 212) 45 = .ok (.imul, 1) := by decide +kernel
theorem d212_46 : decode (zz_c 212) 46 = .ok (.iadd, 1) := by decide +kernel
theorem d212_47 : decode (zz_c 212) 47 = .ok (.iload_n 1, 1) := by decide +kernel
theorem d212_48 : decode (zz_c 212) 48 = .ok (.invokevirtual 65, 3) := by decide +kernel
theorem d212_51 : decode (zz_c 212) 51 = .ok (.ifCond .ne 7, 3) := by decide +kernel
theorem d212_54 : decode (zz_c 212) 54 = .ok (.iconst 3, 1) := by decide +kernel
theorem d212_55 : decode (zz_c 212) 55 = .ok (.goto 4, 3) := by decide +kernel
theorem d212_58 : decode (zz_c 212) 58 = .ok (.iconst 0, 1) := by decide +kernel
theorem d212_59 : decode (zz_c 212) 59 = .ok (.iconst (-1), 1) := by decide +kernel
theorem d212_60 : decode (zz_c 212) 60 = .ok (.invokevirtual 197, 3) := by decide +kernel
theorem d212_63 : decode (zz_c 212) 63 = .ok (.istore 4, 2) := by decide +kernel
theorem d212_65 : decode (zz_c 212) 65 = .ok (.iload 4, 2) := by decide +kernel
theorem d212_67 : decode (zz_c 212) 67 = .ok (.ifCond .le 6, 3) := by decide +kernel
theorem d212_70 : decode (zz_c 212) 70 = .ok (.iload 4, 2) := by decide +kernel
theorem d212_72 : decode (zz_c 212) 72 = .ok (.ireturn, 1) := by decide +kernel
theorem d212_73 : decode (zz_c 212) 73 = .ok (.aload_n 0, 1) := by decide +kernel
theorem d212_74 : decode (zz_c 212) 74 = .ok (.sipush 302, 3) := by decide +kernel
theorem d212_77 : decode (zz_c 212) 77 = .ok (.bipush 8, 2) := by decide +kernel
theorem d212_79 : decode (zz_c 212) 79 = .ok (.iload_n 2, 1) := by decide +kernel
theorem d212_80 : decode (zz_c 212) 80 = .ok (.imul, 1) := by decide +kernel
theorem d212_81 : decode (zz_c 212) 81 = .ok (.iadd, 1) := by decide +kernel
theorem d212_82 : decode (zz_c 212) 82 = .ok (.iload_n 1, 1) := by decide +kernel
theorem d212_83 : decode (zz_c 212) 83 = .ok (.invokevirtual 200, 3) := by decide +kernel
theorem d212_86 : decode (zz_c 212) 86 = .ok (.iconst 0, 1) := by decide +kernel
theorem d212_87 : decode (zz_c 212) 87 = .ok (.ireturn, 1) := by decide +kernel
theorem x212 : (∀ l0 l2 l3 l4 x st h, zz_Y 212 (0, [l0, some (.int x), l2, l3, l4], st, h) = zz_Y 212 (1, [l0, some (.int x), l2, l3, l4], .int x :: st, h)) ∧ (∀ ls a0 h, zz_Y 212 (1, ls, [a0], h) = mo_k 212 4 ls [] (zz_run 188 [a0] h)) ∧ (∀ ls a st h, zz_Y 212 (4, ls, .int a :: st, h) = if a = nI 0 then zz_Y 212 (19, ls, st, h) else zz_Y 212 (7, ls, st, h)) ∧ (∀ l1 l2 l3 l4 x st h, zz_Y 212 (7, [some (.ref x), l1, l2, l3, l4], st, h) = zz_Y 212 (8, [some (.ref x), l1, l2, l3, l4], .ref x :: st, h)) ∧ (∀ l0 l1 l3 l4 x st h, zz_Y 212 (8, [l0, l1, some (.int x), l3, l4], st, h) = zz_Y 212 (9, [l0, l1, some (.int x), l3, l4], .int x :: st, h)) ∧ (∀ ls a0 a1 h, zz_Y 212 (9, ls, [a1, a0], h) = mo_k 212 12 ls [] (zz_run 183 [a0, a1] h)) ∧ (∀ ls a st h, zz_Y 212 (12, ls, .int a :: st, h) = if a = nI 0 then zz_Y 212 (19, ls, st, h) else zz_Y 212 (15, ls, st, h)) ∧ (∀ ls st h, zz_Y 212 (15, ls, st, h) = zz_Y 212 (16, ls, .int (nI 1) :: st, h)) ∧ (∀ ls st h, zz_Y 212 (16, ls, st, h) = zz_Y 212 (20, ls, st, h)) ∧ (∀ ls st h, zz_Y 212 (19, ls, st, h) = zz_Y 212 (20, ls, .int (nI 0) :: st, h)) ∧ (∀ l0 l1 l2 l3 l4 x st h, zz_nl l2 = true → zz_Y 212 (20, [l0, l1, l2, l3, l4], .int x :: st, h) = zz_Y 212 (21, [l0, l1, l2, some (.int x), l4], st, h)) ∧ (∀ l1 l2 l3 l4 x st h, zz_Y 212 (21, [some (.ref x), l1, l2, l3, l4], st, h) = zz_Y 212 (22, [some (.ref x), l1, l2, l3, l4], .ref x :: st, h)) ∧ (∀ l0 l1 l2 l4 x st h, zz_Y 212 (22, [l0, l1, l2, some (.int x), l4], st, h) = zz_Y 212 (23, [l0, l1, l2, some (.int x), l4], .int x :: st, h)) ∧ (∀ ls a st h, zz_Y 212 (23, ls, .int a :: st, h) = if a = nI 0 then zz_Y 212 (26, ls, st, h) else zz_Y 212 (30, ls, st, h)) ∧ (∀ ls st h, zz_Y 212 (26, ls, st, h) = zz_Y 212 (27, ls, .int (nI 1) :: st, h)) ∧ (∀ ls st h, zz_Y 212 (27, ls, st, h) = zz_Y 212 (59, ls, st, h)) ∧ (∀ l1 l2 l3 l4 x st h, zz_Y 212 (30, [some (.ref x), l1, l2, l3, l4], st, h) = zz_Y 212 (31, [some (.ref x), l1, l2, l3, l4], .ref x :: st, h)) ∧ (∀ l0 l2 l3 l4 x st h, zz_Y 212 (31, [l0, some (.int x), l2, l3, l4], st, h) = zz_Y 212 (32, [l0, some (.int x), l2, l3, l4], .int x :: st, h)) ∧ (∀ ls a0 a1 s0 h, zz_Y 212 (32, ls, [a1, a0, s0], h) = mo_k 212 35 ls [s0] (zz_run 187 [a0, a1] h)) ∧ (∀ ls a st h, zz_Y 212 (35, ls, .int a :: st, h) = if a = nI 0 then zz_Y 212 (54, ls, st, h) else zz_Y 212 (38, ls, st, h)) ∧ (∀ l1 l2 l3 l4 x st h, zz_Y 212 (38, [some (.ref x), l1, l2, l3, l4], st, h) = zz_Y 212 (39, [some (.ref x), l1, l2, l3, l4], .ref x :: st, h)) ∧ (∀ ls st h, zz_Y 212 (39, ls, st, h) = zz_Y 212 (42, ls, .int (nI 302) :: st, h)) ∧ (∀ ls st h, zz_Y 212 (42, ls, st, h) = zz_Y 212 (44, ls, .int (nI 8) :: st, h)) ∧ (∀ l0 l1 l3 l4 x st h, zz_Y 212 (44, [l0, l1, some (.int x), l3, l4], st, h) = zz_Y 212 (45, [l0, l1, some (.int x), l3, l4], .int x :: st, h)) ∧ (∀ ls a b st h, zz_Y 212 (45, ls, .int b :: .int a :: st, h) = zz_Y 212 (46, ls, .int (a * b) :: st, h)) ∧ (∀ ls a b st h, zz_Y 212 (46, ls, .int b :: .int a :: st, h) = zz_Y 212 (47, ls, .int (a + b) :: st, h)) ∧ (∀ l0 l2 l3 l4 x st h, zz_Y 212 (47, [l0, some (.int x), l2, l3, l4], st, h) = zz_Y 212 (48, [l0, some (.int x), l2, l3, l4], .int x :: st, h)) ∧ (∀ ls a0 a1 a2 s0 h, zz_Y 212 (48, ls, [a2, a1, a0, s0], h) = mo_k 212 51 ls [s0] (zz_run 189 [a0, a1, a2] h)) ∧ (∀ ls a st h, zz_Y 212 (51, ls, .int a :: st, h) = if a = nI 0 then zz_Y 212 (54, ls, st, h) else zz_Y 212 (58, ls, st, h)) ∧ (∀ ls st h, zz_Y 212 (54, ls, st, h) = zz_Y 212 (55, ls, .int (nI 3) :: st, h)) ∧ (∀ ls st h, zz_Y 212 (55, ls, st, h) = zz_Y 212 (59, ls, st, h)) ∧ (∀ ls st h, zz_Y 212 (58, ls, st, h) = zz_Y 212 (59, ls, .int (nI 0) :: st, h)) ∧ (∀ ls st h, zz_Y 212 (59, ls, st, h) = zz_Y 212 (60, ls, .int (-1) :: st, h)) ∧ (∀ ls a0 a1 a2 h, zz_Y 212 (60, ls, [a2, a1, a0], h) = mo_k 212 63 ls [] (zz_run 205 [a0, a1, a2] h)) ∧ (∀ l0 l1 l2 l3 l4 x st h, zz_nl l3 = true → zz_Y 212 (63, [l0, l1, l2, l3, l4], .int x :: st, h) = zz_Y 212 (65, [l0, l1, l2, l3, some (.int x)], st, h)) ∧ (∀ l0 l1 l2 l3 x st h, zz_Y 212 (65, [l0, l1, l2, l3, some (.int x)], st, h) = zz_Y 212 (67, [l0, l1, l2, l3, some (.int x)], .int x :: st, h)) ∧ (∀ ls a st h, zz_Y 212 (67, ls, .int a :: st, h) = if nI 0 < a then zz_Y 212 (70, ls, st, h) else zz_Y 212 (73, ls, st, h)) ∧ (∀ l0 l1 l2 l3 x st h, zz_Y 212 (70, [l0, l1, l2, l3, some (.int x)], st, h) = zz_Y 212 (72, [l0, l1, l2, l3, some (.int x)], .int x :: st, h)) ∧ (∀ ls v h, zz_Y 212 (72, ls, [.int v], h) = some (some (.int v), h)) ∧ (∀ l1 l2 l3 l4 x st h, zz_Y 212 (73, [some (.ref x), l1, l2, l3, l4], st, h) = zz_Y 212 (74, [some (.ref x), l1, l2, l3, l4], .ref x :: st, h)) ∧ (∀ ls st h, zz_Y 212 (74, ls, st, h) = zz_Y 212 (77, ls, .int (nI 302) :: st, h)) ∧ (∀ ls st h, zz_Y 212 (77, ls, st, h) = zz_Y 212 (79, ls, .int (nI 8) :: st, h)) ∧ (∀ l0 l1 l3 l4 x st h, zz_Y 212 (79, [l0, l1, some (.int x), l3, l4], st, h) = zz_Y 212 (80, [l0, l1, some (.int x), l3, l4], .int x :: st, h)) ∧ (∀ ls a b st h, zz_Y 212 (80, ls, .int b :: .int a :: st, h) = zz_Y 212 (81, ls, .int (a * b) :: st, h)) ∧ (∀ ls a b st h, zz_Y 212 (81, ls, .int b :: .int a :: st, h) = zz_Y 212 (82, ls, .int (a + b) :: st, h)) ∧ (∀ l0 l2 l3 l4 x st h, zz_Y 212 (82, [l0, some (.int x), l2, l3, l4], st, h) = zz_Y 212 (83, [l0, some (.int x), l2, l3, l4], .int x :: st, h)) ∧ (∀ ls a0 a1 a2 h, zz_Y 212 (83, ls, [a2, a1, a0], h) = mo_k 212 86 ls [] (zz_run 208 [a0, a1, a2] h)) ∧ (∀ ls st h, zz_Y 212 (86, ls, st, h) = zz_Y 212 (87, ls, .int (nI 0) :: st, h)) ∧ (∀ ls v h, zz_Y 212 (87, ls, [.int v], h) = some (some (.int v), h)) :=
  ⟨fun _ _ _ _ _ _ _ => xl_iln d212_0 rfl,
   fun ls a0 h => xl_cs (As := [a0]) (st := []) d212_1 xco212 xm_11_61 xnp188 (by decide +kernel) rfl,
   fun _ _ _ _ => xl_ifeq d212_4 rfl,
   fun _ _ _ _ _ _ _ => xl_aln d212_7 rfl,
   fun _ _ _ _ _ _ _ => xl_iln d212_8 rfl,
   fun ls a0 a1 h => xl_cv (As := [a0, a1]) (st := []) d212_9 xco212 xm_11_164 (congrArg Nat.succ xnp183) (by decide +kernel) rfl,
   fun _ _ _ _ => xl_ifeq d212_12 rfl,
   fun _ _ _ => xl_ic d212_15 (by decide +kernel),
   fun _ _ _ => xl_goto d212_16 rfl,
   fun _ _ _ => xl_ic d212_19 (by decide +kernel),
   fun _ _ _ _ _ _ _ _ hc => xl_isn d212_20 xml212 (by decide) (zz_nl_s1 hc),
   fun _ _ _ _ _ _ _ => xl_aln d212_21 rfl,
   fun _ _ _ _ _ _ _ => xl_iln d212_22 rfl,
   fun _ _ _ _ => xl_ifne d212_23 rfl,
   fun _ _ _ => xl_ic d212_26 (by decide +kernel),
   fun _ _ _ => xl_goto d212_27 rfl,
   fun _ _ _ _ _ _ _ => xl_aln d212_30 rfl,
   fun _ _ _ _ _ _ _ => xl_iln d212_31 rfl,
   fun ls a0 a1 s0 h => xl_cv (As := [a0, a1]) (st := [s0]) d212_32 xco212 xm_11_170 (congrArg Nat.succ xnp187) (by decide +kernel) rfl,
   fun _ _ _ _ => xl_ifeq d212_35 rfl,
   fun _ _ _ _ _ _ _ => xl_aln d212_38 rfl,
   fun _ _ _ => xl_si d212_39 (by decide +kernel),
   fun _ _ _ => xl_bi d212_42 (by decide +kernel),
   fun _ _ _ _ _ _ _ => xl_iln d212_44 rfl,
   fun _ _ _ _ _ => xl_imul d212_45,
   fun _ _ _ _ _ => xl_iadd d212_46,
   fun _ _ _ _ _ _ _ => xl_iln d212_47 rfl,
   fun ls a0 a1 a2 s0 h => xl_cv (As := [a0, a1, a2]) (st := [s0]) d212_48 xco212 xm_11_65 (congrArg Nat.succ xnp189) (by decide +kernel) rfl,
   fun _ _ _ _ => xl_ifne d212_51 rfl,
   fun _ _ _ => xl_ic d212_54 (by decide +kernel),
   fun _ _ _ => xl_goto d212_55 rfl,
   fun _ _ _ => xl_ic d212_58 (by decide +kernel),
   fun _ _ _ => xl_ic d212_59 (by decide +kernel),
   fun ls a0 a1 a2 h => xl_cv (As := [a0, a1, a2]) (st := []) d212_60 xco212 xm_11_197 (congrArg Nat.succ xnp205) (by decide +kernel) rfl,
   fun _ _ _ _ _ _ _ _ hc => xl_is d212_63 xml212 (by decide) (zz_nl_s1 hc),
   fun _ _ _ _ _ _ _ => xl_il d212_65 rfl,
   fun _ _ _ _ => xl_ifle d212_67 rfl,
   fun _ _ _ _ _ _ _ => xl_il d212_70 rfl,
   fun _ _ _ => xl_iri d212_72 xrt212,
   fun _ _ _ _ _ _ _ => xl_aln d212_73 rfl,
   fun _ _ _ => xl_si d212_74 (by decide +kernel),
   fun _ _ _ => xl_bi d212_77 (by decide +kernel),
   fun _ _ _ _ _ _ _ => xl_iln d212_79 rfl,
   fun _ _ _ _ _ => xl_imul d212_80,
   fun _ _ _ _ _ => xl_iadd d212_81,
   fun _ _ _ _ _ _ _ => xl_iln d212_82 rfl,
   fun ls a0 a1 a2 h => xl_cv (As := [a0, a1, a2]) (st := []) d212_83 xco212 xm_11_200 (congrArg Nat.succ xnp208) (by decide +kernel) rfl,
   fun _ _ _ => xl_ic d212_86 (by decide +kernel),
   fun _ _ _ => xl_iri d212_87 xrt212⟩
/-! 213 FacetSieveModel.rank(II)I -/
theorem d213_0 : decode (zz_c 213) 0 = .ok (.aload_n 0, 1) := by decide +kernel
theorem d213_1 : decode (zz_c 213) 1 = .ok (.iload_n 1, 1) := by decide +kernel
theorem d213_2 : decode (zz_c 213) 2 = .ok (.invokestatic 61, 3) := by decide +kernel
theorem d213_5 : decode (zz_c 213) 5 = .ok (.ifCond .eq 14, 3) := by decide +kernel
theorem d213_8 : decode (zz_c 213) 8 = .ok (.iload_n 2, 1) := by decide +kernel
theorem d213_9 : decode (zz_c 213) 9 = .ok (.iconst 0, 1) := by decide +kernel
theorem d213_10 : decode (zz_c 213) 10 = .ok (.sipush 999, 3) := by decide +kernel
theorem d213_13 : decode (zz_c 213) 13 = .ok (.invokestatic 57, 3) := by decide +kernel
theorem d213_16 : decode (zz_c 213) 16 = .ok (.ifCond .ne 7, 3) := by decide +kernel
theorem d213_19 : decode (zz_c 213) 19 = .ok (.iconst 1, 1) := by decide +kernel
theorem d213_20 : decode (zz_c 213) 20 = .ok (.goto 34, 3) := by decide +kernel
theorem d213_23 : decode (zz_c 213) 23 = .ok (.aload_n 0, 1) := by decide +kernel
theorem d213_24 : decode (zz_c 213) 24 = .ok (.iload_n 1, 1) := by decide +kernel
theorem d213_25 : decode (zz_c 213) 25 = .ok (.invokevirtual 170, 3) := by decide +kernel
theorem d213_28 : decode (zz_c 213) 28 = .ok (.ifCond .ne 7, 3) := by decide +kernel
theorem d213_31 : decode (zz_c 213) 31 = .ok (.iconst 3, 1) := by decide +kernel
theorem d213_32 : decode (zz_c 213) 32 = .ok (.goto 22, 3) := by decide +kernel
theorem d213_35 : decode (zz_c 213) 35 = .ok (.aload_n 0, 1) := by decide +kernel
theorem d213_36 : decode (zz_c 213) 36 = .ok (.getfield 7, 3) := by decide +kernel
theorem d213_39 : decode (zz_c 213) 39 = .ok (.sipush 462, 3) := by decide +kernel
theorem d213_42 : decode (zz_c 213) 42 = .ok (.iload_n 1, 1) := by decide +kernel
theorem d213_43 : decode (zz_c 213) 43 = .ok (.iadd, 1) := by decide +kernel
theorem d213_44 : decode (zz_c 213) 44 = .ok (.iaload, 1) := by decide +kernel
theorem d213_45 : decode (zz_c 213) 45 = .ok (.iload_n 2, 1) := by decide +kernel
theorem d213_46 : decode (zz_c 213) 46 = .ok (.if_icmp .ne 7, 3) := by decide +kernel
theorem d213_49 : decode (zz_c 213) 49 = .ok (.iconst 2, 1) := by decide +kernel
theorem d213_50 : decode (zz_c 213) 50 = .ok (.goto 4, 3) := by decide +kernel
theorem d213_53 : decode (zz_c 213) 53 = .ok (.iconst 0, 1) := by decide +kernel
theorem d213_54 : decode (zz_c 213) 54 = .ok (.iconst (-1), 1) := by decide +kernel
theorem d213_55 : decode (zz_c 213) 55 = .ok (.invokevirtual 197, 3) := by decide +kernel
theorem d213_58 : decode (zz_c 213) 58 = .ok (.istore_n 3, 1) := by decide +kernel
theorem d213_59 : decode (zz_c 213) 59 = .ok (.iload_n 3, 1) := by decide +kernel
theorem d213_60 : decode (zz_c 213) 60 = .ok (.ifCond .ne 14, 3) := by decide +kernel
theorem d213_63 : decode (zz_c 213) 63 = .ok (.aload_n 0, 1) := by decide +kernel
theorem d213_64 : decode (zz_c 213) 64 = .ok (.getfield 7, 3) := by decide +kernel
theorem d213_67 : decode (zz_c 213) 67 = .ok (.sipush 462, 3) := by decide +kernel
theorem d213_70 : decode (zz_c 213) 70 = .ok (.iload_n 1, 1) := by decide +kernel
theorem d213_71 : decode (zz_c 213) 71 = .ok (.iadd, 1) := by decide +kernel
theorem d213_72 : decode (zz_c 213) 72 = .ok (.iload_n 2, 1) := by decide +kernel
theorem d213_73 : decode (zz_c 213) 73 = .ok (.iastore, 1) := by decide +kernel
theorem d213_74 : decode (zz_c 213) 74 = .ok (.iload_n 3, 1) := by decide +kernel
theorem d213_75 : decode (zz_c 213) 75 = .ok (.ireturn, 1) := by decide +kernel
theorem x213 : (∀ l1 l2 l3 x st h, zz_Y 213 (0, [some (.ref x), l1, l2, l3], st, h) = zz_Y 213 (1, [some (.ref x), l1, l2, l3], .ref x :: st, h)) ∧ (∀ l0 l2 l3 x st h, zz_Y 213 (1, [l0, some (.int x), l2, l3], st, h) = zz_Y 213 (2, [l0, some (.int x), l2, l3], .int x :: st, h)) ∧ (∀ ls a0 s0 h, zz_Y 213 (2, ls, [a0, s0], h) = mo_k 213 5 ls [s0] (zz_run 188 [a0] h)) ∧ (∀ ls a st h, zz_Y 213 (5, ls, .int a :: st, h) = if a = nI 0 then zz_Y 213 (19, ls, st, h) else zz_Y 213 (8, ls, st, h)) ∧ (∀ l0 l1 l3 x st h, zz_Y 213 (8, [l0, l1, some (.int x), l3], st, h) = zz_Y 213 (9, [l0, l1, some (.int x), l3], .int x :: st, h)) ∧ (∀ ls st h, zz_Y 213 (9, ls, st, h) = zz_Y 213 (10, ls, .int (nI 0) :: st, h)) ∧ (∀ ls st h, zz_Y 213 (10, ls, st, h) = zz_Y 213 (13, ls, .int (nI 999) :: st, h)) ∧ (∀ ls a0 a1 a2 s0 h, zz_Y 213 (13, ls, [a2, a1, a0, s0], h) = mo_k 213 16 ls [s0] (zz_run 154 [a0, a1, a2] h)) ∧ (∀ ls a st h, zz_Y 213 (16, ls, .int a :: st, h) = if a = nI 0 then zz_Y 213 (19, ls, st, h) else zz_Y 213 (23, ls, st, h)) ∧ (∀ ls st h, zz_Y 213 (19, ls, st, h) = zz_Y 213 (20, ls, .int (nI 1) :: st, h)) ∧ (∀ ls st h, zz_Y 213 (20, ls, st, h) = zz_Y 213 (54, ls, st, h)) ∧ (∀ l1 l2 l3 x st h, zz_Y 213 (23, [some (.ref x), l1, l2, l3], st, h) = zz_Y 213 (24, [some (.ref x), l1, l2, l3], .ref x :: st, h)) ∧ (∀ l0 l2 l3 x st h, zz_Y 213 (24, [l0, some (.int x), l2, l3], st, h) = zz_Y 213 (25, [l0, some (.int x), l2, l3], .int x :: st, h)) ∧ (∀ ls a0 a1 s0 h, zz_Y 213 (25, ls, [a1, a0, s0], h) = mo_k 213 28 ls [s0] (zz_run 187 [a0, a1] h)) ∧ (∀ ls a st h, zz_Y 213 (28, ls, .int a :: st, h) = if a = nI 0 then zz_Y 213 (31, ls, st, h) else zz_Y 213 (35, ls, st, h)) ∧ (∀ ls st h, zz_Y 213 (31, ls, st, h) = zz_Y 213 (32, ls, .int (nI 3) :: st, h)) ∧ (∀ ls st h, zz_Y 213 (32, ls, st, h) = zz_Y 213 (54, ls, st, h)) ∧ (∀ l1 l2 l3 x st h, zz_Y 213 (35, [some (.ref x), l1, l2, l3], st, h) = zz_Y 213 (36, [some (.ref x), l1, l2, l3], .ref x :: st, h)) ∧ (∀ ls a st h, zz_Y 213 (36, ls, .ref a :: st, h) = mo_gf (hp_g h a) 11 0 213 39 ls st h) ∧ (∀ ls st h, zz_Y 213 (39, ls, st, h) = zz_Y 213 (42, ls, .int (nI 462) :: st, h)) ∧ (∀ l0 l2 l3 x st h, zz_Y 213 (42, [l0, some (.int x), l2, l3], st, h) = zz_Y 213 (43, [l0, some (.int x), l2, l3], .int x :: st, h)) ∧ (∀ ls a b st h, zz_Y 213 (43, ls, .int b :: .int a :: st, h) = zz_Y 213 (44, ls, .int (a + b) :: st, h)) ∧ (∀ ls a i st h, zz_Y 213 (44, ls, .int i :: .ref a :: st, h) = mo_ia (hp_g h a) i a 213 45 ls st h) ∧ (∀ l0 l1 l3 x st h, zz_Y 213 (45, [l0, l1, some (.int x), l3], st, h) = zz_Y 213 (46, [l0, l1, some (.int x), l3], .int x :: st, h)) ∧ (∀ ls a b st h, zz_Y 213 (46, ls, .int b :: .int a :: st, h) = if a = b then zz_Y 213 (49, ls, st, h) else zz_Y 213 (53, ls, st, h)) ∧ (∀ ls st h, zz_Y 213 (49, ls, st, h) = zz_Y 213 (50, ls, .int (nI 2) :: st, h)) ∧ (∀ ls st h, zz_Y 213 (50, ls, st, h) = zz_Y 213 (54, ls, st, h)) ∧ (∀ ls st h, zz_Y 213 (53, ls, st, h) = zz_Y 213 (54, ls, .int (nI 0) :: st, h)) ∧ (∀ ls st h, zz_Y 213 (54, ls, st, h) = zz_Y 213 (55, ls, .int (-1) :: st, h)) ∧ (∀ ls a0 a1 a2 h, zz_Y 213 (55, ls, [a2, a1, a0], h) = mo_k 213 58 ls [] (zz_run 205 [a0, a1, a2] h)) ∧ (∀ l0 l1 l2 l3 x st h, zz_nl l2 = true → zz_Y 213 (58, [l0, l1, l2, l3], .int x :: st, h) = zz_Y 213 (59, [l0, l1, l2, some (.int x)], st, h)) ∧ (∀ l0 l1 l2 x st h, zz_Y 213 (59, [l0, l1, l2, some (.int x)], st, h) = zz_Y 213 (60, [l0, l1, l2, some (.int x)], .int x :: st, h)) ∧ (∀ ls a st h, zz_Y 213 (60, ls, .int a :: st, h) = if a = nI 0 then zz_Y 213 (63, ls, st, h) else zz_Y 213 (74, ls, st, h)) ∧ (∀ l1 l2 l3 x st h, zz_Y 213 (63, [some (.ref x), l1, l2, l3], st, h) = zz_Y 213 (64, [some (.ref x), l1, l2, l3], .ref x :: st, h)) ∧ (∀ ls a st h, zz_Y 213 (64, ls, .ref a :: st, h) = mo_gf (hp_g h a) 11 0 213 67 ls st h) ∧ (∀ ls st h, zz_Y 213 (67, ls, st, h) = zz_Y 213 (70, ls, .int (nI 462) :: st, h)) ∧ (∀ l0 l2 l3 x st h, zz_Y 213 (70, [l0, some (.int x), l2, l3], st, h) = zz_Y 213 (71, [l0, some (.int x), l2, l3], .int x :: st, h)) ∧ (∀ ls a b st h, zz_Y 213 (71, ls, .int b :: .int a :: st, h) = zz_Y 213 (72, ls, .int (a + b) :: st, h)) ∧ (∀ l0 l1 l3 x st h, zz_Y 213 (72, [l0, l1, some (.int x), l3], st, h) = zz_Y 213 (73, [l0, l1, some (.int x), l3], .int x :: st, h)) ∧ (∀ ls a i x st h, zz_Y 213 (73, ls, .int x :: .int i :: .ref a :: st, h) = mo_is (hp_g h a) x i a 213 74 ls st h) ∧ (∀ l0 l1 l2 x st h, zz_Y 213 (74, [l0, l1, l2, some (.int x)], st, h) = zz_Y 213 (75, [l0, l1, l2, some (.int x)], .int x :: st, h)) ∧ (∀ ls v h, zz_Y 213 (75, ls, [.int v], h) = some (some (.int v), h)) :=
  ⟨fun _ _ _ _ _ _ => xl_aln d213_0 rfl,
   fun _ _ _ _ _ _ => xl_iln d213_1 rfl,
   fun ls a0 s0 h => xl_cs (As := [a0]) (st := [s0]) d213_2 xco213 xm_11_61 xnp188 (by decide +kernel) rfl,
   fun _ _ _ _ => xl_ifeq d213_5 rfl,
   fun _ _ _ _ _ _ => xl_iln d213_8 rfl,
   fun _ _ _ => xl_ic d213_9 (by decide +kernel),
   fun _ _ _ => xl_si d213_10 (by decide +kernel),
   fun ls a0 a1 a2 s0 h => xl_cs (As := [a0, a1, a2]) (st := [s0]) d213_13 xco213 xm_11_57 xnp154 (by decide +kernel) rfl,
   fun _ _ _ _ => xl_ifne d213_16 rfl,
   fun _ _ _ => xl_ic d213_19 (by decide +kernel),
   fun _ _ _ => xl_goto d213_20 rfl,
   fun _ _ _ _ _ _ => xl_aln d213_23 rfl,
   fun _ _ _ _ _ _ => xl_iln d213_24 rfl,
   fun ls a0 a1 s0 h => xl_cv (As := [a0, a1]) (st := [s0]) d213_25 xco213 xm_11_170 (congrArg Nat.succ xnp187) (by decide +kernel) rfl,
   fun _ _ _ _ => xl_ifne d213_28 rfl,
   fun _ _ _ => xl_ic d213_31 (by decide +kernel),
   fun _ _ _ => xl_goto d213_32 rfl,
   fun _ _ _ _ _ _ => xl_aln d213_35 rfl,
   fun _ _ _ _ => xl_gf d213_36 xco213 xf_11_7,
   fun _ _ _ => xl_si d213_39 (by decide +kernel),
   fun _ _ _ _ _ _ => xl_iln d213_42 rfl,
   fun _ _ _ _ _ => xl_iadd d213_43,
   fun _ _ _ _ _ => xl_ia d213_44,
   fun _ _ _ _ _ _ => xl_iln d213_45 rfl,
   fun _ _ _ _ _ => xl_icne d213_46 rfl,
   fun _ _ _ => xl_ic d213_49 (by decide +kernel),
   fun _ _ _ => xl_goto d213_50 rfl,
   fun _ _ _ => xl_ic d213_53 (by decide +kernel),
   fun _ _ _ => xl_ic d213_54 (by decide +kernel),
   fun ls a0 a1 a2 h => xl_cv (As := [a0, a1, a2]) (st := []) d213_55 xco213 xm_11_197 (congrArg Nat.succ xnp205) (by decide +kernel) rfl,
   fun _ _ _ _ _ _ _ hc => xl_isn d213_58 xml213 (by decide) (zz_nl_s1 hc),
   fun _ _ _ _ _ _ => xl_iln d213_59 rfl,
   fun _ _ _ _ => xl_ifne d213_60 rfl,
   fun _ _ _ _ _ _ => xl_aln d213_63 rfl,
   fun _ _ _ _ => xl_gf d213_64 xco213 xf_11_7,
   fun _ _ _ => xl_si d213_67 (by decide +kernel),
   fun _ _ _ _ _ _ => xl_iln d213_70 rfl,
   fun _ _ _ _ _ => xl_iadd d213_71,
   fun _ _ _ _ _ _ => xl_iln d213_72 rfl,
   fun _ _ _ _ _ _ => xl_ist d213_73,
   fun _ _ _ _ _ _ => xl_iln d213_74 rfl,
   fun _ _ _ => xl_iri d213_75 xrt213⟩
/-! 214 FacetSieveModel.choose(II)I -/
theorem d214_0 : decode (zz_c 214) 0 = .ok (.aload_n 0, 1) := by decide +kernel
theorem d214_1 : decode (zz_c 214) 1 = .ok (.aload_n 0, 1) := by decide +kernel
theorem d214_2 : decode (zz_c 214) 2 = .ok (.iload_n 1, 1) := by decide +kernel
theorem d214_3 : decode (zz_c 214) 3 = .ok (.invokevirtual 164, 3) := by decide +kernel
theorem d214_6 : decode (zz_c 214) 6 = .ok (.ifCond .eq 12, 3) := by decide +kernel
theorem d214_9 : decode (zz_c 214) 9 = .ok (.iload_n 2, 1) := by decide +kernel
theorem d214_10 : decode (zz_c 214) 10 = .ok (.iconst 0, 1) := by decide +kernel
theorem d214_11 : decode (zz_c 214) 11 = .ok (.iconst 2, 1) := by decide +kernel
theorem d214_12 : decode (zz_c 214) 12 = .ok (.invokestatic 57, 3) := by decide +kernel
theorem d214_15 : decode (zz_c 214) 15 = .ok (.ifCond .ne 7, 3) := by decide +kernel
theorem d214_18 : decode (zz_c 214) 18 = .ok (.iconst 1, 1) := by decide +kernel
theorem d214_19 : decode (zz_c 214) 19 = .ok (.goto 17, 3) := by decide +kernel
theorem d214_22 : decode (zz_c 214) 22 = .ok (.aload_n 0, 1) := by decide +kernel
theorem d214_23 : decode (zz_c 214) 23 = .ok (.iload_n 1, 1) := by decide +kernel
theorem d214_24 : decode (zz_c 214) 24 = .ok (.invokevirtual 93, 3) := by decide +kernel
theorem d214_27 : decode (zz_c 214) 27 = .ok (.iload_n 2, 1) := by decide +kernel
theorem d214_28 : decode (zz_c 214) 28 = .ok (.if_icmp .ne 7, 3) := by decide +kernel
theorem d214_31 : decode (zz_c 214) 31 = .ok (.iconst 2, 1) := by decide +kernel
theorem d214_32 : decode (zz_c 214) 32 = .ok (.goto 4, 3) := by decide +kernel
theorem d214_35 : decode (zz_c 214) 35 = .ok (.iconst 0, 1) := by decide +kernel
theorem d214_36 : decode (zz_c 214) 36 = .ok (.iconst (-1), 1) := by decide +kernel
theorem d214_37 : decode (zz_c 214) 37 = .ok (.invokevirtual 197, 3) := by decide +kernel
theorem d214_40 : decode (zz_c 214) 40 = .ok (.istore_n 3, 1) := by decide +kernel
theorem d214_41 : decode (zz_c 214) 41 = .ok (.iload_n 3, 1) := by decide +kernel
theorem d214_42 : decode (zz_c 214) 42 = .ok (.ifCond .ne 15, 3) := by decide +kernel
theorem d214_45 : decode (zz_c 214) 45 = .ok (.aload_n 0, 1) := by decide +kernel
theorem d214_46 : decode (zz_c 214) 46 = .ok (.getfield 7, 3) := by decide +kernel
theorem d214_49 : decode (zz_c 214) 49 = .ok (.iload_n 1, 1) := by decide +kernel
theorem d214_50 : decode (zz_c 214) 50 = .ok (.invokestatic 77, 3) := by decide +kernel
theorem d214_53 : decode (zz_c 214) 53 = .ok (.iconst 2, 1) := by decide +kernel
theorem d214_54 : decode (zz_c 214) 54 = .ok (.iadd, 1) := by decide +kernel
theorem d214_55 : decode (zz_c 214) 55 = .ok (.iload_n 2, 1) := by decide +kernel
theorem d214_56 : decode (zz_c 214) 56 = .ok (.iastore, 1) := by decide +kernel
theorem d214_57 : decode (zz_c 214) 57 = .ok (.iload_n 3, 1) := by decide +kernel
theorem d214_58 : decode (zz_c 214) 58 = .ok (.ireturn, 1) := by decide +kernel
theorem x214 : (∀ l1 l2 l3 x st h, zz_Y 214 (0, [some (.ref x), l1, l2, l3], st, h) = zz_Y 214 (1, [some (.ref x), l1, l2, l3], .ref x :: st, h)) ∧ (∀ l1 l2 l3 x st h, zz_Y 214 (1, [some (.ref x), l1, l2, l3], st, h) = zz_Y 214 (2, [some (.ref x), l1, l2, l3], .ref x :: st, h)) ∧ (∀ l0 l2 l3 x st h, zz_Y 214 (2, [l0, some (.int x), l2, l3], st, h) = zz_Y 214 (3, [l0, some (.int x), l2, l3], .int x :: st, h)) ∧ (∀ ls a0 a1 s0 h, zz_Y 214 (3, ls, [a1, a0, s0], h) = mo_k 214 6 ls [s0] (zz_run 183 [a0, a1] h)) ∧ (∀ ls a st h, zz_Y 214 (6, ls, .int a :: st, h) = if a = nI 0 then zz_Y 214 (18, ls, st, h) else zz_Y 214 (9, ls, st, h)) ∧ (∀ l0 l1 l3 x st h, zz_Y 214 (9, [l0, l1, some (.int x), l3], st, h) = zz_Y 214 (10, [l0, l1, some (.int x), l3], .int x :: st, h)) ∧ (∀ ls st h, zz_Y 214 (10, ls, st, h) = zz_Y 214 (11, ls, .int (nI 0) :: st, h)) ∧ (∀ ls st h, zz_Y 214 (11, ls, st, h) = zz_Y 214 (12, ls, .int (nI 2) :: st, h)) ∧ (∀ ls a0 a1 a2 s0 h, zz_Y 214 (12, ls, [a2, a1, a0, s0], h) = mo_k 214 15 ls [s0] (zz_run 154 [a0, a1, a2] h)) ∧ (∀ ls a st h, zz_Y 214 (15, ls, .int a :: st, h) = if a = nI 0 then zz_Y 214 (18, ls, st, h) else zz_Y 214 (22, ls, st, h)) ∧ (∀ ls st h, zz_Y 214 (18, ls, st, h) = zz_Y 214 (19, ls, .int (nI 1) :: st, h)) ∧ (∀ ls st h, zz_Y 214 (19, ls, st, h) = zz_Y 214 (36, ls, st, h)) ∧ (∀ l1 l2 l3 x st h, zz_Y 214 (22, [some (.ref x), l1, l2, l3], st, h) = zz_Y 214 (23, [some (.ref x), l1, l2, l3], .ref x :: st, h)) ∧ (∀ l0 l2 l3 x st h, zz_Y 214 (23, [l0, some (.int x), l2, l3], st, h) = zz_Y 214 (24, [l0, some (.int x), l2, l3], .int x :: st, h)) ∧ (∀ ls a0 a1 s0 h, zz_Y 214 (24, ls, [a1, a0, s0], h) = mo_k 214 27 ls [s0] (zz_run 171 [a0, a1] h)) ∧ (∀ l0 l1 l3 x st h, zz_Y 214 (27, [l0, l1, some (.int x), l3], st, h) = zz_Y 214 (28, [l0, l1, some (.int x), l3], .int x :: st, h)) ∧ (∀ ls a b st h, zz_Y 214 (28, ls, .int b :: .int a :: st, h) = if a = b then zz_Y 214 (31, ls, st, h) else zz_Y 214 (35, ls, st, h)) ∧ (∀ ls st h, zz_Y 214 (31, ls, st, h) = zz_Y 214 (32, ls, .int (nI 2) :: st, h)) ∧ (∀ ls st h, zz_Y 214 (32, ls, st, h) = zz_Y 214 (36, ls, st, h)) ∧ (∀ ls st h, zz_Y 214 (35, ls, st, h) = zz_Y 214 (36, ls, .int (nI 0) :: st, h)) ∧ (∀ ls st h, zz_Y 214 (36, ls, st, h) = zz_Y 214 (37, ls, .int (-1) :: st, h)) ∧ (∀ ls a0 a1 a2 h, zz_Y 214 (37, ls, [a2, a1, a0], h) = mo_k 214 40 ls [] (zz_run 205 [a0, a1, a2] h)) ∧ (∀ l0 l1 l2 l3 x st h, zz_nl l2 = true → zz_Y 214 (40, [l0, l1, l2, l3], .int x :: st, h) = zz_Y 214 (41, [l0, l1, l2, some (.int x)], st, h)) ∧ (∀ l0 l1 l2 x st h, zz_Y 214 (41, [l0, l1, l2, some (.int x)], st, h) = zz_Y 214 (42, [l0, l1, l2, some (.int x)], .int x :: st, h)) ∧ (∀ ls a st h, zz_Y 214 (42, ls, .int a :: st, h) = if a = nI 0 then zz_Y 214 (45, ls, st, h) else zz_Y 214 (57, ls, st, h)) ∧ (∀ l1 l2 l3 x st h, zz_Y 214 (45, [some (.ref x), l1, l2, l3], st, h) = zz_Y 214 (46, [some (.ref x), l1, l2, l3], .ref x :: st, h)) ∧ (∀ ls a st h, zz_Y 214 (46, ls, .ref a :: st, h) = mo_gf (hp_g h a) 11 0 214 49 ls st h) ∧ (∀ l0 l2 l3 x st h, zz_Y 214 (49, [l0, some (.int x), l2, l3], st, h) = zz_Y 214 (50, [l0, some (.int x), l2, l3], .int x :: st, h)) ∧ (∀ ls a0 s0 h, zz_Y 214 (50, ls, [a0, s0], h) = mo_k 214 53 ls [s0] (zz_run 158 [a0] h)) ∧ (∀ ls st h, zz_Y 214 (53, ls, st, h) = zz_Y 214 (54, ls, .int (nI 2) :: st, h)) ∧ (∀ ls a b st h, zz_Y 214 (54, ls, .int b :: .int a :: st, h) = zz_Y 214 (55, ls, .int (a + b) :: st, h)) ∧ (∀ l0 l1 l3 x st h, zz_Y 214 (55, [l0, l1, some (.int x), l3], st, h) = zz_Y 214 (56, [l0, l1, some (.int x), l3], .int x :: st, h)) ∧ (∀ ls a i x st h, zz_Y 214 (56, ls, .int x :: .int i :: .ref a :: st, h) = mo_is (hp_g h a) x i a 214 57 ls st h) ∧ (∀ l0 l1 l2 x st h, zz_Y 214 (57, [l0, l1, l2, some (.int x)], st, h) = zz_Y 214 (58, [l0, l1, l2, some (.int x)], .int x :: st, h)) ∧ (∀ ls v h, zz_Y 214 (58, ls, [.int v], h) = some (some (.int v), h)) :=
  ⟨fun _ _ _ _ _ _ => xl_aln d214_0 rfl,
   fun _ _ _ _ _ _ => xl_aln d214_1 rfl,
   fun _ _ _ _ _ _ => xl_iln d214_2 rfl,
   fun ls a0 a1 s0 h => xl_cv (As := [a0, a1]) (st := [s0]) d214_3 xco214 xm_11_164 (congrArg Nat.succ xnp183) (by decide +kernel) rfl,
   fun _ _ _ _ => xl_ifeq d214_6 rfl,
   fun _ _ _ _ _ _ => xl_iln d214_9 rfl,
   fun _ _ _ => xl_ic d214_10 (by decide +kernel),
   fun _ _ _ => xl_ic d214_11 (by decide +kernel),
   fun ls a0 a1 a2 s0 h => xl_cs (As := [a0, a1, a2]) (st := [s0]) d214_12 xco214 xm_11_57 xnp154 (by decide +kernel) rfl,
   fun _ _ _ _ => xl_ifne d214_15 rfl,
   fun _ _ _ => xl_ic d214_18 (by decide +kernel),
   fun _ _ _ => xl_goto d214_19 rfl,
   fun _ _ _ _ _ _ => xl_aln d214_22 rfl,
   fun _ _ _ _ _ _ => xl_iln d214_23 rfl,
   fun ls a0 a1 s0 h => xl_cv (As := [a0, a1]) (st := [s0]) d214_24 xco214 xm_11_93 (congrArg Nat.succ xnp171) (by decide +kernel) rfl,
   fun _ _ _ _ _ _ => xl_iln d214_27 rfl,
   fun _ _ _ _ _ => xl_icne d214_28 rfl,
   fun _ _ _ => xl_ic d214_31 (by decide +kernel),
   fun _ _ _ => xl_goto d214_32 rfl,
   fun _ _ _ => xl_ic d214_35 (by decide +kernel),
   fun _ _ _ => xl_ic d214_36 (by decide +kernel),
   fun ls a0 a1 a2 h => xl_cv (As := [a0, a1, a2]) (st := []) d214_37 xco214 xm_11_197 (congrArg Nat.succ xnp205) (by decide +kernel) rfl,
   fun _ _ _ _ _ _ _ hc => xl_isn d214_40 xml214 (by decide) (zz_nl_s1 hc),
   fun _ _ _ _ _ _ => xl_iln d214_41 rfl,
   fun _ _ _ _ => xl_ifne d214_42 rfl,
   fun _ _ _ _ _ _ => xl_aln d214_45 rfl,
   fun _ _ _ _ => xl_gf d214_46 xco214 xf_11_7,
   fun _ _ _ _ _ _ => xl_iln d214_49 rfl,
   fun ls a0 s0 h => xl_cs (As := [a0]) (st := [s0]) d214_50 xco214 xm_11_77 xnp158 (by decide +kernel) rfl,
   fun _ _ _ => xl_ic d214_53 (by decide +kernel),
   fun _ _ _ _ _ => xl_iadd d214_54,
   fun _ _ _ _ _ _ => xl_iln d214_55 rfl,
   fun _ _ _ _ _ _ => xl_ist d214_56,
   fun _ _ _ _ _ _ => xl_iln d214_57 rfl,
   fun _ _ _ => xl_iri d214_58 xrt214⟩
/-! 215 FacetSieveModel.go(IZ)I -/
theorem d215_0 : decode (zz_c 215) 0 = .ok (.iload_n 2, 1) := by decide +kernel
theorem d215_1 : decode (zz_c 215) 1 = .ok (.ifCond .eq 7, 3) := by decide +kernel
theorem d215_4 : decode (zz_c 215) 4 = .ok (.iconst 1, 1) := by decide +kernel
theorem d215_5 : decode (zz_c 215) 5 = .ok (.goto 4, 3) := by decide +kernel
theorem d215_8 : decode (zz_c 215) 8 = .ok (.iconst 0, 1) := by decide +kernel
theorem d215_9 : decode (zz_c 215) 9 = .ok (.istore_n 3, 1) := by decide +kernel
theorem d215_10 : decode (zz_c 215) 10 = .ok (.aload_n 0, 1) := by decide +kernel
theorem d215_11 : decode (zz_c 215) 11 = .ok (.aload_n 0, 1) := by decide +kernel
theorem d215_12 : decode (zz_c 215) 12 = .ok (.iload_n 1, 1) := by decide +kernel
theorem d215_13 : decode (zz_c 215) 13 = .ok (.invokevirtual 157, 3) := by decide +kernel
theorem d215_16 : decode (zz_c 215) 16 = .ok (.ifCond .ne 7, 3) := by decide +kernel
theorem d215_19 : decode (zz_c 215) 19 = .ok (.iconst 1, 1) := by decide +kernel
theorem d215_20 : decode (zz_c 215) 20 = .ok (.goto 23, 3) := by decide +kernel
theorem d215_23 : decode (zz_c 215) 23 = .ok (.aload_n 0, 1) := by decide +kernel
theorem d215_24 : decode (zz_c 215) 24 = .ok (.getfield 7, 3) := by decide +kernel
theorem d215_27 : decode (zz_c 215) 27 = .ok (.iload_n 1, 1) := by decide +kernel
theorem d215_28 : decode (zz_c 215) 28 = .ok (.invokestatic 100, 3) := by decide +kernel
theorem d215_31 : decode (zz_c 215) 31 = .ok (.iconst 1, 1) := by decide +kernel
theorem d215_32 : decode (zz_c 215) 32 = .ok (.iadd, 1) := by decide +kernel
theorem d215_33 : decode (zz_c 215) 33 = .ok (.iaload, 1) := by decide +kernel
theorem d215_34 : decode (zz_c 215) 34 = .ok (.iload_n 3, 1) := by decide +kernel
theorem d215_35 : decode (zz_c 215) 35 = .ok (.if_icmp .ne 7, 3) := by decide +kernel
theorem d215_38 : decode (zz_c 215) 38 = .ok (.iconst 2, 1) := by decide +kernel
theorem d215_39 : decode (zz_c 215) 39 = .ok (.goto 4, 3) := by decide +kernel
theorem d215_42 : decode (zz_c 215) 42 = .ok (.iconst 0, 1) := by decide +kernel
theorem d215_43 : decode (zz_c 215) 43 = .ok (.iconst (-1), 1) := by decide +kernel
theorem d215_44 : decode (zz_c 215) 44 = .ok (.invokevirtual 197, 3) := by decide +kernel
theorem d215_47 : decode (zz_c 215) 47 = .ok (.istore 4, 2) := by decide +kernel
theorem d215_49 : decode (zz_c 215) 49 = .ok (.iload 4, 2) := by decide +kernel
theorem d215_51 : decode (zz_c 215) 51 = .ok (.ifCond .ne 15, 3) := by decide +kernel
theorem d215_54 : decode (zz_c 215) 54 = .ok (.aload_n 0, 1) := by decide +kernel
theorem d215_55 : decode (zz_c 215) 55 = .ok (.getfield 7, 3) := by decide +kernel
theorem d215_58 : decode (zz_c 215) 58 = .ok (.iload_n 1, 1) := by decide +kernel
theorem d215_59 : decode (zz_c 215) 59 = .ok (.invokestatic 100, 3) := by decide +kernel
theorem d215_62 : decode (zz_c 215) 62 = .ok (.iconst 1, 1) := by decide +kernel
theorem d215_63 : decode (zz_c 215) 63 = .ok (.iadd, 1) := by decide +kernel
theorem d215_64 : decode (zz_c 215) 64 = .ok (.iload_n 3, 1) := by decide +kernel
theorem d215_65 : decode (zz_c 215) 65 = .ok (.iastore, 1) := by decide +kernel
theorem d215_66 : decode (zz_c 215) 66 = .ok (.iload 4, 2) := by decide +kernel
theorem d215_68 : decode (zz_c 215) 68 = .ok (.ireturn, 1) := by decide +kernel
theorem x215 : (∀ l0 l1 l3 l4 x st h, zz_Y 215 (0, [l0, l1, some (.int x), l3, l4], st, h) = zz_Y 215 (1, [l0, l1, some (.int x), l3, l4], .int x :: st, h)) ∧ (∀ ls a st h, zz_Y 215 (1, ls, .int a :: st, h) = if a = nI 0 then zz_Y 215 (8, ls, st, h) else zz_Y 215 (4, ls, st, h)) ∧ (∀ ls st h, zz_Y 215 (4, ls, st, h) = zz_Y 215 (5, ls, .int (nI 1) :: st, h)) ∧ (∀ ls st h, zz_Y 215 (5, ls, st, h) = zz_Y 215 (9, ls, st, h)) ∧ (∀ ls st h, zz_Y 215 (8, ls, st, h) = zz_Y 215 (9, ls, .int (nI 0) :: st, h)) ∧ (∀ l0 l1 l2 l3 l4 x st h, zz_nl l2 = true → zz_Y 215 (9, [l0, l1, l2, l3, l4], .int x :: st, h) = zz_Y 215 (10, [l0, l1, l2, some (.int x), l4], st, h)) ∧ (∀ l1 l2 l3 l4 x st h, zz_Y 215 (10, [some (.ref x), l1, l2, l3, l4], st, h) = zz_Y 215 (11, [some (.ref x), l1, l2, l3, l4], .ref x :: st, h)) ∧ (∀ l1 l2 l3 l4 x st h, zz_Y 215 (11, [some (.ref x), l1, l2, l3, l4], st, h) = zz_Y 215 (12, [some (.ref x), l1, l2, l3, l4], .ref x :: st, h)) ∧ (∀ l0 l2 l3 l4 x st h, zz_Y 215 (12, [l0, some (.int x), l2, l3, l4], st, h) = zz_Y 215 (13, [l0, some (.int x), l2, l3, l4], .int x :: st, h)) ∧ (∀ ls a0 a1 s0 h, zz_Y 215 (13, ls, [a1, a0, s0], h) = mo_k 215 16 ls [s0] (zz_run 180 [a0, a1] h)) ∧ (∀ ls a st h, zz_Y 215 (16, ls, .int a :: st, h) = if a = nI 0 then zz_Y 215 (19, ls, st, h) else zz_Y 215 (23, ls, st, h)) ∧ (∀ ls st h, zz_Y 215 (19, ls, st, h) = zz_Y 215 (20, ls, .int (nI 1) :: st, h)) ∧ (∀ ls st h, zz_Y 215 (20, ls, st, h) = zz_Y 215 (43, ls, st, h)) ∧ (∀ l1 l2 l3 l4 x st h, zz_Y 215 (23, [some (.ref x), l1, l2, l3, l4], st, h) = zz_Y 215 (24, [some (.ref x), l1, l2, l3, l4], .ref x :: st, h)) ∧ (∀ ls a st h, zz_Y 215 (24, ls, .ref a :: st, h) = mo_gf (hp_g h a) 11 0 215 27 ls st h) ∧ (∀ l0 l2 l3 l4 x st h, zz_Y 215 (27, [l0, some (.int x), l2, l3, l4], st, h) = zz_Y 215 (28, [l0, some (.int x), l2, l3, l4], .int x :: st, h)) ∧ (∀ ls a0 s0 s1 h, zz_Y 215 (28, ls, [a0, s0, s1], h) = mo_k 215 31 ls [s0, s1] (zz_run 169 [a0] h)) ∧ (∀ ls st h, zz_Y 215 (31, ls, st, h) = zz_Y 215 (32, ls, .int (nI 1) :: st, h)) ∧ (∀ ls a b st h, zz_Y 215 (32, ls, .int b :: .int a :: st, h) = zz_Y 215 (33, ls, .int (a + b) :: st, h)) ∧ (∀ ls a i st h, zz_Y 215 (33, ls, .int i :: .ref a :: st, h) = mo_ia (hp_g h a) i a 215 34 ls st h) ∧ (∀ l0 l1 l2 l4 x st h, zz_Y 215 (34, [l0, l1, l2, some (.int x), l4], st, h) = zz_Y 215 (35, [l0, l1, l2, some (.int x), l4], .int x :: st, h)) ∧ (∀ ls a b st h, zz_Y 215 (35, ls, .int b :: .int a :: st, h) = if a = b then zz_Y 215 (38, ls, st, h) else zz_Y 215 (42, ls, st, h)) ∧ (∀ ls st h, zz_Y 215 (38, ls, st, h) = zz_Y 215 (39, ls, .int (nI 2) :: st, h)) ∧ (∀ ls st h, zz_Y 215 (39, ls, st, h) = zz_Y 215 (43, ls, st, h)) ∧ (∀ ls st h, zz_Y 215 (42, ls, st, h) = zz_Y 215 (43, ls, .int (nI 0) :: st, h)) ∧ (∀ ls st h, zz_Y 215 (43, ls, st, h) = zz_Y 215 (44, ls, .int (-1) :: st, h)) ∧ (∀ ls a0 a1 a2 h, zz_Y 215 (44, ls, [a2, a1, a0], h) = mo_k 215 47 ls [] (zz_run 205 [a0, a1, a2] h)) ∧ (∀ l0 l1 l2 l3 l4 x st h, zz_nl l3 = true → zz_Y 215 (47, [l0, l1, l2, l3, l4], .int x :: st, h) = zz_Y 215 (49, [l0, l1, l2, l3, some (.int x)], st, h)) ∧ (∀ l0 l1 l2 l3 x st h, zz_Y 215 (49, [l0, l1, l2, l3, some (.int x)], st, h) = zz_Y 215 (51, [l0, l1, l2, l3, some (.int x)], .int x :: st, h)) ∧ (∀ ls a st h, zz_Y 215 (51, ls, .int a :: st, h) = if a = nI 0 then zz_Y 215 (54, ls, st, h) else zz_Y 215 (66, ls, st, h)) ∧ (∀ l1 l2 l3 l4 x st h, zz_Y 215 (54, [some (.ref x), l1, l2, l3, l4], st, h) = zz_Y 215 (55, [some (.ref x), l1, l2, l3, l4], .ref x :: st, h)) ∧ (∀ ls a st h, zz_Y 215 (55, ls, .ref a :: st, h) = mo_gf (hp_g h a) 11 0 215 58 ls st h) ∧ (∀ l0 l2 l3 l4 x st h, zz_Y 215 (58, [l0, some (.int x), l2, l3, l4], st, h) = zz_Y 215 (59, [l0, some (.int x), l2, l3, l4], .int x :: st, h)) ∧ (∀ ls a0 s0 h, zz_Y 215 (59, ls, [a0, s0], h) = mo_k 215 62 ls [s0] (zz_run 169 [a0] h)) ∧ (∀ ls st h, zz_Y 215 (62, ls, st, h) = zz_Y 215 (63, ls, .int (nI 1) :: st, h)) ∧ (∀ ls a b st h, zz_Y 215 (63, ls, .int b :: .int a :: st, h) = zz_Y 215 (64, ls, .int (a + b) :: st, h)) ∧ (∀ l0 l1 l2 l4 x st h, zz_Y 215 (64, [l0, l1, l2, some (.int x), l4], st, h) = zz_Y 215 (65, [l0, l1, l2, some (.int x), l4], .int x :: st, h)) ∧ (∀ ls a i x st h, zz_Y 215 (65, ls, .int x :: .int i :: .ref a :: st, h) = mo_is (hp_g h a) x i a 215 66 ls st h) ∧ (∀ l0 l1 l2 l3 x st h, zz_Y 215 (66, [l0, l1, l2, l3, some (.int x)], st, h) = zz_Y 215 (68, [l0, l1, l2, l3, some (.int x)], .int x :: st, h)) ∧ (∀ ls v h, zz_Y 215 (68, ls, [.int v], h) = some (some (.int v), h)) :=
  ⟨fun _ _ _ _ _ _ _ => xl_iln d215_0 rfl,
   fun _ _ _ _ => xl_ifeq d215_1 rfl,
   fun _ _ _ => xl_ic d215_4 (by decide +kernel),
   fun _ _ _ => xl_goto d215_5 rfl,
   fun _ _ _ => xl_ic d215_8 (by decide +kernel),
   fun _ _ _ _ _ _ _ _ hc => xl_isn d215_9 xml215 (by decide) (zz_nl_s1 hc),
   fun _ _ _ _ _ _ _ => xl_aln d215_10 rfl,
   fun _ _ _ _ _ _ _ => xl_aln d215_11 rfl,
   fun _ _ _ _ _ _ _ => xl_iln d215_12 rfl,
   fun ls a0 a1 s0 h => xl_cv (As := [a0, a1]) (st := [s0]) d215_13 xco215 xm_11_157 (congrArg Nat.succ xnp180) (by decide +kernel) rfl,
   fun _ _ _ _ => xl_ifne d215_16 rfl,
   fun _ _ _ => xl_ic d215_19 (by decide +kernel),
   fun _ _ _ => xl_goto d215_20 rfl,
   fun _ _ _ _ _ _ _ => xl_aln d215_23 rfl,
   fun _ _ _ _ => xl_gf d215_24 xco215 xf_11_7,
   fun _ _ _ _ _ _ _ => xl_iln d215_27 rfl,
   fun ls a0 s0 s1 h => xl_cs (As := [a0]) (st := [s0, s1]) d215_28 xco215 xm_11_100 xnp169 (by decide +kernel) rfl,
   fun _ _ _ => xl_ic d215_31 (by decide +kernel),
   fun _ _ _ _ _ => xl_iadd d215_32,
   fun _ _ _ _ _ => xl_ia d215_33,
   fun _ _ _ _ _ _ _ => xl_iln d215_34 rfl,
   fun _ _ _ _ _ => xl_icne d215_35 rfl,
   fun _ _ _ => xl_ic d215_38 (by decide +kernel),
   fun _ _ _ => xl_goto d215_39 rfl,
   fun _ _ _ => xl_ic d215_42 (by decide +kernel),
   fun _ _ _ => xl_ic d215_43 (by decide +kernel),
   fun ls a0 a1 a2 h => xl_cv (As := [a0, a1, a2]) (st := []) d215_44 xco215 xm_11_197 (congrArg Nat.succ xnp205) (by decide +kernel) rfl,
   fun _ _ _ _ _ _ _ _ hc => xl_is d215_47 xml215 (by decide) (zz_nl_s1 hc),
   fun _ _ _ _ _ _ _ => xl_il d215_49 rfl,
   fun _ _ _ _ => xl_ifne d215_51 rfl,
   fun _ _ _ _ _ _ _ => xl_aln d215_54 rfl,
   fun _ _ _ _ => xl_gf d215_55 xco215 xf_11_7,
   fun _ _ _ _ _ _ _ => xl_iln d215_58 rfl,
   fun ls a0 s0 h => xl_cs (As := [a0]) (st := [s0]) d215_59 xco215 xm_11_100 xnp169 (by decide +kernel) rfl,
   fun _ _ _ => xl_ic d215_62 (by decide +kernel),
   fun _ _ _ _ _ => xl_iadd d215_63,
   fun _ _ _ _ _ _ _ => xl_iln d215_64 rfl,
   fun _ _ _ _ _ _ => xl_ist d215_65,
   fun _ _ _ _ _ _ _ => xl_il d215_66 rfl,
   fun _ _ _ => xl_iri d215_68 xrt215⟩
/-! 216 FacetSieveModel.why(II)I -/
theorem d216_0 : decode (zz_c 216) 0 = .ok (.iload_n 1, 1) := by decide +kernel
theorem d216_1 : decode (zz_c 216) 1 = .ok (.iconst 0, 1) := by decide +kernel
theorem d216_2 : decode (zz_c 216) 2 = .ok (.iconst 1, 1) := by decide +kernel
theorem d216_3 : decode (zz_c 216) 3 = .ok (.invokestatic 57, 3) := by decide +kernel
theorem d216_6 : decode (zz_c 216) 6 = .ok (.ifCond .eq 12, 3) := by decide +kernel
theorem d216_9 : decode (zz_c 216) 9 = .ok (.iload_n 2, 1) := by decide +kernel
theorem d216_10 : decode (zz_c 216) 10 = .ok (.iconst 0, 1) := by decide +kernel
theorem d216_11 : decode (zz_c 216) 11 = .ok (.iconst 1, 1) := by decide +kernel
theorem d216_12 : decode (zz_c 216) 12 = .ok (.invokestatic 57, 3) := by decide +kernel
theorem d216_15 : decode (zz_c 216) 15 = .ok (.ifCond .ne 5, 3) := by decide +kernel
theorem d216_18 : decode (zz_c 216) 18 = .ok (.iconst (-1), 1) := by decide +kernel
theorem d216_19 : decode (zz_c 216) 19 = .ok (.ireturn, 1) := by decide +kernel
theorem d216_20 : decode (zz_c 216) 20 = .ok (.aload_n 0, 1) := by decide +kernel
theorem d216_21 : decode (zz_c 216) 21 = .ok (.getfield 7, 3) := by decide +kernel
theorem d216_24 : decode (zz_c 216) 24 = .ok (.sipush 728, 3) := by decide +kernel
theorem d216_27 : decode (zz_c 216) 27 = .ok (.iaload, 1) := by decide +kernel
theorem d216_28 : decode (zz_c 216) 28 = .ok (.ifCond .eq 20, 3) := by decide +kernel
theorem d216_31 : decode (zz_c 216) 31 = .ok (.iload_n 1, 1) := by decide +kernel
theorem d216_32 : decode (zz_c 216) 32 = .ok (.iconst 1, 1) := by decide +kernel
theorem d216_33 : decode (zz_c 216) 33 = .ok (.if_icmp .ne 17, 3) := by decide +kernel
theorem d216_36 : decode (zz_c 216) 36 = .ok (.aload_n 0, 1) := by decide +kernel
theorem d216_37 : decode (zz_c 216) 37 = .ok (.getfield 7, 3) := by decide +kernel
theorem d216_40 : decode (zz_c 216) 40 = .ok (.sipush 728, 3) := by decide +kernel
theorem d216_43 : decode (zz_c 216) 43 = .ok (.iaload, 1) := by decide +kernel
theorem d216_44 : decode (zz_c 216) 44 = .ok (.iconst 4, 1) := by decide +kernel
theorem d216_45 : decode (zz_c 216) 45 = .ok (.if_icmp .eq 5, 3) := by decide +kernel
theorem d216_48 : decode (zz_c 216) 48 = .ok (.iconst 0, 1) := by decide +kernel
theorem d216_49 : decode (zz_c 216) 49 = .ok (.ireturn, 1) := by decide +kernel
theorem d216_50 : decode (zz_c 216) 50 = .ok (.iload_n 1, 1) := by decide +kernel
theorem d216_51 : decode (zz_c 216) 51 = .ok (.ifCond .ne 20, 3) := by decide +kernel
theorem d216_54 : decode (zz_c 216) 54 = .ok (.iload_n 2, 1) := by decide +kernel
theorem d216_55 : decode (zz_c 216) 55 = .ok (.ifCond .ne 14, 3) := by decide +kernel
theorem d216_58 : decode (zz_c 216) 58 = .ok (.aload_n 0, 1) := by decide +kernel
theorem d216_59 : decode (zz_c 216) 59 = .ok (.getfield 7, 3) := by decide +kernel
theorem d216_62 : decode (zz_c 216) 62 = .ok (.sipush 728, 3) := by decide +kernel
theorem d216_65 : decode (zz_c 216) 65 = .ok (.iaload, 1) := by decide +kernel
theorem d216_66 : decode (zz_c 216) 66 = .ok (.goto 4, 3) := by decide +kernel
theorem d216_69 : decode (zz_c 216) 69 = .ok (.iconst (-1), 1) := by decide +kernel
theorem d216_70 : decode (zz_c 216) 70 = .ok (.ireturn, 1) := by decide +kernel
theorem d216_71 : decode (zz_c 216) 71 = .ok (.iload_n 2, 1) := by decide +kernel
theorem d216_72 : decode (zz_c 216) 72 = .ok (.ifCond .ne 7, 3) := by decide +kernel
theorem d216_75 : decode (zz_c 216) 75 = .ok (.iconst 5, 1) := by decide +kernel
theorem d216_76 : decode (zz_c 216) 76 = .ok (.goto 11, 3) := by decide +kernel
theorem d216_79 : decode (zz_c 216) 79 = .ok (.aload_n 0, 1) := by decide +kernel
theorem d216_80 : decode (zz_c 216) 80 = .ok (.getfield 7, 3) := by decide +kernel
theorem d216_83 : decode (zz_c 216) 83 = .ok (.sipush 729, 3) := by decide +kernel
theorem d216_86 : decode (zz_c 216) 86 = .ok (.iaload, 1) := by decide +kernel
theorem d216_87 : decode (zz_c 216) 87 = .ok (.ireturn, 1) := by decide +kernel
theorem x216 : (∀ l0 l2 x st h, zz_Y 216 (0, [l0, some (.int x), l2], st, h) = zz_Y 216 (1, [l0, some (.int x), l2], .int x :: st, h)) ∧ (∀ ls st h, zz_Y 216 (1, ls, st, h) = zz_Y 216 (2, ls, .int (nI 0) :: st, h)) ∧ (∀ ls st h, zz_Y 216 (2, ls, st, h) = zz_Y 216 (3, ls, .int (nI 1) :: st, h)) ∧ (∀ ls a0 a1 a2 h, zz_Y 216 (3, ls, [a2, a1, a0], h) = mo_k 216 6 ls [] (zz_run 154 [a0, a1, a2] h)) ∧ (∀ ls a st h, zz_Y 216 (6, ls, .int a :: st, h) = if a = nI 0 then zz_Y 216 (18, ls, st, h) else zz_Y 216 (9, ls, st, h)) ∧ (∀ l0 l1 x st h, zz_Y 216 (9, [l0, l1, some (.int x)], st, h) = zz_Y 216 (10, [l0, l1, some (.int x)], .int x :: st, h)) ∧ (∀ ls st h, zz_Y 216 (10, ls, st, h) = zz_Y 216 (11, ls, .int (nI 0) :: st, h)) ∧ (∀ ls st h, zz_Y 216 (11, ls, st, h) = zz_Y 216 (12, ls, .int (nI 1) :: st, h)) ∧ (∀ ls a0 a1 a2 h, zz_Y 216 (12, ls, [a2, a1, a0], h) = mo_k 216 15 ls [] (zz_run 154 [a0, a1, a2] h)) ∧ (∀ ls a st h, zz_Y 216 (15, ls, .int a :: st, h) = if a = nI 0 then zz_Y 216 (18, ls, st, h) else zz_Y 216 (20, ls, st, h)) ∧ (∀ ls st h, zz_Y 216 (18, ls, st, h) = zz_Y 216 (19, ls, .int (-1) :: st, h)) ∧ (∀ ls v h, zz_Y 216 (19, ls, [.int v], h) = some (some (.int v), h)) ∧ (∀ l1 l2 x st h, zz_Y 216 (20, [some (.ref x), l1, l2], st, h) = zz_Y 216 (21, [some (.ref x), l1, l2], .ref x :: st, h)) ∧ (∀ ls a st h, zz_Y 216 (21, ls, .ref a :: st, h) = mo_gf (hp_g h a) 11 0 216 24 ls st h) ∧ (∀ ls st h, zz_Y 216 (24, ls, st, h) = zz_Y 216 (27, ls, .int (nI 728) :: st, h)) ∧ (∀ ls a i st h, zz_Y 216 (27, ls, .int i :: .ref a :: st, h) = mo_ia (hp_g h a) i a 216 28 ls st h) ∧ (∀ ls a st h, zz_Y 216 (28, ls, .int a :: st, h) = if a = nI 0 then zz_Y 216 (48, ls, st, h) else zz_Y 216 (31, ls, st, h)) ∧ (∀ l0 l2 x st h, zz_Y 216 (31, [l0, some (.int x), l2], st, h) = zz_Y 216 (32, [l0, some (.int x), l2], .int x :: st, h)) ∧ (∀ ls st h, zz_Y 216 (32, ls, st, h) = zz_Y 216 (33, ls, .int (nI 1) :: st, h)) ∧ (∀ ls a b st h, zz_Y 216 (33, ls, .int b :: .int a :: st, h) = if a = b then zz_Y 216 (36, ls, st, h) else zz_Y 216 (50, ls, st, h)) ∧ (∀ l1 l2 x st h, zz_Y 216 (36, [some (.ref x), l1, l2], st, h) = zz_Y 216 (37, [some (.ref x), l1, l2], .ref x :: st, h)) ∧ (∀ ls a st h, zz_Y 216 (37, ls, .ref a :: st, h) = mo_gf (hp_g h a) 11 0 216 40 ls st h) ∧ (∀ ls st h, zz_Y 216 (40, ls, st, h) = zz_Y 216 (43, ls, .int (nI 728) :: st, h)) ∧ (∀ ls a i st h, zz_Y 216 (43, ls, .int i :: .ref a :: st, h) = mo_ia (hp_g h a) i a 216 44 ls st h) ∧ (∀ ls st h, zz_Y 216 (44, ls, st, h) = zz_Y 216 (45, ls, .int (nI 4) :: st, h)) ∧ (∀ ls a b st h, zz_Y 216 (45, ls, .int b :: .int a :: st, h) = if a = b then zz_Y 216 (50, ls, st, h) else zz_Y 216 (48, ls, st, h)) ∧ (∀ ls st h, zz_Y 216 (48, ls, st, h) = zz_Y 216 (49, ls, .int (nI 0) :: st, h)) ∧ (∀ ls v h, zz_Y 216 (49, ls, [.int v], h) = some (some (.int v), h)) ∧ (∀ l0 l2 x st h, zz_Y 216 (50, [l0, some (.int x), l2], st, h) = zz_Y 216 (51, [l0, some (.int x), l2], .int x :: st, h)) ∧ (∀ ls a st h, zz_Y 216 (51, ls, .int a :: st, h) = if a = nI 0 then zz_Y 216 (54, ls, st, h) else zz_Y 216 (71, ls, st, h)) ∧ (∀ l0 l1 x st h, zz_Y 216 (54, [l0, l1, some (.int x)], st, h) = zz_Y 216 (55, [l0, l1, some (.int x)], .int x :: st, h)) ∧ (∀ ls a st h, zz_Y 216 (55, ls, .int a :: st, h) = if a = nI 0 then zz_Y 216 (58, ls, st, h) else zz_Y 216 (69, ls, st, h)) ∧ (∀ l1 l2 x st h, zz_Y 216 (58, [some (.ref x), l1, l2], st, h) = zz_Y 216 (59, [some (.ref x), l1, l2], .ref x :: st, h)) ∧ (∀ ls a st h, zz_Y 216 (59, ls, .ref a :: st, h) = mo_gf (hp_g h a) 11 0 216 62 ls st h) ∧ (∀ ls st h, zz_Y 216 (62, ls, st, h) = zz_Y 216 (65, ls, .int (nI 728) :: st, h)) ∧ (∀ ls a i st h, zz_Y 216 (65, ls, .int i :: .ref a :: st, h) = mo_ia (hp_g h a) i a 216 66 ls st h) ∧ (∀ ls st h, zz_Y 216 (66, ls, st, h) = zz_Y 216 (70, ls, st, h)) ∧ (∀ ls st h, zz_Y 216 (69, ls, st, h) = zz_Y 216 (70, ls, .int (-1) :: st, h)) ∧ (∀ ls v h, zz_Y 216 (70, ls, [.int v], h) = some (some (.int v), h)) ∧ (∀ l0 l1 x st h, zz_Y 216 (71, [l0, l1, some (.int x)], st, h) = zz_Y 216 (72, [l0, l1, some (.int x)], .int x :: st, h)) ∧ (∀ ls a st h, zz_Y 216 (72, ls, .int a :: st, h) = if a = nI 0 then zz_Y 216 (75, ls, st, h) else zz_Y 216 (79, ls, st, h)) ∧ (∀ ls st h, zz_Y 216 (75, ls, st, h) = zz_Y 216 (76, ls, .int (nI 5) :: st, h)) ∧ (∀ ls st h, zz_Y 216 (76, ls, st, h) = zz_Y 216 (87, ls, st, h)) ∧ (∀ l1 l2 x st h, zz_Y 216 (79, [some (.ref x), l1, l2], st, h) = zz_Y 216 (80, [some (.ref x), l1, l2], .ref x :: st, h)) ∧ (∀ ls a st h, zz_Y 216 (80, ls, .ref a :: st, h) = mo_gf (hp_g h a) 11 0 216 83 ls st h) ∧ (∀ ls st h, zz_Y 216 (83, ls, st, h) = zz_Y 216 (86, ls, .int (nI 729) :: st, h)) ∧ (∀ ls a i st h, zz_Y 216 (86, ls, .int i :: .ref a :: st, h) = mo_ia (hp_g h a) i a 216 87 ls st h) ∧ (∀ ls v h, zz_Y 216 (87, ls, [.int v], h) = some (some (.int v), h)) :=
  ⟨fun _ _ _ _ _ => xl_iln d216_0 rfl,
   fun _ _ _ => xl_ic d216_1 (by decide +kernel),
   fun _ _ _ => xl_ic d216_2 (by decide +kernel),
   fun ls a0 a1 a2 h => xl_cs (As := [a0, a1, a2]) (st := []) d216_3 xco216 xm_11_57 xnp154 (by decide +kernel) rfl,
   fun _ _ _ _ => xl_ifeq d216_6 rfl,
   fun _ _ _ _ _ => xl_iln d216_9 rfl,
   fun _ _ _ => xl_ic d216_10 (by decide +kernel),
   fun _ _ _ => xl_ic d216_11 (by decide +kernel),
   fun ls a0 a1 a2 h => xl_cs (As := [a0, a1, a2]) (st := []) d216_12 xco216 xm_11_57 xnp154 (by decide +kernel) rfl,
   fun _ _ _ _ => xl_ifne d216_15 rfl,
   fun _ _ _ => xl_ic d216_18 (by decide +kernel),
   fun _ _ _ => xl_iri d216_19 xrt216,
   fun _ _ _ _ _ => xl_aln d216_20 rfl,
   fun _ _ _ _ => xl_gf d216_21 xco216 xf_11_7,
   fun _ _ _ => xl_si d216_24 (by decide +kernel),
   fun _ _ _ _ _ => xl_ia d216_27,
   fun _ _ _ _ => xl_ifeq d216_28 rfl,
   fun _ _ _ _ _ => xl_iln d216_31 rfl,
   fun _ _ _ => xl_ic d216_32 (by decide +kernel),
   fun _ _ _ _ _ => xl_icne d216_33 rfl,
   fun _ _ _ _ _ => xl_aln d216_36 rfl,
   fun _ _ _ _ => xl_gf d216_37 xco216 xf_11_7,
   fun _ _ _ => xl_si d216_40 (by decide +kernel),
   fun _ _ _ _ _ => xl_ia d216_43,
   fun _ _ _ => xl_ic d216_44 (by decide +kernel),
   fun _ _ _ _ _ => xl_iceq d216_45 rfl,
   fun _ _ _ => xl_ic d216_48 (by decide +kernel),
   fun _ _ _ => xl_iri d216_49 xrt216,
   fun _ _ _ _ _ => xl_iln d216_50 rfl,
   fun _ _ _ _ => xl_ifne d216_51 rfl,
   fun _ _ _ _ _ => xl_iln d216_54 rfl,
   fun _ _ _ _ => xl_ifne d216_55 rfl,
   fun _ _ _ _ _ => xl_aln d216_58 rfl,
   fun _ _ _ _ => xl_gf d216_59 xco216 xf_11_7,
   fun _ _ _ => xl_si d216_62 (by decide +kernel),
   fun _ _ _ _ _ => xl_ia d216_65,
   fun _ _ _ => xl_goto d216_66 rfl,
   fun _ _ _ => xl_ic d216_69 (by decide +kernel),
   fun _ _ _ => xl_iri d216_70 xrt216,
   fun _ _ _ _ _ => xl_iln d216_71 rfl,
   fun _ _ _ _ => xl_ifne d216_72 rfl,
   fun _ _ _ => xl_ic d216_75 (by decide +kernel),
   fun _ _ _ => xl_goto d216_76 rfl,
   fun _ _ _ _ _ => xl_aln d216_79 rfl,
   fun _ _ _ _ => xl_gf d216_80 xco216 xf_11_7,
   fun _ _ _ => xl_si d216_83 (by decide +kernel),
   fun _ _ _ _ _ => xl_ia d216_86,
   fun _ _ _ => xl_iri d216_87 xrt216⟩
/-! 217 FacetSieveModel.undo()I -/
theorem d217_0 : decode (zz_c 217) 0 = .ok (.aload_n 0, 1) := by decide +kernel
theorem d217_1 : decode (zz_c 217) 1 = .ok (.getfield 144, 3) := by decide +kernel
theorem d217_4 : decode (zz_c 217) 4 = .ok (.ifCond .ne 5, 3) := by decide +kernel
theorem d217_7 : decode (zz_c 217) 7 = .ok (.iconst (-1), 1) := by decide +kernel
theorem d217_8 : decode (zz_c 217) 8 = .ok (.ireturn, 1) := by decide +kernel
theorem d217_9 : decode (zz_c 217) 9 = .ok (.aload_n 0, 1) := by decide +kernel
theorem d217_10 : decode (zz_c 217) 10 = .ok (.dup, 1) := by decide +kernel
theorem d217_11 : decode (zz_c 217) 11 = .ok (.getfield 144, 3) := by decide +kernel
theorem d217_14 : decode (zz_c 217) 14 = .ok (.iconst 1, 1) := by decide +kernel
theorem d217_15 : decode (zz_c 217) 15 = .ok (.isub, 1) := by decide +kernel
theorem d217_16 : decode (zz_c 217) 16 = .ok (.putfield 144, 3) := by decide +kernel
theorem d217_19 : decode (zz_c 217) 19 = .ok (.aload_n 0, 1) := by decide +kernel
theorem d217_20 : decode (zz_c 217) 20 = .ok (.sipush 1460, 3) := by decide +kernel
theorem d217_23 : decode (zz_c 217) 23 = .ok (.sipush 718, 3) := by decide +kernel
theorem d217_26 : decode (zz_c 217) 26 = .ok (.aload_n 0, 1) := by decide +kernel
theorem d217_27 : decode (zz_c 217) 27 = .ok (.getfield 144, 3) := by decide +kernel
theorem d217_30 : decode (zz_c 217) 30 = .ok (.imul, 1) := by decide +kernel
theorem d217_31 : decode (zz_c 217) 31 = .ok (.iadd, 1) := by decide +kernel
theorem d217_32 : decode (zz_c 217) 32 = .ok (.iconst 0, 1) := by decide +kernel
theorem d217_33 : decode (zz_c 217) 33 = .ok (.sipush 718, 3) := by decide +kernel
theorem d217_36 : decode (zz_c 217) 36 = .ok (.invokevirtual 190, 3) := by decide +kernel
theorem d217_39 : decode (zz_c 217) 39 = .ok (.aload_n 0, 1) := by decide +kernel
theorem d217_40 : decode (zz_c 217) 40 = .ok (.getfield 144, 3) := by decide +kernel
theorem d217_43 : decode (zz_c 217) 43 = .ok (.ireturn, 1) := by decide +kernel
theorem x217 : (∀ x st h, zz_Y 217 (0, [some (.ref x)], st, h) = zz_Y 217 (1, [some (.ref x)], .ref x :: st, h)) ∧ (∀ ls a st h, zz_Y 217 (1, ls, .ref a :: st, h) = mo_gf (hp_g h a) 11 6 217 4 ls st h) ∧ (∀ ls a st h, zz_Y 217 (4, ls, .int a :: st, h) = if a = nI 0 then zz_Y 217 (7, ls, st, h) else zz_Y 217 (9, ls, st, h)) ∧ (∀ ls st h, zz_Y 217 (7, ls, st, h) = zz_Y 217 (8, ls, .int (-1) :: st, h)) ∧ (∀ ls v h, zz_Y 217 (8, ls, [.int v], h) = some (some (.int v), h)) ∧ (∀ x st h, zz_Y 217 (9, [some (.ref x)], st, h) = zz_Y 217 (10, [some (.ref x)], .ref x :: st, h)) ∧ (∀ ls a st h, zz_Y 217 (10, ls, .ref a :: st, h) = zz_Y 217 (11, ls, .ref a :: .ref a :: st, h)) ∧ (∀ ls a st h, zz_Y 217 (11, ls, .ref a :: st, h) = mo_gf (hp_g h a) 11 6 217 14 ls st h) ∧ (∀ ls st h, zz_Y 217 (14, ls, st, h) = zz_Y 217 (15, ls, .int (nI 1) :: st, h)) ∧ (∀ ls a b st h, zz_Y 217 (15, ls, .int b :: .int a :: st, h) = zz_Y 217 (16, ls, .int (a - b) :: st, h)) ∧ (∀ ls a v st h, zz_Y 217 (16, ls, v :: .ref a :: st, h) = mo_pf (hp_g h a) 11 6 .int v a 217 19 ls st h) ∧ (∀ x st h, zz_Y 217 (19, [some (.ref x)], st, h) = zz_Y 217 (20, [some (.ref x)], .ref x :: st, h)) ∧ (∀ ls st h, zz_Y 217 (20, ls, st, h) = zz_Y 217 (23, ls, .int (nI 1460) :: st, h)) ∧ (∀ ls st h, zz_Y 217 (23, ls, st, h) = zz_Y 217 (26, ls, .int (nI 718) :: st, h)) ∧ (∀ x st h, zz_Y 217 (26, [some (.ref x)], st, h) = zz_Y 217 (27, [some (.ref x)], .ref x :: st, h)) ∧ (∀ ls a st h, zz_Y 217 (27, ls, .ref a :: st, h) = mo_gf (hp_g h a) 11 6 217 30 ls st h) ∧ (∀ ls a b st h, zz_Y 217 (30, ls, .int b :: .int a :: st, h) = zz_Y 217 (31, ls, .int (a * b) :: st, h)) ∧ (∀ ls a b st h, zz_Y 217 (31, ls, .int b :: .int a :: st, h) = zz_Y 217 (32, ls, .int (a + b) :: st, h)) ∧ (∀ ls st h, zz_Y 217 (32, ls, st, h) = zz_Y 217 (33, ls, .int (nI 0) :: st, h)) ∧ (∀ ls st h, zz_Y 217 (33, ls, st, h) = zz_Y 217 (36, ls, .int (nI 718) :: st, h)) ∧ (∀ ls a0 a1 a2 a3 h, zz_Y 217 (36, ls, [a3, a2, a1, a0], h) = mo_k 217 39 ls [] (zz_run 207 [a0, a1, a2, a3] h)) ∧ (∀ x st h, zz_Y 217 (39, [some (.ref x)], st, h) = zz_Y 217 (40, [some (.ref x)], .ref x :: st, h)) ∧ (∀ ls a st h, zz_Y 217 (40, ls, .ref a :: st, h) = mo_gf (hp_g h a) 11 6 217 43 ls st h) ∧ (∀ ls v h, zz_Y 217 (43, ls, [.int v], h) = some (some (.int v), h)) :=
  ⟨fun _ _ _ => xl_aln d217_0 rfl,
   fun _ _ _ _ => xl_gf d217_1 xco217 xf_11_144,
   fun _ _ _ _ => xl_ifne d217_4 rfl,
   fun _ _ _ => xl_ic d217_7 (by decide +kernel),
   fun _ _ _ => xl_iri d217_8 xrt217,
   fun _ _ _ => xl_aln d217_9 rfl,
   fun _ _ _ _ => xl_dupr d217_10,
   fun _ _ _ _ => xl_gf d217_11 xco217 xf_11_144,
   fun _ _ _ => xl_ic d217_14 (by decide +kernel),
   fun _ _ _ _ _ => xl_isub d217_15,
   fun _ _ _ _ _ => xl_pf d217_16 xco217 xf_11_144 (by decide +kernel) rfl,
   fun _ _ _ => xl_aln d217_19 rfl,
   fun _ _ _ => xl_si d217_20 (by decide +kernel),
   fun _ _ _ => xl_si d217_23 (by decide +kernel),
   fun _ _ _ => xl_aln d217_26 rfl,
   fun _ _ _ _ => xl_gf d217_27 xco217 xf_11_144,
   fun _ _ _ _ _ => xl_imul d217_30,
   fun _ _ _ _ _ => xl_iadd d217_31,
   fun _ _ _ => xl_ic d217_32 (by decide +kernel),
   fun _ _ _ => xl_si d217_33 (by decide +kernel),
   fun ls a0 a1 a2 a3 h => xl_cv (As := [a0, a1, a2, a3]) (st := []) d217_36 xco217 xm_11_190 (congrArg Nat.succ xnp207) (by decide +kernel) rfl,
   fun _ _ _ => xl_aln d217_39 rfl,
   fun _ _ _ _ => xl_gf d217_40 xco217 xf_11_144,
   fun _ _ _ => xl_iri d217_43 xrt217⟩
/-! 218 FacetSieveModel.feed(IIIII)I -/
theorem d218_0 : decode (zz_c 218) 0 = .ok (.aload_n 0, 1) := by decide +kernel
theorem d218_1 : decode (zz_c 218) 1 = .ok (.getfield 147, 3) := by decide +kernel
theorem d218_4 : decode (zz_c 218) 4 = .ok (.bipush 20, 2) := by decide +kernel
theorem d218_6 : decode (zz_c 218) 6 = .ok (.iadd, 1) := by decide +kernel
theorem d218_7 : decode (zz_c 218) 7 = .ok (.sipush 600, 3) := by decide +kernel
theorem d218_10 : decode (zz_c 218) 10 = .ok (.if_icmp .le 5, 3) := by decide +kernel
theorem d218_13 : decode (zz_c 218) 13 = .ok (.iconst (-1), 1) := by decide +kernel
theorem d218_14 : decode (zz_c 218) 14 = .ok (.ireturn, 1) := by decide +kernel
theorem d218_15 : decode (zz_c 218) 15 = .ok (.iconst 0, 1) := by decide +kernel
theorem d218_16 : decode (zz_c 218) 16 = .ok (.istore 6, 2) := by decide +kernel
theorem d218_18 : decode (zz_c 218) 18 = .ok (.iload 6, 2) := by decide +kernel
theorem d218_20 : decode (zz_c 218) 20 = .ok (.bipush 20, 2) := by decide +kernel
theorem d218_22 : decode (zz_c 218) 22 = .ok (.if_icmp .ge 86, 3) := by decide +kernel
theorem d218_25 : decode (zz_c 218) 25 = .ok (.iload 6, 2) := by decide +kernel
theorem d218_27 : decode (zz_c 218) 27 = .ok (.iconst 4, 1) := by decide +kernel
theorem d218_28 : decode (zz_c 218) 28 = .ok (.if_icmp .ge 7, 3) := by decide +kernel
theorem d218_31 : decode (zz_c 218) 31 = .ok (.iload_n 1, 1) := by decide +kernel
theorem d218_32 : decode (zz_c 218) 32 = .ok (.goto 39, 3) := by decide +kernel
theorem d218_35 : decode (zz_c 218) 35 = .ok (.iload 6, 2) := by decide +kernel
theorem d218_37 : decode (zz_c 218) 37 = .ok (.bipush 8, 2) := by decide +kernel
theorem d218_39 : decode (zz_c 218) 39 = .ok (.if_icmp .ge 7, 3) := by decide +kernel
theorem d218_42 : decode (zz_c 218) 42 = .ok (.iload_n 2, 1) := by decide +kernel
theorem d218_43 : decode (zz_c 218) 43 = .ok (.goto 28, 3) := by decide +kernel
theorem d218_46 : decode (zz_c 218) 46 = .ok (.iload 6, 2) := by decide +kernel
theorem d218_48 : decode (zz_c 218) 48 = .ok (.bipush 12, 2) := by decide +kernel
theorem d218_50 : decode (zz_c 218) 50 = .ok (.if_icmp .ge 7, 3) := by decide +kernel
theorem d218_53 : decode (zz_c 218) 53 = .ok (.iload_n 3, 1) := by decide +kernel
theorem d218_54 : decode (zz_c 218) 54 = .ok (.goto 17, 3) := by decide +kernel
theorem d218_57 : decode (zz_c 218) 57 = .ok (.iload 6, 2) := by decide +kernel
theorem d218_59 : decode (zz_c 218) 59 = .ok (.bipush 16, 2) := by decide +kernel
theorem d218_61 : decode (zz_c 218) 61 = .ok (.if_icmp .ge 8, 3) := by decide +kernel
theorem d218_64 : decode (zz_c 218) 64 = .ok (.iload 4, 2) := by decide +kernel
theorem d218_66 : decode (zz_c 218) 66 = .ok (.goto 5, 3) := by decide +kernel
theorem d218_69 : decode (zz_c 218) 69 = .ok (.iload 5, 2) := by decide +kernel
theorem d218_71 : decode (zz_c 218) 71 = .ok (.istore 7, 2) := by decide +kernel
theorem d218_73 : decode (zz_c 218) 73 = .ok (.aload_n 0, 1) := by decide +kernel
theorem d218_74 : decode (zz_c 218) 74 = .ok (.getfield 13, 3) := by decide +kernel
theorem d218_77 : decode (zz_c 218) 77 = .ok (.aload_n 0, 1) := by decide +kernel
theorem d218_78 : decode (zz_c 218) 78 = .ok (.getfield 147, 3) := by decide +kernel
theorem d218_81 : decode (zz_c 218) 81 = .ok (.iload 6, 2) := by decide +kernel
theorem d218_83 : decode (zz_c 218) 83 = .ok (.iadd, 1) := by decide +kernel
theorem d218_84 : decode (zz_c 218) 84 = .ok (.iload 7, 2) := by decide +kernel
theorem d218_86 : decode (zz_c 218) 86 = .ok (.bipush 24, 2) := by decide +kernel
theorem d218_88 : decode (zz_c 218) 88 = .ok (.bipush 8, 2) := by decide +kernel
theorem d218_90 : decode (zz_c 218) 90 = .ok (.iload 6, 2) := by decide +kernel
theorem d218_92 : decode (zz_c 218) 92 = .ok (.iconst 3, 1) := by decide +kernel
theorem d218_93 : decode (zz_c 218) 93 = .ok (.iand, 1) := by decide +kernel
theorem d218_94 : decode (zz_c 218) 94 = .ok (.imul, 1) := by decide +kernel
theorem d218_95 : decode (zz_c 218) 95 = .ok (.isub, 1) := by decide +kernel
theorem d218_96 : decode (zz_c 218) 96 = .ok (.ishr, 1) := by decide +kernel
theorem d218_97 : decode (zz_c 218) 97 = .ok (.sipush 255, 3) := by decide +kernel
theorem d218_100 : decode (zz_c 218) 100 = .ok (.iand, 1) := by decide +kernel
theorem d218_101 : decode (zz_c 218) 101 = .ok (.iastore, 1) := by decide +kernel
theorem d218_102 : decode (zz_c 218) 102 = .ok (.iinc 6 1, 3) := by decide +kernel
theorem d218_105 : decode (zz_c 218) 105 = .ok (.goto (-87), 3) := by decide +kernel
theorem d218_108 : decode (zz_c 218) 108 = .ok (.aload_n 0, 1) := by decide +kernel
theorem d218_109 : decode (zz_c 218) 109 = .ok (.dup, 1) := by decide +kernel
theorem d218_110 : decode (zz_c 218) 110 = .ok (.getfield 147, 3) := by decide +kernel
theorem d218_113 : decode (zz_c 218) 113 = .ok (.bipush 20, 2) := by decide +kernel
theorem d218_115 : decode (zz_c 218) 115 = .ok (.iadd, 1) := by decide +kernel
theorem d218_116 : decode (zz_c 218) 116 = .ok (.putfield 147, 3) := by decide +kernel
theorem d218_119 : decode (zz_c 218) 119 = .ok (.aload_n 0, 1) := by decide +kernel
theorem d218_120 : decode (zz_c 218) 120 = .ok (.getfield 147, 3) := by decide +kernel
theorem d218_123 : decode (zz_c 218) 123 = .ok (.ireturn, 1) := by decide +kernel
theorem x218_p0 : (∀ l1 l2 l3 l4 l5 l6 l7 x st h, zz_Y 218 (0, [some (.ref x), l1, l2, l3, l4, l5, l6, l7], st, h) = zz_Y 218 (1, [some (.ref x), l1, l2, l3, l4, l5, l6, l7], .ref x :: st, h)) ∧ (∀ ls a st h, zz_Y 218 (1, ls, .ref a :: st, h) = mo_gf (hp_g h a) 11 3 218 4 ls st h) ∧ (∀ ls st h, zz_Y 218 (4, ls, st, h) = zz_Y 218 (6, ls, .int (nI 20) :: st, h)) ∧ (∀ ls a b st h, zz_Y 218 (6, ls, .int b :: .int a :: st, h) = zz_Y 218 (7, ls, .int (a + b) :: st, h)) ∧ (∀ ls st h, zz_Y 218 (7, ls, st, h) = zz_Y 218 (10, ls, .int (nI 600) :: st, h)) ∧ (∀ ls a b st h, zz_Y 218 (10, ls, .int b :: .int a :: st, h) = if b < a then zz_Y 218 (13, ls, st, h) else zz_Y 218 (15, ls, st, h)) ∧ (∀ ls st h, zz_Y 218 (13, ls, st, h) = zz_Y 218 (14, ls, .int (-1) :: st, h)) ∧ (∀ ls v h, zz_Y 218 (14, ls, [.int v], h) = some (some (.int v), h)) ∧ (∀ ls st h, zz_Y 218 (15, ls, st, h) = zz_Y 218 (16, ls, .int (nI 0) :: st, h)) ∧ (∀ l0 l1 l2 l3 l4 l5 l6 l7 x st h, zz_nl l5 = true → zz_Y 218 (16, [l0, l1, l2, l3, l4, l5, l6, l7], .int x :: st, h) = zz_Y 218 (18, [l0, l1, l2, l3, l4, l5, some (.int x), l7], st, h)) ∧ (∀ ls st h, zz_Y 218 (20, ls, st, h) = zz_Y 218 (22, ls, .int (nI 20) :: st, h)) ∧ (∀ ls a b st h, zz_Y 218 (22, ls, .int b :: .int a :: st, h) = if a < b then zz_Y 218 (25, ls, st, h) else zz_Y 218 (108, ls, st, h)) ∧ (∀ l0 l1 l2 l3 l4 l5 l7 x st h, zz_Y 218 (25, [l0, l1, l2, l3, l4, l5, some (.int x), l7], st, h) = zz_Y 218 (27, [l0, l1, l2, l3, l4, l5, some (.int x), l7], .int x :: st, h)) ∧ (∀ ls st h, zz_Y 218 (27, ls, st, h) = zz_Y 218 (28, ls, .int (nI 4) :: st, h)) ∧ (∀ ls a b st h, zz_Y 218 (28, ls, .int b :: .int a :: st, h) = if a < b then zz_Y 218 (31, ls, st, h) else zz_Y 218 (35, ls, st, h)) ∧ (∀ l0 l2 l3 l4 l5 l6 l7 x st h, zz_Y 218 (31, [l0, some (.int x), l2, l3, l4, l5, l6, l7], st, h) = zz_Y 218 (32, [l0, some (.int x), l2, l3, l4, l5, l6, l7], .int x :: st, h)) ∧ (∀ ls st h, zz_Y 218 (32, ls, st, h) = zz_Y 218 (71, ls, st, h)) ∧ (∀ l0 l1 l2 l3 l4 l5 l7 x st h, zz_Y 218 (35, [l0, l1, l2, l3, l4, l5, some (.int x), l7], st, h) = zz_Y 218 (37, [l0, l1, l2, l3, l4, l5, some (.int x), l7], .int x :: st, h)) ∧ (∀ ls st h, zz_Y 218 (37, ls, st, h) = zz_Y 218 (39, ls, .int (nI 8) :: st, h)) ∧ (∀ ls a b st h, zz_Y 218 (39, ls, .int b :: .int a :: st, h) = if a < b then zz_Y 218 (42, ls, st, h) else zz_Y 218 (46, ls, st, h)) ∧ (∀ l0 l1 l3 l4 l5 l6 l7 x st h, zz_Y 218 (42, [l0, l1, some (.int x), l3, l4, l5, l6, l7], st, h) = zz_Y 218 (43, [l0, l1, some (.int x), l3, l4, l5, l6, l7], .int x :: st, h)) ∧ (∀ ls st h, zz_Y 218 (43, ls, st, h) = zz_Y 218 (71, ls, st, h)) ∧ (∀ l0 l1 l2 l3 l4 l5 l7 x st h, zz_Y 218 (46, [l0, l1, l2, l3, l4, l5, some (.int x), l7], st, h) = zz_Y 218 (48, [l0, l1, l2, l3, l4, l5, some (.int x), l7], .int x :: st, h)) ∧ (∀ ls st h, zz_Y 218 (48, ls, st, h) = zz_Y 218 (50, ls, .int (nI 12) :: st, h)) ∧ (∀ ls a b st h, zz_Y 218 (50, ls, .int b :: .int a :: st, h) = if a < b then zz_Y 218 (53, ls, st, h) else zz_Y 218 (57, ls, st, h)) ∧ (∀ l0 l1 l2 l4 l5 l6 l7 x st h, zz_Y 218 (53, [l0, l1, l2, some (.int x), l4, l5, l6, l7], st, h) = zz_Y 218 (54, [l0, l1, l2, some (.int x), l4, l5, l6, l7], .int x :: st, h)) ∧ (∀ ls st h, zz_Y 218 (54, ls, st, h) = zz_Y 218 (71, ls, st, h)) ∧ (∀ l0 l1 l2 l3 l4 l5 l7 x st h, zz_Y 218 (57, [l0, l1, l2, l3, l4, l5, some (.int x), l7], st, h) = zz_Y 218 (59, [l0, l1, l2, l3, l4, l5, some (.int x), l7], .int x :: st, h)) ∧ (∀ ls st h, zz_Y 218 (59, ls, st, h) = zz_Y 218 (61, ls, .int (nI 16) :: st, h)) ∧ (∀ ls a b st h, zz_Y 218 (61, ls, .int b :: .int a :: st, h) = if a < b then zz_Y 218 (64, ls, st, h) else zz_Y 218 (69, ls, st, h)) ∧ (∀ l0 l1 l2 l3 l5 l6 l7 x st h, zz_Y 218 (64, [l0, l1, l2, l3, some (.int x), l5, l6, l7], st, h) = zz_Y 218 (66, [l0, l1, l2, l3, some (.int x), l5, l6, l7], .int x :: st, h)) ∧ (∀ ls st h, zz_Y 218 (66, ls, st, h) = zz_Y 218 (71, ls, st, h)) ∧ (∀ l0 l1 l2 l3 l4 l6 l7 x st h, zz_Y 218 (69, [l0, l1, l2, l3, l4, some (.int x), l6, l7], st, h) = zz_Y 218 (71, [l0, l1, l2, l3, l4, some (.int x), l6, l7], .int x :: st, h)) ∧ (∀ l0 l1 l2 l3 l4 l5 l6 l7 x st h, zz_nl l6 = true → zz_Y 218 (71, [l0, l1, l2, l3, l4, l5, l6, l7], .int x :: st, h) = zz_Y 218 (73, [l0, l1, l2, l3, l4, l5, l6, some (.int x)], st, h)) ∧ (∀ l1 l2 l3 l4 l5 l6 l7 x st h, zz_Y 218 (73, [some (.ref x), l1, l2, l3, l4, l5, l6, l7], st, h) = zz_Y 218 (74, [some (.ref x), l1, l2, l3, l4, l5, l6, l7], .ref x :: st, h)) ∧ (∀ ls a st h, zz_Y 218 (74, ls, .ref a :: st, h) = mo_gf (hp_g h a) 11 1 218 77 ls st h) ∧ (∀ l1 l2 l3 l4 l5 l6 l7 x st h, zz_Y 218 (77, [some (.ref x), l1, l2, l3, l4, l5, l6, l7], st, h) = zz_Y 218 (78, [some (.ref x), l1, l2, l3, l4, l5, l6, l7], .ref x :: st, h)) ∧ (∀ ls a st h, zz_Y 218 (78, ls, .ref a :: st, h) = mo_gf (hp_g h a) 11 3 218 81 ls st h) ∧ (∀ l0 l1 l2 l3 l4 l5 l7 x st h, zz_Y 218 (81, [l0, l1, l2, l3, l4, l5, some (.int x), l7], st, h) = zz_Y 218 (83, [l0, l1, l2, l3, l4, l5, some (.int x), l7], .int x :: st, h)) ∧ (∀ ls a b st h, zz_Y 218 (83, ls, .int b :: .int a :: st, h) = zz_Y 218 (84, ls, .int (a + b) :: st, h)) ∧ (∀ l0 l1 l2 l3 l4 l5 l6 x st h, zz_Y 218 (84, [l0, l1, l2, l3, l4, l5, l6, some (.int x)], st, h) = zz_Y 218 (86, [l0, l1, l2, l3, l4, l5, l6, some (.int x)], .int x :: st, h)) ∧ (∀ ls st h, zz_Y 218 (86, ls, st, h) = zz_Y 218 (88, ls, .int (nI 24) :: st, h)) ∧ (∀ ls st h, zz_Y 218 (88, ls, st, h) = zz_Y 218 (90, ls, .int (nI 8) :: st, h)) ∧ (∀ l0 l1 l2 l3 l4 l5 l7 x st h, zz_Y 218 (90, [l0, l1, l2, l3, l4, l5, some (.int x), l7], st, h) = zz_Y 218 (92, [l0, l1, l2, l3, l4, l5, some (.int x), l7], .int x :: st, h)) ∧ (∀ ls st h, zz_Y 218 (92, ls, st, h) = zz_Y 218 (93, ls, .int (nI 3) :: st, h)) ∧ (∀ ls a b st h, zz_Y 218 (93, ls, .int b :: .int a :: st, h) = zz_Y 218 (94, ls, .int (a &&& b) :: st, h)) ∧ (∀ ls a b st h, zz_Y 218 (94, ls, .int b :: .int a :: st, h) = zz_Y 218 (95, ls, .int (a * b) :: st, h)) ∧ (∀ ls a b st h, zz_Y 218 (95, ls, .int b :: .int a :: st, h) = zz_Y 218 (96, ls, .int (a - b) :: st, h)) ∧ (∀ ls a b st h, zz_Y 218 (96, ls, .int b :: .int a :: st, h) = zz_Y 218 (97, ls, .int (a >>> (b &&& 31)) :: st, h)) ∧ (∀ ls st h, zz_Y 218 (97, ls, st, h) = zz_Y 218 (100, ls, .int (nI 255) :: st, h)) ∧ (∀ ls a b st h, zz_Y 218 (100, ls, .int b :: .int a :: st, h) = zz_Y 218 (101, ls, .int (a &&& b) :: st, h)) ∧ (∀ ls a i x st h, zz_Y 218 (101, ls, .int x :: .int i :: .ref a :: st, h) = mo_is (hp_g h a) x i a 218 102 ls st h) ∧ (∀ l0 l1 l2 l3 l4 l5 l7 x st h, zz_nl l5 = true → zz_Y 218 (102, [l0, l1, l2, l3, l4, l5, some (.int x), l7], st, h) = zz_Y 218 (105, [l0, l1, l2, l3, l4, l5, some (.int (x + nI 1)), l7], st, h)) ∧ (∀ ls st h, zz_Y 218 (105, ls, st, h) = zz_Y 218 (18, ls, st, h)) ∧ (∀ l1 l2 l3 l4 l5 l6 l7 x st h, zz_Y 218 (108, [some (.ref x), l1, l2, l3, l4, l5, l6, l7], st, h) = zz_Y 218 (109, [some (.ref x), l1, l2, l3, l4, l5, l6, l7], .ref x :: st, h)) ∧ (∀ ls a st h, zz_Y 218 (109, ls, .ref a :: st, h) = zz_Y 218 (110, ls, .ref a :: .ref a :: st, h)) ∧ (∀ ls a st h, zz_Y 218 (110, ls, .ref a :: st, h) = mo_gf (hp_g h a) 11 3 218 113 ls st h) ∧ (∀ ls st h, zz_Y 218 (113, ls, st, h) = zz_Y 218 (115, ls, .int (nI 20) :: st, h)) ∧ (∀ ls a b st h, zz_Y 218 (115, ls, .int b :: .int a :: st, h) = zz_Y 218 (116, ls, .int (a + b) :: st, h)) ∧ (∀ ls a v st h, zz_Y 218 (116, ls, v :: .ref a :: st, h) = mo_pf (hp_g h a) 11 3 .int v a 218 119 ls st h) :=
  ⟨fun _ _ _ _ _ _ _ _ _ _ => xl_aln d218_0 rfl,
   fun _ _ _ _ => xl_gf d218_1 xco218 xf_11_147,
   fun _ _ _ => xl_bi d218_4 (by decide +kernel),
   fun _ _ _ _ _ => xl_iadd d218_6,
   fun _ _ _ => xl_si d218_7 (by decide +kernel),
   fun _ _ _ _ _ => xl_icle d218_10 rfl,
   fun _ _ _ => xl_ic d218_13 (by decide +kernel),
   fun _ _ _ => xl_iri d218_14 xrt218,
   fun _ _ _ => xl_ic d218_15 (by decide +kernel),
   fun _ _ _ _ _ _ _ _ _ _ _ hc => xl_is d218_16 xml218 (by decide) (zz_nl_s1 hc),
   fun _ _ _ => xl_bi d218_20 (by decide +kernel),
   fun _ _ _ _ _ => xl_icge d218_22 rfl,
   fun _ _ _ _ _ _ _ _ _ _ => xl_il d218_25 rfl,
   fun _ _ _ => xl_ic d218_27 (by decide +kernel),
   fun _ _ _ _ _ => xl_icge d218_28 rfl,
   fun _ _ _ _ _ _ _ _ _ _ => xl_iln d218_31 rfl,
   fun _ _ _ => xl_goto d218_32 rfl,
   fun _ _ _ _ _ _ _ _ _ _ => xl_il d218_35 rfl,
   fun _ _ _ => xl_bi d218_37 (by decide +kernel),
   fun _ _ _ _ _ => xl_icge d218_39 rfl,
   fun _ _ _ _ _ _ _ _ _ _ => xl_iln d218_42 rfl,
   fun _ _ _ => xl_goto d218_43 rfl,
   fun _ _ _ _ _ _ _ _ _ _ => xl_il d218_46 rfl,
   fun _ _ _ => xl_bi d218_48 (by decide +kernel),
   fun _ _ _ _ _ => xl_icge d218_50 rfl,
   fun _ _ _ _ _ _ _ _ _ _ => xl_iln d218_53 rfl,
   fun _ _ _ => xl_goto d218_54 rfl,
   fun _ _ _ _ _ _ _ _ _ _ => xl_il d218_57 rfl,
   fun _ _ _ => xl_bi d218_59 (by decide +kernel),
   fun _ _ _ _ _ => xl_icge d218_61 rfl,
   fun _ _ _ _ _ _ _ _ _ _ => xl_il d218_64 rfl,
   fun _ _ _ => xl_goto d218_66 rfl,
   fun _ _ _ _ _ _ _ _ _ _ => xl_il d218_69 rfl,
   fun _ _ _ _ _ _ _ _ _ _ _ hc => xl_is d218_71 xml218 (by decide) (zz_nl_s1 hc),
   fun _ _ _ _ _ _ _ _ _ _ => xl_aln d218_73 rfl,
   fun _ _ _ _ => xl_gf d218_74 xco218 xf_11_13,
   fun _ _ _ _ _ _ _ _ _ _ => xl_aln d218_77 rfl,
   fun _ _ _ _ => xl_gf d218_78 xco218 xf_11_147,
   fun _ _ _ _ _ _ _ _ _ _ => xl_il d218_81 rfl,
   fun _ _ _ _ _ => xl_iadd d218_83,
   fun _ _ _ _ _ _ _ _ _ _ => xl_il d218_84 rfl,
   fun _ _ _ => xl_bi d218_86 (by decide +kernel),
   fun _ _ _ => xl_bi d218_88 (by decide +kernel),
   fun _ _ _ _ _ _ _ _ _ _ => xl_il d218_90 rfl,
   fun _ _ _ => xl_ic d218_92 (by decide +kernel),
   fun _ _ _ _ _ => xl_iand d218_93,
   fun _ _ _ _ _ => xl_imul d218_94,
   fun _ _ _ _ _ => xl_isub d218_95,
   fun _ _ _ _ _ => xl_ishr d218_96,
   fun _ _ _ => xl_si d218_97 (by decide +kernel),
   fun _ _ _ _ _ => xl_iand d218_100,
   fun _ _ _ _ _ _ => xl_ist d218_101,
   fun _ _ _ _ _ _ _ _ _ _ hc => xl_inc d218_102 xml218 (by decide) rfl (by decide +kernel) (zz_nl_s1 hc),
   fun _ _ _ => xl_goto d218_105 rfl,
   fun _ _ _ _ _ _ _ _ _ _ => xl_aln d218_108 rfl,
   fun _ _ _ _ => xl_dupr d218_109,
   fun _ _ _ _ => xl_gf d218_110 xco218 xf_11_147,
   fun _ _ _ => xl_bi d218_113 (by decide +kernel),
   fun _ _ _ _ _ => xl_iadd d218_115,
   fun _ _ _ _ _ => xl_pf d218_116 xco218 xf_11_147 (by decide +kernel) rfl⟩
theorem x218_p1 : (∀ l1 l2 l3 l4 l5 l6 l7 x st h, zz_Y 218 (119, [some (.ref x), l1, l2, l3, l4, l5, l6, l7], st, h) = zz_Y 218 (120, [some (.ref x), l1, l2, l3, l4, l5, l6, l7], .ref x :: st, h)) ∧ (∀ ls a st h, zz_Y 218 (120, ls, .ref a :: st, h) = mo_gf (hp_g h a) 11 3 218 123 ls st h) ∧ (∀ ls v h, zz_Y 218 (123, ls, [.int v], h) = some (some (.int v), h)) :=
  ⟨fun _ _ _ _ _ _ _ _ _ _ => xl_aln d218_119 rfl,
   fun _ _ _ _ => xl_gf d218_120 xco218 xf_11_147,
   fun _ _ _ => xl_iri d218_123 xrt218⟩
theorem x218_c18 : ∀ l0 l1 l2 l3 l4 l5 l7 x st h, zz_Y 218 (18, [l0, l1, l2, l3, l4, l5, some (.int x), l7], st, h) = zz_Y 218 (20, [l0, l1, l2, l3, l4, l5, some (.int x), l7], .int x :: st, h) := fun _ _ _ _ _ _ _ _ _ _ => xl_il d218_18 rfl
/-! 219 FacetSieveModel.end(I)I -/
theorem d219_0 : decode (zz_c 219) 0 = .ok (.iload_n 1, 1) := by decide +kernel
theorem d219_1 : decode (zz_c 219) 1 = .ok (.iconst 0, 1) := by decide +kernel
theorem d219_2 : decode (zz_c 219) 2 = .ok (.aload_n 0, 1) := by decide +kernel
theorem d219_3 : decode (zz_c 219) 3 = .ok (.getfield 147, 3) := by decide +kernel
theorem d219_6 : decode (zz_c 219) 6 = .ok (.invokestatic 57, 3) := by decide +kernel
theorem d219_9 : decode (zz_c 219) 9 = .ok (.ifCond .ne 5, 3) := by decide +kernel
theorem d219_12 : decode (zz_c 219) 12 = .ok (.iconst (-1), 1) := by decide +kernel
theorem d219_13 : decode (zz_c 219) 13 = .ok (.ireturn, 1) := by decide +kernel
theorem d219_14 : decode (zz_c 219) 14 = .ok (.aload_n 0, 1) := by decide +kernel
theorem d219_15 : decode (zz_c 219) 15 = .ok (.iload_n 1, 1) := by decide +kernel
theorem d219_16 : decode (zz_c 219) 16 = .ok (.putfield 147, 3) := by decide +kernel
theorem d219_19 : decode (zz_c 219) 19 = .ok (.iload_n 1, 1) := by decide +kernel
theorem d219_20 : decode (zz_c 219) 20 = .ok (.ireturn, 1) := by decide +kernel
theorem x219 : (∀ l0 x st h, zz_Y 219 (0, [l0, some (.int x)], st, h) = zz_Y 219 (1, [l0, some (.int x)], .int x :: st, h)) ∧ (∀ ls st h, zz_Y 219 (1, ls, st, h) = zz_Y 219 (2, ls, .int (nI 0) :: st, h)) ∧ (∀ l1 x st h, zz_Y 219 (2, [some (.ref x), l1], st, h) = zz_Y 219 (3, [some (.ref x), l1], .ref x :: st, h)) ∧ (∀ ls a st h, zz_Y 219 (3, ls, .ref a :: st, h) = mo_gf (hp_g h a) 11 3 219 6 ls st h) ∧ (∀ ls a0 a1 a2 h, zz_Y 219 (6, ls, [a2, a1, a0], h) = mo_k 219 9 ls [] (zz_run 154 [a0, a1, a2] h)) ∧ (∀ ls a st h, zz_Y 219 (9, ls, .int a :: st, h) = if a = nI 0 then zz_Y 219 (12, ls, st, h) else zz_Y 219 (14, ls, st, h)) ∧ (∀ ls st h, zz_Y 219 (12, ls, st, h) = zz_Y 219 (13, ls, .int (-1) :: st, h)) ∧ (∀ ls v h, zz_Y 219 (13, ls, [.int v], h) = some (some (.int v), h)) ∧ (∀ l1 x st h, zz_Y 219 (14, [some (.ref x), l1], st, h) = zz_Y 219 (15, [some (.ref x), l1], .ref x :: st, h)) ∧ (∀ l0 x st h, zz_Y 219 (15, [l0, some (.int x)], st, h) = zz_Y 219 (16, [l0, some (.int x)], .int x :: st, h)) ∧ (∀ ls a v st h, zz_Y 219 (16, ls, v :: .ref a :: st, h) = mo_pf (hp_g h a) 11 3 .int v a 219 19 ls st h) ∧ (∀ l0 x st h, zz_Y 219 (19, [l0, some (.int x)], st, h) = zz_Y 219 (20, [l0, some (.int x)], .int x :: st, h)) ∧ (∀ ls v h, zz_Y 219 (20, ls, [.int v], h) = some (some (.int v), h)) :=
  ⟨fun _ _ _ _ => xl_iln d219_0 rfl,
   fun _ _ _ => xl_ic d219_1 (by decide +kernel),
   fun _ _ _ _ => xl_aln d219_2 rfl,
   fun _ _ _ _ => xl_gf d219_3 xco219 xf_11_147,
   fun ls a0 a1 a2 h => xl_cs (As := [a0, a1, a2]) (st := []) d219_6 xco219 xm_11_57 xnp154 (by decide +kernel) rfl,
   fun _ _ _ _ => xl_ifne d219_9 rfl,
   fun _ _ _ => xl_ic d219_12 (by decide +kernel),
   fun _ _ _ => xl_iri d219_13 xrt219,
   fun _ _ _ _ => xl_aln d219_14 rfl,
   fun _ _ _ _ => xl_iln d219_15 rfl,
   fun _ _ _ _ _ => xl_pf d219_16 xco219 xf_11_147 (by decide +kernel) rfl,
   fun _ _ _ _ => xl_iln d219_19 rfl,
   fun _ _ _ => xl_iri d219_20 xrt219⟩
/-! 220 FacetSieveModel.fault(I)I -/
theorem d220_0 : decode (zz_c 220) 0 = .ok (.iload_n 1, 1) := by decide +kernel
theorem d220_1 : decode (zz_c 220) 1 = .ok (.ifCond .ne 10, 3) := by decide +kernel
theorem d220_4 : decode (zz_c 220) 4 = .ok (.aload_n 0, 1) := by decide +kernel
theorem d220_5 : decode (zz_c 220) 5 = .ok (.getfield 208, 3) := by decide +kernel
theorem d220_8 : decode (zz_c 220) 8 = .ok (.goto 16, 3) := by decide +kernel
theorem d220_11 : decode (zz_c 220) 11 = .ok (.iload_n 1, 1) := by decide +kernel
theorem d220_12 : decode (zz_c 220) 12 = .ok (.iconst 1, 1) := by decide +kernel
theorem d220_13 : decode (zz_c 220) 13 = .ok (.if_icmp .ne 10, 3) := by decide +kernel
theorem d220_16 : decode (zz_c 220) 16 = .ok (.aload_n 0, 1) := by decide +kernel
theorem d220_17 : decode (zz_c 220) 17 = .ok (.getfield 20, 3) := by decide +kernel
theorem d220_20 : decode (zz_c 220) 20 = .ok (.goto 4, 3) := by decide +kernel
theorem d220_23 : decode (zz_c 220) 23 = .ok (.iconst (-1), 1) := by decide +kernel
theorem d220_24 : decode (zz_c 220) 24 = .ok (.ireturn, 1) := by decide +kernel
theorem x220 : (∀ l0 x st h, zz_Y 220 (0, [l0, some (.int x)], st, h) = zz_Y 220 (1, [l0, some (.int x)], .int x :: st, h)) ∧ (∀ ls a st h, zz_Y 220 (1, ls, .int a :: st, h) = if a = nI 0 then zz_Y 220 (4, ls, st, h) else zz_Y 220 (11, ls, st, h)) ∧ (∀ l1 x st h, zz_Y 220 (4, [some (.ref x), l1], st, h) = zz_Y 220 (5, [some (.ref x), l1], .ref x :: st, h)) ∧ (∀ ls a st h, zz_Y 220 (5, ls, .ref a :: st, h) = mo_gf (hp_g h a) 11 4 220 8 ls st h) ∧ (∀ ls st h, zz_Y 220 (8, ls, st, h) = zz_Y 220 (24, ls, st, h)) ∧ (∀ l0 x st h, zz_Y 220 (11, [l0, some (.int x)], st, h) = zz_Y 220 (12, [l0, some (.int x)], .int x :: st, h)) ∧ (∀ ls st h, zz_Y 220 (12, ls, st, h) = zz_Y 220 (13, ls, .int (nI 1) :: st, h)) ∧ (∀ ls a b st h, zz_Y 220 (13, ls, .int b :: .int a :: st, h) = if a = b then zz_Y 220 (16, ls, st, h) else zz_Y 220 (23, ls, st, h)) ∧ (∀ l1 x st h, zz_Y 220 (16, [some (.ref x), l1], st, h) = zz_Y 220 (17, [some (.ref x), l1], .ref x :: st, h)) ∧ (∀ ls a st h, zz_Y 220 (17, ls, .ref a :: st, h) = mo_gf (hp_g h a) 11 5 220 20 ls st h) ∧ (∀ ls st h, zz_Y 220 (20, ls, st, h) = zz_Y 220 (24, ls, st, h)) ∧ (∀ ls st h, zz_Y 220 (23, ls, st, h) = zz_Y 220 (24, ls, .int (-1) :: st, h)) ∧ (∀ ls v h, zz_Y 220 (24, ls, [.int v], h) = some (some (.int v), h)) :=
  ⟨fun _ _ _ _ => xl_iln d220_0 rfl,
   fun _ _ _ _ => xl_ifne d220_1 rfl,
   fun _ _ _ _ => xl_aln d220_4 rfl,
   fun _ _ _ _ => xl_gf d220_5 xco220 xf_11_208,
   fun _ _ _ => xl_goto d220_8 rfl,
   fun _ _ _ _ => xl_iln d220_11 rfl,
   fun _ _ _ => xl_ic d220_12 (by decide +kernel),
   fun _ _ _ _ _ => xl_icne d220_13 rfl,
   fun _ _ _ _ => xl_aln d220_16 rfl,
   fun _ _ _ _ => xl_gf d220_17 xco220 xf_11_20,
   fun _ _ _ => xl_goto d220_20 rfl,
   fun _ _ _ => xl_ic d220_23 (by decide +kernel),
   fun _ _ _ => xl_iri d220_24 xrt220⟩
/-! 221 FacetSieveModel.scheme()I -/
theorem d221_0 : decode (zz_c 221) 0 = .ok (.aload_n 0, 1) := by decide +kernel
theorem d221_1 : decode (zz_c 221) 1 = .ok (.invokevirtual 322, 3) := by decide +kernel
theorem d221_4 : decode (zz_c 221) 4 = .ok (.iconst 0, 1) := by decide +kernel
theorem d221_5 : decode (zz_c 221) 5 = .ok (.istore_n 1, 1) := by decide +kernel
theorem d221_6 : decode (zz_c 221) 6 = .ok (.iload_n 1, 1) := by decide +kernel
theorem d221_7 : decode (zz_c 221) 7 = .ok (.sipush 718, 3) := by decide +kernel
theorem d221_10 : decode (zz_c 221) 10 = .ok (.if_icmp .ge 20, 3) := by decide +kernel
theorem d221_13 : decode (zz_c 221) 13 = .ok (.aload_n 0, 1) := by decide +kernel
theorem d221_14 : decode (zz_c 221) 14 = .ok (.getfield 7, 3) := by decide +kernel
theorem d221_17 : decode (zz_c 221) 17 = .ok (.sipush 730, 3) := by decide +kernel
theorem d221_20 : decode (zz_c 221) 20 = .ok (.iload_n 1, 1) := by decide +kernel
theorem d221_21 : decode (zz_c 221) 21 = .ok (.iadd, 1) := by decide +kernel
theorem d221_22 : decode (zz_c 221) 22 = .ok (.iconst 0, 1) := by decide +kernel
theorem d221_23 : decode (zz_c 221) 23 = .ok (.iastore, 1) := by decide +kernel
theorem d221_24 : decode (zz_c 221) 24 = .ok (.iinc 1 1, 3) := by decide +kernel
theorem d221_27 : decode (zz_c 221) 27 = .ok (.goto (-21), 3) := by decide +kernel
theorem d221_30 : decode (zz_c 221) 30 = .ok (.aload_n 0, 1) := by decide +kernel
theorem d221_31 : decode (zz_c 221) 31 = .ok (.invokevirtual 247, 3) := by decide +kernel
theorem d221_34 : decode (zz_c 221) 34 = .ok (.ifCond .eq 17, 3) := by decide +kernel
theorem d221_37 : decode (zz_c 221) 37 = .ok (.aload_n 0, 1) := by decide +kernel
theorem d221_38 : decode (zz_c 221) 38 = .ok (.getfield 227, 3) := by decide +kernel
theorem d221_41 : decode (zz_c 221) 41 = .ok (.ifCond .eq 10, 3) := by decide +kernel
theorem d221_44 : decode (zz_c 221) 44 = .ok (.aload_n 0, 1) := by decide +kernel
theorem d221_45 : decode (zz_c 221) 45 = .ok (.invokevirtual 325, 3) := by decide +kernel
theorem d221_48 : decode (zz_c 221) 48 = .ok (.goto (-18), 3) := by decide +kernel
theorem d221_51 : decode (zz_c 221) 51 = .ok (.aload_n 0, 1) := by decide +kernel
theorem d221_52 : decode (zz_c 221) 52 = .ok (.invokevirtual 247, 3) := by decide +kernel
theorem d221_55 : decode (zz_c 221) 55 = .ok (.ifCond .ne 5, 3) := by decide +kernel
theorem d221_58 : decode (zz_c 221) 58 = .ok (.iconst (-1), 1) := by decide +kernel
theorem d221_59 : decode (zz_c 221) 59 = .ok (.ireturn, 1) := by decide +kernel
theorem d221_60 : decode (zz_c 221) 60 = .ok (.aload_n 0, 1) := by decide +kernel
theorem d221_61 : decode (zz_c 221) 61 = .ok (.sipush 730, 3) := by decide +kernel
theorem d221_64 : decode (zz_c 221) 64 = .ok (.iconst 0, 1) := by decide +kernel
theorem d221_65 : decode (zz_c 221) 65 = .ok (.sipush 718, 3) := by decide +kernel
theorem d221_68 : decode (zz_c 221) 68 = .ok (.invokevirtual 190, 3) := by decide +kernel
theorem d221_71 : decode (zz_c 221) 71 = .ok (.aload_n 0, 1) := by decide +kernel
theorem d221_72 : decode (zz_c 221) 72 = .ok (.iconst 0, 1) := by decide +kernel
theorem d221_73 : decode (zz_c 221) 73 = .ok (.putfield 144, 3) := by decide +kernel
theorem d221_76 : decode (zz_c 221) 76 = .ok (.aload_n 0, 1) := by decide +kernel
theorem d221_77 : decode (zz_c 221) 77 = .ok (.invokevirtual 141, 3) := by decide +kernel
theorem d221_80 : decode (zz_c 221) 80 = .ok (.ireturn, 1) := by decide +kernel
theorem x221 : (∀ l1 x st h, zz_Y 221 (0, [some (.ref x), l1], st, h) = zz_Y 221 (1, [some (.ref x), l1], .ref x :: st, h)) ∧ (∀ ls a0 h, zz_Y 221 (1, ls, [a0], h) = mo_k 221 4 ls [] (zz_run 222 [a0] h)) ∧ (∀ ls st h, zz_Y 221 (4, ls, st, h) = zz_Y 221 (5, ls, .int (nI 0) :: st, h)) ∧ (∀ l0 l1 x st h, zz_nl l0 = true → zz_Y 221 (5, [l0, l1], .int x :: st, h) = zz_Y 221 (6, [l0, some (.int x)], st, h)) ∧ (∀ ls st h, zz_Y 221 (7, ls, st, h) = zz_Y 221 (10, ls, .int (nI 718) :: st, h)) ∧ (∀ ls a b st h, zz_Y 221 (10, ls, .int b :: .int a :: st, h) = if a < b then zz_Y 221 (13, ls, st, h) else zz_Y 221 (30, ls, st, h)) ∧ (∀ l1 x st h, zz_Y 221 (13, [some (.ref x), l1], st, h) = zz_Y 221 (14, [some (.ref x), l1], .ref x :: st, h)) ∧ (∀ ls a st h, zz_Y 221 (14, ls, .ref a :: st, h) = mo_gf (hp_g h a) 11 0 221 17 ls st h) ∧ (∀ ls st h, zz_Y 221 (17, ls, st, h) = zz_Y 221 (20, ls, .int (nI 730) :: st, h)) ∧ (∀ l0 x st h, zz_Y 221 (20, [l0, some (.int x)], st, h) = zz_Y 221 (21, [l0, some (.int x)], .int x :: st, h)) ∧ (∀ ls a b st h, zz_Y 221 (21, ls, .int b :: .int a :: st, h) = zz_Y 221 (22, ls, .int (a + b) :: st, h)) ∧ (∀ ls st h, zz_Y 221 (22, ls, st, h) = zz_Y 221 (23, ls, .int (nI 0) :: st, h)) ∧ (∀ ls a i x st h, zz_Y 221 (23, ls, .int x :: .int i :: .ref a :: st, h) = mo_is (hp_g h a) x i a 221 24 ls st h) ∧ (∀ l0 x st h, zz_nl l0 = true → zz_Y 221 (24, [l0, some (.int x)], st, h) = zz_Y 221 (27, [l0, some (.int (x + nI 1))], st, h)) ∧ (∀ ls st h, zz_Y 221 (27, ls, st, h) = zz_Y 221 (6, ls, st, h)) ∧ (∀ ls a0 h, zz_Y 221 (31, ls, [a0], h) = mo_k 221 34 ls [] (zz_run 227 [a0] h)) ∧ (∀ ls a st h, zz_Y 221 (34, ls, .int a :: st, h) = if a = nI 0 then zz_Y 221 (51, ls, st, h) else zz_Y 221 (37, ls, st, h)) ∧ (∀ l1 x st h, zz_Y 221 (37, [some (.ref x), l1], st, h) = zz_Y 221 (38, [some (.ref x), l1], .ref x :: st, h)) ∧ (∀ ls a st h, zz_Y 221 (38, ls, .ref a :: st, h) = mo_gf (hp_g h a) 11 15 221 41 ls st h) ∧ (∀ ls a st h, zz_Y 221 (41, ls, .int a :: st, h) = if a = nI 0 then zz_Y 221 (51, ls, st, h) else zz_Y 221 (44, ls, st, h)) ∧ (∀ l1 x st h, zz_Y 221 (44, [some (.ref x), l1], st, h) = zz_Y 221 (45, [some (.ref x), l1], .ref x :: st, h)) ∧ (∀ ls a0 h, zz_Y 221 (45, ls, [a0], h) = mo_k 221 48 ls [] (zz_run 228 [a0] h)) ∧ (∀ ls st h, zz_Y 221 (48, ls, st, h) = zz_Y 221 (30, ls, st, h)) ∧ (∀ l1 x st h, zz_Y 221 (51, [some (.ref x), l1], st, h) = zz_Y 221 (52, [some (.ref x), l1], .ref x :: st, h)) ∧ (∀ ls a0 h, zz_Y 221 (52, ls, [a0], h) = mo_k 221 55 ls [] (zz_run 227 [a0] h)) ∧ (∀ ls a st h, zz_Y 221 (55, ls, .int a :: st, h) = if a = nI 0 then zz_Y 221 (58, ls, st, h) else zz_Y 221 (60, ls, st, h)) ∧ (∀ ls st h, zz_Y 221 (58, ls, st, h) = zz_Y 221 (59, ls, .int (-1) :: st, h)) ∧ (∀ ls v h, zz_Y 221 (59, ls, [.int v], h) = some (some (.int v), h)) ∧ (∀ l1 x st h, zz_Y 221 (60, [some (.ref x), l1], st, h) = zz_Y 221 (61, [some (.ref x), l1], .ref x :: st, h)) ∧ (∀ ls st h, zz_Y 221 (61, ls, st, h) = zz_Y 221 (64, ls, .int (nI 730) :: st, h)) ∧ (∀ ls st h, zz_Y 221 (64, ls, st, h) = zz_Y 221 (65, ls, .int (nI 0) :: st, h)) ∧ (∀ ls st h, zz_Y 221 (65, ls, st, h) = zz_Y 221 (68, ls, .int (nI 718) :: st, h)) ∧ (∀ ls a0 a1 a2 a3 h, zz_Y 221 (68, ls, [a3, a2, a1, a0], h) = mo_k 221 71 ls [] (zz_run 207 [a0, a1, a2, a3] h)) ∧ (∀ l1 x st h, zz_Y 221 (71, [some (.ref x), l1], st, h) = zz_Y 221 (72, [some (.ref x), l1], .ref x :: st, h)) ∧ (∀ ls st h, zz_Y 221 (72, ls, st, h) = zz_Y 221 (73, ls, .int (nI 0) :: st, h)) ∧ (∀ ls a v st h, zz_Y 221 (73, ls, v :: .ref a :: st, h) = mo_pf (hp_g h a) 11 6 .int v a 221 76 ls st h) ∧ (∀ l1 x st h, zz_Y 221 (76, [some (.ref x), l1], st, h) = zz_Y 221 (77, [some (.ref x), l1], .ref x :: st, h)) ∧ (∀ ls a0 h, zz_Y 221 (77, ls, [a0], h) = mo_k 221 80 ls [] (zz_run 165 [a0] h)) ∧ (∀ ls v h, zz_Y 221 (80, ls, [.int v], h) = some (some (.int v), h)) :=
  ⟨fun _ _ _ _ => xl_aln d221_0 rfl,
   fun ls a0 h => xl_cv (As := [a0]) (st := []) d221_1 xco221 xm_11_322 (congrArg Nat.succ xnp222) (by decide +kernel) rfl,
   fun _ _ _ => xl_ic d221_4 (by decide +kernel),
   fun _ _ _ _ _ hc => xl_isn d221_5 xml221 (by decide) (zz_nl_s1 hc),
   fun _ _ _ => xl_si d221_7 (by decide +kernel),
   fun _ _ _ _ _ => xl_icge d221_10 rfl,
   fun _ _ _ _ => xl_aln d221_13 rfl,
   fun _ _ _ _ => xl_gf d221_14 xco221 xf_11_7,
   fun _ _ _ => xl_si d221_17 (by decide +kernel),
   fun _ _ _ _ => xl_iln d221_20 rfl,
   fun _ _ _ _ _ => xl_iadd d221_21,
   fun _ _ _ => xl_ic d221_22 (by decide +kernel),
   fun _ _ _ _ _ _ => xl_ist d221_23,
   fun _ _ _ _ hc => xl_inc d221_24 xml221 (by decide) rfl (by decide +kernel) (zz_nl_s1 hc),
   fun _ _ _ => xl_goto d221_27 rfl,
   fun ls a0 h => xl_cv (As := [a0]) (st := []) d221_31 xco221 xm_11_247 (congrArg Nat.succ xnp227) (by decide +kernel) rfl,
   fun _ _ _ _ => xl_ifeq d221_34 rfl,
   fun _ _ _ _ => xl_aln d221_37 rfl,
   fun _ _ _ _ => xl_gf d221_38 xco221 xf_11_227,
   fun _ _ _ _ => xl_ifeq d221_41 rfl,
   fun _ _ _ _ => xl_aln d221_44 rfl,
   fun ls a0 h => xl_cv (As := [a0]) (st := []) d221_45 xco221 xm_11_325 (congrArg Nat.succ xnp228) (by decide +kernel) rfl,
   fun _ _ _ => xl_goto d221_48 rfl,
   fun _ _ _ _ => xl_aln d221_51 rfl,
   fun ls a0 h => xl_cv (As := [a0]) (st := []) d221_52 xco221 xm_11_247 (congrArg Nat.succ xnp227) (by decide +kernel) rfl,
   fun _ _ _ _ => xl_ifne d221_55 rfl,
   fun _ _ _ => xl_ic d221_58 (by decide +kernel),
   fun _ _ _ => xl_iri d221_59 xrt221,
   fun _ _ _ _ => xl_aln d221_60 rfl,
   fun _ _ _ => xl_si d221_61 (by decide +kernel),
   fun _ _ _ => xl_ic d221_64 (by decide +kernel),
   fun _ _ _ => xl_si d221_65 (by decide +kernel),
   fun ls a0 a1 a2 a3 h => xl_cv (As := [a0, a1, a2, a3]) (st := []) d221_68 xco221 xm_11_190 (congrArg Nat.succ xnp207) (by decide +kernel) rfl,
   fun _ _ _ _ => xl_aln d221_71 rfl,
   fun _ _ _ => xl_ic d221_72 (by decide +kernel),
   fun _ _ _ _ _ => xl_pf d221_73 xco221 xf_11_144 (by decide +kernel) rfl,
   fun _ _ _ _ => xl_aln d221_76 rfl,
   fun ls a0 h => xl_cv (As := [a0]) (st := []) d221_77 xco221 xm_11_141 (congrArg Nat.succ xnp165) (by decide +kernel) rfl,
   fun _ _ _ => xl_iri d221_80 xrt221⟩
theorem x221_c6 : ∀ l0 x st h, zz_Y 221 (6, [l0, some (.int x)], st, h) = zz_Y 221 (7, [l0, some (.int x)], .int x :: st, h) := fun _ _ _ _ => xl_iln d221_6 rfl
theorem x221_c30 : ∀ l1 x st h, zz_Y 221 (30, [some (.ref x), l1], st, h) = zz_Y 221 (31, [some (.ref x), l1], .ref x :: st, h) := fun _ _ _ _ => xl_aln d221_30 rfl
/-! 222 FacetSieveModel.begins()V -/
theorem d222_0 : decode (zz_c 222) 0 = .ok (.aload_n 0, 1) := by decide +kernel
theorem d222_1 : decode (zz_c 222) 1 = .ok (.aload_n 0, 1) := by decide +kernel
theorem d222_2 : decode (zz_c 222) 2 = .ok (.getfield 147, 3) := by decide +kernel
theorem d222_5 : decode (zz_c 222) 5 = .ok (.putfield 211, 3) := by decide +kernel
theorem d222_8 : decode (zz_c 222) 8 = .ok (.aload_n 0, 1) := by decide +kernel
theorem d222_9 : decode (zz_c 222) 9 = .ok (.iconst 0, 1) := by decide +kernel
theorem d222_10 : decode (zz_c 222) 10 = .ok (.putfield 147, 3) := by decide +kernel
theorem d222_13 : decode (zz_c 222) 13 = .ok (.aload_n 0, 1) := by decide +kernel
theorem d222_14 : decode (zz_c 222) 14 = .ok (.iconst 0, 1) := by decide +kernel
theorem d222_15 : decode (zz_c 222) 15 = .ok (.putfield 208, 3) := by decide +kernel
theorem d222_18 : decode (zz_c 222) 18 = .ok (.aload_n 0, 1) := by decide +kernel
theorem d222_19 : decode (zz_c 222) 19 = .ok (.iconst (-1), 1) := by decide +kernel
theorem d222_20 : decode (zz_c 222) 20 = .ok (.putfield 20, 3) := by decide +kernel
theorem d222_23 : decode (zz_c 222) 23 = .ok (.aload_n 0, 1) := by decide +kernel
theorem d222_24 : decode (zz_c 222) 24 = .ok (.iconst 0, 1) := by decide +kernel
theorem d222_25 : decode (zz_c 222) 25 = .ok (.putfield 214, 3) := by decide +kernel
theorem d222_28 : decode (zz_c 222) 28 = .ok (.aload_n 0, 1) := by decide +kernel
theorem d222_29 : decode (zz_c 222) 29 = .ok (.invokevirtual 244, 3) := by decide +kernel
theorem d222_32 : decode (zz_c 222) 32 = .ok (.return_, 1) := by decide +kernel
theorem x222 : (∀ x st h, zz_Y 222 (0, [some (.ref x)], st, h) = zz_Y 222 (1, [some (.ref x)], .ref x :: st, h)) ∧ (∀ x st h, zz_Y 222 (1, [some (.ref x)], st, h) = zz_Y 222 (2, [some (.ref x)], .ref x :: st, h)) ∧ (∀ ls a st h, zz_Y 222 (2, ls, .ref a :: st, h) = mo_gf (hp_g h a) 11 3 222 5 ls st h) ∧ (∀ ls a v st h, zz_Y 222 (5, ls, v :: .ref a :: st, h) = mo_pf (hp_g h a) 11 13 .int v a 222 8 ls st h) ∧ (∀ x st h, zz_Y 222 (8, [some (.ref x)], st, h) = zz_Y 222 (9, [some (.ref x)], .ref x :: st, h)) ∧ (∀ ls st h, zz_Y 222 (9, ls, st, h) = zz_Y 222 (10, ls, .int (nI 0) :: st, h)) ∧ (∀ ls a v st h, zz_Y 222 (10, ls, v :: .ref a :: st, h) = mo_pf (hp_g h a) 11 3 .int v a 222 13 ls st h) ∧ (∀ x st h, zz_Y 222 (13, [some (.ref x)], st, h) = zz_Y 222 (14, [some (.ref x)], .ref x :: st, h)) ∧ (∀ ls st h, zz_Y 222 (14, ls, st, h) = zz_Y 222 (15, ls, .int (nI 0) :: st, h)) ∧ (∀ ls a v st h, zz_Y 222 (15, ls, v :: .ref a :: st, h) = mo_pf (hp_g h a) 11 4 .int v a 222 18 ls st h) ∧ (∀ x st h, zz_Y 222 (18, [some (.ref x)], st, h) = zz_Y 222 (19, [some (.ref x)], .ref x :: st, h)) ∧ (∀ ls st h, zz_Y 222 (19, ls, st, h) = zz_Y 222 (20, ls, .int (-1) :: st, h)) ∧ (∀ ls a v st h, zz_Y 222 (20, ls, v :: .ref a :: st, h) = mo_pf (hp_g h a) 11 5 .int v a 222 23 ls st h) ∧ (∀ x st h, zz_Y 222 (23, [some (.ref x)], st, h) = zz_Y 222 (24, [some (.ref x)], .ref x :: st, h)) ∧ (∀ ls st h, zz_Y 222 (24, ls, st, h) = zz_Y 222 (25, ls, .int (nI 0) :: st, h)) ∧ (∀ ls a v st h, zz_Y 222 (25, ls, v :: .ref a :: st, h) = mo_pf (hp_g h a) 11 14 .int v a 222 28 ls st h) ∧ (∀ x st h, zz_Y 222 (28, [some (.ref x)], st, h) = zz_Y 222 (29, [some (.ref x)], .ref x :: st, h)) ∧ (∀ ls a0 h, zz_Y 222 (29, ls, [a0], h) = mo_k 222 32 ls [] (zz_run 223 [a0] h)) ∧ (∀ ls h, zz_Y 222 (32, ls, [], h) = some (none, h)) :=
  ⟨fun _ _ _ => xl_aln d222_0 rfl,
   fun _ _ _ => xl_aln d222_1 rfl,
   fun _ _ _ _ => xl_gf d222_2 xco222 xf_11_147,
   fun _ _ _ _ _ => xl_pf d222_5 xco222 xf_11_211 (by decide +kernel) rfl,
   fun _ _ _ => xl_aln d222_8 rfl,
   fun _ _ _ => xl_ic d222_9 (by decide +kernel),
   fun _ _ _ _ _ => xl_pf d222_10 xco222 xf_11_147 (by decide +kernel) rfl,
   fun _ _ _ => xl_aln d222_13 rfl,
   fun _ _ _ => xl_ic d222_14 (by decide +kernel),
   fun _ _ _ _ _ => xl_pf d222_15 xco222 xf_11_208 (by decide +kernel) rfl,
   fun _ _ _ => xl_aln d222_18 rfl,
   fun _ _ _ => xl_ic d222_19 (by decide +kernel),
   fun _ _ _ _ _ => xl_pf d222_20 xco222 xf_11_20 (by decide +kernel) rfl,
   fun _ _ _ => xl_aln d222_23 rfl,
   fun _ _ _ => xl_ic d222_24 (by decide +kernel),
   fun _ _ _ _ _ => xl_pf d222_25 xco222 xf_11_214 (by decide +kernel) rfl,
   fun _ _ _ => xl_aln d222_28 rfl,
   fun ls a0 h => xl_cv (As := [a0]) (st := []) d222_29 xco222 xm_11_244 (congrArg Nat.succ xnp223) (by decide +kernel) rfl,
   fun _ _ => xl_r d222_32 xrt222⟩
/-! 223 FacetSieveModel.takes()V -/
theorem d223_0 : decode (zz_c 223) 0 = .ok (.aload_n 0, 1) := by decide +kernel
theorem d223_1 : decode (zz_c 223) 1 = .ok (.aload_n 0, 1) := by decide +kernel
theorem d223_2 : decode (zz_c 223) 2 = .ok (.getfield 214, 3) := by decide +kernel
theorem d223_5 : decode (zz_c 223) 5 = .ok (.invokevirtual 217, 3) := by decide +kernel
theorem d223_8 : decode (zz_c 223) 8 = .ok (.bipush 32, 2) := by decide +kernel
theorem d223_10 : decode (zz_c 223) 10 = .ok (.if_icmp .eq 16, 3) := by decide +kernel
theorem d223_13 : decode (zz_c 223) 13 = .ok (.aload_n 0, 1) := by decide +kernel
theorem d223_14 : decode (zz_c 223) 14 = .ok (.aload_n 0, 1) := by decide +kernel
theorem d223_15 : decode (zz_c 223) 15 = .ok (.getfield 214, 3) := by decide +kernel
theorem d223_18 : decode (zz_c 223) 18 = .ok (.invokevirtual 217, 3) := by decide +kernel
theorem d223_21 : decode (zz_c 223) 21 = .ok (.bipush 10, 2) := by decide +kernel
theorem d223_23 : decode (zz_c 223) 23 = .ok (.if_icmp .ne 16, 3) := by decide +kernel
theorem d223_26 : decode (zz_c 223) 26 = .ok (.aload_n 0, 1) := by decide +kernel
theorem d223_27 : decode (zz_c 223) 27 = .ok (.dup, 1) := by decide +kernel
theorem d223_28 : decode (zz_c 223) 28 = .ok (.getfield 214, 3) := by decide +kernel
theorem d223_31 : decode (zz_c 223) 31 = .ok (.iconst 1, 1) := by decide +kernel
theorem d223_32 : decode (zz_c 223) 32 = .ok (.iadd, 1) := by decide +kernel
theorem d223_33 : decode (zz_c 223) 33 = .ok (.putfield 214, 3) := by decide +kernel
theorem d223_36 : decode (zz_c 223) 36 = .ok (.goto (-36), 3) := by decide +kernel
theorem d223_39 : decode (zz_c 223) 39 = .ok (.aload_n 0, 1) := by decide +kernel
theorem d223_40 : decode (zz_c 223) 40 = .ok (.aload_n 0, 1) := by decide +kernel
theorem d223_41 : decode (zz_c 223) 41 = .ok (.getfield 214, 3) := by decide +kernel
theorem d223_44 : decode (zz_c 223) 44 = .ok (.putfield 220, 3) := by decide +kernel
theorem d223_47 : decode (zz_c 223) 47 = .ok (.aload_n 0, 1) := by decide +kernel
theorem d223_48 : decode (zz_c 223) 48 = .ok (.aload_n 0, 1) := by decide +kernel
theorem d223_49 : decode (zz_c 223) 49 = .ok (.getfield 214, 3) := by decide +kernel
theorem d223_52 : decode (zz_c 223) 52 = .ok (.invokevirtual 217, 3) := by decide +kernel
theorem d223_55 : decode (zz_c 223) 55 = .ok (.istore_n 1, 1) := by decide +kernel
theorem d223_56 : decode (zz_c 223) 56 = .ok (.aload_n 0, 1) := by decide +kernel
theorem d223_57 : decode (zz_c 223) 57 = .ok (.lconst 0, 1) := by decide +kernel
theorem d223_58 : decode (zz_c 223) 58 = .ok (.putfield 223, 3) := by decide +kernel
theorem d223_61 : decode (zz_c 223) 61 = .ok (.iload_n 1, 1) := by decide +kernel
theorem d223_62 : decode (zz_c 223) 62 = .ok (.ifCond .ge 11, 3) := by decide +kernel
theorem d223_65 : decode (zz_c 223) 65 = .ok (.aload_n 0, 1) := by decide +kernel
theorem d223_66 : decode (zz_c 223) 66 = .ok (.iconst 0, 1) := by decide +kernel
theorem d223_67 : decode (zz_c 223) 67 = .ok (.putfield 227, 3) := by decide +kernel
theorem d223_70 : decode (zz_c 223) 70 = .ok (.goto 273, 3) := by decide +kernel
theorem d223_73 : decode (zz_c 223) 73 = .ok (.iload_n 1, 1) := by decide +kernel
theorem d223_74 : decode (zz_c 223) 74 = .ok (.invokestatic 230, 3) := by decide +kernel
theorem d223_77 : decode (zz_c 223) 77 = .ok (.ifCond .eq 118, 3) := by decide +kernel
theorem d223_80 : decode (zz_c 223) 80 = .ok (.aload_n 0, 1) := by decide +kernel
theorem d223_81 : decode (zz_c 223) 81 = .ok (.aload_n 0, 1) := by decide +kernel
theorem d223_82 : decode (zz_c 223) 82 = .ok (.getfield 214, 3) := by decide +kernel
theorem d223_85 : decode (zz_c 223) 85 = .ok (.invokevirtual 217, 3) := by decide +kernel
theorem d223_88 : decode (zz_c 223) 88 = .ok (.invokestatic 230, 3) := by decide +kernel
theorem d223_91 : decode (zz_c 223) 91 = .ok (.ifCond .eq 65, 3) := by decide +kernel
theorem d223_94 : decode (zz_c 223) 94 = .ok (.aload_n 0, 1) := by decide +kernel
theorem d223_95 : decode (zz_c 223) 95 = .ok (.aload_n 0, 1) := by decide +kernel
theorem d223_96 : decode (zz_c 223) 96 = .ok (.getfield 214, 3) := by decide +kernel
theorem d223_99 : decode (zz_c 223) 99 = .ok (.aload_n 0, 1) := by decide +kernel
theorem d223_100 : decode (zz_c 223) 100 = .ok (.getfield 220, 3) := by decide +kernel
theorem d223_103 : decode (zz_c 223) 103 = .ok (.isub, 1) := by decide +kernel
theorem d223_104 : decode (zz_c 223) 104 = .ok (.bipush 8, 2) := by decide +kernel
theorem d223_106 : decode (zz_c 223) 106 = .ok (.if_icmp .ge 30, 3) := by decide +kernel
theorem d223_109 : decode (zz_c 223) 109 = .ok (.ldc2_w 233, 3) := by decide +kernel
theorem d223_112 : decode (zz_c 223) 112 = .ok (.aload_n 0, 1) := by decide +kernel
theorem d223_113 : decode (zz_c 223) 113 = .ok (.getfield 223, 3) := by decide +kernel
theorem d223_116 : decode (zz_c 223) 116 = .ok (.lmul, 1) := by decide +kernel
theorem d223_117 : decode (zz_c 223) 117 = .ok (.aload_n 0, 1) := by decide +kernel
theorem d223_118 : decode (zz_c 223) 118 = .ok (.aload_n 0, 1) := by decide +kernel
theorem d223_119 : decode (zz_c 223) 119 = .ok (.getfield 214, 3) := by decide +kernel
theorem d223_122 : decode (zz_c 223) 122 = .ok (.invokevirtual 217, 3) := by decide +kernel
theorem d223_125 : decode (zz_c 223) 125 = .ok (.i2l, 1) := by decide +kernel
theorem d223_126 : decode (zz_c 223) 126 = .ok (.ladd, 1) := by decide +kernel
theorem d223_127 : decode (zz_c 223) 127 = .ok (.ldc2_w 235, 3) := by decide +kernel
theorem d223_130 : decode (zz_c 223) 130 = .ok (.lsub, 1) := by decide +kernel
theorem d223_131 : decode (zz_c 223) 131 = .ok (.lconst 1, 1) := by decide +kernel
theorem d223_132 : decode (zz_c 223) 132 = .ok (.ladd, 1) := by decide +kernel
theorem d223_133 : decode (zz_c 223) 133 = .ok (.goto 7, 3) := by decide +kernel
theorem d223_136 : decode (zz_c 223) 136 = .ok (.aload_n 0, 1) := by decide +kernel
theorem d223_137 : decode (zz_c 223) 137 = .ok (.getfield 223, 3) := by decide +kernel
theorem d223_140 : decode (zz_c 223) 140 = .ok (.putfield 223, 3) := by decide +kernel
theorem d223_143 : decode (zz_c 223) 143 = .ok (.aload_n 0, 1) := by decide +kernel
theorem d223_144 : decode (zz_c 223) 144 = .ok (.dup, 1) := by decide +kernel
theorem d223_145 : decode (zz_c 223) 145 = .ok (.getfield 214, 3) := by decide +kernel
theorem d223_148 : decode (zz_c 223) 148 = .ok (.iconst 1, 1) := by decide +kernel
theorem d223_149 : decode (zz_c 223) 149 = .ok (.iadd, 1) := by decide +kernel
theorem d223_150 : decode (zz_c 223) 150 = .ok (.putfield 214, 3) := by decide +kernel
theorem d223_153 : decode (zz_c 223) 153 = .ok (.goto (-73), 3) := by decide +kernel
theorem d223_156 : decode (zz_c 223) 156 = .ok (.aload_n 0, 1) := by decide +kernel
theorem d223_157 : decode (zz_c 223) 157 = .ok (.aload_n 0, 1) := by decide +kernel
theorem d223_158 : decode (zz_c 223) 158 = .ok (.getfield 214, 3) := by decide +kernel
theorem d223_161 : decode (zz_c 223) 161 = .ok (.aload_n 0, 1) := by decide +kernel
theorem d223_162 : decode (zz_c 223) 162 = .ok (.getfield 220, 3) := by decide +kernel
theorem d223_165 : decode (zz_c 223) 165 = .ok (.isub, 1) := by decide +kernel
theorem d223_166 : decode (zz_c 223) 166 = .ok (.iconst 2, 1) := by decide +kernel
theorem d223_167 : decode (zz_c 223) 167 = .ok (.if_icmp .lt 17, 3) := by decide +kernel
theorem d223_170 : decode (zz_c 223) 170 = .ok (.aload_n 0, 1) := by decide +kernel
theorem d223_171 : decode (zz_c 223) 171 = .ok (.getfield 214, 3) := by decide +kernel
theorem d223_174 : decode (zz_c 223) 174 = .ok (.aload_n 0, 1) := by decide +kernel
theorem d223_175 : decode (zz_c 223) 175 = .ok (.getfield 220, 3) := by decide +kernel
theorem d223_178 : decode (zz_c 223) 178 = .ok (.isub, 1) := by decide +kernel
theorem d223_179 : decode (zz_c 223) 179 = .ok (.bipush 8, 2) := by decide +kernel
theorem d223_181 : decode (zz_c 223) 181 = .ok (.if_icmp .le 7, 3) := by decide +kernel
theorem d223_184 : decode (zz_c 223) 184 = .ok (.iconst 4, 1) := by decide +kernel
theorem d223_185 : decode (zz_c 223) 185 = .ok (.goto 4, 3) := by decide +kernel
theorem d223_188 : decode (zz_c 223) 188 = .ok (.iconst 1, 1) := by decide +kernel
theorem d223_189 : decode (zz_c 223) 189 = .ok (.putfield 227, 3) := by decide +kernel
theorem d223_192 : decode (zz_c 223) 192 = .ok (.goto 151, 3) := by decide +kernel
theorem d223_195 : decode (zz_c 223) 195 = .ok (.iload_n 1, 1) := by decide +kernel
theorem d223_196 : decode (zz_c 223) 196 = .ok (.invokestatic 237, 3) := by decide +kernel
theorem d223_199 : decode (zz_c 223) 199 = .ok (.ifCond .eq 101, 3) := by decide +kernel
theorem d223_202 : decode (zz_c 223) 202 = .ok (.aload_n 0, 1) := by decide +kernel
theorem d223_203 : decode (zz_c 223) 203 = .ok (.aload_n 0, 1) := by decide +kernel
theorem d223_204 : decode (zz_c 223) 204 = .ok (.getfield 214, 3) := by decide +kernel
theorem d223_207 : decode (zz_c 223) 207 = .ok (.invokevirtual 217, 3) := by decide +kernel
theorem d223_210 : decode (zz_c 223) 210 = .ok (.invokestatic 237, 3) := by decide +kernel
theorem d223_213 : decode (zz_c 223) 213 = .ok (.ifCond .eq 62, 3) := by decide +kernel
theorem d223_216 : decode (zz_c 223) 216 = .ok (.aload_n 0, 1) := by decide +kernel
theorem d223_217 : decode (zz_c 223) 217 = .ok (.aload_n 0, 1) := by decide +kernel
theorem d223_218 : decode (zz_c 223) 218 = .ok (.getfield 214, 3) := by decide +kernel
theorem d223_221 : decode (zz_c 223) 221 = .ok (.aload_n 0, 1) := by decide +kernel
theorem d223_222 : decode (zz_c 223) 222 = .ok (.getfield 220, 3) := by decide +kernel
theorem d223_225 : decode (zz_c 223) 225 = .ok (.isub, 1) := by decide +kernel
theorem d223_226 : decode (zz_c 223) 226 = .ok (.iconst 3, 1) := by decide +kernel
theorem d223_227 : decode (zz_c 223) 227 = .ok (.if_icmp .ge 28, 3) := by decide +kernel
theorem d223_230 : decode (zz_c 223) 230 = .ok (.ldc2_w 240, 3) := by decide +kernel
theorem d223_233 : decode (zz_c 223) 233 = .ok (.aload_n 0, 1) := by decide +kernel
theorem d223_234 : decode (zz_c 223) 234 = .ok (.getfield 223, 3) := by decide +kernel
theorem d223_237 : decode (zz_c 223) 237 = .ok (.lmul, 1) := by decide +kernel
theorem d223_238 : decode (zz_c 223) 238 = .ok (.aload_n 0, 1) := by decide +kernel
theorem d223_239 : decode (zz_c 223) 239 = .ok (.aload_n 0, 1) := by decide +kernel
theorem d223_240 : decode (zz_c 223) 240 = .ok (.getfield 214, 3) := by decide +kernel
theorem d223_243 : decode (zz_c 223) 243 = .ok (.invokevirtual 217, 3) := by decide +kernel
theorem d223_246 : decode (zz_c 223) 246 = .ok (.i2l, 1) := by decide +kernel
theorem d223_247 : decode (zz_c 223) 247 = .ok (.ladd, 1) := by decide +kernel
theorem d223_248 : decode (zz_c 223) 248 = .ok (.ldc2_w 242, 3) := by decide +kernel
theorem d223_251 : decode (zz_c 223) 251 = .ok (.lsub, 1) := by decide +kernel
theorem d223_252 : decode (zz_c 223) 252 = .ok (.goto 7, 3) := by decide +kernel
theorem d223_255 : decode (zz_c 223) 255 = .ok (.aload_n 0, 1) := by decide +kernel
theorem d223_256 : decode (zz_c 223) 256 = .ok (.getfield 223, 3) := by decide +kernel
theorem d223_259 : decode (zz_c 223) 259 = .ok (.putfield 223, 3) := by decide +kernel
theorem d223_262 : decode (zz_c 223) 262 = .ok (.aload_n 0, 1) := by decide +kernel
theorem d223_263 : decode (zz_c 223) 263 = .ok (.dup, 1) := by decide +kernel
theorem d223_264 : decode (zz_c 223) 264 = .ok (.getfield 214, 3) := by decide +kernel
theorem d223_267 : decode (zz_c 223) 267 = .ok (.iconst 1, 1) := by decide +kernel
theorem d223_268 : decode (zz_c 223) 268 = .ok (.iadd, 1) := by decide +kernel
theorem d223_269 : decode (zz_c 223) 269 = .ok (.putfield 214, 3) := by decide +kernel
theorem d223_272 : decode (zz_c 223) 272 = .ok (.goto (-70), 3) := by decide +kernel
theorem d223_275 : decode (zz_c 223) 275 = .ok (.aload_n 0, 1) := by decide +kernel
theorem d223_276 : decode (zz_c 223) 276 = .ok (.aload_n 0, 1) := by decide +kernel
theorem d223_277 : decode (zz_c 223) 277 = .ok (.getfield 214, 3) := by decide +kernel
theorem d223_280 : decode (zz_c 223) 280 = .ok (.aload_n 0, 1) := by decide +kernel
theorem d223_281 : decode (zz_c 223) 281 = .ok (.getfield 220, 3) := by decide +kernel
theorem d223_284 : decode (zz_c 223) 284 = .ok (.isub, 1) := by decide +kernel
theorem d223_285 : decode (zz_c 223) 285 = .ok (.iconst 3, 1) := by decide +kernel
theorem d223_286 : decode (zz_c 223) 286 = .ok (.if_icmp .le 7, 3) := by decide +kernel
theorem d223_289 : decode (zz_c 223) 289 = .ok (.iconst 4, 1) := by decide +kernel
theorem d223_290 : decode (zz_c 223) 290 = .ok (.goto 4, 3) := by decide +kernel
theorem d223_293 : decode (zz_c 223) 293 = .ok (.iconst 2, 1) := by decide +kernel
theorem d223_294 : decode (zz_c 223) 294 = .ok (.putfield 227, 3) := by decide +kernel
theorem d223_297 : decode (zz_c 223) 297 = .ok (.goto 46, 3) := by decide +kernel
theorem d223_300 : decode (zz_c 223) 300 = .ok (.aload_n 0, 1) := by decide +kernel
theorem d223_301 : decode (zz_c 223) 301 = .ok (.dup, 1) := by decide +kernel
theorem d223_302 : decode (zz_c 223) 302 = .ok (.getfield 214, 3) := by decide +kernel
theorem d223_305 : decode (zz_c 223) 305 = .ok (.iconst 1, 1) := by decide +kernel
theorem d223_306 : decode (zz_c 223) 306 = .ok (.iadd, 1) := by decide +kernel
theorem d223_307 : decode (zz_c 223) 307 = .ok (.putfield 214, 3) := by decide +kernel
theorem d223_310 : decode (zz_c 223) 310 = .ok (.aload_n 0, 1) := by decide +kernel
theorem d223_311 : decode (zz_c 223) 311 = .ok (.iload_n 1, 1) := by decide +kernel
theorem d223_312 : decode (zz_c 223) 312 = .ok (.i2l, 1) := by decide +kernel
theorem d223_313 : decode (zz_c 223) 313 = .ok (.putfield 223, 3) := by decide +kernel
theorem d223_316 : decode (zz_c 223) 316 = .ok (.aload_n 0, 1) := by decide +kernel
theorem d223_317 : decode (zz_c 223) 317 = .ok (.iload_n 1, 1) := by decide +kernel
theorem d223_318 : decode (zz_c 223) 318 = .ok (.bipush 59, 2) := by decide +kernel
theorem d223_320 : decode (zz_c 223) 320 = .ok (.if_icmp .eq 15, 3) := by decide +kernel
theorem d223_323 : decode (zz_c 223) 323 = .ok (.iload_n 1, 1) := by decide +kernel
theorem d223_324 : decode (zz_c 223) 324 = .ok (.bipush 91, 2) := by decide +kernel
theorem d223_326 : decode (zz_c 223) 326 = .ok (.if_icmp .eq 9, 3) := by decide +kernel
theorem d223_329 : decode (zz_c 223) 329 = .ok (.iload_n 1, 1) := by decide +kernel
theorem d223_330 : decode (zz_c 223) 330 = .ok (.bipush 93, 2) := by decide +kernel
theorem d223_332 : decode (zz_c 223) 332 = .ok (.if_icmp .ne 7, 3) := by decide +kernel
theorem d223_335 : decode (zz_c 223) 335 = .ok (.iconst 3, 1) := by decide +kernel
theorem d223_336 : decode (zz_c 223) 336 = .ok (.goto 4, 3) := by decide +kernel
theorem d223_339 : decode (zz_c 223) 339 = .ok (.iconst 4, 1) := by decide +kernel
theorem d223_340 : decode (zz_c 223) 340 = .ok (.putfield 227, 3) := by decide +kernel
theorem d223_343 : decode (zz_c 223) 343 = .ok (.return_, 1) := by decide +kernel
theorem x223_p0 : (∀ l1 x st h, zz_Y 223 (1, [some (.ref x), l1], st, h) = zz_Y 223 (2, [some (.ref x), l1], .ref x :: st, h)) ∧ (∀ ls a st h, zz_Y 223 (2, ls, .ref a :: st, h) = mo_gf (hp_g h a) 11 14 223 5 ls st h) ∧ (∀ ls a0 a1 h, zz_Y 223 (5, ls, [a1, a0], h) = mo_k 223 8 ls [] (zz_run 224 [a0, a1] h)) ∧ (∀ ls st h, zz_Y 223 (8, ls, st, h) = zz_Y 223 (10, ls, .int (nI 32) :: st, h)) ∧ (∀ ls a b st h, zz_Y 223 (10, ls, .int b :: .int a :: st, h) = if a = b then zz_Y 223 (26, ls, st, h) else zz_Y 223 (13, ls, st, h)) ∧ (∀ l1 x st h, zz_Y 223 (13, [some (.ref x), l1], st, h) = zz_Y 223 (14, [some (.ref x), l1], .ref x :: st, h)) ∧ (∀ l1 x st h, zz_Y 223 (14, [some (.ref x), l1], st, h) = zz_Y 223 (15, [some (.ref x), l1], .ref x :: st, h)) ∧ (∀ ls a st h, zz_Y 223 (15, ls, .ref a :: st, h) = mo_gf (hp_g h a) 11 14 223 18 ls st h) ∧ (∀ ls a0 a1 h, zz_Y 223 (18, ls, [a1, a0], h) = mo_k 223 21 ls [] (zz_run 224 [a0, a1] h)) ∧ (∀ ls st h, zz_Y 223 (21, ls, st, h) = zz_Y 223 (23, ls, .int (nI 10) :: st, h)) ∧ (∀ ls a b st h, zz_Y 223 (23, ls, .int b :: .int a :: st, h) = if a = b then zz_Y 223 (26, ls, st, h) else zz_Y 223 (39, ls, st, h)) ∧ (∀ l1 x st h, zz_Y 223 (26, [some (.ref x), l1], st, h) = zz_Y 223 (27, [some (.ref x), l1], .ref x :: st, h)) ∧ (∀ ls a st h, zz_Y 223 (27, ls, .ref a :: st, h) = zz_Y 223 (28, ls, .ref a :: .ref a :: st, h)) ∧ (∀ ls a st h, zz_Y 223 (28, ls, .ref a :: st, h) = mo_gf (hp_g h a) 11 14 223 31 ls st h) ∧ (∀ ls st h, zz_Y 223 (31, ls, st, h) = zz_Y 223 (32, ls, .int (nI 1) :: st, h)) ∧ (∀ ls a b st h, zz_Y 223 (32, ls, .int b :: .int a :: st, h) = zz_Y 223 (33, ls, .int (a + b) :: st, h)) ∧ (∀ ls a v st h, zz_Y 223 (33, ls, v :: .ref a :: st, h) = mo_pf (hp_g h a) 11 14 .int v a 223 36 ls st h) ∧ (∀ ls st h, zz_Y 223 (36, ls, st, h) = zz_Y 223 (0, ls, st, h)) ∧ (∀ l1 x st h, zz_Y 223 (39, [some (.ref x), l1], st, h) = zz_Y 223 (40, [some (.ref x), l1], .ref x :: st, h)) ∧ (∀ l1 x st h, zz_Y 223 (40, [some (.ref x), l1], st, h) = zz_Y 223 (41, [some (.ref x), l1], .ref x :: st, h)) ∧ (∀ ls a st h, zz_Y 223 (41, ls, .ref a :: st, h) = mo_gf (hp_g h a) 11 14 223 44 ls st h) ∧ (∀ ls a v st h, zz_Y 223 (44, ls, v :: .ref a :: st, h) = mo_pf (hp_g h a) 11 16 .int v a 223 47 ls st h) ∧ (∀ l1 x st h, zz_Y 223 (47, [some (.ref x), l1], st, h) = zz_Y 223 (48, [some (.ref x), l1], .ref x :: st, h)) ∧ (∀ l1 x st h, zz_Y 223 (48, [some (.ref x), l1], st, h) = zz_Y 223 (49, [some (.ref x), l1], .ref x :: st, h)) ∧ (∀ ls a st h, zz_Y 223 (49, ls, .ref a :: st, h) = mo_gf (hp_g h a) 11 14 223 52 ls st h) ∧ (∀ ls a0 a1 h, zz_Y 223 (52, ls, [a1, a0], h) = mo_k 223 55 ls [] (zz_run 224 [a0, a1] h)) ∧ (∀ l0 l1 x st h, zz_nl l0 = true → zz_Y 223 (55, [l0, l1], .int x :: st, h) = zz_Y 223 (56, [l0, some (.int x)], st, h)) ∧ (∀ l1 x st h, zz_Y 223 (56, [some (.ref x), l1], st, h) = zz_Y 223 (57, [some (.ref x), l1], .ref x :: st, h)) ∧ (∀ ls st h, zz_Y 223 (57, ls, st, h) = zz_Y 223 (58, ls, .long (lN 0) :: st, h)) ∧ (∀ ls a v st h, zz_Y 223 (58, ls, v :: .ref a :: st, h) = mo_pf (hp_g h a) 11 17 .long v a 223 61 ls st h) ∧ (∀ l0 x st h, zz_Y 223 (61, [l0, some (.int x)], st, h) = zz_Y 223 (62, [l0, some (.int x)], .int x :: st, h)) ∧ (∀ ls a st h, zz_Y 223 (62, ls, .int a :: st, h) = if a < nI 0 then zz_Y 223 (65, ls, st, h) else zz_Y 223 (73, ls, st, h)) ∧ (∀ l1 x st h, zz_Y 223 (65, [some (.ref x), l1], st, h) = zz_Y 223 (66, [some (.ref x), l1], .ref x :: st, h)) ∧ (∀ ls st h, zz_Y 223 (66, ls, st, h) = zz_Y 223 (67, ls, .int (nI 0) :: st, h)) ∧ (∀ ls a v st h, zz_Y 223 (67, ls, v :: .ref a :: st, h) = mo_pf (hp_g h a) 11 15 .int v a 223 70 ls st h) ∧ (∀ ls st h, zz_Y 223 (70, ls, st, h) = zz_Y 223 (343, ls, st, h)) ∧ (∀ l0 x st h, zz_Y 223 (73, [l0, some (.int x)], st, h) = zz_Y 223 (74, [l0, some (.int x)], .int x :: st, h)) ∧ (∀ ls a0 h, zz_Y 223 (74, ls, [a0], h) = mo_k 223 77 ls [] (zz_run 225 [a0] h)) ∧ (∀ ls a st h, zz_Y 223 (77, ls, .int a :: st, h) = if a = nI 0 then zz_Y 223 (195, ls, st, h) else zz_Y 223 (80, ls, st, h)) ∧ (∀ l1 x st h, zz_Y 223 (81, [some (.ref x), l1], st, h) = zz_Y 223 (82, [some (.ref x), l1], .ref x :: st, h)) ∧ (∀ ls a st h, zz_Y 223 (82, ls, .ref a :: st, h) = mo_gf (hp_g h a) 11 14 223 85 ls st h) ∧ (∀ ls a0 a1 h, zz_Y 223 (85, ls, [a1, a0], h) = mo_k 223 88 ls [] (zz_run 224 [a0, a1] h)) ∧ (∀ ls a0 h, zz_Y 223 (88, ls, [a0], h) = mo_k 223 91 ls [] (zz_run 225 [a0] h)) ∧ (∀ ls a st h, zz_Y 223 (91, ls, .int a :: st, h) = if a = nI 0 then zz_Y 223 (156, ls, st, h) else zz_Y 223 (94, ls, st, h)) ∧ (∀ l1 x st h, zz_Y 223 (94, [some (.ref x), l1], st, h) = zz_Y 223 (95, [some (.ref x), l1], .ref x :: st, h)) ∧ (∀ l1 x st h, zz_Y 223 (95, [some (.ref x), l1], st, h) = zz_Y 223 (96, [some (.ref x), l1], .ref x :: st, h)) ∧ (∀ ls a st h, zz_Y 223 (96, ls, .ref a :: st, h) = mo_gf (hp_g h a) 11 14 223 99 ls st h) ∧ (∀ l1 x st h, zz_Y 223 (99, [some (.ref x), l1], st, h) = zz_Y 223 (100, [some (.ref x), l1], .ref x :: st, h)) ∧ (∀ ls a st h, zz_Y 223 (100, ls, .ref a :: st, h) = mo_gf (hp_g h a) 11 16 223 103 ls st h) ∧ (∀ ls a b st h, zz_Y 223 (103, ls, .int b :: .int a :: st, h) = zz_Y 223 (104, ls, .int (a - b) :: st, h)) ∧ (∀ ls st h, zz_Y 223 (104, ls, st, h) = zz_Y 223 (106, ls, .int (nI 8) :: st, h)) ∧ (∀ ls a b st h, zz_Y 223 (106, ls, .int b :: .int a :: st, h) = if a < b then zz_Y 223 (109, ls, st, h) else zz_Y 223 (136, ls, st, h)) ∧ (∀ ls st h, zz_Y 223 (109, ls, st, h) = zz_Y 223 (112, ls, .long (lN 27) :: st, h)) ∧ (∀ l1 x st h, zz_Y 223 (112, [some (.ref x), l1], st, h) = zz_Y 223 (113, [some (.ref x), l1], .ref x :: st, h)) ∧ (∀ ls a st h, zz_Y 223 (113, ls, .ref a :: st, h) = mo_gf (hp_g h a) 11 17 223 116 ls st h) ∧ (∀ ls a b st h, zz_Y 223 (116, ls, .long b :: .long a :: st, h) = zz_Y 223 (117, ls, .long (a * b) :: st, h)) ∧ (∀ l1 x st h, zz_Y 223 (117, [some (.ref x), l1], st, h) = zz_Y 223 (118, [some (.ref x), l1], .ref x :: st, h)) ∧ (∀ l1 x st h, zz_Y 223 (118, [some (.ref x), l1], st, h) = zz_Y 223 (119, [some (.ref x), l1], .ref x :: st, h)) ∧ (∀ ls a st h, zz_Y 223 (119, ls, .ref a :: st, h) = mo_gf (hp_g h a) 11 14 223 122 ls st h) ∧ (∀ ls a0 a1 s0 s1 h, zz_Y 223 (122, ls, [a1, a0, s0, s1], h) = mo_k 223 125 ls [s0, s1] (zz_run 224 [a0, a1] h)) :=
  ⟨fun _ _ _ _ => xl_aln d223_1 rfl,
   fun _ _ _ _ => xl_gf d223_2 xco223 xf_11_214,
   fun ls a0 a1 h => xl_cv (As := [a0, a1]) (st := []) d223_5 xco223 xm_11_217 (congrArg Nat.succ xnp224) (by decide +kernel) rfl,
   fun _ _ _ => xl_bi d223_8 (by decide +kernel),
   fun _ _ _ _ _ => xl_iceq d223_10 rfl,
   fun _ _ _ _ => xl_aln d223_13 rfl,
   fun _ _ _ _ => xl_aln d223_14 rfl,
   fun _ _ _ _ => xl_gf d223_15 xco223 xf_11_214,
   fun ls a0 a1 h => xl_cv (As := [a0, a1]) (st := []) d223_18 xco223 xm_11_217 (congrArg Nat.succ xnp224) (by decide +kernel) rfl,
   fun _ _ _ => xl_bi d223_21 (by decide +kernel),
   fun _ _ _ _ _ => xl_icne d223_23 rfl,
   fun _ _ _ _ => xl_aln d223_26 rfl,
   fun _ _ _ _ => xl_dupr d223_27,
   fun _ _ _ _ => xl_gf d223_28 xco223 xf_11_214,
   fun _ _ _ => xl_ic d223_31 (by decide +kernel),
   fun _ _ _ _ _ => xl_iadd d223_32,
   fun _ _ _ _ _ => xl_pf d223_33 xco223 xf_11_214 (by decide +kernel) rfl,
   fun _ _ _ => xl_goto d223_36 rfl,
   fun _ _ _ _ => xl_aln d223_39 rfl,
   fun _ _ _ _ => xl_aln d223_40 rfl,
   fun _ _ _ _ => xl_gf d223_41 xco223 xf_11_214,
   fun _ _ _ _ _ => xl_pf d223_44 xco223 xf_11_220 (by decide +kernel) rfl,
   fun _ _ _ _ => xl_aln d223_47 rfl,
   fun _ _ _ _ => xl_aln d223_48 rfl,
   fun _ _ _ _ => xl_gf d223_49 xco223 xf_11_214,
   fun ls a0 a1 h => xl_cv (As := [a0, a1]) (st := []) d223_52 xco223 xm_11_217 (congrArg Nat.succ xnp224) (by decide +kernel) rfl,
   fun _ _ _ _ _ hc => xl_isn d223_55 xml223 (by decide) (zz_nl_s1 hc),
   fun _ _ _ _ => xl_aln d223_56 rfl,
   fun _ _ _ => xl_lc d223_57,
   fun _ _ _ _ _ => xl_pf d223_58 xco223 xf_11_223 (by decide +kernel) rfl,
   fun _ _ _ _ => xl_iln d223_61 rfl,
   fun _ _ _ _ => xl_ifge d223_62 rfl,
   fun _ _ _ _ => xl_aln d223_65 rfl,
   fun _ _ _ => xl_ic d223_66 (by decide +kernel),
   fun _ _ _ _ _ => xl_pf d223_67 xco223 xf_11_227 (by decide +kernel) rfl,
   fun _ _ _ => xl_goto d223_70 rfl,
   fun _ _ _ _ => xl_iln d223_73 rfl,
   fun ls a0 h => xl_cs (As := [a0]) (st := []) d223_74 xco223 xm_11_230 xnp225 (by decide +kernel) rfl,
   fun _ _ _ _ => xl_ifeq d223_77 rfl,
   fun _ _ _ _ => xl_aln d223_81 rfl,
   fun _ _ _ _ => xl_gf d223_82 xco223 xf_11_214,
   fun ls a0 a1 h => xl_cv (As := [a0, a1]) (st := []) d223_85 xco223 xm_11_217 (congrArg Nat.succ xnp224) (by decide +kernel) rfl,
   fun ls a0 h => xl_cs (As := [a0]) (st := []) d223_88 xco223 xm_11_230 xnp225 (by decide +kernel) rfl,
   fun _ _ _ _ => xl_ifeq d223_91 rfl,
   fun _ _ _ _ => xl_aln d223_94 rfl,
   fun _ _ _ _ => xl_aln d223_95 rfl,
   fun _ _ _ _ => xl_gf d223_96 xco223 xf_11_214,
   fun _ _ _ _ => xl_aln d223_99 rfl,
   fun _ _ _ _ => xl_gf d223_100 xco223 xf_11_220,
   fun _ _ _ _ _ => xl_isub d223_103,
   fun _ _ _ => xl_bi d223_104 (by decide +kernel),
   fun _ _ _ _ _ => xl_icge d223_106 rfl,
   fun _ _ _ => xl_jw d223_109 xco223 (by decide +kernel),
   fun _ _ _ _ => xl_aln d223_112 rfl,
   fun _ _ _ _ => xl_gf d223_113 xco223 xf_11_223,
   fun _ _ _ _ _ => xl_lmul d223_116,
   fun _ _ _ _ => xl_aln d223_117 rfl,
   fun _ _ _ _ => xl_aln d223_118 rfl,
   fun _ _ _ _ => xl_gf d223_119 xco223 xf_11_214,
   fun ls a0 a1 s0 s1 h => xl_cv (As := [a0, a1]) (st := [s0, s1]) d223_122 xco223 xm_11_217 (congrArg Nat.succ xnp224) (by decide +kernel) rfl⟩
theorem x223_p1 : (∀ ls a st h, zz_Y 223 (125, ls, .int a :: st, h) = zz_Y 223 (126, ls, .long a.toInt64 :: st, h)) ∧ (∀ ls a b st h, zz_Y 223 (126, ls, .long b :: .long a :: st, h) = zz_Y 223 (127, ls, .long (a + b) :: st, h)) ∧ (∀ ls st h, zz_Y 223 (127, ls, st, h) = zz_Y 223 (130, ls, .long (lN 97) :: st, h)) ∧ (∀ ls a b st h, zz_Y 223 (130, ls, .long b :: .long a :: st, h) = zz_Y 223 (131, ls, .long (a - b) :: st, h)) ∧ (∀ ls st h, zz_Y 223 (131, ls, st, h) = zz_Y 223 (132, ls, .long (lN 1) :: st, h)) ∧ (∀ ls a b st h, zz_Y 223 (132, ls, .long b :: .long a :: st, h) = zz_Y 223 (133, ls, .long (a + b) :: st, h)) ∧ (∀ ls st h, zz_Y 223 (133, ls, st, h) = zz_Y 223 (140, ls, st, h)) ∧ (∀ l1 x st h, zz_Y 223 (136, [some (.ref x), l1], st, h) = zz_Y 223 (137, [some (.ref x), l1], .ref x :: st, h)) ∧ (∀ ls a st h, zz_Y 223 (137, ls, .ref a :: st, h) = mo_gf (hp_g h a) 11 17 223 140 ls st h) ∧ (∀ ls a v st h, zz_Y 223 (140, ls, v :: .ref a :: st, h) = mo_pf (hp_g h a) 11 17 .long v a 223 143 ls st h) ∧ (∀ l1 x st h, zz_Y 223 (143, [some (.ref x), l1], st, h) = zz_Y 223 (144, [some (.ref x), l1], .ref x :: st, h)) ∧ (∀ ls a st h, zz_Y 223 (144, ls, .ref a :: st, h) = zz_Y 223 (145, ls, .ref a :: .ref a :: st, h)) ∧ (∀ ls a st h, zz_Y 223 (145, ls, .ref a :: st, h) = mo_gf (hp_g h a) 11 14 223 148 ls st h) ∧ (∀ ls st h, zz_Y 223 (148, ls, st, h) = zz_Y 223 (149, ls, .int (nI 1) :: st, h)) ∧ (∀ ls a b st h, zz_Y 223 (149, ls, .int b :: .int a :: st, h) = zz_Y 223 (150, ls, .int (a + b) :: st, h)) ∧ (∀ ls a v st h, zz_Y 223 (150, ls, v :: .ref a :: st, h) = mo_pf (hp_g h a) 11 14 .int v a 223 153 ls st h) ∧ (∀ ls st h, zz_Y 223 (153, ls, st, h) = zz_Y 223 (80, ls, st, h)) ∧ (∀ l1 x st h, zz_Y 223 (156, [some (.ref x), l1], st, h) = zz_Y 223 (157, [some (.ref x), l1], .ref x :: st, h)) ∧ (∀ l1 x st h, zz_Y 223 (157, [some (.ref x), l1], st, h) = zz_Y 223 (158, [some (.ref x), l1], .ref x :: st, h)) ∧ (∀ ls a st h, zz_Y 223 (158, ls, .ref a :: st, h) = mo_gf (hp_g h a) 11 14 223 161 ls st h) ∧ (∀ l1 x st h, zz_Y 223 (161, [some (.ref x), l1], st, h) = zz_Y 223 (162, [some (.ref x), l1], .ref x :: st, h)) ∧ (∀ ls a st h, zz_Y 223 (162, ls, .ref a :: st, h) = mo_gf (hp_g h a) 11 16 223 165 ls st h) ∧ (∀ ls a b st h, zz_Y 223 (165, ls, .int b :: .int a :: st, h) = zz_Y 223 (166, ls, .int (a - b) :: st, h)) ∧ (∀ ls st h, zz_Y 223 (166, ls, st, h) = zz_Y 223 (167, ls, .int (nI 2) :: st, h)) ∧ (∀ ls a b st h, zz_Y 223 (167, ls, .int b :: .int a :: st, h) = if a < b then zz_Y 223 (184, ls, st, h) else zz_Y 223 (170, ls, st, h)) ∧ (∀ l1 x st h, zz_Y 223 (170, [some (.ref x), l1], st, h) = zz_Y 223 (171, [some (.ref x), l1], .ref x :: st, h)) ∧ (∀ ls a st h, zz_Y 223 (171, ls, .ref a :: st, h) = mo_gf (hp_g h a) 11 14 223 174 ls st h) ∧ (∀ l1 x st h, zz_Y 223 (174, [some (.ref x), l1], st, h) = zz_Y 223 (175, [some (.ref x), l1], .ref x :: st, h)) ∧ (∀ ls a st h, zz_Y 223 (175, ls, .ref a :: st, h) = mo_gf (hp_g h a) 11 16 223 178 ls st h) ∧ (∀ ls a b st h, zz_Y 223 (178, ls, .int b :: .int a :: st, h) = zz_Y 223 (179, ls, .int (a - b) :: st, h)) ∧ (∀ ls st h, zz_Y 223 (179, ls, st, h) = zz_Y 223 (181, ls, .int (nI 8) :: st, h)) ∧ (∀ ls a b st h, zz_Y 223 (181, ls, .int b :: .int a :: st, h) = if b < a then zz_Y 223 (184, ls, st, h) else zz_Y 223 (188, ls, st, h)) ∧ (∀ ls st h, zz_Y 223 (184, ls, st, h) = zz_Y 223 (185, ls, .int (nI 4) :: st, h)) ∧ (∀ ls st h, zz_Y 223 (185, ls, st, h) = zz_Y 223 (189, ls, st, h)) ∧ (∀ ls st h, zz_Y 223 (188, ls, st, h) = zz_Y 223 (189, ls, .int (nI 1) :: st, h)) ∧ (∀ ls a v st h, zz_Y 223 (189, ls, v :: .ref a :: st, h) = mo_pf (hp_g h a) 11 15 .int v a 223 192 ls st h) ∧ (∀ ls st h, zz_Y 223 (192, ls, st, h) = zz_Y 223 (343, ls, st, h)) ∧ (∀ l0 x st h, zz_Y 223 (195, [l0, some (.int x)], st, h) = zz_Y 223 (196, [l0, some (.int x)], .int x :: st, h)) ∧ (∀ ls a0 h, zz_Y 223 (196, ls, [a0], h) = mo_k 223 199 ls [] (zz_run 226 [a0] h)) ∧ (∀ ls a st h, zz_Y 223 (199, ls, .int a :: st, h) = if a = nI 0 then zz_Y 223 (300, ls, st, h) else zz_Y 223 (202, ls, st, h)) ∧ (∀ l1 x st h, zz_Y 223 (203, [some (.ref x), l1], st, h) = zz_Y 223 (204, [some (.ref x), l1], .ref x :: st, h)) ∧ (∀ ls a st h, zz_Y 223 (204, ls, .ref a :: st, h) = mo_gf (hp_g h a) 11 14 223 207 ls st h) ∧ (∀ ls a0 a1 h, zz_Y 223 (207, ls, [a1, a0], h) = mo_k 223 210 ls [] (zz_run 224 [a0, a1] h)) ∧ (∀ ls a0 h, zz_Y 223 (210, ls, [a0], h) = mo_k 223 213 ls [] (zz_run 226 [a0] h)) ∧ (∀ ls a st h, zz_Y 223 (213, ls, .int a :: st, h) = if a = nI 0 then zz_Y 223 (275, ls, st, h) else zz_Y 223 (216, ls, st, h)) ∧ (∀ l1 x st h, zz_Y 223 (216, [some (.ref x), l1], st, h) = zz_Y 223 (217, [some (.ref x), l1], .ref x :: st, h)) ∧ (∀ l1 x st h, zz_Y 223 (217, [some (.ref x), l1], st, h) = zz_Y 223 (218, [some (.ref x), l1], .ref x :: st, h)) ∧ (∀ ls a st h, zz_Y 223 (218, ls, .ref a :: st, h) = mo_gf (hp_g h a) 11 14 223 221 ls st h) ∧ (∀ l1 x st h, zz_Y 223 (221, [some (.ref x), l1], st, h) = zz_Y 223 (222, [some (.ref x), l1], .ref x :: st, h)) ∧ (∀ ls a st h, zz_Y 223 (222, ls, .ref a :: st, h) = mo_gf (hp_g h a) 11 16 223 225 ls st h) ∧ (∀ ls a b st h, zz_Y 223 (225, ls, .int b :: .int a :: st, h) = zz_Y 223 (226, ls, .int (a - b) :: st, h)) ∧ (∀ ls st h, zz_Y 223 (226, ls, st, h) = zz_Y 223 (227, ls, .int (nI 3) :: st, h)) ∧ (∀ ls a b st h, zz_Y 223 (227, ls, .int b :: .int a :: st, h) = if a < b then zz_Y 223 (230, ls, st, h) else zz_Y 223 (255, ls, st, h)) ∧ (∀ ls st h, zz_Y 223 (230, ls, st, h) = zz_Y 223 (233, ls, .long (lN 10) :: st, h)) ∧ (∀ l1 x st h, zz_Y 223 (233, [some (.ref x), l1], st, h) = zz_Y 223 (234, [some (.ref x), l1], .ref x :: st, h)) ∧ (∀ ls a st h, zz_Y 223 (234, ls, .ref a :: st, h) = mo_gf (hp_g h a) 11 17 223 237 ls st h) ∧ (∀ ls a b st h, zz_Y 223 (237, ls, .long b :: .long a :: st, h) = zz_Y 223 (238, ls, .long (a * b) :: st, h)) ∧ (∀ l1 x st h, zz_Y 223 (238, [some (.ref x), l1], st, h) = zz_Y 223 (239, [some (.ref x), l1], .ref x :: st, h)) ∧ (∀ l1 x st h, zz_Y 223 (239, [some (.ref x), l1], st, h) = zz_Y 223 (240, [some (.ref x), l1], .ref x :: st, h)) ∧ (∀ ls a st h, zz_Y 223 (240, ls, .ref a :: st, h) = mo_gf (hp_g h a) 11 14 223 243 ls st h) :=
  ⟨fun _ _ _ _ => xl_i2l d223_125,
   fun _ _ _ _ _ => xl_ladd d223_126,
   fun _ _ _ => xl_jw d223_127 xco223 (by decide +kernel),
   fun _ _ _ _ _ => xl_lsub d223_130,
   fun _ _ _ => xl_lc d223_131,
   fun _ _ _ _ _ => xl_ladd d223_132,
   fun _ _ _ => xl_goto d223_133 rfl,
   fun _ _ _ _ => xl_aln d223_136 rfl,
   fun _ _ _ _ => xl_gf d223_137 xco223 xf_11_223,
   fun _ _ _ _ _ => xl_pf d223_140 xco223 xf_11_223 (by decide +kernel) rfl,
   fun _ _ _ _ => xl_aln d223_143 rfl,
   fun _ _ _ _ => xl_dupr d223_144,
   fun _ _ _ _ => xl_gf d223_145 xco223 xf_11_214,
   fun _ _ _ => xl_ic d223_148 (by decide +kernel),
   fun _ _ _ _ _ => xl_iadd d223_149,
   fun _ _ _ _ _ => xl_pf d223_150 xco223 xf_11_214 (by decide +kernel) rfl,
   fun _ _ _ => xl_goto d223_153 rfl,
   fun _ _ _ _ => xl_aln d223_156 rfl,
   fun _ _ _ _ => xl_aln d223_157 rfl,
   fun _ _ _ _ => xl_gf d223_158 xco223 xf_11_214,
   fun _ _ _ _ => xl_aln d223_161 rfl,
   fun _ _ _ _ => xl_gf d223_162 xco223 xf_11_220,
   fun _ _ _ _ _ => xl_isub d223_165,
   fun _ _ _ => xl_ic d223_166 (by decide +kernel),
   fun _ _ _ _ _ => xl_iclt d223_167 rfl,
   fun _ _ _ _ => xl_aln d223_170 rfl,
   fun _ _ _ _ => xl_gf d223_171 xco223 xf_11_214,
   fun _ _ _ _ => xl_aln d223_174 rfl,
   fun _ _ _ _ => xl_gf d223_175 xco223 xf_11_220,
   fun _ _ _ _ _ => xl_isub d223_178,
   fun _ _ _ => xl_bi d223_179 (by decide +kernel),
   fun _ _ _ _ _ => xl_icle d223_181 rfl,
   fun _ _ _ => xl_ic d223_184 (by decide +kernel),
   fun _ _ _ => xl_goto d223_185 rfl,
   fun _ _ _ => xl_ic d223_188 (by decide +kernel),
   fun _ _ _ _ _ => xl_pf d223_189 xco223 xf_11_227 (by decide +kernel) rfl,
   fun _ _ _ => xl_goto d223_192 rfl,
   fun _ _ _ _ => xl_iln d223_195 rfl,
   fun ls a0 h => xl_cs (As := [a0]) (st := []) d223_196 xco223 xm_11_237 xnp226 (by decide +kernel) rfl,
   fun _ _ _ _ => xl_ifeq d223_199 rfl,
   fun _ _ _ _ => xl_aln d223_203 rfl,
   fun _ _ _ _ => xl_gf d223_204 xco223 xf_11_214,
   fun ls a0 a1 h => xl_cv (As := [a0, a1]) (st := []) d223_207 xco223 xm_11_217 (congrArg Nat.succ xnp224) (by decide +kernel) rfl,
   fun ls a0 h => xl_cs (As := [a0]) (st := []) d223_210 xco223 xm_11_237 xnp226 (by decide +kernel) rfl,
   fun _ _ _ _ => xl_ifeq d223_213 rfl,
   fun _ _ _ _ => xl_aln d223_216 rfl,
   fun _ _ _ _ => xl_aln d223_217 rfl,
   fun _ _ _ _ => xl_gf d223_218 xco223 xf_11_214,
   fun _ _ _ _ => xl_aln d223_221 rfl,
   fun _ _ _ _ => xl_gf d223_222 xco223 xf_11_220,
   fun _ _ _ _ _ => xl_isub d223_225,
   fun _ _ _ => xl_ic d223_226 (by decide +kernel),
   fun _ _ _ _ _ => xl_icge d223_227 rfl,
   fun _ _ _ => xl_jw d223_230 xco223 (by decide +kernel),
   fun _ _ _ _ => xl_aln d223_233 rfl,
   fun _ _ _ _ => xl_gf d223_234 xco223 xf_11_223,
   fun _ _ _ _ _ => xl_lmul d223_237,
   fun _ _ _ _ => xl_aln d223_238 rfl,
   fun _ _ _ _ => xl_aln d223_239 rfl,
   fun _ _ _ _ => xl_gf d223_240 xco223 xf_11_214⟩
theorem x223_p2 : (∀ ls a0 a1 s0 s1 h, zz_Y 223 (243, ls, [a1, a0, s0, s1], h) = mo_k 223 246 ls [s0, s1] (zz_run 224 [a0, a1] h)) ∧ (∀ ls a st h, zz_Y 223 (246, ls, .int a :: st, h) = zz_Y 223 (247, ls, .long a.toInt64 :: st, h)) ∧ (∀ ls a b st h, zz_Y 223 (247, ls, .long b :: .long a :: st, h) = zz_Y 223 (248, ls, .long (a + b) :: st, h)) ∧ (∀ ls st h, zz_Y 223 (248, ls, st, h) = zz_Y 223 (251, ls, .long (lN 48) :: st, h)) ∧ (∀ ls a b st h, zz_Y 223 (251, ls, .long b :: .long a :: st, h) = zz_Y 223 (252, ls, .long (a - b) :: st, h)) ∧ (∀ ls st h, zz_Y 223 (252, ls, st, h) = zz_Y 223 (259, ls, st, h)) ∧ (∀ l1 x st h, zz_Y 223 (255, [some (.ref x), l1], st, h) = zz_Y 223 (256, [some (.ref x), l1], .ref x :: st, h)) ∧ (∀ ls a st h, zz_Y 223 (256, ls, .ref a :: st, h) = mo_gf (hp_g h a) 11 17 223 259 ls st h) ∧ (∀ ls a v st h, zz_Y 223 (259, ls, v :: .ref a :: st, h) = mo_pf (hp_g h a) 11 17 .long v a 223 262 ls st h) ∧ (∀ l1 x st h, zz_Y 223 (262, [some (.ref x), l1], st, h) = zz_Y 223 (263, [some (.ref x), l1], .ref x :: st, h)) ∧ (∀ ls a st h, zz_Y 223 (263, ls, .ref a :: st, h) = zz_Y 223 (264, ls, .ref a :: .ref a :: st, h)) ∧ (∀ ls a st h, zz_Y 223 (264, ls, .ref a :: st, h) = mo_gf (hp_g h a) 11 14 223 267 ls st h) ∧ (∀ ls st h, zz_Y 223 (267, ls, st, h) = zz_Y 223 (268, ls, .int (nI 1) :: st, h)) ∧ (∀ ls a b st h, zz_Y 223 (268, ls, .int b :: .int a :: st, h) = zz_Y 223 (269, ls, .int (a + b) :: st, h)) ∧ (∀ ls a v st h, zz_Y 223 (269, ls, v :: .ref a :: st, h) = mo_pf (hp_g h a) 11 14 .int v a 223 272 ls st h) ∧ (∀ ls st h, zz_Y 223 (272, ls, st, h) = zz_Y 223 (202, ls, st, h)) ∧ (∀ l1 x st h, zz_Y 223 (275, [some (.ref x), l1], st, h) = zz_Y 223 (276, [some (.ref x), l1], .ref x :: st, h)) ∧ (∀ l1 x st h, zz_Y 223 (276, [some (.ref x), l1], st, h) = zz_Y 223 (277, [some (.ref x), l1], .ref x :: st, h)) ∧ (∀ ls a st h, zz_Y 223 (277, ls, .ref a :: st, h) = mo_gf (hp_g h a) 11 14 223 280 ls st h) ∧ (∀ l1 x st h, zz_Y 223 (280, [some (.ref x), l1], st, h) = zz_Y 223 (281, [some (.ref x), l1], .ref x :: st, h)) ∧ (∀ ls a st h, zz_Y 223 (281, ls, .ref a :: st, h) = mo_gf (hp_g h a) 11 16 223 284 ls st h) ∧ (∀ ls a b st h, zz_Y 223 (284, ls, .int b :: .int a :: st, h) = zz_Y 223 (285, ls, .int (a - b) :: st, h)) ∧ (∀ ls st h, zz_Y 223 (285, ls, st, h) = zz_Y 223 (286, ls, .int (nI 3) :: st, h)) ∧ (∀ ls a b st h, zz_Y 223 (286, ls, .int b :: .int a :: st, h) = if b < a then zz_Y 223 (289, ls, st, h) else zz_Y 223 (293, ls, st, h)) ∧ (∀ ls st h, zz_Y 223 (289, ls, st, h) = zz_Y 223 (290, ls, .int (nI 4) :: st, h)) ∧ (∀ ls st h, zz_Y 223 (290, ls, st, h) = zz_Y 223 (294, ls, st, h)) ∧ (∀ ls st h, zz_Y 223 (293, ls, st, h) = zz_Y 223 (294, ls, .int (nI 2) :: st, h)) ∧ (∀ ls a v st h, zz_Y 223 (294, ls, v :: .ref a :: st, h) = mo_pf (hp_g h a) 11 15 .int v a 223 297 ls st h) ∧ (∀ ls st h, zz_Y 223 (297, ls, st, h) = zz_Y 223 (343, ls, st, h)) ∧ (∀ l1 x st h, zz_Y 223 (300, [some (.ref x), l1], st, h) = zz_Y 223 (301, [some (.ref x), l1], .ref x :: st, h)) ∧ (∀ ls a st h, zz_Y 223 (301, ls, .ref a :: st, h) = zz_Y 223 (302, ls, .ref a :: .ref a :: st, h)) ∧ (∀ ls a st h, zz_Y 223 (302, ls, .ref a :: st, h) = mo_gf (hp_g h a) 11 14 223 305 ls st h) ∧ (∀ ls st h, zz_Y 223 (305, ls, st, h) = zz_Y 223 (306, ls, .int (nI 1) :: st, h)) ∧ (∀ ls a b st h, zz_Y 223 (306, ls, .int b :: .int a :: st, h) = zz_Y 223 (307, ls, .int (a + b) :: st, h)) ∧ (∀ ls a v st h, zz_Y 223 (307, ls, v :: .ref a :: st, h) = mo_pf (hp_g h a) 11 14 .int v a 223 310 ls st h) ∧ (∀ l1 x st h, zz_Y 223 (310, [some (.ref x), l1], st, h) = zz_Y 223 (311, [some (.ref x), l1], .ref x :: st, h)) ∧ (∀ l0 x st h, zz_Y 223 (311, [l0, some (.int x)], st, h) = zz_Y 223 (312, [l0, some (.int x)], .int x :: st, h)) ∧ (∀ ls a st h, zz_Y 223 (312, ls, .int a :: st, h) = zz_Y 223 (313, ls, .long a.toInt64 :: st, h)) ∧ (∀ ls a v st h, zz_Y 223 (313, ls, v :: .ref a :: st, h) = mo_pf (hp_g h a) 11 17 .long v a 223 316 ls st h) ∧ (∀ l1 x st h, zz_Y 223 (316, [some (.ref x), l1], st, h) = zz_Y 223 (317, [some (.ref x), l1], .ref x :: st, h)) ∧ (∀ l0 x st h, zz_Y 223 (317, [l0, some (.int x)], st, h) = zz_Y 223 (318, [l0, some (.int x)], .int x :: st, h)) ∧ (∀ ls st h, zz_Y 223 (318, ls, st, h) = zz_Y 223 (320, ls, .int (nI 59) :: st, h)) ∧ (∀ ls a b st h, zz_Y 223 (320, ls, .int b :: .int a :: st, h) = if a = b then zz_Y 223 (335, ls, st, h) else zz_Y 223 (323, ls, st, h)) ∧ (∀ l0 x st h, zz_Y 223 (323, [l0, some (.int x)], st, h) = zz_Y 223 (324, [l0, some (.int x)], .int x :: st, h)) ∧ (∀ ls st h, zz_Y 223 (324, ls, st, h) = zz_Y 223 (326, ls, .int (nI 91) :: st, h)) ∧ (∀ ls a b st h, zz_Y 223 (326, ls, .int b :: .int a :: st, h) = if a = b then zz_Y 223 (335, ls, st, h) else zz_Y 223 (329, ls, st, h)) ∧ (∀ l0 x st h, zz_Y 223 (329, [l0, some (.int x)], st, h) = zz_Y 223 (330, [l0, some (.int x)], .int x :: st, h)) ∧ (∀ ls st h, zz_Y 223 (330, ls, st, h) = zz_Y 223 (332, ls, .int (nI 93) :: st, h)) ∧ (∀ ls a b st h, zz_Y 223 (332, ls, .int b :: .int a :: st, h) = if a = b then zz_Y 223 (335, ls, st, h) else zz_Y 223 (339, ls, st, h)) ∧ (∀ ls st h, zz_Y 223 (335, ls, st, h) = zz_Y 223 (336, ls, .int (nI 3) :: st, h)) ∧ (∀ ls st h, zz_Y 223 (336, ls, st, h) = zz_Y 223 (340, ls, st, h)) ∧ (∀ ls st h, zz_Y 223 (339, ls, st, h) = zz_Y 223 (340, ls, .int (nI 4) :: st, h)) ∧ (∀ ls a v st h, zz_Y 223 (340, ls, v :: .ref a :: st, h) = mo_pf (hp_g h a) 11 15 .int v a 223 343 ls st h) ∧ (∀ ls h, zz_Y 223 (343, ls, [], h) = some (none, h)) :=
  ⟨fun ls a0 a1 s0 s1 h => xl_cv (As := [a0, a1]) (st := [s0, s1]) d223_243 xco223 xm_11_217 (congrArg Nat.succ xnp224) (by decide +kernel) rfl,
   fun _ _ _ _ => xl_i2l d223_246,
   fun _ _ _ _ _ => xl_ladd d223_247,
   fun _ _ _ => xl_jw d223_248 xco223 (by decide +kernel),
   fun _ _ _ _ _ => xl_lsub d223_251,
   fun _ _ _ => xl_goto d223_252 rfl,
   fun _ _ _ _ => xl_aln d223_255 rfl,
   fun _ _ _ _ => xl_gf d223_256 xco223 xf_11_223,
   fun _ _ _ _ _ => xl_pf d223_259 xco223 xf_11_223 (by decide +kernel) rfl,
   fun _ _ _ _ => xl_aln d223_262 rfl,
   fun _ _ _ _ => xl_dupr d223_263,
   fun _ _ _ _ => xl_gf d223_264 xco223 xf_11_214,
   fun _ _ _ => xl_ic d223_267 (by decide +kernel),
   fun _ _ _ _ _ => xl_iadd d223_268,
   fun _ _ _ _ _ => xl_pf d223_269 xco223 xf_11_214 (by decide +kernel) rfl,
   fun _ _ _ => xl_goto d223_272 rfl,
   fun _ _ _ _ => xl_aln d223_275 rfl,
   fun _ _ _ _ => xl_aln d223_276 rfl,
   fun _ _ _ _ => xl_gf d223_277 xco223 xf_11_214,
   fun _ _ _ _ => xl_aln d223_280 rfl,
   fun _ _ _ _ => xl_gf d223_281 xco223 xf_11_220,
   fun _ _ _ _ _ => xl_isub d223_284,
   fun _ _ _ => xl_ic d223_285 (by decide +kernel),
   fun _ _ _ _ _ => xl_icle d223_286 rfl,
   fun _ _ _ => xl_ic d223_289 (by decide +kernel),
   fun _ _ _ => xl_goto d223_290 rfl,
   fun _ _ _ => xl_ic d223_293 (by decide +kernel),
   fun _ _ _ _ _ => xl_pf d223_294 xco223 xf_11_227 (by decide +kernel) rfl,
   fun _ _ _ => xl_goto d223_297 rfl,
   fun _ _ _ _ => xl_aln d223_300 rfl,
   fun _ _ _ _ => xl_dupr d223_301,
   fun _ _ _ _ => xl_gf d223_302 xco223 xf_11_214,
   fun _ _ _ => xl_ic d223_305 (by decide +kernel),
   fun _ _ _ _ _ => xl_iadd d223_306,
   fun _ _ _ _ _ => xl_pf d223_307 xco223 xf_11_214 (by decide +kernel) rfl,
   fun _ _ _ _ => xl_aln d223_310 rfl,
   fun _ _ _ _ => xl_iln d223_311 rfl,
   fun _ _ _ _ => xl_i2l d223_312,
   fun _ _ _ _ _ => xl_pf d223_313 xco223 xf_11_223 (by decide +kernel) rfl,
   fun _ _ _ _ => xl_aln d223_316 rfl,
   fun _ _ _ _ => xl_iln d223_317 rfl,
   fun _ _ _ => xl_bi d223_318 (by decide +kernel),
   fun _ _ _ _ _ => xl_iceq d223_320 rfl,
   fun _ _ _ _ => xl_iln d223_323 rfl,
   fun _ _ _ => xl_bi d223_324 (by decide +kernel),
   fun _ _ _ _ _ => xl_iceq d223_326 rfl,
   fun _ _ _ _ => xl_iln d223_329 rfl,
   fun _ _ _ => xl_bi d223_330 (by decide +kernel),
   fun _ _ _ _ _ => xl_icne d223_332 rfl,
   fun _ _ _ => xl_ic d223_335 (by decide +kernel),
   fun _ _ _ => xl_goto d223_336 rfl,
   fun _ _ _ => xl_ic d223_339 (by decide +kernel),
   fun _ _ _ _ _ => xl_pf d223_340 xco223 xf_11_227 (by decide +kernel) rfl,
   fun _ _ => xl_r d223_343 xrt223⟩
theorem x223_c0 : ∀ l1 x st h, zz_Y 223 (0, [some (.ref x), l1], st, h) = zz_Y 223 (1, [some (.ref x), l1], .ref x :: st, h) := fun _ _ _ _ => xl_aln d223_0 rfl
theorem x223_c80 : ∀ l1 x st h, zz_Y 223 (80, [some (.ref x), l1], st, h) = zz_Y 223 (81, [some (.ref x), l1], .ref x :: st, h) := fun _ _ _ _ => xl_aln d223_80 rfl
theorem x223_c202 : ∀ l1 x st h, zz_Y 223 (202, [some (.ref x), l1], st, h) = zz_Y 223 (203, [some (.ref x), l1], .ref x :: st, h) := fun _ _ _ _ => xl_aln d223_202 rfl
/-! 224 FacetSieveModel.byteAt(I)I -/
theorem d224_0 : decode (zz_c 224) 0 = .ok (.iload_n 1, 1) := by decide +kernel
theorem d224_1 : decode (zz_c 224) 1 = .ok (.aload_n 0, 1) := by decide +kernel
theorem d224_2 : decode (zz_c 224) 2 = .ok (.getfield 211, 3) := by decide +kernel
theorem d224_5 : decode (zz_c 224) 5 = .ok (.if_icmp .ge 12, 3) := by decide +kernel
theorem d224_8 : decode (zz_c 224) 8 = .ok (.aload_n 0, 1) := by decide +kernel
theorem d224_9 : decode (zz_c 224) 9 = .ok (.getfield 13, 3) := by decide +kernel
theorem d224_12 : decode (zz_c 224) 12 = .ok (.iload_n 1, 1) := by decide +kernel
theorem d224_13 : decode (zz_c 224) 13 = .ok (.iaload, 1) := by decide +kernel
theorem d224_14 : decode (zz_c 224) 14 = .ok (.goto 4, 3) := by decide +kernel
theorem d224_17 : decode (zz_c 224) 17 = .ok (.iconst (-1), 1) := by decide +kernel
theorem d224_18 : decode (zz_c 224) 18 = .ok (.ireturn, 1) := by decide +kernel
theorem x224 : (∀ l0 x st h, zz_Y 224 (0, [l0, some (.int x)], st, h) = zz_Y 224 (1, [l0, some (.int x)], .int x :: st, h)) ∧ (∀ l1 x st h, zz_Y 224 (1, [some (.ref x), l1], st, h) = zz_Y 224 (2, [some (.ref x), l1], .ref x :: st, h)) ∧ (∀ ls a st h, zz_Y 224 (2, ls, .ref a :: st, h) = mo_gf (hp_g h a) 11 13 224 5 ls st h) ∧ (∀ ls a b st h, zz_Y 224 (5, ls, .int b :: .int a :: st, h) = if a < b then zz_Y 224 (8, ls, st, h) else zz_Y 224 (17, ls, st, h)) ∧ (∀ l1 x st h, zz_Y 224 (8, [some (.ref x), l1], st, h) = zz_Y 224 (9, [some (.ref x), l1], .ref x :: st, h)) ∧ (∀ ls a st h, zz_Y 224 (9, ls, .ref a :: st, h) = mo_gf (hp_g h a) 11 1 224 12 ls st h) ∧ (∀ l0 x st h, zz_Y 224 (12, [l0, some (.int x)], st, h) = zz_Y 224 (13, [l0, some (.int x)], .int x :: st, h)) ∧ (∀ ls a i st h, zz_Y 224 (13, ls, .int i :: .ref a :: st, h) = mo_ia (hp_g h a) i a 224 14 ls st h) ∧ (∀ ls st h, zz_Y 224 (14, ls, st, h) = zz_Y 224 (18, ls, st, h)) ∧ (∀ ls st h, zz_Y 224 (17, ls, st, h) = zz_Y 224 (18, ls, .int (-1) :: st, h)) ∧ (∀ ls v h, zz_Y 224 (18, ls, [.int v], h) = some (some (.int v), h)) :=
  ⟨fun _ _ _ _ => xl_iln d224_0 rfl,
   fun _ _ _ _ => xl_aln d224_1 rfl,
   fun _ _ _ _ => xl_gf d224_2 xco224 xf_11_211,
   fun _ _ _ _ _ => xl_icge d224_5 rfl,
   fun _ _ _ _ => xl_aln d224_8 rfl,
   fun _ _ _ _ => xl_gf d224_9 xco224 xf_11_13,
   fun _ _ _ _ => xl_iln d224_12 rfl,
   fun _ _ _ _ _ => xl_ia d224_13,
   fun _ _ _ => xl_goto d224_14 rfl,
   fun _ _ _ => xl_ic d224_17 (by decide +kernel),
   fun _ _ _ => xl_iri d224_18 xrt224⟩
/-! 225 FacetSieveModel.isLetter(I)Z -/
theorem d225_0 : decode (zz_c 225) 0 = .ok (.iload_n 0, 1) := by decide +kernel
theorem d225_1 : decode (zz_c 225) 1 = .ok (.bipush 97, 2) := by decide +kernel
theorem d225_3 : decode (zz_c 225) 3 = .ok (.if_icmp .lt 13, 3) := by decide +kernel
theorem d225_6 : decode (zz_c 225) 6 = .ok (.iload_n 0, 1) := by decide +kernel
theorem d225_7 : decode (zz_c 225) 7 = .ok (.bipush 122, 2) := by decide +kernel
theorem d225_9 : decode (zz_c 225) 9 = .ok (.if_icmp .gt 7, 3) := by decide +kernel
theorem d225_12 : decode (zz_c 225) 12 = .ok (.iconst 1, 1) := by decide +kernel
theorem d225_13 : decode (zz_c 225) 13 = .ok (.goto 4, 3) := by decide +kernel
theorem d225_16 : decode (zz_c 225) 16 = .ok (.iconst 0, 1) := by decide +kernel
theorem d225_17 : decode (zz_c 225) 17 = .ok (.ireturn, 1) := by decide +kernel
theorem x225 : (∀ x st h, zz_Y 225 (0, [some (.int x)], st, h) = zz_Y 225 (1, [some (.int x)], .int x :: st, h)) ∧ (∀ ls st h, zz_Y 225 (1, ls, st, h) = zz_Y 225 (3, ls, .int (nI 97) :: st, h)) ∧ (∀ ls a b st h, zz_Y 225 (3, ls, .int b :: .int a :: st, h) = if a < b then zz_Y 225 (16, ls, st, h) else zz_Y 225 (6, ls, st, h)) ∧ (∀ x st h, zz_Y 225 (6, [some (.int x)], st, h) = zz_Y 225 (7, [some (.int x)], .int x :: st, h)) ∧ (∀ ls st h, zz_Y 225 (7, ls, st, h) = zz_Y 225 (9, ls, .int (nI 122) :: st, h)) ∧ (∀ ls a b st h, zz_Y 225 (9, ls, .int b :: .int a :: st, h) = if b < a then zz_Y 225 (16, ls, st, h) else zz_Y 225 (12, ls, st, h)) ∧ (∀ ls st h, zz_Y 225 (12, ls, st, h) = zz_Y 225 (13, ls, .int (nI 1) :: st, h)) ∧ (∀ ls st h, zz_Y 225 (13, ls, st, h) = zz_Y 225 (17, ls, st, h)) ∧ (∀ ls st h, zz_Y 225 (16, ls, st, h) = zz_Y 225 (17, ls, .int (nI 0) :: st, h)) ∧ (∀ ls v h, v = nI 0 ∨ v = nI 1 → zz_Y 225 (17, ls, [.int v], h) = some (some (.int v), h)) :=
  ⟨fun _ _ _ => xl_iln d225_0 rfl,
   fun _ _ _ => xl_bi d225_1 (by decide +kernel),
   fun _ _ _ _ _ => xl_iclt d225_3 rfl,
   fun _ _ _ => xl_iln d225_6 rfl,
   fun _ _ _ => xl_bi d225_7 (by decide +kernel),
   fun _ _ _ _ _ => xl_icgt d225_9 rfl,
   fun _ _ _ => xl_ic d225_12 (by decide +kernel),
   fun _ _ _ => xl_goto d225_13 rfl,
   fun _ _ _ => xl_ic d225_16 (by decide +kernel),
   fun _ _ _ hc => xl_irz d225_17 xrt225 hc⟩
/-! 226 FacetSieveModel.isDigit(I)Z -/
theorem d226_0 : decode (zz_c 226) 0 = .ok (.iload_n 0, 1) := by decide +kernel
theorem d226_1 : decode (zz_c 226) 1 = .ok (.bipush 48, 2) := by decide +kernel
theorem d226_3 : decode (zz_c 226) 3 = .ok (.if_icmp .lt 13, 3) := by decide +kernel
theorem d226_6 : decode (zz_c 226) 6 = .ok (.iload_n 0, 1) := by decide +kernel
theorem d226_7 : decode (zz_c 226) 7 = .ok (.bipush 57, 2) := by decide +kernel
theorem d226_9 : decode (zz_c 226) 9 = .ok (.if_icmp .gt 7, 3) := by decide +kernel
theorem d226_12 : decode (zz_c 226) 12 = .ok (.iconst 1, 1) := by decide +kernel
theorem d226_13 : decode (zz_c 226) 13 = .ok (.goto 4, 3) := by decide +kernel
theorem d226_16 : decode (zz_c 226) 16 = .ok (.iconst 0, 1) := by decide +kernel
theorem d226_17 : decode (zz_c 226) 17 = .ok (.ireturn, 1) := by decide +kernel
theorem x226 : (∀ x st h, zz_Y 226 (0, [some (.int x)], st, h) = zz_Y 226 (1, [some (.int x)], .int x :: st, h)) ∧ (∀ ls st h, zz_Y 226 (1, ls, st, h) = zz_Y 226 (3, ls, .int (nI 48) :: st, h)) ∧ (∀ ls a b st h, zz_Y 226 (3, ls, .int b :: .int a :: st, h) = if a < b then zz_Y 226 (16, ls, st, h) else zz_Y 226 (6, ls, st, h)) ∧ (∀ x st h, zz_Y 226 (6, [some (.int x)], st, h) = zz_Y 226 (7, [some (.int x)], .int x :: st, h)) ∧ (∀ ls st h, zz_Y 226 (7, ls, st, h) = zz_Y 226 (9, ls, .int (nI 57) :: st, h)) ∧ (∀ ls a b st h, zz_Y 226 (9, ls, .int b :: .int a :: st, h) = if b < a then zz_Y 226 (16, ls, st, h) else zz_Y 226 (12, ls, st, h)) ∧ (∀ ls st h, zz_Y 226 (12, ls, st, h) = zz_Y 226 (13, ls, .int (nI 1) :: st, h)) ∧ (∀ ls st h, zz_Y 226 (13, ls, st, h) = zz_Y 226 (17, ls, st, h)) ∧ (∀ ls st h, zz_Y 226 (16, ls, st, h) = zz_Y 226 (17, ls, .int (nI 0) :: st, h)) ∧ (∀ ls v h, v = nI 0 ∨ v = nI 1 → zz_Y 226 (17, ls, [.int v], h) = some (some (.int v), h)) :=
  ⟨fun _ _ _ => xl_iln d226_0 rfl,
   fun _ _ _ => xl_bi d226_1 (by decide +kernel),
   fun _ _ _ _ _ => xl_iclt d226_3 rfl,
   fun _ _ _ => xl_iln d226_6 rfl,
   fun _ _ _ => xl_bi d226_7 (by decide +kernel),
   fun _ _ _ _ _ => xl_icgt d226_9 rfl,
   fun _ _ _ => xl_ic d226_12 (by decide +kernel),
   fun _ _ _ => xl_goto d226_13 rfl,
   fun _ _ _ => xl_ic d226_16 (by decide +kernel),
   fun _ _ _ hc => xl_irz d226_17 xrt226 hc⟩
/-! 227 FacetSieveModel.isGood()Z -/
theorem d227_0 : decode (zz_c 227) 0 = .ok (.aload_n 0, 1) := by decide +kernel
theorem d227_1 : decode (zz_c 227) 1 = .ok (.getfield 208, 3) := by decide +kernel
theorem d227_4 : decode (zz_c 227) 4 = .ok (.ifCond .ne 7, 3) := by decide +kernel
theorem d227_7 : decode (zz_c 227) 7 = .ok (.iconst 1, 1) := by decide +kernel
theorem d227_8 : decode (zz_c 227) 8 = .ok (.goto 4, 3) := by decide +kernel
theorem d227_11 : decode (zz_c 227) 11 = .ok (.iconst 0, 1) := by decide +kernel
theorem d227_12 : decode (zz_c 227) 12 = .ok (.ireturn, 1) := by decide +kernel
theorem x227 : (∀ x st h, zz_Y 227 (0, [some (.ref x)], st, h) = zz_Y 227 (1, [some (.ref x)], .ref x :: st, h)) ∧ (∀ ls a st h, zz_Y 227 (1, ls, .ref a :: st, h) = mo_gf (hp_g h a) 11 4 227 4 ls st h) ∧ (∀ ls a st h, zz_Y 227 (4, ls, .int a :: st, h) = if a = nI 0 then zz_Y 227 (7, ls, st, h) else zz_Y 227 (11, ls, st, h)) ∧ (∀ ls st h, zz_Y 227 (7, ls, st, h) = zz_Y 227 (8, ls, .int (nI 1) :: st, h)) ∧ (∀ ls st h, zz_Y 227 (8, ls, st, h) = zz_Y 227 (12, ls, st, h)) ∧ (∀ ls st h, zz_Y 227 (11, ls, st, h) = zz_Y 227 (12, ls, .int (nI 0) :: st, h)) ∧ (∀ ls v h, v = nI 0 ∨ v = nI 1 → zz_Y 227 (12, ls, [.int v], h) = some (some (.int v), h)) :=
  ⟨fun _ _ _ => xl_aln d227_0 rfl,
   fun _ _ _ _ => xl_gf d227_1 xco227 xf_11_208,
   fun _ _ _ _ => xl_ifne d227_4 rfl,
   fun _ _ _ => xl_ic d227_7 (by decide +kernel),
   fun _ _ _ => xl_goto d227_8 rfl,
   fun _ _ _ => xl_ic d227_11 (by decide +kernel),
   fun _ _ _ hc => xl_irz d227_12 xrt227 hc⟩
/-! 228 FacetSieveModel.readsLine()V -/
theorem d228_0 : decode (zz_c 228) 0 = .ok (.aload_n 0, 1) := by decide +kernel
theorem d228_1 : decode (zz_c 228) 1 = .ok (.ldc2_w 258, 3) := by decide +kernel
theorem d228_4 : decode (zz_c 228) 4 = .ok (.invokevirtual 251, 3) := by decide +kernel
theorem d228_7 : decode (zz_c 228) 7 = .ok (.ifCond .eq 10, 3) := by decide +kernel
theorem d228_10 : decode (zz_c 228) 10 = .ok (.aload_n 0, 1) := by decide +kernel
theorem d228_11 : decode (zz_c 228) 11 = .ok (.invokevirtual 310, 3) := by decide +kernel
theorem d228_14 : decode (zz_c 228) 14 = .ok (.goto 46, 3) := by decide +kernel
theorem d228_17 : decode (zz_c 228) 17 = .ok (.aload_n 0, 1) := by decide +kernel
theorem d228_18 : decode (zz_c 228) 18 = .ok (.ldc2_w 264, 3) := by decide +kernel
theorem d228_21 : decode (zz_c 228) 21 = .ok (.invokevirtual 251, 3) := by decide +kernel
theorem d228_24 : decode (zz_c 228) 24 = .ok (.ifCond .eq 10, 3) := by decide +kernel
theorem d228_27 : decode (zz_c 228) 27 = .ok (.aload_n 0, 1) := by decide +kernel
theorem d228_28 : decode (zz_c 228) 28 = .ok (.invokevirtual 313, 3) := by decide +kernel
theorem d228_31 : decode (zz_c 228) 31 = .ok (.goto 29, 3) := by decide +kernel
theorem d228_34 : decode (zz_c 228) 34 = .ok (.aload_n 0, 1) := by decide +kernel
theorem d228_35 : decode (zz_c 228) 35 = .ok (.ldc2_w 268, 3) := by decide +kernel
theorem d228_38 : decode (zz_c 228) 38 = .ok (.invokevirtual 251, 3) := by decide +kernel
theorem d228_41 : decode (zz_c 228) 41 = .ok (.ifCond .eq 10, 3) := by decide +kernel
theorem d228_44 : decode (zz_c 228) 44 = .ok (.aload_n 0, 1) := by decide +kernel
theorem d228_45 : decode (zz_c 228) 45 = .ok (.invokevirtual 316, 3) := by decide +kernel
theorem d228_48 : decode (zz_c 228) 48 = .ok (.goto 12, 3) := by decide +kernel
theorem d228_51 : decode (zz_c 228) 51 = .ok (.aload_n 0, 1) := by decide +kernel
theorem d228_52 : decode (zz_c 228) 52 = .ok (.iconst 1, 1) := by decide +kernel
theorem d228_53 : decode (zz_c 228) 53 = .ok (.aload_n 0, 1) := by decide +kernel
theorem d228_54 : decode (zz_c 228) 54 = .ok (.getfield 220, 3) := by decide +kernel
theorem d228_57 : decode (zz_c 228) 57 = .ok (.invokevirtual 288, 3) := by decide +kernel
theorem d228_60 : decode (zz_c 228) 60 = .ok (.aload_n 0, 1) := by decide +kernel
theorem d228_61 : decode (zz_c 228) 61 = .ok (.invokevirtual 247, 3) := by decide +kernel
theorem d228_64 : decode (zz_c 228) 64 = .ok (.ifCond .eq 21, 3) := by decide +kernel
theorem d228_67 : decode (zz_c 228) 67 = .ok (.aload_n 0, 1) := by decide +kernel
theorem d228_68 : decode (zz_c 228) 68 = .ok (.bipush 59, 2) := by decide +kernel
theorem d228_70 : decode (zz_c 228) 70 = .ok (.invokevirtual 319, 3) := by decide +kernel
theorem d228_73 : decode (zz_c 228) 73 = .ok (.ifCond .ne 12, 3) := by decide +kernel
theorem d228_76 : decode (zz_c 228) 76 = .ok (.aload_n 0, 1) := by decide +kernel
theorem d228_77 : decode (zz_c 228) 77 = .ok (.iconst 1, 1) := by decide +kernel
theorem d228_78 : decode (zz_c 228) 78 = .ok (.aload_n 0, 1) := by decide +kernel
theorem d228_79 : decode (zz_c 228) 79 = .ok (.getfield 220, 3) := by decide +kernel
theorem d228_82 : decode (zz_c 228) 82 = .ok (.invokevirtual 288, 3) := by decide +kernel
theorem d228_85 : decode (zz_c 228) 85 = .ok (.return_, 1) := by decide +kernel
theorem x228 : (∀ x st h, zz_Y 228 (0, [some (.ref x)], st, h) = zz_Y 228 (1, [some (.ref x)], .ref x :: st, h)) ∧ (∀ ls st h, zz_Y 228 (1, ls, st, h) = zz_Y 228 (4, ls, .long (lN 161140) :: st, h)) ∧ (∀ ls a0 a1 h, zz_Y 228 (4, ls, [a1, a0], h) = mo_k 228 7 ls [] (zz_run 229 [a0, a1] h)) ∧ (∀ ls a st h, zz_Y 228 (7, ls, .int a :: st, h) = if a = nI 0 then zz_Y 228 (17, ls, st, h) else zz_Y 228 (10, ls, st, h)) ∧ (∀ x st h, zz_Y 228 (10, [some (.ref x)], st, h) = zz_Y 228 (11, [some (.ref x)], .ref x :: st, h)) ∧ (∀ ls a0 h, zz_Y 228 (11, ls, [a0], h) = mo_k 228 14 ls [] (zz_run 230 [a0] h)) ∧ (∀ ls st h, zz_Y 228 (14, ls, st, h) = zz_Y 228 (60, ls, st, h)) ∧ (∀ x st h, zz_Y 228 (17, [some (.ref x)], st, h) = zz_Y 228 (18, [some (.ref x)], .ref x :: st, h)) ∧ (∀ ls st h, zz_Y 228 (18, ls, st, h) = zz_Y 228 (21, ls, .long (lN 11720705) :: st, h)) ∧ (∀ ls a0 a1 h, zz_Y 228 (21, ls, [a1, a0], h) = mo_k 228 24 ls [] (zz_run 229 [a0, a1] h)) ∧ (∀ ls a st h, zz_Y 228 (24, ls, .int a :: st, h) = if a = nI 0 then zz_Y 228 (34, ls, st, h) else zz_Y 228 (27, ls, st, h)) ∧ (∀ x st h, zz_Y 228 (27, [some (.ref x)], st, h) = zz_Y 228 (28, [some (.ref x)], .ref x :: st, h)) ∧ (∀ ls a0 h, zz_Y 228 (28, ls, [a0], h) = mo_k 228 31 ls [] (zz_run 238 [a0] h)) ∧ (∀ ls st h, zz_Y 228 (31, ls, st, h) = zz_Y 228 (60, ls, st, h)) ∧ (∀ x st h, zz_Y 228 (34, [some (.ref x)], st, h) = zz_Y 228 (35, [some (.ref x)], .ref x :: st, h)) ∧ (∀ ls st h, zz_Y 228 (35, ls, st, h) = zz_Y 228 (38, ls, .long (lN 261008005) :: st, h)) ∧ (∀ ls a0 a1 h, zz_Y 228 (38, ls, [a1, a0], h) = mo_k 228 41 ls [] (zz_run 229 [a0, a1] h)) ∧ (∀ ls a st h, zz_Y 228 (41, ls, .int a :: st, h) = if a = nI 0 then zz_Y 228 (51, ls, st, h) else zz_Y 228 (44, ls, st, h)) ∧ (∀ x st h, zz_Y 228 (44, [some (.ref x)], st, h) = zz_Y 228 (45, [some (.ref x)], .ref x :: st, h)) ∧ (∀ ls a0 h, zz_Y 228 (45, ls, [a0], h) = mo_k 228 48 ls [] (zz_run 240 [a0] h)) ∧ (∀ ls st h, zz_Y 228 (48, ls, st, h) = zz_Y 228 (60, ls, st, h)) ∧ (∀ x st h, zz_Y 228 (51, [some (.ref x)], st, h) = zz_Y 228 (52, [some (.ref x)], .ref x :: st, h)) ∧ (∀ ls st h, zz_Y 228 (52, ls, st, h) = zz_Y 228 (53, ls, .int (nI 1) :: st, h)) ∧ (∀ x st h, zz_Y 228 (53, [some (.ref x)], st, h) = zz_Y 228 (54, [some (.ref x)], .ref x :: st, h)) ∧ (∀ ls a st h, zz_Y 228 (54, ls, .ref a :: st, h) = mo_gf (hp_g h a) 11 16 228 57 ls st h) ∧ (∀ ls a0 a1 a2 h, zz_Y 228 (57, ls, [a2, a1, a0], h) = mo_k 228 60 ls [] (zz_run 231 [a0, a1, a2] h)) ∧ (∀ x st h, zz_Y 228 (60, [some (.ref x)], st, h) = zz_Y 228 (61, [some (.ref x)], .ref x :: st, h)) ∧ (∀ ls a0 h, zz_Y 228 (61, ls, [a0], h) = mo_k 228 64 ls [] (zz_run 227 [a0] h)) ∧ (∀ ls a st h, zz_Y 228 (64, ls, .int a :: st, h) = if a = nI 0 then zz_Y 228 (85, ls, st, h) else zz_Y 228 (67, ls, st, h)) ∧ (∀ x st h, zz_Y 228 (67, [some (.ref x)], st, h) = zz_Y 228 (68, [some (.ref x)], .ref x :: st, h)) ∧ (∀ ls st h, zz_Y 228 (68, ls, st, h) = zz_Y 228 (70, ls, .int (nI 59) :: st, h)) ∧ (∀ ls a0 a1 h, zz_Y 228 (70, ls, [a1, a0], h) = mo_k 228 73 ls [] (zz_run 243 [a0, a1] h)) ∧ (∀ ls a st h, zz_Y 228 (73, ls, .int a :: st, h) = if a = nI 0 then zz_Y 228 (76, ls, st, h) else zz_Y 228 (85, ls, st, h)) ∧ (∀ x st h, zz_Y 228 (76, [some (.ref x)], st, h) = zz_Y 228 (77, [some (.ref x)], .ref x :: st, h)) ∧ (∀ ls st h, zz_Y 228 (77, ls, st, h) = zz_Y 228 (78, ls, .int (nI 1) :: st, h)) ∧ (∀ x st h, zz_Y 228 (78, [some (.ref x)], st, h) = zz_Y 228 (79, [some (.ref x)], .ref x :: st, h)) ∧ (∀ ls a st h, zz_Y 228 (79, ls, .ref a :: st, h) = mo_gf (hp_g h a) 11 16 228 82 ls st h) ∧ (∀ ls a0 a1 a2 h, zz_Y 228 (82, ls, [a2, a1, a0], h) = mo_k 228 85 ls [] (zz_run 231 [a0, a1, a2] h)) ∧ (∀ ls h, zz_Y 228 (85, ls, [], h) = some (none, h)) :=
  ⟨fun _ _ _ => xl_aln d228_0 rfl,
   fun _ _ _ => xl_jw d228_1 xco228 (by decide +kernel),
   fun ls a0 a1 h => xl_cv (As := [a0, a1]) (st := []) d228_4 xco228 xm_11_251 (congrArg Nat.succ xnp229) (by decide +kernel) rfl,
   fun _ _ _ _ => xl_ifeq d228_7 rfl,
   fun _ _ _ => xl_aln d228_10 rfl,
   fun ls a0 h => xl_cv (As := [a0]) (st := []) d228_11 xco228 xm_11_310 (congrArg Nat.succ xnp230) (by decide +kernel) rfl,
   fun _ _ _ => xl_goto d228_14 rfl,
   fun _ _ _ => xl_aln d228_17 rfl,
   fun _ _ _ => xl_jw d228_18 xco228 (by decide +kernel),
   fun ls a0 a1 h => xl_cv (As := [a0, a1]) (st := []) d228_21 xco228 xm_11_251 (congrArg Nat.succ xnp229) (by decide +kernel) rfl,
   fun _ _ _ _ => xl_ifeq d228_24 rfl,
   fun _ _ _ => xl_aln d228_27 rfl,
   fun ls a0 h => xl_cv (As := [a0]) (st := []) d228_28 xco228 xm_11_313 (congrArg Nat.succ xnp238) (by decide +kernel) rfl,
   fun _ _ _ => xl_goto d228_31 rfl,
   fun _ _ _ => xl_aln d228_34 rfl,
   fun _ _ _ => xl_jw d228_35 xco228 (by decide +kernel),
   fun ls a0 a1 h => xl_cv (As := [a0, a1]) (st := []) d228_38 xco228 xm_11_251 (congrArg Nat.succ xnp229) (by decide +kernel) rfl,
   fun _ _ _ _ => xl_ifeq d228_41 rfl,
   fun _ _ _ => xl_aln d228_44 rfl,
   fun ls a0 h => xl_cv (As := [a0]) (st := []) d228_45 xco228 xm_11_316 (congrArg Nat.succ xnp240) (by decide +kernel) rfl,
   fun _ _ _ => xl_goto d228_48 rfl,
   fun _ _ _ => xl_aln d228_51 rfl,
   fun _ _ _ => xl_ic d228_52 (by decide +kernel),
   fun _ _ _ => xl_aln d228_53 rfl,
   fun _ _ _ _ => xl_gf d228_54 xco228 xf_11_220,
   fun ls a0 a1 a2 h => xl_cv (As := [a0, a1, a2]) (st := []) d228_57 xco228 xm_11_288 (congrArg Nat.succ xnp231) (by decide +kernel) rfl,
   fun _ _ _ => xl_aln d228_60 rfl,
   fun ls a0 h => xl_cv (As := [a0]) (st := []) d228_61 xco228 xm_11_247 (congrArg Nat.succ xnp227) (by decide +kernel) rfl,
   fun _ _ _ _ => xl_ifeq d228_64 rfl,
   fun _ _ _ => xl_aln d228_67 rfl,
   fun _ _ _ => xl_bi d228_68 (by decide +kernel),
   fun ls a0 a1 h => xl_cv (As := [a0, a1]) (st := []) d228_70 xco228 xm_11_319 (congrArg Nat.succ xnp243) (by decide +kernel) rfl,
   fun _ _ _ _ => xl_ifne d228_73 rfl,
   fun _ _ _ => xl_aln d228_76 rfl,
   fun _ _ _ => xl_ic d228_77 (by decide +kernel),
   fun _ _ _ => xl_aln d228_78 rfl,
   fun _ _ _ _ => xl_gf d228_79 xco228 xf_11_220,
   fun ls a0 a1 a2 h => xl_cv (As := [a0, a1, a2]) (st := []) d228_82 xco228 xm_11_288 (congrArg Nat.succ xnp231) (by decide +kernel) rfl,
   fun _ _ => xl_r d228_85 xrt228⟩
/-! 229 FacetSieveModel.isWord(J)Z -/
theorem d229_0 : decode (zz_c 229) 0 = .ok (.aload_n 0, 1) := by decide +kernel
theorem d229_1 : decode (zz_c 229) 1 = .ok (.invokevirtual 247, 3) := by decide +kernel
theorem d229_4 : decode (zz_c 229) 4 = .ok (.ifCond .eq 24, 3) := by decide +kernel
theorem d229_7 : decode (zz_c 229) 7 = .ok (.aload_n 0, 1) := by decide +kernel
theorem d229_8 : decode (zz_c 229) 8 = .ok (.getfield 227, 3) := by decide +kernel
theorem d229_11 : decode (zz_c 229) 11 = .ok (.iconst 1, 1) := by decide +kernel
theorem d229_12 : decode (zz_c 229) 12 = .ok (.if_icmp .ne 16, 3) := by decide +kernel
theorem d229_15 : decode (zz_c 229) 15 = .ok (.aload_n 0, 1) := by decide +kernel
theorem d229_16 : decode (zz_c 229) 16 = .ok (.getfield 223, 3) := by decide +kernel
theorem d229_19 : decode (zz_c 229) 19 = .ok (.lload_n 1, 1) := by decide +kernel
theorem d229_20 : decode (zz_c 229) 20 = .ok (.lcmp, 1) := by decide +kernel
theorem d229_21 : decode (zz_c 229) 21 = .ok (.ifCond .ne 7, 3) := by decide +kernel
theorem d229_24 : decode (zz_c 229) 24 = .ok (.iconst 1, 1) := by decide +kernel
theorem d229_25 : decode (zz_c 229) 25 = .ok (.goto 4, 3) := by decide +kernel
theorem d229_28 : decode (zz_c 229) 28 = .ok (.iconst 0, 1) := by decide +kernel
theorem d229_29 : decode (zz_c 229) 29 = .ok (.ireturn, 1) := by decide +kernel
theorem x229 : (∀ l1 l2 x st h, zz_Y 229 (0, [some (.ref x), l1, l2], st, h) = zz_Y 229 (1, [some (.ref x), l1, l2], .ref x :: st, h)) ∧ (∀ ls a0 h, zz_Y 229 (1, ls, [a0], h) = mo_k 229 4 ls [] (zz_run 227 [a0] h)) ∧ (∀ ls a st h, zz_Y 229 (4, ls, .int a :: st, h) = if a = nI 0 then zz_Y 229 (28, ls, st, h) else zz_Y 229 (7, ls, st, h)) ∧ (∀ l1 l2 x st h, zz_Y 229 (7, [some (.ref x), l1, l2], st, h) = zz_Y 229 (8, [some (.ref x), l1, l2], .ref x :: st, h)) ∧ (∀ ls a st h, zz_Y 229 (8, ls, .ref a :: st, h) = mo_gf (hp_g h a) 11 15 229 11 ls st h) ∧ (∀ ls st h, zz_Y 229 (11, ls, st, h) = zz_Y 229 (12, ls, .int (nI 1) :: st, h)) ∧ (∀ ls a b st h, zz_Y 229 (12, ls, .int b :: .int a :: st, h) = if a = b then zz_Y 229 (15, ls, st, h) else zz_Y 229 (28, ls, st, h)) ∧ (∀ l1 l2 x st h, zz_Y 229 (15, [some (.ref x), l1, l2], st, h) = zz_Y 229 (16, [some (.ref x), l1, l2], .ref x :: st, h)) ∧ (∀ ls a st h, zz_Y 229 (16, ls, .ref a :: st, h) = mo_gf (hp_g h a) 11 17 229 19 ls st h) ∧ (∀ l0 l2 x st h, zz_Y 229 (19, [l0, some (.long x), l2], st, h) = zz_Y 229 (20, [l0, some (.long x), l2], .long x :: st, h)) ∧ (∀ ls a b st h, zz_Y 229 (20, ls, .long b :: .long a :: st, h) = zz_Y 229 (21, ls, .int (lg_cmp a b) :: st, h)) ∧ (∀ ls a st h, zz_Y 229 (21, ls, .int a :: st, h) = if a = nI 0 then zz_Y 229 (24, ls, st, h) else zz_Y 229 (28, ls, st, h)) ∧ (∀ ls st h, zz_Y 229 (24, ls, st, h) = zz_Y 229 (25, ls, .int (nI 1) :: st, h)) ∧ (∀ ls st h, zz_Y 229 (25, ls, st, h) = zz_Y 229 (29, ls, st, h)) ∧ (∀ ls st h, zz_Y 229 (28, ls, st, h) = zz_Y 229 (29, ls, .int (nI 0) :: st, h)) ∧ (∀ ls v h, v = nI 0 ∨ v = nI 1 → zz_Y 229 (29, ls, [.int v], h) = some (some (.int v), h)) :=
  ⟨fun _ _ _ _ _ => xl_aln d229_0 rfl,
   fun ls a0 h => xl_cv (As := [a0]) (st := []) d229_1 xco229 xm_11_247 (congrArg Nat.succ xnp227) (by decide +kernel) rfl,
   fun _ _ _ _ => xl_ifeq d229_4 rfl,
   fun _ _ _ _ _ => xl_aln d229_7 rfl,
   fun _ _ _ _ => xl_gf d229_8 xco229 xf_11_227,
   fun _ _ _ => xl_ic d229_11 (by decide +kernel),
   fun _ _ _ _ _ => xl_icne d229_12 rfl,
   fun _ _ _ _ _ => xl_aln d229_15 rfl,
   fun _ _ _ _ => xl_gf d229_16 xco229 xf_11_223,
   fun _ _ _ _ _ => xl_lln d229_19 rfl,
   fun _ _ _ _ _ => xl_lcmp d229_20,
   fun _ _ _ _ => xl_ifne d229_21 rfl,
   fun _ _ _ => xl_ic d229_24 (by decide +kernel),
   fun _ _ _ => xl_goto d229_25 rfl,
   fun _ _ _ => xl_ic d229_28 (by decide +kernel),
   fun _ _ _ hc => xl_irz d229_29 xrt229 hc⟩
/-! 230 FacetSieveModel.readsHead()V -/
theorem d230_0 : decode (zz_c 230) 0 = .ok (.aload_n 0, 1) := by decide +kernel
theorem d230_1 : decode (zz_c 230) 1 = .ok (.getfield 7, 3) := by decide +kernel
theorem d230_4 : decode (zz_c 230) 4 = .ok (.sipush 730, 3) := by decide +kernel
theorem d230_7 : decode (zz_c 230) 7 = .ok (.iaload, 1) := by decide +kernel
theorem d230_8 : decode (zz_c 230) 8 = .ok (.istore_n 1, 1) := by decide +kernel
theorem d230_9 : decode (zz_c 230) 9 = .ok (.iload_n 1, 1) := by decide +kernel
theorem d230_10 : decode (zz_c 230) 10 = .ok (.iconst 4, 1) := by decide +kernel
theorem d230_11 : decode (zz_c 230) 11 = .ok (.if_icmp .ne 12, 3) := by decide +kernel
theorem d230_14 : decode (zz_c 230) 14 = .ok (.aload_n 0, 1) := by decide +kernel
theorem d230_15 : decode (zz_c 230) 15 = .ok (.iconst 4, 1) := by decide +kernel
theorem d230_16 : decode (zz_c 230) 16 = .ok (.aload_n 0, 1) := by decide +kernel
theorem d230_17 : decode (zz_c 230) 17 = .ok (.getfield 220, 3) := by decide +kernel
theorem d230_20 : decode (zz_c 230) 20 = .ok (.invokevirtual 288, 3) := by decide +kernel
theorem d230_23 : decode (zz_c 230) 23 = .ok (.aload_n 0, 1) := by decide +kernel
theorem d230_24 : decode (zz_c 230) 24 = .ok (.invokevirtual 247, 3) := by decide +kernel
theorem d230_27 : decode (zz_c 230) 27 = .ok (.ifCond .ne 4, 3) := by decide +kernel
theorem d230_30 : decode (zz_c 230) 30 = .ok (.return_, 1) := by decide +kernel
theorem d230_31 : decode (zz_c 230) 31 = .ok (.aload_n 0, 1) := by decide +kernel
theorem d230_32 : decode (zz_c 230) 32 = .ok (.invokevirtual 244, 3) := by decide +kernel
theorem d230_35 : decode (zz_c 230) 35 = .ok (.sipush 730, 3) := by decide +kernel
theorem d230_38 : decode (zz_c 230) 38 = .ok (.iload_n 1, 1) := by decide +kernel
theorem d230_39 : decode (zz_c 230) 39 = .ok (.invokestatic 100, 3) := by decide +kernel
theorem d230_42 : decode (zz_c 230) 42 = .ok (.iadd, 1) := by decide +kernel
theorem d230_43 : decode (zz_c 230) 43 = .ok (.istore_n 2, 1) := by decide +kernel
theorem d230_44 : decode (zz_c 230) 44 = .ok (.aload_n 0, 1) := by decide +kernel
theorem d230_45 : decode (zz_c 230) 45 = .ok (.iload_n 2, 1) := by decide +kernel
theorem d230_46 : decode (zz_c 230) 46 = .ok (.iconst 2, 1) := by decide +kernel
theorem d230_47 : decode (zz_c 230) 47 = .ok (.iadd, 1) := by decide +kernel
theorem d230_48 : decode (zz_c 230) 48 = .ok (.invokevirtual 298, 3) := by decide +kernel
theorem d230_51 : decode (zz_c 230) 51 = .ok (.aload_n 0, 1) := by decide +kernel
theorem d230_52 : decode (zz_c 230) 52 = .ok (.ldc2_w 262, 3) := by decide +kernel
theorem d230_55 : decode (zz_c 230) 55 = .ok (.invokevirtual 251, 3) := by decide +kernel
theorem d230_58 : decode (zz_c 230) 58 = .ok (.istore_n 3, 1) := by decide +kernel
theorem d230_59 : decode (zz_c 230) 59 = .ok (.aload_n 0, 1) := by decide +kernel
theorem d230_60 : decode (zz_c 230) 60 = .ok (.invokevirtual 247, 3) := by decide +kernel
theorem d230_63 : decode (zz_c 230) 63 = .ok (.ifCond .eq 26, 3) := by decide +kernel
theorem d230_66 : decode (zz_c 230) 66 = .ok (.iload_n 3, 1) := by decide +kernel
theorem d230_67 : decode (zz_c 230) 67 = .ok (.ifCond .ne 22, 3) := by decide +kernel
theorem d230_70 : decode (zz_c 230) 70 = .ok (.aload_n 0, 1) := by decide +kernel
theorem d230_71 : decode (zz_c 230) 71 = .ok (.ldc2_w 260, 3) := by decide +kernel
theorem d230_74 : decode (zz_c 230) 74 = .ok (.invokevirtual 251, 3) := by decide +kernel
theorem d230_77 : decode (zz_c 230) 77 = .ok (.ifCond .ne 12, 3) := by decide +kernel
theorem d230_80 : decode (zz_c 230) 80 = .ok (.aload_n 0, 1) := by decide +kernel
theorem d230_81 : decode (zz_c 230) 81 = .ok (.iconst 1, 1) := by decide +kernel
theorem d230_82 : decode (zz_c 230) 82 = .ok (.aload_n 0, 1) := by decide +kernel
theorem d230_83 : decode (zz_c 230) 83 = .ok (.getfield 220, 3) := by decide +kernel
theorem d230_86 : decode (zz_c 230) 86 = .ok (.invokevirtual 288, 3) := by decide +kernel
theorem d230_89 : decode (zz_c 230) 89 = .ok (.aload_n 0, 1) := by decide +kernel
theorem d230_90 : decode (zz_c 230) 90 = .ok (.invokevirtual 247, 3) := by decide +kernel
theorem d230_93 : decode (zz_c 230) 93 = .ok (.ifCond .ne 4, 3) := by decide +kernel
theorem d230_96 : decode (zz_c 230) 96 = .ok (.return_, 1) := by decide +kernel
theorem d230_97 : decode (zz_c 230) 97 = .ok (.aload_n 0, 1) := by decide +kernel
theorem d230_98 : decode (zz_c 230) 98 = .ok (.getfield 7, 3) := by decide +kernel
theorem d230_101 : decode (zz_c 230) 101 = .ok (.iload_n 2, 1) := by decide +kernel
theorem d230_102 : decode (zz_c 230) 102 = .ok (.iconst 0, 1) := by decide +kernel
theorem d230_103 : decode (zz_c 230) 103 = .ok (.iadd, 1) := by decide +kernel
theorem d230_104 : decode (zz_c 230) 104 = .ok (.iload_n 3, 1) := by decide +kernel
theorem d230_105 : decode (zz_c 230) 105 = .ok (.ifCond .eq 7, 3) := by decide +kernel
theorem d230_108 : decode (zz_c 230) 108 = .ok (.iconst 1, 1) := by decide +kernel
theorem d230_109 : decode (zz_c 230) 109 = .ok (.goto 4, 3) := by decide +kernel
theorem d230_112 : decode (zz_c 230) 112 = .ok (.iconst 0, 1) := by decide +kernel
theorem d230_113 : decode (zz_c 230) 113 = .ok (.iastore, 1) := by decide +kernel
theorem d230_114 : decode (zz_c 230) 114 = .ok (.aload_n 0, 1) := by decide +kernel
theorem d230_115 : decode (zz_c 230) 115 = .ok (.getfield 7, 3) := by decide +kernel
theorem d230_118 : decode (zz_c 230) 118 = .ok (.sipush 730, 3) := by decide +kernel
theorem d230_121 : decode (zz_c 230) 121 = .ok (.dup2, 1) := by decide +kernel
theorem d230_122 : decode (zz_c 230) 122 = .ok (.iaload, 1) := by decide +kernel
theorem d230_123 : decode (zz_c 230) 123 = .ok (.iconst 1, 1) := by decide +kernel
theorem d230_124 : decode (zz_c 230) 124 = .ok (.iadd, 1) := by decide +kernel
theorem d230_125 : decode (zz_c 230) 125 = .ok (.iastore, 1) := by decide +kernel
theorem d230_126 : decode (zz_c 230) 126 = .ok (.aload_n 0, 1) := by decide +kernel
theorem d230_127 : decode (zz_c 230) 127 = .ok (.invokevirtual 244, 3) := by decide +kernel
theorem d230_130 : decode (zz_c 230) 130 = .ok (.return_, 1) := by decide +kernel
theorem x230_p0 : (∀ l1 l2 l3 x st h, zz_Y 230 (0, [some (.ref x), l1, l2, l3], st, h) = zz_Y 230 (1, [some (.ref x), l1, l2, l3], .ref x :: st, h)) ∧ (∀ ls a st h, zz_Y 230 (1, ls, .ref a :: st, h) = mo_gf (hp_g h a) 11 0 230 4 ls st h) ∧ (∀ ls st h, zz_Y 230 (4, ls, st, h) = zz_Y 230 (7, ls, .int (nI 730) :: st, h)) ∧ (∀ ls a i st h, zz_Y 230 (7, ls, .int i :: .ref a :: st, h) = mo_ia (hp_g h a) i a 230 8 ls st h) ∧ (∀ l0 l1 l2 l3 x st h, zz_nl l0 = true → zz_Y 230 (8, [l0, l1, l2, l3], .int x :: st, h) = zz_Y 230 (9, [l0, some (.int x), l2, l3], st, h)) ∧ (∀ l0 l2 l3 x st h, zz_Y 230 (9, [l0, some (.int x), l2, l3], st, h) = zz_Y 230 (10, [l0, some (.int x), l2, l3], .int x :: st, h)) ∧ (∀ ls st h, zz_Y 230 (10, ls, st, h) = zz_Y 230 (11, ls, .int (nI 4) :: st, h)) ∧ (∀ ls a b st h, zz_Y 230 (11, ls, .int b :: .int a :: st, h) = if a = b then zz_Y 230 (14, ls, st, h) else zz_Y 230 (23, ls, st, h)) ∧ (∀ l1 l2 l3 x st h, zz_Y 230 (14, [some (.ref x), l1, l2, l3], st, h) = zz_Y 230 (15, [some (.ref x), l1, l2, l3], .ref x :: st, h)) ∧ (∀ ls st h, zz_Y 230 (15, ls, st, h) = zz_Y 230 (16, ls, .int (nI 4) :: st, h)) ∧ (∀ l1 l2 l3 x st h, zz_Y 230 (16, [some (.ref x), l1, l2, l3], st, h) = zz_Y 230 (17, [some (.ref x), l1, l2, l3], .ref x :: st, h)) ∧ (∀ ls a st h, zz_Y 230 (17, ls, .ref a :: st, h) = mo_gf (hp_g h a) 11 16 230 20 ls st h) ∧ (∀ ls a0 a1 a2 h, zz_Y 230 (20, ls, [a2, a1, a0], h) = mo_k 230 23 ls [] (zz_run 231 [a0, a1, a2] h)) ∧ (∀ l1 l2 l3 x st h, zz_Y 230 (23, [some (.ref x), l1, l2, l3], st, h) = zz_Y 230 (24, [some (.ref x), l1, l2, l3], .ref x :: st, h)) ∧ (∀ ls a0 h, zz_Y 230 (24, ls, [a0], h) = mo_k 230 27 ls [] (zz_run 227 [a0] h)) ∧ (∀ ls a st h, zz_Y 230 (27, ls, .int a :: st, h) = if a = nI 0 then zz_Y 230 (30, ls, st, h) else zz_Y 230 (31, ls, st, h)) ∧ (∀ ls h, zz_Y 230 (30, ls, [], h) = some (none, h)) ∧ (∀ l1 l2 l3 x st h, zz_Y 230 (31, [some (.ref x), l1, l2, l3], st, h) = zz_Y 230 (32, [some (.ref x), l1, l2, l3], .ref x :: st, h)) ∧ (∀ ls a0 h, zz_Y 230 (32, ls, [a0], h) = mo_k 230 35 ls [] (zz_run 223 [a0] h)) ∧ (∀ ls st h, zz_Y 230 (35, ls, st, h) = zz_Y 230 (38, ls, .int (nI 730) :: st, h)) ∧ (∀ l0 l2 l3 x st h, zz_Y 230 (38, [l0, some (.int x), l2, l3], st, h) = zz_Y 230 (39, [l0, some (.int x), l2, l3], .int x :: st, h)) ∧ (∀ ls a0 s0 h, zz_Y 230 (39, ls, [a0, s0], h) = mo_k 230 42 ls [s0] (zz_run 169 [a0] h)) ∧ (∀ ls a b st h, zz_Y 230 (42, ls, .int b :: .int a :: st, h) = zz_Y 230 (43, ls, .int (a + b) :: st, h)) ∧ (∀ l0 l1 l2 l3 x st h, zz_nl l1 = true → zz_Y 230 (43, [l0, l1, l2, l3], .int x :: st, h) = zz_Y 230 (44, [l0, l1, some (.int x), l3], st, h)) ∧ (∀ l1 l2 l3 x st h, zz_Y 230 (44, [some (.ref x), l1, l2, l3], st, h) = zz_Y 230 (45, [some (.ref x), l1, l2, l3], .ref x :: st, h)) ∧ (∀ l0 l1 l3 x st h, zz_Y 230 (45, [l0, l1, some (.int x), l3], st, h) = zz_Y 230 (46, [l0, l1, some (.int x), l3], .int x :: st, h)) ∧ (∀ ls st h, zz_Y 230 (46, ls, st, h) = zz_Y 230 (47, ls, .int (nI 2) :: st, h)) ∧ (∀ ls a b st h, zz_Y 230 (47, ls, .int b :: .int a :: st, h) = zz_Y 230 (48, ls, .int (a + b) :: st, h)) ∧ (∀ ls a0 a1 h, zz_Y 230 (48, ls, [a1, a0], h) = mo_k 230 51 ls [] (zz_run 232 [a0, a1] h)) ∧ (∀ l1 l2 l3 x st h, zz_Y 230 (51, [some (.ref x), l1, l2, l3], st, h) = zz_Y 230 (52, [some (.ref x), l1, l2, l3], .ref x :: st, h)) ∧ (∀ ls st h, zz_Y 230 (52, ls, st, h) = zz_Y 230 (55, ls, .long (lN 257011) :: st, h)) ∧ (∀ ls a0 a1 h, zz_Y 230 (55, ls, [a1, a0], h) = mo_k 230 58 ls [] (zz_run 229 [a0, a1] h)) ∧ (∀ l0 l1 l2 l3 x st h, zz_nl l2 = true → zz_Y 230 (58, [l0, l1, l2, l3], .int x :: st, h) = zz_Y 230 (59, [l0, l1, l2, some (.int x)], st, h)) ∧ (∀ l1 l2 l3 x st h, zz_Y 230 (59, [some (.ref x), l1, l2, l3], st, h) = zz_Y 230 (60, [some (.ref x), l1, l2, l3], .ref x :: st, h)) ∧ (∀ ls a0 h, zz_Y 230 (60, ls, [a0], h) = mo_k 230 63 ls [] (zz_run 227 [a0] h)) ∧ (∀ ls a st h, zz_Y 230 (63, ls, .int a :: st, h) = if a = nI 0 then zz_Y 230 (89, ls, st, h) else zz_Y 230 (66, ls, st, h)) ∧ (∀ l0 l1 l2 x st h, zz_Y 230 (66, [l0, l1, l2, some (.int x)], st, h) = zz_Y 230 (67, [l0, l1, l2, some (.int x)], .int x :: st, h)) ∧ (∀ ls a st h, zz_Y 230 (67, ls, .int a :: st, h) = if a = nI 0 then zz_Y 230 (70, ls, st, h) else zz_Y 230 (89, ls, st, h)) ∧ (∀ l1 l2 l3 x st h, zz_Y 230 (70, [some (.ref x), l1, l2, l3], st, h) = zz_Y 230 (71, [some (.ref x), l1, l2, l3], .ref x :: st, h)) ∧ (∀ ls st h, zz_Y 230 (71, ls, st, h) = zz_Y 230 (74, ls, .long (lN 277693196) :: st, h)) ∧ (∀ ls a0 a1 h, zz_Y 230 (74, ls, [a1, a0], h) = mo_k 230 77 ls [] (zz_run 229 [a0, a1] h)) ∧ (∀ ls a st h, zz_Y 230 (77, ls, .int a :: st, h) = if a = nI 0 then zz_Y 230 (80, ls, st, h) else zz_Y 230 (89, ls, st, h)) ∧ (∀ l1 l2 l3 x st h, zz_Y 230 (80, [some (.ref x), l1, l2, l3], st, h) = zz_Y 230 (81, [some (.ref x), l1, l2, l3], .ref x :: st, h)) ∧ (∀ ls st h, zz_Y 230 (81, ls, st, h) = zz_Y 230 (82, ls, .int (nI 1) :: st, h)) ∧ (∀ l1 l2 l3 x st h, zz_Y 230 (82, [some (.ref x), l1, l2, l3], st, h) = zz_Y 230 (83, [some (.ref x), l1, l2, l3], .ref x :: st, h)) ∧ (∀ ls a st h, zz_Y 230 (83, ls, .ref a :: st, h) = mo_gf (hp_g h a) 11 16 230 86 ls st h) ∧ (∀ ls a0 a1 a2 h, zz_Y 230 (86, ls, [a2, a1, a0], h) = mo_k 230 89 ls [] (zz_run 231 [a0, a1, a2] h)) ∧ (∀ l1 l2 l3 x st h, zz_Y 230 (89, [some (.ref x), l1, l2, l3], st, h) = zz_Y 230 (90, [some (.ref x), l1, l2, l3], .ref x :: st, h)) ∧ (∀ ls a0 h, zz_Y 230 (90, ls, [a0], h) = mo_k 230 93 ls [] (zz_run 227 [a0] h)) ∧ (∀ ls a st h, zz_Y 230 (93, ls, .int a :: st, h) = if a = nI 0 then zz_Y 230 (96, ls, st, h) else zz_Y 230 (97, ls, st, h)) ∧ (∀ ls h, zz_Y 230 (96, ls, [], h) = some (none, h)) ∧ (∀ l1 l2 l3 x st h, zz_Y 230 (97, [some (.ref x), l1, l2, l3], st, h) = zz_Y 230 (98, [some (.ref x), l1, l2, l3], .ref x :: st, h)) ∧ (∀ ls a st h, zz_Y 230 (98, ls, .ref a :: st, h) = mo_gf (hp_g h a) 11 0 230 101 ls st h) ∧ (∀ l0 l1 l3 x st h, zz_Y 230 (101, [l0, l1, some (.int x), l3], st, h) = zz_Y 230 (102, [l0, l1, some (.int x), l3], .int x :: st, h)) ∧ (∀ ls st h, zz_Y 230 (102, ls, st, h) = zz_Y 230 (103, ls, .int (nI 0) :: st, h)) ∧ (∀ ls a b st h, zz_Y 230 (103, ls, .int b :: .int a :: st, h) = zz_Y 230 (104, ls, .int (a + b) :: st, h)) ∧ (∀ l0 l1 l2 x st h, zz_Y 230 (104, [l0, l1, l2, some (.int x)], st, h) = zz_Y 230 (105, [l0, l1, l2, some (.int x)], .int x :: st, h)) ∧ (∀ ls a st h, zz_Y 230 (105, ls, .int a :: st, h) = if a = nI 0 then zz_Y 230 (112, ls, st, h) else zz_Y 230 (108, ls, st, h)) ∧ (∀ ls st h, zz_Y 230 (108, ls, st, h) = zz_Y 230 (109, ls, .int (nI 1) :: st, h)) ∧ (∀ ls st h, zz_Y 230 (109, ls, st, h) = zz_Y 230 (113, ls, st, h)) :=
  ⟨fun _ _ _ _ _ _ => xl_aln d230_0 rfl,
   fun _ _ _ _ => xl_gf d230_1 xco230 xf_11_7,
   fun _ _ _ => xl_si d230_4 (by decide +kernel),
   fun _ _ _ _ _ => xl_ia d230_7,
   fun _ _ _ _ _ _ _ hc => xl_isn d230_8 xml230 (by decide) (zz_nl_s1 hc),
   fun _ _ _ _ _ _ => xl_iln d230_9 rfl,
   fun _ _ _ => xl_ic d230_10 (by decide +kernel),
   fun _ _ _ _ _ => xl_icne d230_11 rfl,
   fun _ _ _ _ _ _ => xl_aln d230_14 rfl,
   fun _ _ _ => xl_ic d230_15 (by decide +kernel),
   fun _ _ _ _ _ _ => xl_aln d230_16 rfl,
   fun _ _ _ _ => xl_gf d230_17 xco230 xf_11_220,
   fun ls a0 a1 a2 h => xl_cv (As := [a0, a1, a2]) (st := []) d230_20 xco230 xm_11_288 (congrArg Nat.succ xnp231) (by decide +kernel) rfl,
   fun _ _ _ _ _ _ => xl_aln d230_23 rfl,
   fun ls a0 h => xl_cv (As := [a0]) (st := []) d230_24 xco230 xm_11_247 (congrArg Nat.succ xnp227) (by decide +kernel) rfl,
   fun _ _ _ _ => xl_ifne d230_27 rfl,
   fun _ _ => xl_r d230_30 xrt230,
   fun _ _ _ _ _ _ => xl_aln d230_31 rfl,
   fun ls a0 h => xl_cv (As := [a0]) (st := []) d230_32 xco230 xm_11_244 (congrArg Nat.succ xnp223) (by decide +kernel) rfl,
   fun _ _ _ => xl_si d230_35 (by decide +kernel),
   fun _ _ _ _ _ _ => xl_iln d230_38 rfl,
   fun ls a0 s0 h => xl_cs (As := [a0]) (st := [s0]) d230_39 xco230 xm_11_100 xnp169 (by decide +kernel) rfl,
   fun _ _ _ _ _ => xl_iadd d230_42,
   fun _ _ _ _ _ _ _ hc => xl_isn d230_43 xml230 (by decide) (zz_nl_s1 hc),
   fun _ _ _ _ _ _ => xl_aln d230_44 rfl,
   fun _ _ _ _ _ _ => xl_iln d230_45 rfl,
   fun _ _ _ => xl_ic d230_46 (by decide +kernel),
   fun _ _ _ _ _ => xl_iadd d230_47,
   fun ls a0 a1 h => xl_cv (As := [a0, a1]) (st := []) d230_48 xco230 xm_11_298 (congrArg Nat.succ xnp232) (by decide +kernel) rfl,
   fun _ _ _ _ _ _ => xl_aln d230_51 rfl,
   fun _ _ _ => xl_jw d230_52 xco230 (by decide +kernel),
   fun ls a0 a1 h => xl_cv (As := [a0, a1]) (st := []) d230_55 xco230 xm_11_251 (congrArg Nat.succ xnp229) (by decide +kernel) rfl,
   fun _ _ _ _ _ _ _ hc => xl_isn d230_58 xml230 (by decide) (zz_nl_s1 hc),
   fun _ _ _ _ _ _ => xl_aln d230_59 rfl,
   fun ls a0 h => xl_cv (As := [a0]) (st := []) d230_60 xco230 xm_11_247 (congrArg Nat.succ xnp227) (by decide +kernel) rfl,
   fun _ _ _ _ => xl_ifeq d230_63 rfl,
   fun _ _ _ _ _ _ => xl_iln d230_66 rfl,
   fun _ _ _ _ => xl_ifne d230_67 rfl,
   fun _ _ _ _ _ _ => xl_aln d230_70 rfl,
   fun _ _ _ => xl_jw d230_71 xco230 (by decide +kernel),
   fun ls a0 a1 h => xl_cv (As := [a0, a1]) (st := []) d230_74 xco230 xm_11_251 (congrArg Nat.succ xnp229) (by decide +kernel) rfl,
   fun _ _ _ _ => xl_ifne d230_77 rfl,
   fun _ _ _ _ _ _ => xl_aln d230_80 rfl,
   fun _ _ _ => xl_ic d230_81 (by decide +kernel),
   fun _ _ _ _ _ _ => xl_aln d230_82 rfl,
   fun _ _ _ _ => xl_gf d230_83 xco230 xf_11_220,
   fun ls a0 a1 a2 h => xl_cv (As := [a0, a1, a2]) (st := []) d230_86 xco230 xm_11_288 (congrArg Nat.succ xnp231) (by decide +kernel) rfl,
   fun _ _ _ _ _ _ => xl_aln d230_89 rfl,
   fun ls a0 h => xl_cv (As := [a0]) (st := []) d230_90 xco230 xm_11_247 (congrArg Nat.succ xnp227) (by decide +kernel) rfl,
   fun _ _ _ _ => xl_ifne d230_93 rfl,
   fun _ _ => xl_r d230_96 xrt230,
   fun _ _ _ _ _ _ => xl_aln d230_97 rfl,
   fun _ _ _ _ => xl_gf d230_98 xco230 xf_11_7,
   fun _ _ _ _ _ _ => xl_iln d230_101 rfl,
   fun _ _ _ => xl_ic d230_102 (by decide +kernel),
   fun _ _ _ _ _ => xl_iadd d230_103,
   fun _ _ _ _ _ _ => xl_iln d230_104 rfl,
   fun _ _ _ _ => xl_ifeq d230_105 rfl,
   fun _ _ _ => xl_ic d230_108 (by decide +kernel),
   fun _ _ _ => xl_goto d230_109 rfl⟩
theorem x230_p1 : (∀ ls st h, zz_Y 230 (112, ls, st, h) = zz_Y 230 (113, ls, .int (nI 0) :: st, h)) ∧ (∀ ls a i x st h, zz_Y 230 (113, ls, .int x :: .int i :: .ref a :: st, h) = mo_is (hp_g h a) x i a 230 114 ls st h) ∧ (∀ l1 l2 l3 x st h, zz_Y 230 (114, [some (.ref x), l1, l2, l3], st, h) = zz_Y 230 (115, [some (.ref x), l1, l2, l3], .ref x :: st, h)) ∧ (∀ ls a st h, zz_Y 230 (115, ls, .ref a :: st, h) = mo_gf (hp_g h a) 11 0 230 118 ls st h) ∧ (∀ ls st h, zz_Y 230 (118, ls, st, h) = zz_Y 230 (121, ls, .int (nI 730) :: st, h)) ∧ (∀ ls a b st h, zz_Y 230 (121, ls, .int b :: .ref a :: st, h) = zz_Y 230 (122, ls, .int b :: .ref a :: .int b :: .ref a :: st, h)) ∧ (∀ ls a i st h, zz_Y 230 (122, ls, .int i :: .ref a :: st, h) = mo_ia (hp_g h a) i a 230 123 ls st h) ∧ (∀ ls st h, zz_Y 230 (123, ls, st, h) = zz_Y 230 (124, ls, .int (nI 1) :: st, h)) ∧ (∀ ls a b st h, zz_Y 230 (124, ls, .int b :: .int a :: st, h) = zz_Y 230 (125, ls, .int (a + b) :: st, h)) ∧ (∀ ls a i x st h, zz_Y 230 (125, ls, .int x :: .int i :: .ref a :: st, h) = mo_is (hp_g h a) x i a 230 126 ls st h) ∧ (∀ l1 l2 l3 x st h, zz_Y 230 (126, [some (.ref x), l1, l2, l3], st, h) = zz_Y 230 (127, [some (.ref x), l1, l2, l3], .ref x :: st, h)) ∧ (∀ ls a0 h, zz_Y 230 (127, ls, [a0], h) = mo_k 230 130 ls [] (zz_run 223 [a0] h)) ∧ (∀ ls h, zz_Y 230 (130, ls, [], h) = some (none, h)) :=
  ⟨fun _ _ _ => xl_ic d230_112 (by decide +kernel),
   fun _ _ _ _ _ _ => xl_ist d230_113,
   fun _ _ _ _ _ _ => xl_aln d230_114 rfl,
   fun _ _ _ _ => xl_gf d230_115 xco230 xf_11_7,
   fun _ _ _ => xl_si d230_118 (by decide +kernel),
   fun _ _ _ _ _ => xl_dup2 d230_121,
   fun _ _ _ _ _ => xl_ia d230_122,
   fun _ _ _ => xl_ic d230_123 (by decide +kernel),
   fun _ _ _ _ _ => xl_iadd d230_124,
   fun _ _ _ _ _ _ => xl_ist d230_125,
   fun _ _ _ _ _ _ => xl_aln d230_126 rfl,
   fun ls a0 h => xl_cv (As := [a0]) (st := []) d230_127 xco230 xm_11_244 (congrArg Nat.succ xnp223) (by decide +kernel) rfl,
   fun _ _ => xl_r d230_130 xrt230⟩
/-! 231 FacetSieveModel.fails(II)V -/
theorem d231_0 : decode (zz_c 231) 0 = .ok (.aload_n 0, 1) := by decide +kernel
theorem d231_1 : decode (zz_c 231) 1 = .ok (.getfield 208, 3) := by decide +kernel
theorem d231_4 : decode (zz_c 231) 4 = .ok (.ifCond .le 4, 3) := by decide +kernel
theorem d231_7 : decode (zz_c 231) 7 = .ok (.return_, 1) := by decide +kernel
theorem d231_8 : decode (zz_c 231) 8 = .ok (.aload_n 0, 1) := by decide +kernel
theorem d231_9 : decode (zz_c 231) 9 = .ok (.iload_n 1, 1) := by decide +kernel
theorem d231_10 : decode (zz_c 231) 10 = .ok (.putfield 208, 3) := by decide +kernel
theorem d231_13 : decode (zz_c 231) 13 = .ok (.aload_n 0, 1) := by decide +kernel
theorem d231_14 : decode (zz_c 231) 14 = .ok (.iload_n 2, 1) := by decide +kernel
theorem d231_15 : decode (zz_c 231) 15 = .ok (.putfield 20, 3) := by decide +kernel
theorem d231_18 : decode (zz_c 231) 18 = .ok (.return_, 1) := by decide +kernel
theorem x231 : (∀ l1 l2 x st h, zz_Y 231 (0, [some (.ref x), l1, l2], st, h) = zz_Y 231 (1, [some (.ref x), l1, l2], .ref x :: st, h)) ∧ (∀ ls a st h, zz_Y 231 (1, ls, .ref a :: st, h) = mo_gf (hp_g h a) 11 4 231 4 ls st h) ∧ (∀ ls a st h, zz_Y 231 (4, ls, .int a :: st, h) = if nI 0 < a then zz_Y 231 (7, ls, st, h) else zz_Y 231 (8, ls, st, h)) ∧ (∀ ls h, zz_Y 231 (7, ls, [], h) = some (none, h)) ∧ (∀ l1 l2 x st h, zz_Y 231 (8, [some (.ref x), l1, l2], st, h) = zz_Y 231 (9, [some (.ref x), l1, l2], .ref x :: st, h)) ∧ (∀ l0 l2 x st h, zz_Y 231 (9, [l0, some (.int x), l2], st, h) = zz_Y 231 (10, [l0, some (.int x), l2], .int x :: st, h)) ∧ (∀ ls a v st h, zz_Y 231 (10, ls, v :: .ref a :: st, h) = mo_pf (hp_g h a) 11 4 .int v a 231 13 ls st h) ∧ (∀ l1 l2 x st h, zz_Y 231 (13, [some (.ref x), l1, l2], st, h) = zz_Y 231 (14, [some (.ref x), l1, l2], .ref x :: st, h)) ∧ (∀ l0 l1 x st h, zz_Y 231 (14, [l0, l1, some (.int x)], st, h) = zz_Y 231 (15, [l0, l1, some (.int x)], .int x :: st, h)) ∧ (∀ ls a v st h, zz_Y 231 (15, ls, v :: .ref a :: st, h) = mo_pf (hp_g h a) 11 5 .int v a 231 18 ls st h) ∧ (∀ ls h, zz_Y 231 (18, ls, [], h) = some (none, h)) :=
  ⟨fun _ _ _ _ _ => xl_aln d231_0 rfl,
   fun _ _ _ _ => xl_gf d231_1 xco231 xf_11_208,
   fun _ _ _ _ => xl_ifle d231_4 rfl,
   fun _ _ => xl_r d231_7 xrt231,
   fun _ _ _ _ _ => xl_aln d231_8 rfl,
   fun _ _ _ _ _ => xl_iln d231_9 rfl,
   fun _ _ _ _ _ => xl_pf d231_10 xco231 xf_11_208 (by decide +kernel) rfl,
   fun _ _ _ _ _ => xl_aln d231_13 rfl,
   fun _ _ _ _ _ => xl_iln d231_14 rfl,
   fun _ _ _ _ _ => xl_pf d231_15 xco231 xf_11_20 (by decide +kernel) rfl,
   fun _ _ => xl_r d231_18 xrt231⟩
/-! 232 FacetSieveModel.tells(I)V -/
theorem d232_0 : decode (zz_c 232) 0 = .ok (.aload_n 0, 1) := by decide +kernel
theorem d232_1 : decode (zz_c 232) 1 = .ok (.invokevirtual 285, 3) := by decide +kernel
theorem d232_4 : decode (zz_c 232) 4 = .ok (.ifCond .ne 12, 3) := by decide +kernel
theorem d232_7 : decode (zz_c 232) 7 = .ok (.aload_n 0, 1) := by decide +kernel
theorem d232_8 : decode (zz_c 232) 8 = .ok (.iconst 1, 1) := by decide +kernel
theorem d232_9 : decode (zz_c 232) 9 = .ok (.aload_n 0, 1) := by decide +kernel
theorem d232_10 : decode (zz_c 232) 10 = .ok (.getfield 220, 3) := by decide +kernel
theorem d232_13 : decode (zz_c 232) 13 = .ok (.invokevirtual 288, 3) := by decide +kernel
theorem d232_16 : decode (zz_c 232) 16 = .ok (.aload_n 0, 1) := by decide +kernel
theorem d232_17 : decode (zz_c 232) 17 = .ok (.invokevirtual 247, 3) := by decide +kernel
theorem d232_20 : decode (zz_c 232) 20 = .ok (.ifCond .eq 40, 3) := by decide +kernel
theorem d232_23 : decode (zz_c 232) 23 = .ok (.aload_n 0, 1) := by decide +kernel
theorem d232_24 : decode (zz_c 232) 24 = .ok (.sipush 730, 3) := by decide +kernel
theorem d232_27 : decode (zz_c 232) 27 = .ok (.aload_n 0, 1) := by decide +kernel
theorem d232_28 : decode (zz_c 232) 28 = .ok (.getfield 223, 3) := by decide +kernel
theorem d232_31 : decode (zz_c 232) 31 = .ok (.invokevirtual 291, 3) := by decide +kernel
theorem d232_34 : decode (zz_c 232) 34 = .ok (.ifCond .ge 17, 3) := by decide +kernel
theorem d232_37 : decode (zz_c 232) 37 = .ok (.aload_n 0, 1) := by decide +kernel
theorem d232_38 : decode (zz_c 232) 38 = .ok (.sipush 730, 3) := by decide +kernel
theorem d232_41 : decode (zz_c 232) 41 = .ok (.aload_n 0, 1) := by decide +kernel
theorem d232_42 : decode (zz_c 232) 42 = .ok (.getfield 223, 3) := by decide +kernel
theorem d232_45 : decode (zz_c 232) 45 = .ok (.invokevirtual 295, 3) := by decide +kernel
theorem d232_48 : decode (zz_c 232) 48 = .ok (.ifCond .lt 12, 3) := by decide +kernel
theorem d232_51 : decode (zz_c 232) 51 = .ok (.aload_n 0, 1) := by decide +kernel
theorem d232_52 : decode (zz_c 232) 52 = .ok (.iconst 3, 1) := by decide +kernel
theorem d232_53 : decode (zz_c 232) 53 = .ok (.aload_n 0, 1) := by decide +kernel
theorem d232_54 : decode (zz_c 232) 54 = .ok (.getfield 220, 3) := by decide +kernel
theorem d232_57 : decode (zz_c 232) 57 = .ok (.invokevirtual 288, 3) := by decide +kernel
theorem d232_60 : decode (zz_c 232) 60 = .ok (.aload_n 0, 1) := by decide +kernel
theorem d232_61 : decode (zz_c 232) 61 = .ok (.invokevirtual 247, 3) := by decide +kernel
theorem d232_64 : decode (zz_c 232) 64 = .ok (.ifCond .ne 4, 3) := by decide +kernel
theorem d232_67 : decode (zz_c 232) 67 = .ok (.return_, 1) := by decide +kernel
theorem d232_68 : decode (zz_c 232) 68 = .ok (.aload_n 0, 1) := by decide +kernel
theorem d232_69 : decode (zz_c 232) 69 = .ok (.getfield 7, 3) := by decide +kernel
theorem d232_72 : decode (zz_c 232) 72 = .ok (.iload_n 1, 1) := by decide +kernel
theorem d232_73 : decode (zz_c 232) 73 = .ok (.aload_n 0, 1) := by decide +kernel
theorem d232_74 : decode (zz_c 232) 74 = .ok (.getfield 214, 3) := by decide +kernel
theorem d232_77 : decode (zz_c 232) 77 = .ok (.aload_n 0, 1) := by decide +kernel
theorem d232_78 : decode (zz_c 232) 78 = .ok (.getfield 220, 3) := by decide +kernel
theorem d232_81 : decode (zz_c 232) 81 = .ok (.isub, 1) := by decide +kernel
theorem d232_82 : decode (zz_c 232) 82 = .ok (.iastore, 1) := by decide +kernel
theorem d232_83 : decode (zz_c 232) 83 = .ok (.iconst 0, 1) := by decide +kernel
theorem d232_84 : decode (zz_c 232) 84 = .ok (.istore_n 2, 1) := by decide +kernel
theorem d232_85 : decode (zz_c 232) 85 = .ok (.iload_n 2, 1) := by decide +kernel
theorem d232_86 : decode (zz_c 232) 86 = .ok (.aload_n 0, 1) := by decide +kernel
theorem d232_87 : decode (zz_c 232) 87 = .ok (.getfield 7, 3) := by decide +kernel
theorem d232_90 : decode (zz_c 232) 90 = .ok (.iload_n 1, 1) := by decide +kernel
theorem d232_91 : decode (zz_c 232) 91 = .ok (.iaload, 1) := by decide +kernel
theorem d232_92 : decode (zz_c 232) 92 = .ok (.if_icmp .ge 29, 3) := by decide +kernel
theorem d232_95 : decode (zz_c 232) 95 = .ok (.aload_n 0, 1) := by decide +kernel
theorem d232_96 : decode (zz_c 232) 96 = .ok (.getfield 7, 3) := by decide +kernel
theorem d232_99 : decode (zz_c 232) 99 = .ok (.iload_n 1, 1) := by decide +kernel
theorem d232_100 : decode (zz_c 232) 100 = .ok (.iconst 1, 1) := by decide +kernel
theorem d232_101 : decode (zz_c 232) 101 = .ok (.iadd, 1) := by decide +kernel
theorem d232_102 : decode (zz_c 232) 102 = .ok (.iload_n 2, 1) := by decide +kernel
theorem d232_103 : decode (zz_c 232) 103 = .ok (.iadd, 1) := by decide +kernel
theorem d232_104 : decode (zz_c 232) 104 = .ok (.aload_n 0, 1) := by decide +kernel
theorem d232_105 : decode (zz_c 232) 105 = .ok (.aload_n 0, 1) := by decide +kernel
theorem d232_106 : decode (zz_c 232) 106 = .ok (.getfield 220, 3) := by decide +kernel
theorem d232_109 : decode (zz_c 232) 109 = .ok (.iload_n 2, 1) := by decide +kernel
theorem d232_110 : decode (zz_c 232) 110 = .ok (.iadd, 1) := by decide +kernel
theorem d232_111 : decode (zz_c 232) 111 = .ok (.invokevirtual 217, 3) := by decide +kernel
theorem d232_114 : decode (zz_c 232) 114 = .ok (.iastore, 1) := by decide +kernel
theorem d232_115 : decode (zz_c 232) 115 = .ok (.iinc 2 1, 3) := by decide +kernel
theorem d232_118 : decode (zz_c 232) 118 = .ok (.goto (-33), 3) := by decide +kernel
theorem d232_121 : decode (zz_c 232) 121 = .ok (.aload_n 0, 1) := by decide +kernel
theorem d232_122 : decode (zz_c 232) 122 = .ok (.invokevirtual 244, 3) := by decide +kernel
theorem d232_125 : decode (zz_c 232) 125 = .ok (.return_, 1) := by decide +kernel
theorem x232_p0 : (∀ l1 l2 x st h, zz_Y 232 (0, [some (.ref x), l1, l2], st, h) = zz_Y 232 (1, [some (.ref x), l1, l2], .ref x :: st, h)) ∧ (∀ ls a0 h, zz_Y 232 (1, ls, [a0], h) = mo_k 232 4 ls [] (zz_run 233 [a0] h)) ∧ (∀ ls a st h, zz_Y 232 (4, ls, .int a :: st, h) = if a = nI 0 then zz_Y 232 (7, ls, st, h) else zz_Y 232 (16, ls, st, h)) ∧ (∀ l1 l2 x st h, zz_Y 232 (7, [some (.ref x), l1, l2], st, h) = zz_Y 232 (8, [some (.ref x), l1, l2], .ref x :: st, h)) ∧ (∀ ls st h, zz_Y 232 (8, ls, st, h) = zz_Y 232 (9, ls, .int (nI 1) :: st, h)) ∧ (∀ l1 l2 x st h, zz_Y 232 (9, [some (.ref x), l1, l2], st, h) = zz_Y 232 (10, [some (.ref x), l1, l2], .ref x :: st, h)) ∧ (∀ ls a st h, zz_Y 232 (10, ls, .ref a :: st, h) = mo_gf (hp_g h a) 11 16 232 13 ls st h) ∧ (∀ ls a0 a1 a2 h, zz_Y 232 (13, ls, [a2, a1, a0], h) = mo_k 232 16 ls [] (zz_run 231 [a0, a1, a2] h)) ∧ (∀ l1 l2 x st h, zz_Y 232 (16, [some (.ref x), l1, l2], st, h) = zz_Y 232 (17, [some (.ref x), l1, l2], .ref x :: st, h)) ∧ (∀ ls a0 h, zz_Y 232 (17, ls, [a0], h) = mo_k 232 20 ls [] (zz_run 227 [a0] h)) ∧ (∀ ls a st h, zz_Y 232 (20, ls, .int a :: st, h) = if a = nI 0 then zz_Y 232 (60, ls, st, h) else zz_Y 232 (23, ls, st, h)) ∧ (∀ l1 l2 x st h, zz_Y 232 (23, [some (.ref x), l1, l2], st, h) = zz_Y 232 (24, [some (.ref x), l1, l2], .ref x :: st, h)) ∧ (∀ ls st h, zz_Y 232 (24, ls, st, h) = zz_Y 232 (27, ls, .int (nI 730) :: st, h)) ∧ (∀ l1 l2 x st h, zz_Y 232 (27, [some (.ref x), l1, l2], st, h) = zz_Y 232 (28, [some (.ref x), l1, l2], .ref x :: st, h)) ∧ (∀ ls a st h, zz_Y 232 (28, ls, .ref a :: st, h) = mo_gf (hp_g h a) 11 17 232 31 ls st h) ∧ (∀ ls a0 a1 a2 h, zz_Y 232 (31, ls, [a2, a1, a0], h) = mo_k 232 34 ls [] (zz_run 235 [a0, a1, a2] h)) ∧ (∀ ls a st h, zz_Y 232 (34, ls, .int a :: st, h) = if a < nI 0 then zz_Y 232 (37, ls, st, h) else zz_Y 232 (51, ls, st, h)) ∧ (∀ l1 l2 x st h, zz_Y 232 (37, [some (.ref x), l1, l2], st, h) = zz_Y 232 (38, [some (.ref x), l1, l2], .ref x :: st, h)) ∧ (∀ ls st h, zz_Y 232 (38, ls, st, h) = zz_Y 232 (41, ls, .int (nI 730) :: st, h)) ∧ (∀ l1 l2 x st h, zz_Y 232 (41, [some (.ref x), l1, l2], st, h) = zz_Y 232 (42, [some (.ref x), l1, l2], .ref x :: st, h)) ∧ (∀ ls a st h, zz_Y 232 (42, ls, .ref a :: st, h) = mo_gf (hp_g h a) 11 17 232 45 ls st h) ∧ (∀ ls a0 a1 a2 h, zz_Y 232 (45, ls, [a2, a1, a0], h) = mo_k 232 48 ls [] (zz_run 237 [a0, a1, a2] h)) ∧ (∀ ls a st h, zz_Y 232 (48, ls, .int a :: st, h) = if a < nI 0 then zz_Y 232 (60, ls, st, h) else zz_Y 232 (51, ls, st, h)) ∧ (∀ l1 l2 x st h, zz_Y 232 (51, [some (.ref x), l1, l2], st, h) = zz_Y 232 (52, [some (.ref x), l1, l2], .ref x :: st, h)) ∧ (∀ ls st h, zz_Y 232 (52, ls, st, h) = zz_Y 232 (53, ls, .int (nI 3) :: st, h)) ∧ (∀ l1 l2 x st h, zz_Y 232 (53, [some (.ref x), l1, l2], st, h) = zz_Y 232 (54, [some (.ref x), l1, l2], .ref x :: st, h)) ∧ (∀ ls a st h, zz_Y 232 (54, ls, .ref a :: st, h) = mo_gf (hp_g h a) 11 16 232 57 ls st h) ∧ (∀ ls a0 a1 a2 h, zz_Y 232 (57, ls, [a2, a1, a0], h) = mo_k 232 60 ls [] (zz_run 231 [a0, a1, a2] h)) ∧ (∀ l1 l2 x st h, zz_Y 232 (60, [some (.ref x), l1, l2], st, h) = zz_Y 232 (61, [some (.ref x), l1, l2], .ref x :: st, h)) ∧ (∀ ls a0 h, zz_Y 232 (61, ls, [a0], h) = mo_k 232 64 ls [] (zz_run 227 [a0] h)) ∧ (∀ ls a st h, zz_Y 232 (64, ls, .int a :: st, h) = if a = nI 0 then zz_Y 232 (67, ls, st, h) else zz_Y 232 (68, ls, st, h)) ∧ (∀ ls h, zz_Y 232 (67, ls, [], h) = some (none, h)) ∧ (∀ l1 l2 x st h, zz_Y 232 (68, [some (.ref x), l1, l2], st, h) = zz_Y 232 (69, [some (.ref x), l1, l2], .ref x :: st, h)) ∧ (∀ ls a st h, zz_Y 232 (69, ls, .ref a :: st, h) = mo_gf (hp_g h a) 11 0 232 72 ls st h) ∧ (∀ l0 l2 x st h, zz_Y 232 (72, [l0, some (.int x), l2], st, h) = zz_Y 232 (73, [l0, some (.int x), l2], .int x :: st, h)) ∧ (∀ l1 l2 x st h, zz_Y 232 (73, [some (.ref x), l1, l2], st, h) = zz_Y 232 (74, [some (.ref x), l1, l2], .ref x :: st, h)) ∧ (∀ ls a st h, zz_Y 232 (74, ls, .ref a :: st, h) = mo_gf (hp_g h a) 11 14 232 77 ls st h) ∧ (∀ l1 l2 x st h, zz_Y 232 (77, [some (.ref x), l1, l2], st, h) = zz_Y 232 (78, [some (.ref x), l1, l2], .ref x :: st, h)) ∧ (∀ ls a st h, zz_Y 232 (78, ls, .ref a :: st, h) = mo_gf (hp_g h a) 11 16 232 81 ls st h) ∧ (∀ ls a b st h, zz_Y 232 (81, ls, .int b :: .int a :: st, h) = zz_Y 232 (82, ls, .int (a - b) :: st, h)) ∧ (∀ ls a i x st h, zz_Y 232 (82, ls, .int x :: .int i :: .ref a :: st, h) = mo_is (hp_g h a) x i a 232 83 ls st h) ∧ (∀ ls st h, zz_Y 232 (83, ls, st, h) = zz_Y 232 (84, ls, .int (nI 0) :: st, h)) ∧ (∀ l0 l1 l2 x st h, zz_nl l1 = true → zz_Y 232 (84, [l0, l1, l2], .int x :: st, h) = zz_Y 232 (85, [l0, l1, some (.int x)], st, h)) ∧ (∀ l1 l2 x st h, zz_Y 232 (86, [some (.ref x), l1, l2], st, h) = zz_Y 232 (87, [some (.ref x), l1, l2], .ref x :: st, h)) ∧ (∀ ls a st h, zz_Y 232 (87, ls, .ref a :: st, h) = mo_gf (hp_g h a) 11 0 232 90 ls st h) ∧ (∀ l0 l2 x st h, zz_Y 232 (90, [l0, some (.int x), l2], st, h) = zz_Y 232 (91, [l0, some (.int x), l2], .int x :: st, h)) ∧ (∀ ls a i st h, zz_Y 232 (91, ls, .int i :: .ref a :: st, h) = mo_ia (hp_g h a) i a 232 92 ls st h) ∧ (∀ ls a b st h, zz_Y 232 (92, ls, .int b :: .int a :: st, h) = if a < b then zz_Y 232 (95, ls, st, h) else zz_Y 232 (121, ls, st, h)) ∧ (∀ l1 l2 x st h, zz_Y 232 (95, [some (.ref x), l1, l2], st, h) = zz_Y 232 (96, [some (.ref x), l1, l2], .ref x :: st, h)) ∧ (∀ ls a st h, zz_Y 232 (96, ls, .ref a :: st, h) = mo_gf (hp_g h a) 11 0 232 99 ls st h) ∧ (∀ l0 l2 x st h, zz_Y 232 (99, [l0, some (.int x), l2], st, h) = zz_Y 232 (100, [l0, some (.int x), l2], .int x :: st, h)) ∧ (∀ ls st h, zz_Y 232 (100, ls, st, h) = zz_Y 232 (101, ls, .int (nI 1) :: st, h)) ∧ (∀ ls a b st h, zz_Y 232 (101, ls, .int b :: .int a :: st, h) = zz_Y 232 (102, ls, .int (a + b) :: st, h)) ∧ (∀ l0 l1 x st h, zz_Y 232 (102, [l0, l1, some (.int x)], st, h) = zz_Y 232 (103, [l0, l1, some (.int x)], .int x :: st, h)) ∧ (∀ ls a b st h, zz_Y 232 (103, ls, .int b :: .int a :: st, h) = zz_Y 232 (104, ls, .int (a + b) :: st, h)) ∧ (∀ l1 l2 x st h, zz_Y 232 (104, [some (.ref x), l1, l2], st, h) = zz_Y 232 (105, [some (.ref x), l1, l2], .ref x :: st, h)) ∧ (∀ l1 l2 x st h, zz_Y 232 (105, [some (.ref x), l1, l2], st, h) = zz_Y 232 (106, [some (.ref x), l1, l2], .ref x :: st, h)) ∧ (∀ ls a st h, zz_Y 232 (106, ls, .ref a :: st, h) = mo_gf (hp_g h a) 11 16 232 109 ls st h) ∧ (∀ l0 l1 x st h, zz_Y 232 (109, [l0, l1, some (.int x)], st, h) = zz_Y 232 (110, [l0, l1, some (.int x)], .int x :: st, h)) ∧ (∀ ls a b st h, zz_Y 232 (110, ls, .int b :: .int a :: st, h) = zz_Y 232 (111, ls, .int (a + b) :: st, h)) :=
  ⟨fun _ _ _ _ _ => xl_aln d232_0 rfl,
   fun ls a0 h => xl_cv (As := [a0]) (st := []) d232_1 xco232 xm_11_285 (congrArg Nat.succ xnp233) (by decide +kernel) rfl,
   fun _ _ _ _ => xl_ifne d232_4 rfl,
   fun _ _ _ _ _ => xl_aln d232_7 rfl,
   fun _ _ _ => xl_ic d232_8 (by decide +kernel),
   fun _ _ _ _ _ => xl_aln d232_9 rfl,
   fun _ _ _ _ => xl_gf d232_10 xco232 xf_11_220,
   fun ls a0 a1 a2 h => xl_cv (As := [a0, a1, a2]) (st := []) d232_13 xco232 xm_11_288 (congrArg Nat.succ xnp231) (by decide +kernel) rfl,
   fun _ _ _ _ _ => xl_aln d232_16 rfl,
   fun ls a0 h => xl_cv (As := [a0]) (st := []) d232_17 xco232 xm_11_247 (congrArg Nat.succ xnp227) (by decide +kernel) rfl,
   fun _ _ _ _ => xl_ifeq d232_20 rfl,
   fun _ _ _ _ _ => xl_aln d232_23 rfl,
   fun _ _ _ => xl_si d232_24 (by decide +kernel),
   fun _ _ _ _ _ => xl_aln d232_27 rfl,
   fun _ _ _ _ => xl_gf d232_28 xco232 xf_11_223,
   fun ls a0 a1 a2 h => xl_cv (As := [a0, a1, a2]) (st := []) d232_31 xco232 xm_11_291 (congrArg Nat.succ xnp235) (by decide +kernel) rfl,
   fun _ _ _ _ => xl_ifge d232_34 rfl,
   fun _ _ _ _ _ => xl_aln d232_37 rfl,
   fun _ _ _ => xl_si d232_38 (by decide +kernel),
   fun _ _ _ _ _ => xl_aln d232_41 rfl,
   fun _ _ _ _ => xl_gf d232_42 xco232 xf_11_223,
   fun ls a0 a1 a2 h => xl_cv (As := [a0, a1, a2]) (st := []) d232_45 xco232 xm_11_295 (congrArg Nat.succ xnp237) (by decide +kernel) rfl,
   fun _ _ _ _ => xl_iflt d232_48 rfl,
   fun _ _ _ _ _ => xl_aln d232_51 rfl,
   fun _ _ _ => xl_ic d232_52 (by decide +kernel),
   fun _ _ _ _ _ => xl_aln d232_53 rfl,
   fun _ _ _ _ => xl_gf d232_54 xco232 xf_11_220,
   fun ls a0 a1 a2 h => xl_cv (As := [a0, a1, a2]) (st := []) d232_57 xco232 xm_11_288 (congrArg Nat.succ xnp231) (by decide +kernel) rfl,
   fun _ _ _ _ _ => xl_aln d232_60 rfl,
   fun ls a0 h => xl_cv (As := [a0]) (st := []) d232_61 xco232 xm_11_247 (congrArg Nat.succ xnp227) (by decide +kernel) rfl,
   fun _ _ _ _ => xl_ifne d232_64 rfl,
   fun _ _ => xl_r d232_67 xrt232,
   fun _ _ _ _ _ => xl_aln d232_68 rfl,
   fun _ _ _ _ => xl_gf d232_69 xco232 xf_11_7,
   fun _ _ _ _ _ => xl_iln d232_72 rfl,
   fun _ _ _ _ _ => xl_aln d232_73 rfl,
   fun _ _ _ _ => xl_gf d232_74 xco232 xf_11_214,
   fun _ _ _ _ _ => xl_aln d232_77 rfl,
   fun _ _ _ _ => xl_gf d232_78 xco232 xf_11_220,
   fun _ _ _ _ _ => xl_isub d232_81,
   fun _ _ _ _ _ _ => xl_ist d232_82,
   fun _ _ _ => xl_ic d232_83 (by decide +kernel),
   fun _ _ _ _ _ _ hc => xl_isn d232_84 xml232 (by decide) (zz_nl_s1 hc),
   fun _ _ _ _ _ => xl_aln d232_86 rfl,
   fun _ _ _ _ => xl_gf d232_87 xco232 xf_11_7,
   fun _ _ _ _ _ => xl_iln d232_90 rfl,
   fun _ _ _ _ _ => xl_ia d232_91,
   fun _ _ _ _ _ => xl_icge d232_92 rfl,
   fun _ _ _ _ _ => xl_aln d232_95 rfl,
   fun _ _ _ _ => xl_gf d232_96 xco232 xf_11_7,
   fun _ _ _ _ _ => xl_iln d232_99 rfl,
   fun _ _ _ => xl_ic d232_100 (by decide +kernel),
   fun _ _ _ _ _ => xl_iadd d232_101,
   fun _ _ _ _ _ => xl_iln d232_102 rfl,
   fun _ _ _ _ _ => xl_iadd d232_103,
   fun _ _ _ _ _ => xl_aln d232_104 rfl,
   fun _ _ _ _ _ => xl_aln d232_105 rfl,
   fun _ _ _ _ => xl_gf d232_106 xco232 xf_11_220,
   fun _ _ _ _ _ => xl_iln d232_109 rfl,
   fun _ _ _ _ _ => xl_iadd d232_110⟩
theorem x232_p1 : (∀ ls a0 a1 s0 s1 h, zz_Y 232 (111, ls, [a1, a0, s0, s1], h) = mo_k 232 114 ls [s0, s1] (zz_run 224 [a0, a1] h)) ∧ (∀ ls a i x st h, zz_Y 232 (114, ls, .int x :: .int i :: .ref a :: st, h) = mo_is (hp_g h a) x i a 232 115 ls st h) ∧ (∀ l0 l1 x st h, zz_nl l1 = true → zz_Y 232 (115, [l0, l1, some (.int x)], st, h) = zz_Y 232 (118, [l0, l1, some (.int (x + nI 1))], st, h)) ∧ (∀ ls st h, zz_Y 232 (118, ls, st, h) = zz_Y 232 (85, ls, st, h)) ∧ (∀ l1 l2 x st h, zz_Y 232 (121, [some (.ref x), l1, l2], st, h) = zz_Y 232 (122, [some (.ref x), l1, l2], .ref x :: st, h)) ∧ (∀ ls a0 h, zz_Y 232 (122, ls, [a0], h) = mo_k 232 125 ls [] (zz_run 223 [a0] h)) ∧ (∀ ls h, zz_Y 232 (125, ls, [], h) = some (none, h)) :=
  ⟨fun ls a0 a1 s0 s1 h => xl_cv (As := [a0, a1]) (st := [s0, s1]) d232_111 xco232 xm_11_217 (congrArg Nat.succ xnp224) (by decide +kernel) rfl,
   fun _ _ _ _ _ _ => xl_ist d232_114,
   fun _ _ _ _ _ hc => xl_inc d232_115 xml232 (by decide) rfl (by decide +kernel) (zz_nl_s1 hc),
   fun _ _ _ => xl_goto d232_118 rfl,
   fun _ _ _ _ _ => xl_aln d232_121 rfl,
   fun ls a0 h => xl_cv (As := [a0]) (st := []) d232_122 xco232 xm_11_244 (congrArg Nat.succ xnp223) (by decide +kernel) rfl,
   fun _ _ => xl_r d232_125 xrt232⟩
theorem x232_c85 : ∀ l0 l1 x st h, zz_Y 232 (85, [l0, l1, some (.int x)], st, h) = zz_Y 232 (86, [l0, l1, some (.int x)], .int x :: st, h) := fun _ _ _ _ _ => xl_iln d232_85 rfl
/-! 233 FacetSieveModel.isName()Z -/
theorem d233_0 : decode (zz_c 233) 0 = .ok (.aload_n 0, 1) := by decide +kernel
theorem d233_1 : decode (zz_c 233) 1 = .ok (.invokevirtual 247, 3) := by decide +kernel
theorem d233_4 : decode (zz_c 233) 4 = .ok (.ifCond .eq 25, 3) := by decide +kernel
theorem d233_7 : decode (zz_c 233) 7 = .ok (.aload_n 0, 1) := by decide +kernel
theorem d233_8 : decode (zz_c 233) 8 = .ok (.getfield 227, 3) := by decide +kernel
theorem d233_11 : decode (zz_c 233) 11 = .ok (.iconst 1, 1) := by decide +kernel
theorem d233_12 : decode (zz_c 233) 12 = .ok (.if_icmp .ne 17, 3) := by decide +kernel
theorem d233_15 : decode (zz_c 233) 15 = .ok (.aload_n 0, 1) := by decide +kernel
theorem d233_16 : decode (zz_c 233) 16 = .ok (.getfield 223, 3) := by decide +kernel
theorem d233_19 : decode (zz_c 233) 19 = .ok (.invokestatic 278, 3) := by decide +kernel
theorem d233_22 : decode (zz_c 233) 22 = .ok (.ifCond .ne 7, 3) := by decide +kernel
theorem d233_25 : decode (zz_c 233) 25 = .ok (.iconst 1, 1) := by decide +kernel
theorem d233_26 : decode (zz_c 233) 26 = .ok (.goto 4, 3) := by decide +kernel
theorem d233_29 : decode (zz_c 233) 29 = .ok (.iconst 0, 1) := by decide +kernel
theorem d233_30 : decode (zz_c 233) 30 = .ok (.ireturn, 1) := by decide +kernel
theorem x233 : (∀ x st h, zz_Y 233 (0, [some (.ref x)], st, h) = zz_Y 233 (1, [some (.ref x)], .ref x :: st, h)) ∧ (∀ ls a0 h, zz_Y 233 (1, ls, [a0], h) = mo_k 233 4 ls [] (zz_run 227 [a0] h)) ∧ (∀ ls a st h, zz_Y 233 (4, ls, .int a :: st, h) = if a = nI 0 then zz_Y 233 (29, ls, st, h) else zz_Y 233 (7, ls, st, h)) ∧ (∀ x st h, zz_Y 233 (7, [some (.ref x)], st, h) = zz_Y 233 (8, [some (.ref x)], .ref x :: st, h)) ∧ (∀ ls a st h, zz_Y 233 (8, ls, .ref a :: st, h) = mo_gf (hp_g h a) 11 15 233 11 ls st h) ∧ (∀ ls st h, zz_Y 233 (11, ls, st, h) = zz_Y 233 (12, ls, .int (nI 1) :: st, h)) ∧ (∀ ls a b st h, zz_Y 233 (12, ls, .int b :: .int a :: st, h) = if a = b then zz_Y 233 (15, ls, st, h) else zz_Y 233 (29, ls, st, h)) ∧ (∀ x st h, zz_Y 233 (15, [some (.ref x)], st, h) = zz_Y 233 (16, [some (.ref x)], .ref x :: st, h)) ∧ (∀ ls a st h, zz_Y 233 (16, ls, .ref a :: st, h) = mo_gf (hp_g h a) 11 17 233 19 ls st h) ∧ (∀ ls a0 h, zz_Y 233 (19, ls, [a0], h) = mo_k 233 22 ls [] (zz_run 234 [a0] h)) ∧ (∀ ls a st h, zz_Y 233 (22, ls, .int a :: st, h) = if a = nI 0 then zz_Y 233 (25, ls, st, h) else zz_Y 233 (29, ls, st, h)) ∧ (∀ ls st h, zz_Y 233 (25, ls, st, h) = zz_Y 233 (26, ls, .int (nI 1) :: st, h)) ∧ (∀ ls st h, zz_Y 233 (26, ls, st, h) = zz_Y 233 (30, ls, st, h)) ∧ (∀ ls st h, zz_Y 233 (29, ls, st, h) = zz_Y 233 (30, ls, .int (nI 0) :: st, h)) ∧ (∀ ls v h, v = nI 0 ∨ v = nI 1 → zz_Y 233 (30, ls, [.int v], h) = some (some (.int v), h)) :=
  ⟨fun _ _ _ => xl_aln d233_0 rfl,
   fun ls a0 h => xl_cv (As := [a0]) (st := []) d233_1 xco233 xm_11_247 (congrArg Nat.succ xnp227) (by decide +kernel) rfl,
   fun _ _ _ _ => xl_ifeq d233_4 rfl,
   fun _ _ _ => xl_aln d233_7 rfl,
   fun _ _ _ _ => xl_gf d233_8 xco233 xf_11_227,
   fun _ _ _ => xl_ic d233_11 (by decide +kernel),
   fun _ _ _ _ _ => xl_icne d233_12 rfl,
   fun _ _ _ => xl_aln d233_15 rfl,
   fun _ _ _ _ => xl_gf d233_16 xco233 xf_11_223,
   fun ls a0 h => xl_cs (As := [a0]) (st := []) d233_19 xco233 xm_11_278 xnp234 (by decide +kernel) rfl,
   fun _ _ _ _ => xl_ifne d233_22 rfl,
   fun _ _ _ => xl_ic d233_25 (by decide +kernel),
   fun _ _ _ => xl_goto d233_26 rfl,
   fun _ _ _ => xl_ic d233_29 (by decide +kernel),
   fun _ _ _ hc => xl_irz d233_30 xrt233 hc⟩
/-! 234 FacetSieveModel.isKept(J)Z -/
theorem d234_0 : decode (zz_c 234) 0 = .ok (.lload_n 0, 1) := by decide +kernel
theorem d234_1 : decode (zz_c 234) 1 = .ok (.ldc2_w 258, 3) := by decide +kernel
theorem d234_4 : decode (zz_c 234) 4 = .ok (.lcmp, 1) := by decide +kernel
theorem d234_5 : decode (zz_c 234) 5 = .ok (.ifCond .eq 75, 3) := by decide +kernel
theorem d234_8 : decode (zz_c 234) 8 = .ok (.lload_n 0, 1) := by decide +kernel
theorem d234_9 : decode (zz_c 234) 9 = .ok (.ldc2_w 260, 3) := by decide +kernel
theorem d234_12 : decode (zz_c 234) 12 = .ok (.lcmp, 1) := by decide +kernel
theorem d234_13 : decode (zz_c 234) 13 = .ok (.ifCond .eq 67, 3) := by decide +kernel
theorem d234_16 : decode (zz_c 234) 16 = .ok (.lload_n 0, 1) := by decide +kernel
theorem d234_17 : decode (zz_c 234) 17 = .ok (.ldc2_w 262, 3) := by decide +kernel
theorem d234_20 : decode (zz_c 234) 20 = .ok (.lcmp, 1) := by decide +kernel
theorem d234_21 : decode (zz_c 234) 21 = .ok (.ifCond .eq 59, 3) := by decide +kernel
theorem d234_24 : decode (zz_c 234) 24 = .ok (.lload_n 0, 1) := by decide +kernel
theorem d234_25 : decode (zz_c 234) 25 = .ok (.ldc2_w 264, 3) := by decide +kernel
theorem d234_28 : decode (zz_c 234) 28 = .ok (.lcmp, 1) := by decide +kernel
theorem d234_29 : decode (zz_c 234) 29 = .ok (.ifCond .eq 51, 3) := by decide +kernel
theorem d234_32 : decode (zz_c 234) 32 = .ok (.lload_n 0, 1) := by decide +kernel
theorem d234_33 : decode (zz_c 234) 33 = .ok (.ldc2_w 266, 3) := by decide +kernel
theorem d234_36 : decode (zz_c 234) 36 = .ok (.lcmp, 1) := by decide +kernel
theorem d234_37 : decode (zz_c 234) 37 = .ok (.ifCond .eq 43, 3) := by decide +kernel
theorem d234_40 : decode (zz_c 234) 40 = .ok (.lload_n 0, 1) := by decide +kernel
theorem d234_41 : decode (zz_c 234) 41 = .ok (.ldc2_w 268, 3) := by decide +kernel
theorem d234_44 : decode (zz_c 234) 44 = .ok (.lcmp, 1) := by decide +kernel
theorem d234_45 : decode (zz_c 234) 45 = .ok (.ifCond .eq 35, 3) := by decide +kernel
theorem d234_48 : decode (zz_c 234) 48 = .ok (.lload_n 0, 1) := by decide +kernel
theorem d234_49 : decode (zz_c 234) 49 = .ok (.ldc2_w 270, 3) := by decide +kernel
theorem d234_52 : decode (zz_c 234) 52 = .ok (.lcmp, 1) := by decide +kernel
theorem d234_53 : decode (zz_c 234) 53 = .ok (.ifCond .eq 27, 3) := by decide +kernel
theorem d234_56 : decode (zz_c 234) 56 = .ok (.lload_n 0, 1) := by decide +kernel
theorem d234_57 : decode (zz_c 234) 57 = .ok (.ldc2_w 272, 3) := by decide +kernel
theorem d234_60 : decode (zz_c 234) 60 = .ok (.lcmp, 1) := by decide +kernel
theorem d234_61 : decode (zz_c 234) 61 = .ok (.ifCond .eq 19, 3) := by decide +kernel
theorem d234_64 : decode (zz_c 234) 64 = .ok (.lload_n 0, 1) := by decide +kernel
theorem d234_65 : decode (zz_c 234) 65 = .ok (.ldc2_w 274, 3) := by decide +kernel
theorem d234_68 : decode (zz_c 234) 68 = .ok (.lcmp, 1) := by decide +kernel
theorem d234_69 : decode (zz_c 234) 69 = .ok (.ifCond .eq 11, 3) := by decide +kernel
theorem d234_72 : decode (zz_c 234) 72 = .ok (.lload_n 0, 1) := by decide +kernel
theorem d234_73 : decode (zz_c 234) 73 = .ok (.ldc2_w 276, 3) := by decide +kernel
theorem d234_76 : decode (zz_c 234) 76 = .ok (.lcmp, 1) := by decide +kernel
theorem d234_77 : decode (zz_c 234) 77 = .ok (.ifCond .ne 7, 3) := by decide +kernel
theorem d234_80 : decode (zz_c 234) 80 = .ok (.iconst 1, 1) := by decide +kernel
theorem d234_81 : decode (zz_c 234) 81 = .ok (.goto 4, 3) := by decide +kernel
theorem d234_84 : decode (zz_c 234) 84 = .ok (.iconst 0, 1) := by decide +kernel
theorem d234_85 : decode (zz_c 234) 85 = .ok (.ireturn, 1) := by decide +kernel
theorem x234 : (∀ l1 x st h, zz_Y 234 (0, [some (.long x), l1], st, h) = zz_Y 234 (1, [some (.long x), l1], .long x :: st, h)) ∧ (∀ ls st h, zz_Y 234 (1, ls, st, h) = zz_Y 234 (4, ls, .long (lN 161140) :: st, h)) ∧ (∀ ls a b st h, zz_Y 234 (4, ls, .long b :: .long a :: st, h) = zz_Y 234 (5, ls, .int (lg_cmp a b) :: st, h)) ∧ (∀ ls a st h, zz_Y 234 (5, ls, .int a :: st, h) = if a = nI 0 then zz_Y 234 (80, ls, st, h) else zz_Y 234 (8, ls, st, h)) ∧ (∀ l1 x st h, zz_Y 234 (8, [some (.long x), l1], st, h) = zz_Y 234 (9, [some (.long x), l1], .long x :: st, h)) ∧ (∀ ls st h, zz_Y 234 (9, ls, st, h) = zz_Y 234 (12, ls, .long (lN 277693196) :: st, h)) ∧ (∀ ls a b st h, zz_Y 234 (12, ls, .long b :: .long a :: st, h) = zz_Y 234 (13, ls, .int (lg_cmp a b) :: st, h)) ∧ (∀ ls a st h, zz_Y 234 (13, ls, .int a :: st, h) = if a = nI 0 then zz_Y 234 (80, ls, st, h) else zz_Y 234 (16, ls, st, h)) ∧ (∀ l1 x st h, zz_Y 234 (16, [some (.long x), l1], st, h) = zz_Y 234 (17, [some (.long x), l1], .long x :: st, h)) ∧ (∀ ls st h, zz_Y 234 (17, ls, st, h) = zz_Y 234 (20, ls, .long (lN 257011) :: st, h)) ∧ (∀ ls a b st h, zz_Y 234 (20, ls, .long b :: .long a :: st, h) = zz_Y 234 (21, ls, .int (lg_cmp a b) :: st, h)) ∧ (∀ ls a st h, zz_Y 234 (21, ls, .int a :: st, h) = if a = nI 0 then zz_Y 234 (80, ls, st, h) else zz_Y 234 (24, ls, st, h)) ∧ (∀ l1 x st h, zz_Y 234 (24, [some (.long x), l1], st, h) = zz_Y 234 (25, [some (.long x), l1], .long x :: st, h)) ∧ (∀ ls st h, zz_Y 234 (25, ls, st, h) = zz_Y 234 (28, ls, .long (lN 11720705) :: st, h)) ∧ (∀ ls a b st h, zz_Y 234 (28, ls, .long b :: .long a :: st, h) = zz_Y 234 (29, ls, .int (lg_cmp a b) :: st, h)) ∧ (∀ ls a st h, zz_Y 234 (29, ls, .int a :: st, h) = if a = nI 0 then zz_Y 234 (80, ls, st, h) else zz_Y 234 (32, ls, st, h)) ∧ (∀ l1 x st h, zz_Y 234 (32, [some (.long x), l1], st, h) = zz_Y 234 (33, [some (.long x), l1], .long x :: st, h)) ∧ (∀ ls st h, zz_Y 234 (33, ls, st, h) = zz_Y 234 (36, ls, .long (lN 257) :: st, h)) ∧ (∀ ls a b st h, zz_Y 234 (36, ls, .long b :: .long a :: st, h) = zz_Y 234 (37, ls, .int (lg_cmp a b) :: st, h)) ∧ (∀ ls a st h, zz_Y 234 (37, ls, .int a :: st, h) = if a = nI 0 then zz_Y 234 (80, ls, st, h) else zz_Y 234 (40, ls, st, h)) ∧ (∀ l1 x st h, zz_Y 234 (40, [some (.long x), l1], st, h) = zz_Y 234 (41, [some (.long x), l1], .long x :: st, h)) ∧ (∀ ls st h, zz_Y 234 (41, ls, st, h) = zz_Y 234 (44, ls, .long (lN 261008005) :: st, h)) ∧ (∀ ls a b st h, zz_Y 234 (44, ls, .long b :: .long a :: st, h) = zz_Y 234 (45, ls, .int (lg_cmp a b) :: st, h)) ∧ (∀ ls a st h, zz_Y 234 (45, ls, .int a :: st, h) = if a = nI 0 then zz_Y 234 (80, ls, st, h) else zz_Y 234 (48, ls, st, h)) ∧ (∀ l1 x st h, zz_Y 234 (48, [some (.long x), l1], st, h) = zz_Y 234 (49, [some (.long x), l1], .long x :: st, h)) ∧ (∀ ls st h, zz_Y 234 (49, ls, st, h) = zz_Y 234 (52, ls, .long (lN 423) :: st, h)) ∧ (∀ ls a b st h, zz_Y 234 (52, ls, .long b :: .long a :: st, h) = zz_Y 234 (53, ls, .int (lg_cmp a b) :: st, h)) ∧ (∀ ls a st h, zz_Y 234 (53, ls, .int a :: st, h) = if a = nI 0 then zz_Y 234 (80, ls, st, h) else zz_Y 234 (56, ls, st, h)) ∧ (∀ l1 x st h, zz_Y 234 (56, [some (.long x), l1], st, h) = zz_Y 234 (57, [some (.long x), l1], .long x :: st, h)) ∧ (∀ ls st h, zz_Y 234 (57, ls, st, h) = zz_Y 234 (60, ls, .long (lN 1111) :: st, h)) ∧ (∀ ls a b st h, zz_Y 234 (60, ls, .long b :: .long a :: st, h) = zz_Y 234 (61, ls, .int (lg_cmp a b) :: st, h)) ∧ (∀ ls a st h, zz_Y 234 (61, ls, .int a :: st, h) = if a = nI 0 then zz_Y 234 (80, ls, st, h) else zz_Y 234 (64, ls, st, h)) ∧ (∀ l1 x st h, zz_Y 234 (64, [some (.long x), l1], st, h) = zz_Y 234 (65, [some (.long x), l1], .long x :: st, h)) ∧ (∀ ls st h, zz_Y 234 (65, ls, st, h) = zz_Y 234 (68, ls, .long (lN 240373) :: st, h)) ∧ (∀ ls a b st h, zz_Y 234 (68, ls, .long b :: .long a :: st, h) = zz_Y 234 (69, ls, .int (lg_cmp a b) :: st, h)) ∧ (∀ ls a st h, zz_Y 234 (69, ls, .int a :: st, h) = if a = nI 0 then zz_Y 234 (80, ls, st, h) else zz_Y 234 (72, ls, st, h)) ∧ (∀ l1 x st h, zz_Y 234 (72, [some (.long x), l1], st, h) = zz_Y 234 (73, [some (.long x), l1], .long x :: st, h)) ∧ (∀ ls st h, zz_Y 234 (73, ls, st, h) = zz_Y 234 (76, ls, .long (lN 1065) :: st, h)) ∧ (∀ ls a b st h, zz_Y 234 (76, ls, .long b :: .long a :: st, h) = zz_Y 234 (77, ls, .int (lg_cmp a b) :: st, h)) ∧ (∀ ls a st h, zz_Y 234 (77, ls, .int a :: st, h) = if a = nI 0 then zz_Y 234 (80, ls, st, h) else zz_Y 234 (84, ls, st, h)) ∧ (∀ ls st h, zz_Y 234 (80, ls, st, h) = zz_Y 234 (81, ls, .int (nI 1) :: st, h)) ∧ (∀ ls st h, zz_Y 234 (81, ls, st, h) = zz_Y 234 (85, ls, st, h)) ∧ (∀ ls st h, zz_Y 234 (84, ls, st, h) = zz_Y 234 (85, ls, .int (nI 0) :: st, h)) ∧ (∀ ls v h, v = nI 0 ∨ v = nI 1 → zz_Y 234 (85, ls, [.int v], h) = some (some (.int v), h)) :=
  ⟨fun _ _ _ _ => xl_lln d234_0 rfl,
   fun _ _ _ => xl_jw d234_1 xco234 (by decide +kernel),
   fun _ _ _ _ _ => xl_lcmp d234_4,
   fun _ _ _ _ => xl_ifeq d234_5 rfl,
   fun _ _ _ _ => xl_lln d234_8 rfl,
   fun _ _ _ => xl_jw d234_9 xco234 (by decide +kernel),
   fun _ _ _ _ _ => xl_lcmp d234_12,
   fun _ _ _ _ => xl_ifeq d234_13 rfl,
   fun _ _ _ _ => xl_lln d234_16 rfl,
   fun _ _ _ => xl_jw d234_17 xco234 (by decide +kernel),
   fun _ _ _ _ _ => xl_lcmp d234_20,
   fun _ _ _ _ => xl_ifeq d234_21 rfl,
   fun _ _ _ _ => xl_lln d234_24 rfl,
   fun _ _ _ => xl_jw d234_25 xco234 (by decide +kernel),
   fun _ _ _ _ _ => xl_lcmp d234_28,
   fun _ _ _ _ => xl_ifeq d234_29 rfl,
   fun _ _ _ _ => xl_lln d234_32 rfl,
   fun _ _ _ => xl_jw d234_33 xco234 (by decide +kernel),
   fun _ _ _ _ _ => xl_lcmp d234_36,
   fun _ _ _ _ => xl_ifeq d234_37 rfl,
   fun _ _ _ _ => xl_lln d234_40 rfl,
   fun _ _ _ => xl_jw d234_41 xco234 (by decide +kernel),
   fun _ _ _ _ _ => xl_lcmp d234_44,
   fun _ _ _ _ => xl_ifeq d234_45 rfl,
   fun _ _ _ _ => xl_lln d234_48 rfl,
   fun _ _ _ => xl_jw d234_49 xco234 (by decide +kernel),
   fun _ _ _ _ _ => xl_lcmp d234_52,
   fun _ _ _ _ => xl_ifeq d234_53 rfl,
   fun _ _ _ _ => xl_lln d234_56 rfl,
   fun _ _ _ => xl_jw d234_57 xco234 (by decide +kernel),
   fun _ _ _ _ _ => xl_lcmp d234_60,
   fun _ _ _ _ => xl_ifeq d234_61 rfl,
   fun _ _ _ _ => xl_lln d234_64 rfl,
   fun _ _ _ => xl_jw d234_65 xco234 (by decide +kernel),
   fun _ _ _ _ _ => xl_lcmp d234_68,
   fun _ _ _ _ => xl_ifeq d234_69 rfl,
   fun _ _ _ _ => xl_lln d234_72 rfl,
   fun _ _ _ => xl_jw d234_73 xco234 (by decide +kernel),
   fun _ _ _ _ _ => xl_lcmp d234_76,
   fun _ _ _ _ => xl_ifne d234_77 rfl,
   fun _ _ _ => xl_ic d234_80 (by decide +kernel),
   fun _ _ _ => xl_goto d234_81 rfl,
   fun _ _ _ => xl_ic d234_84 (by decide +kernel),
   fun _ _ _ hc => xl_irz d234_85 xrt234 hc⟩
