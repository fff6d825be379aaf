/-! 43 FacetSieve$Plan.addValue(JI)V -/
theorem d43_0 : decode (zz_c 43) 0 = .ok (.aload_n 0, 1) := by decide +kernel
theorem d43_1 : decode (zz_c 43) 1 = .ok (.invokevirtual 54, 3) := by decide +kernel
theorem d43_4 : decode (zz_c 43) 4 = .ok (.ifCond .ne 4, 3) := by decide +kernel
theorem d43_7 : decode (zz_c 43) 7 = .ok (.return_, 1) := by decide +kernel
theorem d43_8 : decode (zz_c 43) 8 = .ok (.aload_n 0, 1) := by decide +kernel
theorem d43_9 : decode (zz_c 43) 9 = .ok (.getfield 25, 3) := by decide +kernel
theorem d43_12 : decode (zz_c 43) 12 = .ok (.aload_n 0, 1) := by decide +kernel
theorem d43_13 : decode (zz_c 43) 13 = .ok (.getfield 41, 3) := by decide +kernel
theorem d43_16 : decode (zz_c 43) 16 = .ok (.lload_n 1, 1) := by decide +kernel
theorem d43_17 : decode (zz_c 43) 17 = .ok (.lastore, 1) := by decide +kernel
theorem d43_18 : decode (zz_c 43) 18 = .ok (.aload_n 0, 1) := by decide +kernel
theorem d43_19 : decode (zz_c 43) 19 = .ok (.getfield 28, 3) := by decide +kernel
theorem d43_22 : decode (zz_c 43) 22 = .ok (.aload_n 0, 1) := by decide +kernel
theorem d43_23 : decode (zz_c 43) 23 = .ok (.getfield 41, 3) := by decide +kernel
theorem d43_26 : decode (zz_c 43) 26 = .ok (.aload_n 0, 1) := by decide +kernel
theorem d43_27 : decode (zz_c 43) 27 = .ok (.getfield 37, 3) := by decide +kernel
theorem d43_30 : decode (zz_c 43) 30 = .ok (.iconst 1, 1) := by decide +kernel
theorem d43_31 : decode (zz_c 43) 31 = .ok (.isub, 1) := by decide +kernel
theorem d43_32 : decode (zz_c 43) 32 = .ok (.iastore, 1) := by decide +kernel
theorem d43_33 : decode (zz_c 43) 33 = .ok (.aload_n 0, 1) := by decide +kernel
theorem d43_34 : decode (zz_c 43) 34 = .ok (.getfield 31, 3) := by decide +kernel
theorem d43_37 : decode (zz_c 43) 37 = .ok (.aload_n 0, 1) := by decide +kernel
theorem d43_38 : decode (zz_c 43) 38 = .ok (.getfield 41, 3) := by decide +kernel
theorem d43_41 : decode (zz_c 43) 41 = .ok (.iload_n 3, 1) := by decide +kernel
theorem d43_42 : decode (zz_c 43) 42 = .ok (.iastore, 1) := by decide +kernel
theorem d43_43 : decode (zz_c 43) 43 = .ok (.aload_n 0, 1) := by decide +kernel
theorem d43_44 : decode (zz_c 43) 44 = .ok (.getfield 34, 3) := by decide +kernel
theorem d43_47 : decode (zz_c 43) 47 = .ok (.aload_n 0, 1) := by decide +kernel
theorem d43_48 : decode (zz_c 43) 48 = .ok (.getfield 41, 3) := by decide +kernel
theorem d43_51 : decode (zz_c 43) 51 = .ok (.iconst 1, 1) := by decide +kernel
theorem d43_52 : decode (zz_c 43) 52 = .ok (.aload_n 0, 1) := by decide +kernel
theorem d43_53 : decode (zz_c 43) 53 = .ok (.getfield 41, 3) := by decide +kernel
theorem d43_56 : decode (zz_c 43) 56 = .ok (.ishl, 1) := by decide +kernel
theorem d43_57 : decode (zz_c 43) 57 = .ok (.aload_n 0, 1) := by decide +kernel
theorem d43_58 : decode (zz_c 43) 58 = .ok (.iload_n 3, 1) := by decide +kernel
theorem d43_59 : decode (zz_c 43) 59 = .ok (.invokevirtual 57, 3) := by decide +kernel
theorem d43_62 : decode (zz_c 43) 62 = .ok (.ifCond .eq 12, 3) := by decide +kernel
theorem d43_65 : decode (zz_c 43) 65 = .ok (.aload_n 0, 1) := by decide +kernel
theorem d43_66 : decode (zz_c 43) 66 = .ok (.getfield 34, 3) := by decide +kernel
theorem d43_69 : decode (zz_c 43) 69 = .ok (.iload_n 3, 1) := by decide +kernel
theorem d43_70 : decode (zz_c 43) 70 = .ok (.iaload, 1) := by decide +kernel
theorem d43_71 : decode (zz_c 43) 71 = .ok (.goto 4, 3) := by decide +kernel
theorem d43_74 : decode (zz_c 43) 74 = .ok (.iconst 0, 1) := by decide +kernel
theorem d43_75 : decode (zz_c 43) 75 = .ok (.ior, 1) := by decide +kernel
theorem d43_76 : decode (zz_c 43) 76 = .ok (.iastore, 1) := by decide +kernel
theorem d43_77 : decode (zz_c 43) 77 = .ok (.aload_n 0, 1) := by decide +kernel
theorem d43_78 : decode (zz_c 43) 78 = .ok (.getfield 22, 3) := by decide +kernel
theorem d43_81 : decode (zz_c 43) 81 = .ok (.aload_n 0, 1) := by decide +kernel
theorem d43_82 : decode (zz_c 43) 82 = .ok (.getfield 37, 3) := by decide +kernel
theorem d43_85 : decode (zz_c 43) 85 = .ok (.iconst 1, 1) := by decide +kernel
theorem d43_86 : decode (zz_c 43) 86 = .ok (.isub, 1) := by decide +kernel
theorem d43_87 : decode (zz_c 43) 87 = .ok (.dup2, 1) := by decide +kernel
theorem d43_88 : decode (zz_c 43) 88 = .ok (.iaload, 1) := by decide +kernel
theorem d43_89 : decode (zz_c 43) 89 = .ok (.iconst 1, 1) := by decide +kernel
theorem d43_90 : decode (zz_c 43) 90 = .ok (.iadd, 1) := by decide +kernel
theorem d43_91 : decode (zz_c 43) 91 = .ok (.iastore, 1) := by decide +kernel
theorem d43_92 : decode (zz_c 43) 92 = .ok (.aload_n 0, 1) := by decide +kernel
theorem d43_93 : decode (zz_c 43) 93 = .ok (.dup, 1) := by decide +kernel
theorem d43_94 : decode (zz_c 43) 94 = .ok (.getfield 41, 3) := by decide +kernel
theorem d43_97 : decode (zz_c 43) 97 = .ok (.iconst 1, 1) := by decide +kernel
theorem d43_98 : decode (zz_c 43) 98 = .ok (.iadd, 1) := by decide +kernel
theorem d43_99 : decode (zz_c 43) 99 = .ok (.putfield 41, 3) := by decide +kernel
theorem d43_102 : decode (zz_c 43) 102 = .ok (.return_, 1) := by decide +kernel
theorem x43_p0 : (∀ l1 l2 l3 x st h, zz_Y 43 (0, [some (.ref x), l1, l2, l3], st, h) = zz_Y 43 (1, [some (.ref x), l1, l2, l3], .ref x :: st, h)) ∧ (∀ ls a0 h, zz_Y 43 (1, ls, [a0], h) = mo_k 43 4 ls [] (zz_run 41 [a0] h)) ∧ (∀ ls a st h, zz_Y 43 (4, ls, .int a :: st, h) = if a = nI 0 then zz_Y 43 (7, ls, st, h) else zz_Y 43 (8, ls, st, h)) ∧ (∀ ls h, zz_Y 43 (7, ls, [], h) = some (none, h)) ∧ (∀ l1 l2 l3 x st h, zz_Y 43 (8, [some (.ref x), l1, l2, l3], st, h) = zz_Y 43 (9, [some (.ref x), l1, l2, l3], .ref x :: st, h)) ∧ (∀ ls a st h, zz_Y 43 (9, ls, .ref a :: st, h) = mo_gf (hp_g h a) 3 6 43 12 ls st h) ∧ (∀ l1 l2 l3 x st h, zz_Y 43 (12, [some (.ref x), l1, l2, l3], st, h) = zz_Y 43 (13, [some (.ref x), l1, l2, l3], .ref x :: st, h)) ∧ (∀ ls a st h, zz_Y 43 (13, ls, .ref a :: st, h) = mo_gf (hp_g h a) 3 5 43 16 ls st h) ∧ (∀ l0 l2 l3 x st h, zz_Y 43 (16, [l0, some (.long x), l2, l3], st, h) = zz_Y 43 (17, [l0, some (.long x), l2, l3], .long x :: st, h)) ∧ (∀ ls a i x st h, zz_Y 43 (17, ls, .long x :: .int i :: .ref a :: st, h) = mo_ls (hp_g h a) x i a 43 18 ls st h) ∧ (∀ l1 l2 l3 x st h, zz_Y 43 (18, [some (.ref x), l1, l2, l3], st, h) = zz_Y 43 (19, [some (.ref x), l1, l2, l3], .ref x :: st, h)) ∧ (∀ ls a st h, zz_Y 43 (19, ls, .ref a :: st, h) = mo_gf (hp_g h a) 3 7 43 22 ls st h) ∧ (∀ l1 l2 l3 x st h, zz_Y 43 (22, [some (.ref x), l1, l2, l3], st, h) = zz_Y 43 (23, [some (.ref x), l1, l2, l3], .ref x :: st, h)) ∧ (∀ ls a st h, zz_Y 43 (23, ls, .ref a :: st, h) = mo_gf (hp_g h a) 3 5 43 26 ls st h) ∧ (∀ l1 l2 l3 x st h, zz_Y 43 (26, [some (.ref x), l1, l2, l3], st, h) = zz_Y 43 (27, [some (.ref x), l1, l2, l3], .ref x :: st, h)) ∧ (∀ ls a st h, zz_Y 43 (27, ls, .ref a :: st, h) = mo_gf (hp_g h a) 3 0 43 30 ls st h) ∧ (∀ ls st h, zz_Y 43 (30, ls, st, h) = zz_Y 43 (31, ls, .int (nI 1) :: st, h)) ∧ (∀ ls a b st h, zz_Y 43 (31, ls, .int b :: .int a :: st, h) = zz_Y 43 (32, ls, .int (a - b) :: st, h)) ∧ (∀ ls a i x st h, zz_Y 43 (32, ls, .int x :: .int i :: .ref a :: st, h) = mo_is (hp_g h a) x i a 43 33 ls st h) ∧ (∀ l1 l2 l3 x st h, zz_Y 43 (33, [some (.ref x), l1, l2, l3], st, h) = zz_Y 43 (34, [some (.ref x), l1, l2, l3], .ref x :: st, h)) ∧ (∀ ls a st h, zz_Y 43 (34, ls, .ref a :: st, h) = mo_gf (hp_g h a) 3 8 43 37 ls st h) ∧ (∀ l1 l2 l3 x st h, zz_Y 43 (37, [some (.ref x), l1, l2, l3], st, h) = zz_Y 43 (38, [some (.ref x), l1, l2, l3], .ref x :: st, h)) ∧ (∀ ls a st h, zz_Y 43 (38, ls, .ref a :: st, h) = mo_gf (hp_g h a) 3 5 43 41 ls st h) ∧ (∀ l0 l1 l2 x st h, zz_Y 43 (41, [l0, l1, l2, some (.int x)], st, h) = zz_Y 43 (42, [l0, l1, l2, some (.int x)], .int x :: st, h)) ∧ (∀ ls a i x st h, zz_Y 43 (42, ls, .int x :: .int i :: .ref a :: st, h) = mo_is (hp_g h a) x i a 43 43 ls st h) ∧ (∀ l1 l2 l3 x st h, zz_Y 43 (43, [some (.ref x), l1, l2, l3], st, h) = zz_Y 43 (44, [some (.ref x), l1, l2, l3], .ref x :: st, h)) ∧ (∀ ls a st h, zz_Y 43 (44, ls, .ref a :: st, h) = mo_gf (hp_g h a) 3 9 43 47 ls st h) ∧ (∀ l1 l2 l3 x st h, zz_Y 43 (47, [some (.ref x), l1, l2, l3], st, h) = zz_Y 43 (48, [some (.ref x), l1, l2, l3], .ref x :: st, h)) ∧ (∀ ls a st h, zz_Y 43 (48, ls, .ref a :: st, h) = mo_gf (hp_g h a) 3 5 43 51 ls st h) ∧ (∀ ls st h, zz_Y 43 (51, ls, st, h) = zz_Y 43 (52, ls, .int (nI 1) :: st, h)) ∧ (∀ l1 l2 l3 x st h, zz_Y 43 (52, [some (.ref x), l1, l2, l3], st, h) = zz_Y 43 (53, [some (.ref x), l1, l2, l3], .ref x :: st, h)) ∧ (∀ ls a st h, zz_Y 43 (53, ls, .ref a :: st, h) = mo_gf (hp_g h a) 3 5 43 56 ls st h) ∧ (∀ ls a b st h, zz_Y 43 (56, ls, .int b :: .int a :: st, h) = zz_Y 43 (57, ls, .int (a <<< (b &&& 31)) :: st, h)) ∧ (∀ l1 l2 l3 x st h, zz_Y 43 (57, [some (.ref x), l1, l2, l3], st, h) = zz_Y 43 (58, [some (.ref x), l1, l2, l3], .ref x :: st, h)) ∧ (∀ l0 l1 l2 x st h, zz_Y 43 (58, [l0, l1, l2, some (.int x)], st, h) = zz_Y 43 (59, [l0, l1, l2, some (.int x)], .int x :: st, h)) ∧ (∀ ls a0 a1 s0 s1 s2 h, zz_Y 43 (59, ls, [a1, a0, s0, s1, s2], h) = mo_k 43 62 ls [s0, s1, s2] (zz_run 44 [a0, a1] h)) ∧ (∀ ls a st h, zz_Y 43 (62, ls, .int a :: st, h) = if a = nI 0 then zz_Y 43 (74, ls, st, h) else zz_Y 43 (65, ls, st, h)) ∧ (∀ l1 l2 l3 x st h, zz_Y 43 (65, [some (.ref x), l1, l2, l3], st, h) = zz_Y 43 (66, [some (.ref x), l1, l2, l3], .ref x :: st, h)) ∧ (∀ ls a st h, zz_Y 43 (66, ls, .ref a :: st, h) = mo_gf (hp_g h a) 3 9 43 69 ls st h) ∧ (∀ l0 l1 l2 x st h, zz_Y 43 (69, [l0, l1, l2, some (.int x)], st, h) = zz_Y 43 (70, [l0, l1, l2, some (.int x)], .int x :: st, h)) ∧ (∀ ls a i st h, zz_Y 43 (70, ls, .int i :: .ref a :: st, h) = mo_ia (hp_g h a) i a 43 71 ls st h) ∧ (∀ ls st h, zz_Y 43 (71, ls, st, h) = zz_Y 43 (75, ls, st, h)) ∧ (∀ ls st h, zz_Y 43 (74, ls, st, h) = zz_Y 43 (75, ls, .int (nI 0) :: st, h)) ∧ (∀ ls a b st h, zz_Y 43 (75, ls, .int b :: .int a :: st, h) = zz_Y 43 (76, ls, .int (a ||| b) :: st, h)) ∧ (∀ ls a i x st h, zz_Y 43 (76, ls, .int x :: .int i :: .ref a :: st, h) = mo_is (hp_g h a) x i a 43 77 ls st h) ∧ (∀ l1 l2 l3 x st h, zz_Y 43 (77, [some (.ref x), l1, l2, l3], st, h) = zz_Y 43 (78, [some (.ref x), l1, l2, l3], .ref x :: st, h)) ∧ (∀ ls a st h, zz_Y 43 (78, ls, .ref a :: st, h) = mo_gf (hp_g h a) 3 4 43 81 ls st h) ∧ (∀ l1 l2 l3 x st h, zz_Y 43 (81, [some (.ref x), l1, l2, l3], st, h) = zz_Y 43 (82, [some (.ref x), l1, l2, l3], .ref x :: st, h)) ∧ (∀ ls a st h, zz_Y 43 (82, ls, .ref a :: st, h) = mo_gf (hp_g h a) 3 0 43 85 ls st h) ∧ (∀ ls st h, zz_Y 43 (85, ls, st, h) = zz_Y 43 (86, ls, .int (nI 1) :: st, h)) ∧ (∀ ls a b st h, zz_Y 43 (86, ls, .int b :: .int a :: st, h) = zz_Y 43 (87, ls, .int (a - b) :: st, h)) ∧ (∀ ls a b st h, zz_Y 43 (87, ls, .int b :: .ref a :: st, h) = zz_Y 43 (88, ls, .int b :: .ref a :: .int b :: .ref a :: st, h)) ∧ (∀ ls a i st h, zz_Y 43 (88, ls, .int i :: .ref a :: st, h) = mo_ia (hp_g h a) i a 43 89 ls st h) ∧ (∀ ls st h, zz_Y 43 (89, ls, st, h) = zz_Y 43 (90, ls, .int (nI 1) :: st, h)) ∧ (∀ ls a b st h, zz_Y 43 (90, ls, .int b :: .int a :: st, h) = zz_Y 43 (91, ls, .int (a + b) :: st, h)) ∧ (∀ ls a i x st h, zz_Y 43 (91, ls, .int x :: .int i :: .ref a :: st, h) = mo_is (hp_g h a) x i a 43 92 ls st h) ∧ (∀ l1 l2 l3 x st h, zz_Y 43 (92, [some (.ref x), l1, l2, l3], st, h) = zz_Y 43 (93, [some (.ref x), l1, l2, l3], .ref x :: st, h)) ∧ (∀ ls a st h, zz_Y 43 (93, ls, .ref a :: st, h) = zz_Y 43 (94, ls, .ref a :: .ref a :: st, h)) ∧ (∀ ls a st h, zz_Y 43 (94, ls, .ref a :: st, h) = mo_gf (hp_g h a) 3 5 43 97 ls st h) ∧ (∀ ls st h, zz_Y 43 (97, ls, st, h) = zz_Y 43 (98, ls, .int (nI 1) :: st, h)) :=
  ⟨fun _ _ _ _ _ _ => xl_aln d43_0 rfl,
   fun ls a0 h => xl_cv (As := [a0]) (st := []) d43_1 xco43 xm_3_54 (congrArg Nat.succ xnp41) (by decide +kernel) rfl,
   fun _ _ _ _ => xl_ifne d43_4 rfl,
   fun _ _ => xl_r d43_7 xrt43,
   fun _ _ _ _ _ _ => xl_aln d43_8 rfl,
   fun _ _ _ _ => xl_gf d43_9 xco43 xf_3_25,
   fun _ _ _ _ _ _ => xl_aln d43_12 rfl,
   fun _ _ _ _ => xl_gf d43_13 xco43 xf_3_41,
   fun _ _ _ _ _ _ => xl_lln d43_16 rfl,
   fun _ _ _ _ _ _ => xl_lst d43_17,
   fun _ _ _ _ _ _ => xl_aln d43_18 rfl,
   fun _ _ _ _ => xl_gf d43_19 xco43 xf_3_28,
   fun _ _ _ _ _ _ => xl_aln d43_22 rfl,
   fun _ _ _ _ => xl_gf d43_23 xco43 xf_3_41,
   fun _ _ _ _ _ _ => xl_aln d43_26 rfl,
   fun _ _ _ _ => xl_gf d43_27 xco43 xf_3_37,
   fun _ _ _ => xl_ic d43_30 (by decide +kernel),
   fun _ _ _ _ _ => xl_isub d43_31,
   fun _ _ _ _ _ _ => xl_ist d43_32,
   fun _ _ _ _ _ _ => xl_aln d43_33 rfl,
   fun _ _ _ _ => xl_gf d43_34 xco43 xf_3_31,
   fun _ _ _ _ _ _ => xl_aln d43_37 rfl,
   fun _ _ _ _ => xl_gf d43_38 xco43 xf_3_41,
   fun _ _ _ _ _ _ => xl_iln d43_41 rfl,
   fun _ _ _ _ _ _ => xl_ist d43_42,
   fun _ _ _ _ _ _ => xl_aln d43_43 rfl,
   fun _ _ _ _ => xl_gf d43_44 xco43 xf_3_34,
   fun _ _ _ _ _ _ => xl_aln d43_47 rfl,
   fun _ _ _ _ => xl_gf d43_48 xco43 xf_3_41,
   fun _ _ _ => xl_ic d43_51 (by decide +kernel),
   fun _ _ _ _ _ _ => xl_aln d43_52 rfl,
   fun _ _ _ _ => xl_gf d43_53 xco43 xf_3_41,
   fun _ _ _ _ _ => xl_ishl d43_56,
   fun _ _ _ _ _ _ => xl_aln d43_57 rfl,
   fun _ _ _ _ _ _ => xl_iln d43_58 rfl,
   fun ls a0 a1 s0 s1 s2 h => xl_cv (As := [a0, a1]) (st := [s0, s1, s2]) d43_59 xco43 xm_3_57 (congrArg Nat.succ xnp44) (by decide +kernel) rfl,
   fun _ _ _ _ => xl_ifeq d43_62 rfl,
   fun _ _ _ _ _ _ => xl_aln d43_65 rfl,
   fun _ _ _ _ => xl_gf d43_66 xco43 xf_3_34,
   fun _ _ _ _ _ _ => xl_iln d43_69 rfl,
   fun _ _ _ _ _ => xl_ia d43_70,
   fun _ _ _ => xl_goto d43_71 rfl,
   fun _ _ _ => xl_ic d43_74 (by decide +kernel),
   fun _ _ _ _ _ => xl_ior d43_75,
   fun _ _ _ _ _ _ => xl_ist d43_76,
   fun _ _ _ _ _ _ => xl_aln d43_77 rfl,
   fun _ _ _ _ => xl_gf d43_78 xco43 xf_3_22,
   fun _ _ _ _ _ _ => xl_aln d43_81 rfl,
   fun _ _ _ _ => xl_gf d43_82 xco43 xf_3_37,
   fun _ _ _ => xl_ic d43_85 (by decide +kernel),
   fun _ _ _ _ _ => xl_isub d43_86,
   fun _ _ _ _ _ => xl_dup2 d43_87,
   fun _ _ _ _ _ => xl_ia d43_88,
   fun _ _ _ => xl_ic d43_89 (by decide +kernel),
   fun _ _ _ _ _ => xl_iadd d43_90,
   fun _ _ _ _ _ _ => xl_ist d43_91,
   fun _ _ _ _ _ _ => xl_aln d43_92 rfl,
   fun _ _ _ _ => xl_dupr d43_93,
   fun _ _ _ _ => xl_gf d43_94 xco43 xf_3_41,
   fun _ _ _ => xl_ic d43_97 (by decide +kernel)⟩
theorem x43_p1 : (∀ ls a b st h, zz_Y 43 (98, ls, .int b :: .int a :: st, h) = zz_Y 43 (99, ls, .int (a + b) :: st, h)) ∧ (∀ ls a v st h, zz_Y 43 (99, ls, v :: .ref a :: st, h) = mo_pf (hp_g h a) 3 5 .int v a 43 102 ls st h) ∧ (∀ ls h, zz_Y 43 (102, ls, [], h) = some (none, h)) :=
  ⟨fun _ _ _ _ _ => xl_iadd d43_98,
   fun _ _ _ _ _ => xl_pf d43_99 xco43 xf_3_41 (by decide +kernel) rfl,
   fun _ _ => xl_r d43_102 xrt43⟩
/-! 44 FacetSieve$Plan.isValue(I)Z -/
theorem d44_0 : decode (zz_c 44) 0 = .ok (.iload_n 1, 1) := by decide +kernel
theorem d44_1 : decode (zz_c 44) 1 = .ok (.ifCond .lt 15, 3) := by decide +kernel
theorem d44_4 : decode (zz_c 44) 4 = .ok (.iload_n 1, 1) := by decide +kernel
theorem d44_5 : decode (zz_c 44) 5 = .ok (.aload_n 0, 1) := by decide +kernel
theorem d44_6 : decode (zz_c 44) 6 = .ok (.getfield 41, 3) := by decide +kernel
theorem d44_9 : decode (zz_c 44) 9 = .ok (.if_icmp .ge 7, 3) := by decide +kernel
theorem d44_12 : decode (zz_c 44) 12 = .ok (.iconst 1, 1) := by decide +kernel
theorem d44_13 : decode (zz_c 44) 13 = .ok (.goto 4, 3) := by decide +kernel
theorem d44_16 : decode (zz_c 44) 16 = .ok (.iconst 0, 1) := by decide +kernel
theorem d44_17 : decode (zz_c 44) 17 = .ok (.ireturn, 1) := by decide +kernel
theorem x44 : (∀ l0 x st h, zz_Y 44 (0, [l0, some (.int x)], st, h) = zz_Y 44 (1, [l0, some (.int x)], .int x :: st, h)) ∧ (∀ ls a st h, zz_Y 44 (1, ls, .int a :: st, h) = if a < nI 0 then zz_Y 44 (16, ls, st, h) else zz_Y 44 (4, ls, st, h)) ∧ (∀ l0 x st h, zz_Y 44 (4, [l0, some (.int x)], st, h) = zz_Y 44 (5, [l0, some (.int x)], .int x :: st, h)) ∧ (∀ l1 x st h, zz_Y 44 (5, [some (.ref x), l1], st, h) = zz_Y 44 (6, [some (.ref x), l1], .ref x :: st, h)) ∧ (∀ ls a st h, zz_Y 44 (6, ls, .ref a :: st, h) = mo_gf (hp_g h a) 3 5 44 9 ls st h) ∧ (∀ ls a b st h, zz_Y 44 (9, ls, .int b :: .int a :: st, h) = if a < b then zz_Y 44 (12, ls, st, h) else zz_Y 44 (16, ls, st, h)) ∧ (∀ ls st h, zz_Y 44 (12, ls, st, h) = zz_Y 44 (13, ls, .int (nI 1) :: st, h)) ∧ (∀ ls st h, zz_Y 44 (13, ls, st, h) = zz_Y 44 (17, ls, st, h)) ∧ (∀ ls st h, zz_Y 44 (16, ls, st, h) = zz_Y 44 (17, ls, .int (nI 0) :: st, h)) ∧ (∀ ls v h, v = nI 0 ∨ v = nI 1 → zz_Y 44 (17, ls, [.int v], h) = some (some (.int v), h)) :=
  ⟨fun _ _ _ _ => xl_iln d44_0 rfl,
   fun _ _ _ _ => xl_iflt d44_1 rfl,
   fun _ _ _ _ => xl_iln d44_4 rfl,
   fun _ _ _ _ => xl_aln d44_5 rfl,
   fun _ _ _ _ => xl_gf d44_6 xco44 xf_3_41,
   fun _ _ _ _ _ => xl_icge d44_9 rfl,
   fun _ _ _ => xl_ic d44_12 (by decide +kernel),
   fun _ _ _ => xl_goto d44_13 rfl,
   fun _ _ _ => xl_ic d44_16 (by decide +kernel),
   fun _ _ _ hc => xl_irz d44_17 xrt44 hc⟩
/-! 45 FacetSieve$SchemeReader.readRecord()Z -/
theorem d45_0 : decode (zz_c 45) 0 = .ok (.aload_n 0, 1) := by decide +kernel
theorem d45_1 : decode (zz_c 45) 1 = .ok (.getfield 12, 3) := by decide +kernel
theorem d45_4 : decode (zz_c 45) 4 = .ok (.invokevirtual 53, 3) := by decide +kernel
theorem d45_7 : decode (zz_c 45) 7 = .ok (.aload_n 0, 1) := by decide +kernel
theorem d45_8 : decode (zz_c 45) 8 = .ok (.sipush 255, 3) := by decide +kernel
theorem d45_11 : decode (zz_c 45) 11 = .ok (.invokevirtual 101, 3) := by decide +kernel
theorem d45_14 : decode (zz_c 45) 14 = .ok (.ifCond .ne 5, 3) := by decide +kernel
theorem d45_17 : decode (zz_c 45) 17 = .ok (.iconst 0, 1) := by decide +kernel
theorem d45_18 : decode (zz_c 45) 18 = .ok (.ireturn, 1) := by decide +kernel
theorem d45_19 : decode (zz_c 45) 19 = .ok (.aload_n 0, 1) := by decide +kernel
theorem d45_20 : decode (zz_c 45) 20 = .ok (.getfield 12, 3) := by decide +kernel
theorem d45_23 : decode (zz_c 45) 23 = .ok (.getfield 104, 3) := by decide +kernel
theorem d45_26 : decode (zz_c 45) 26 = .ok (.istore_n 1, 1) := by decide +kernel
theorem d45_27 : decode (zz_c 45) 27 = .ok (.aload_n 0, 1) := by decide +kernel
theorem d45_28 : decode (zz_c 45) 28 = .ok (.getfield 21, 3) := by decide +kernel
theorem d45_31 : decode (zz_c 45) 31 = .ok (.iload_n 1, 1) := by decide +kernel
theorem d45_32 : decode (zz_c 45) 32 = .ok (.invokevirtual 107, 3) := by decide +kernel
theorem d45_35 : decode (zz_c 45) 35 = .ok (.ifCond .eq 12, 3) := by decide +kernel
theorem d45_38 : decode (zz_c 45) 38 = .ok (.aload_n 0, 1) := by decide +kernel
theorem d45_39 : decode (zz_c 45) 39 = .ok (.getfield 12, 3) := by decide +kernel
theorem d45_42 : decode (zz_c 45) 42 = .ok (.iconst 5, 1) := by decide +kernel
theorem d45_43 : decode (zz_c 45) 43 = .ok (.invokevirtual 49, 3) := by decide +kernel
theorem d45_46 : decode (zz_c 45) 46 = .ok (.ireturn, 1) := by decide +kernel
theorem d45_47 : decode (zz_c 45) 47 = .ok (.aload_n 0, 1) := by decide +kernel
theorem d45_48 : decode (zz_c 45) 48 = .ok (.getfield 12, 3) := by decide +kernel
theorem d45_51 : decode (zz_c 45) 51 = .ok (.invokevirtual 53, 3) := by decide +kernel
theorem d45_54 : decode (zz_c 45) 54 = .ok (.aload_n 0, 1) := by decide +kernel
theorem d45_55 : decode (zz_c 45) 55 = .ok (.sipush 999, 3) := by decide +kernel
theorem d45_58 : decode (zz_c 45) 58 = .ok (.invokevirtual 101, 3) := by decide +kernel
theorem d45_61 : decode (zz_c 45) 61 = .ok (.ifCond .ne 5, 3) := by decide +kernel
theorem d45_64 : decode (zz_c 45) 64 = .ok (.iconst 0, 1) := by decide +kernel
theorem d45_65 : decode (zz_c 45) 65 = .ok (.ireturn, 1) := by decide +kernel
theorem d45_66 : decode (zz_c 45) 66 = .ok (.aload_n 0, 1) := by decide +kernel
theorem d45_67 : decode (zz_c 45) 67 = .ok (.getfield 12, 3) := by decide +kernel
theorem d45_70 : decode (zz_c 45) 70 = .ok (.getfield 104, 3) := by decide +kernel
theorem d45_73 : decode (zz_c 45) 73 = .ok (.istore_n 2, 1) := by decide +kernel
theorem d45_74 : decode (zz_c 45) 74 = .ok (.aload_n 0, 1) := by decide +kernel
theorem d45_75 : decode (zz_c 45) 75 = .ok (.getfield 12, 3) := by decide +kernel
theorem d45_78 : decode (zz_c 45) 78 = .ok (.invokevirtual 53, 3) := by decide +kernel
theorem d45_81 : decode (zz_c 45) 81 = .ok (.aload_n 0, 1) := by decide +kernel
theorem d45_82 : decode (zz_c 45) 82 = .ok (.iload_n 1, 1) := by decide +kernel
theorem d45_83 : decode (zz_c 45) 83 = .ok (.iload_n 2, 1) := by decide +kernel
theorem d45_84 : decode (zz_c 45) 84 = .ok (.invokevirtual 110, 3) := by decide +kernel
theorem d45_87 : decode (zz_c 45) 87 = .ok (.ireturn, 1) := by decide +kernel
theorem x45 : (∀ l1 l2 x st h, zz_Y 45 (0, [some (.ref x), l1, l2], st, h) = zz_Y 45 (1, [some (.ref x), l1, l2], .ref x :: st, h)) ∧ (∀ ls a st h, zz_Y 45 (1, ls, .ref a :: st, h) = mo_gf (hp_g h a) 5 0 45 4 ls st h) ∧ (∀ ls a0 h, zz_Y 45 (4, ls, [a0], h) = mo_k 45 7 ls [] (zz_run 23 [a0] h)) ∧ (∀ l1 l2 x st h, zz_Y 45 (7, [some (.ref x), l1, l2], st, h) = zz_Y 45 (8, [some (.ref x), l1, l2], .ref x :: st, h)) ∧ (∀ ls st h, zz_Y 45 (8, ls, st, h) = zz_Y 45 (11, ls, .int (nI 255) :: st, h)) ∧ (∀ ls a0 a1 h, zz_Y 45 (11, ls, [a1, a0], h) = mo_k 45 14 ls [] (zz_run 46 [a0, a1] h)) ∧ (∀ ls a st h, zz_Y 45 (14, ls, .int a :: st, h) = if a = nI 0 then zz_Y 45 (17, ls, st, h) else zz_Y 45 (19, ls, st, h)) ∧ (∀ ls st h, zz_Y 45 (17, ls, st, h) = zz_Y 45 (18, ls, .int (nI 0) :: st, h)) ∧ (∀ ls v h, v = nI 0 ∨ v = nI 1 → zz_Y 45 (18, ls, [.int v], h) = some (some (.int v), h)) ∧ (∀ l1 l2 x st h, zz_Y 45 (19, [some (.ref x), l1, l2], st, h) = zz_Y 45 (20, [some (.ref x), l1, l2], .ref x :: st, h)) ∧ (∀ ls a st h, zz_Y 45 (20, ls, .ref a :: st, h) = mo_gf (hp_g h a) 5 0 45 23 ls st h) ∧ (∀ ls a st h, zz_Y 45 (23, ls, .ref a :: st, h) = mo_gf (hp_g h a) 9 4 45 26 ls st h) ∧ (∀ l0 l1 l2 x st h, zz_nl l0 = true → zz_Y 45 (26, [l0, l1, l2], .int x :: st, h) = zz_Y 45 (27, [l0, some (.int x), l2], st, h)) ∧ (∀ l1 l2 x st h, zz_Y 45 (27, [some (.ref x), l1, l2], st, h) = zz_Y 45 (28, [some (.ref x), l1, l2], .ref x :: st, h)) ∧ (∀ ls a st h, zz_Y 45 (28, ls, .ref a :: st, h) = mo_gf (hp_g h a) 5 1 45 31 ls st h) ∧ (∀ l0 l2 x st h, zz_Y 45 (31, [l0, some (.int x), l2], st, h) = zz_Y 45 (32, [l0, some (.int x), l2], .int x :: st, h)) ∧ (∀ ls a0 a1 h, zz_Y 45 (32, ls, [a1, a0], h) = mo_k 45 35 ls [] (zz_run 47 [a0, a1] h)) ∧ (∀ ls a st h, zz_Y 45 (35, ls, .int a :: st, h) = if a = nI 0 then zz_Y 45 (47, ls, st, h) else zz_Y 45 (38, ls, st, h)) ∧ (∀ l1 l2 x st h, zz_Y 45 (38, [some (.ref x), l1, l2], st, h) = zz_Y 45 (39, [some (.ref x), l1, l2], .ref x :: st, h)) ∧ (∀ ls a st h, zz_Y 45 (39, ls, .ref a :: st, h) = mo_gf (hp_g h a) 5 0 45 42 ls st h) ∧ (∀ ls st h, zz_Y 45 (42, ls, st, h) = zz_Y 45 (43, ls, .int (nI 5) :: st, h)) ∧ (∀ ls a0 a1 h, zz_Y 45 (43, ls, [a1, a0], h) = mo_k 45 46 ls [] (zz_run 35 [a0, a1] h)) ∧ (∀ ls v h, v = nI 0 ∨ v = nI 1 → zz_Y 45 (46, ls, [.int v], h) = some (some (.int v), h)) ∧ (∀ l1 l2 x st h, zz_Y 45 (47, [some (.ref x), l1, l2], st, h) = zz_Y 45 (48, [some (.ref x), l1, l2], .ref x :: st, h)) ∧ (∀ ls a st h, zz_Y 45 (48, ls, .ref a :: st, h) = mo_gf (hp_g h a) 5 0 45 51 ls st h) ∧ (∀ ls a0 h, zz_Y 45 (51, ls, [a0], h) = mo_k 45 54 ls [] (zz_run 23 [a0] h)) ∧ (∀ l1 l2 x st h, zz_Y 45 (54, [some (.ref x), l1, l2], st, h) = zz_Y 45 (55, [some (.ref x), l1, l2], .ref x :: st, h)) ∧ (∀ ls st h, zz_Y 45 (55, ls, st, h) = zz_Y 45 (58, ls, .int (nI 999) :: st, h)) ∧ (∀ ls a0 a1 h, zz_Y 45 (58, ls, [a1, a0], h) = mo_k 45 61 ls [] (zz_run 46 [a0, a1] h)) ∧ (∀ ls a st h, zz_Y 45 (61, ls, .int a :: st, h) = if a = nI 0 then zz_Y 45 (64, ls, st, h) else zz_Y 45 (66, ls, st, h)) ∧ (∀ ls st h, zz_Y 45 (64, ls, st, h) = zz_Y 45 (65, ls, .int (nI 0) :: st, h)) ∧ (∀ ls v h, v = nI 0 ∨ v = nI 1 → zz_Y 45 (65, ls, [.int v], h) = some (some (.int v), h)) ∧ (∀ l1 l2 x st h, zz_Y 45 (66, [some (.ref x), l1, l2], st, h) = zz_Y 45 (67, [some (.ref x), l1, l2], .ref x :: st, h)) ∧ (∀ ls a st h, zz_Y 45 (67, ls, .ref a :: st, h) = mo_gf (hp_g h a) 5 0 45 70 ls st h) ∧ (∀ ls a st h, zz_Y 45 (70, ls, .ref a :: st, h) = mo_gf (hp_g h a) 9 4 45 73 ls st h) ∧ (∀ l0 l1 l2 x st h, zz_nl l1 = true → zz_Y 45 (73, [l0, l1, l2], .int x :: st, h) = zz_Y 45 (74, [l0, l1, some (.int x)], st, h)) ∧ (∀ l1 l2 x st h, zz_Y 45 (74, [some (.ref x), l1, l2], st, h) = zz_Y 45 (75, [some (.ref x), l1, l2], .ref x :: st, h)) ∧ (∀ ls a st h, zz_Y 45 (75, ls, .ref a :: st, h) = mo_gf (hp_g h a) 5 0 45 78 ls st h) ∧ (∀ ls a0 h, zz_Y 45 (78, ls, [a0], h) = mo_k 45 81 ls [] (zz_run 23 [a0] h)) ∧ (∀ l1 l2 x st h, zz_Y 45 (81, [some (.ref x), l1, l2], st, h) = zz_Y 45 (82, [some (.ref x), l1, l2], .ref x :: st, h)) ∧ (∀ l0 l2 x st h, zz_Y 45 (82, [l0, some (.int x), l2], st, h) = zz_Y 45 (83, [l0, some (.int x), l2], .int x :: st, h)) ∧ (∀ l0 l1 x st h, zz_Y 45 (83, [l0, l1, some (.int x)], st, h) = zz_Y 45 (84, [l0, l1, some (.int x)], .int x :: st, h)) ∧ (∀ ls a0 a1 a2 h, zz_Y 45 (84, ls, [a2, a1, a0], h) = mo_k 45 87 ls [] (zz_run 49 [a0, a1, a2] h)) ∧ (∀ ls v h, v = nI 0 ∨ v = nI 1 → zz_Y 45 (87, ls, [.int v], h) = some (some (.int v), h)) :=
  ⟨fun _ _ _ _ _ => xl_aln d45_0 rfl,
   fun _ _ _ _ => xl_gf d45_1 xco45 xf_5_12,
   fun ls a0 h => xl_cv (As := [a0]) (st := []) d45_4 xco45 xm_5_53 (congrArg Nat.succ xnp23) (by decide +kernel) rfl,
   fun _ _ _ _ _ => xl_aln d45_7 rfl,
   fun _ _ _ => xl_si d45_8 (by decide +kernel),
   fun ls a0 a1 h => xl_cv (As := [a0, a1]) (st := []) d45_11 xco45 xm_5_101 (congrArg Nat.succ xnp46) (by decide +kernel) rfl,
   fun _ _ _ _ => xl_ifne d45_14 rfl,
   fun _ _ _ => xl_ic d45_17 (by decide +kernel),
   fun _ _ _ hc => xl_irz d45_18 xrt45 hc,
   fun _ _ _ _ _ => xl_aln d45_19 rfl,
   fun _ _ _ _ => xl_gf d45_20 xco45 xf_5_12,
   fun _ _ _ _ => xl_gf d45_23 xco45 xf_5_104,
   fun _ _ _ _ _ _ hc => xl_isn d45_26 xml45 (by decide) (zz_nl_s1 hc),
   fun _ _ _ _ _ => xl_aln d45_27 rfl,
   fun _ _ _ _ => xl_gf d45_28 xco45 xf_5_21,
   fun _ _ _ _ _ => xl_iln d45_31 rfl,
   fun ls a0 a1 h => xl_cv (As := [a0, a1]) (st := []) d45_32 xco45 xm_5_107 (congrArg Nat.succ xnp47) (by decide +kernel) rfl,
   fun _ _ _ _ => xl_ifeq d45_35 rfl,
   fun _ _ _ _ _ => xl_aln d45_38 rfl,
   fun _ _ _ _ => xl_gf d45_39 xco45 xf_5_12,
   fun _ _ _ => xl_ic d45_42 (by decide +kernel),
   fun ls a0 a1 h => xl_cv (As := [a0, a1]) (st := []) d45_43 xco45 xm_5_49 (congrArg Nat.succ xnp35) (by decide +kernel) rfl,
   fun _ _ _ hc => xl_irz d45_46 xrt45 hc,
   fun _ _ _ _ _ => xl_aln d45_47 rfl,
   fun _ _ _ _ => xl_gf d45_48 xco45 xf_5_12,
   fun ls a0 h => xl_cv (As := [a0]) (st := []) d45_51 xco45 xm_5_53 (congrArg Nat.succ xnp23) (by decide +kernel) rfl,
   fun _ _ _ _ _ => xl_aln d45_54 rfl,
   fun _ _ _ => xl_si d45_55 (by decide +kernel),
   fun ls a0 a1 h => xl_cv (As := [a0, a1]) (st := []) d45_58 xco45 xm_5_101 (congrArg Nat.succ xnp46) (by decide +kernel) rfl,
   fun _ _ _ _ => xl_ifne d45_61 rfl,
   fun _ _ _ => xl_ic d45_64 (by decide +kernel),
   fun _ _ _ hc => xl_irz d45_65 xrt45 hc,
   fun _ _ _ _ _ => xl_aln d45_66 rfl,
   fun _ _ _ _ => xl_gf d45_67 xco45 xf_5_12,
   fun _ _ _ _ => xl_gf d45_70 xco45 xf_5_104,
   fun _ _ _ _ _ _ hc => xl_isn d45_73 xml45 (by decide) (zz_nl_s1 hc),
   fun _ _ _ _ _ => xl_aln d45_74 rfl,
   fun _ _ _ _ => xl_gf d45_75 xco45 xf_5_12,
   fun ls a0 h => xl_cv (As := [a0]) (st := []) d45_78 xco45 xm_5_53 (congrArg Nat.succ xnp23) (by decide +kernel) rfl,
   fun _ _ _ _ _ => xl_aln d45_81 rfl,
   fun _ _ _ _ _ => xl_iln d45_82 rfl,
   fun _ _ _ _ _ => xl_iln d45_83 rfl,
   fun ls a0 a1 a2 h => xl_cv (As := [a0, a1, a2]) (st := []) d45_84 xco45 xm_5_110 (congrArg Nat.succ xnp49) (by decide +kernel) rfl,
   fun _ _ _ hc => xl_irz d45_87 xrt45 hc⟩
/-! 46 FacetSieve$SchemeReader.isNumberUpTo(I)Z -/
theorem d46_0 : decode (zz_c 46) 0 = .ok (.aload_n 0, 1) := by decide +kernel
theorem d46_1 : decode (zz_c 46) 1 = .ok (.getfield 12, 3) := by decide +kernel
theorem d46_4 : decode (zz_c 46) 4 = .ok (.getfield 32, 3) := by decide +kernel
theorem d46_7 : decode (zz_c 46) 7 = .ok (.iconst 3, 1) := by decide +kernel
theorem d46_8 : decode (zz_c 46) 8 = .ok (.if_icmp .eq 12, 3) := by decide +kernel
theorem d46_11 : decode (zz_c 46) 11 = .ok (.aload_n 0, 1) := by decide +kernel
theorem d46_12 : decode (zz_c 46) 12 = .ok (.getfield 12, 3) := by decide +kernel
theorem d46_15 : decode (zz_c 46) 15 = .ok (.iconst 1, 1) := by decide +kernel
theorem d46_16 : decode (zz_c 46) 16 = .ok (.invokevirtual 49, 3) := by decide +kernel
theorem d46_19 : decode (zz_c 46) 19 = .ok (.ireturn, 1) := by decide +kernel
theorem d46_20 : decode (zz_c 46) 20 = .ok (.aload_n 0, 1) := by decide +kernel
theorem d46_21 : decode (zz_c 46) 21 = .ok (.getfield 12, 3) := by decide +kernel
theorem d46_24 : decode (zz_c 46) 24 = .ok (.getfield 104, 3) := by decide +kernel
theorem d46_27 : decode (zz_c 46) 27 = .ok (.iload_n 1, 1) := by decide +kernel
theorem d46_28 : decode (zz_c 46) 28 = .ok (.if_icmp .le 14, 3) := by decide +kernel
theorem d46_31 : decode (zz_c 46) 31 = .ok (.aload_n 0, 1) := by decide +kernel
theorem d46_32 : decode (zz_c 46) 32 = .ok (.getfield 12, 3) := by decide +kernel
theorem d46_35 : decode (zz_c 46) 35 = .ok (.iconst 2, 1) := by decide +kernel
theorem d46_36 : decode (zz_c 46) 36 = .ok (.invokevirtual 49, 3) := by decide +kernel
theorem d46_39 : decode (zz_c 46) 39 = .ok (.ifCond .eq 7, 3) := by decide +kernel
theorem d46_42 : decode (zz_c 46) 42 = .ok (.iconst 1, 1) := by decide +kernel
theorem d46_43 : decode (zz_c 46) 43 = .ok (.goto 4, 3) := by decide +kernel
theorem d46_46 : decode (zz_c 46) 46 = .ok (.iconst 0, 1) := by decide +kernel
theorem d46_47 : decode (zz_c 46) 47 = .ok (.ireturn, 1) := by decide +kernel
theorem x46 : (∀ l1 x st h, zz_Y 46 (0, [some (.ref x), l1], st, h) = zz_Y 46 (1, [some (.ref x), l1], .ref x :: st, h)) ∧ (∀ ls a st h, zz_Y 46 (1, ls, .ref a :: st, h) = mo_gf (hp_g h a) 5 0 46 4 ls st h) ∧ (∀ ls a st h, zz_Y 46 (4, ls, .ref a :: st, h) = mo_gf (hp_g h a) 9 2 46 7 ls st h) ∧ (∀ ls st h, zz_Y 46 (7, ls, st, h) = zz_Y 46 (8, ls, .int (nI 3) :: st, h)) ∧ (∀ ls a b st h, zz_Y 46 (8, ls, .int b :: .int a :: st, h) = if a = b then zz_Y 46 (20, ls, st, h) else zz_Y 46 (11, ls, st, h)) ∧ (∀ l1 x st h, zz_Y 46 (11, [some (.ref x), l1], st, h) = zz_Y 46 (12, [some (.ref x), l1], .ref x :: st, h)) ∧ (∀ ls a st h, zz_Y 46 (12, ls, .ref a :: st, h) = mo_gf (hp_g h a) 5 0 46 15 ls st h) ∧ (∀ ls st h, zz_Y 46 (15, ls, st, h) = zz_Y 46 (16, ls, .int (nI 1) :: st, h)) ∧ (∀ ls a0 a1 h, zz_Y 46 (16, ls, [a1, a0], h) = mo_k 46 19 ls [] (zz_run 35 [a0, a1] h)) ∧ (∀ ls v h, v = nI 0 ∨ v = nI 1 → zz_Y 46 (19, ls, [.int v], h) = some (some (.int v), h)) ∧ (∀ l1 x st h, zz_Y 46 (20, [some (.ref x), l1], st, h) = zz_Y 46 (21, [some (.ref x), l1], .ref x :: st, h)) ∧ (∀ ls a st h, zz_Y 46 (21, ls, .ref a :: st, h) = mo_gf (hp_g h a) 5 0 46 24 ls st h) ∧ (∀ ls a st h, zz_Y 46 (24, ls, .ref a :: st, h) = mo_gf (hp_g h a) 9 4 46 27 ls st h) ∧ (∀ l0 x st h, zz_Y 46 (27, [l0, some (.int x)], st, h) = zz_Y 46 (28, [l0, some (.int x)], .int x :: st, h)) ∧ (∀ ls a b st h, zz_Y 46 (28, ls, .int b :: .int a :: st, h) = if b < a then zz_Y 46 (31, ls, st, h) else zz_Y 46 (42, ls, st, h)) ∧ (∀ l1 x st h, zz_Y 46 (31, [some (.ref x), l1], st, h) = zz_Y 46 (32, [some (.ref x), l1], .ref x :: st, h)) ∧ (∀ ls a st h, zz_Y 46 (32, ls, .ref a :: st, h) = mo_gf (hp_g h a) 5 0 46 35 ls st h) ∧ (∀ ls st h, zz_Y 46 (35, ls, st, h) = zz_Y 46 (36, ls, .int (nI 2) :: st, h)) ∧ (∀ ls a0 a1 h, zz_Y 46 (36, ls, [a1, a0], h) = mo_k 46 39 ls [] (zz_run 35 [a0, a1] h)) ∧ (∀ ls a st h, zz_Y 46 (39, ls, .int a :: st, h) = if a = nI 0 then zz_Y 46 (46, ls, st, h) else zz_Y 46 (42, ls, st, h)) ∧ (∀ ls st h, zz_Y 46 (42, ls, st, h) = zz_Y 46 (43, ls, .int (nI 1) :: st, h)) ∧ (∀ ls st h, zz_Y 46 (43, ls, st, h) = zz_Y 46 (47, ls, st, h)) ∧ (∀ ls st h, zz_Y 46 (46, ls, st, h) = zz_Y 46 (47, ls, .int (nI 0) :: st, h)) ∧ (∀ ls v h, v = nI 0 ∨ v = nI 1 → zz_Y 46 (47, ls, [.int v], h) = some (some (.int v), h)) :=
  ⟨fun _ _ _ _ => xl_aln d46_0 rfl,
   fun _ _ _ _ => xl_gf d46_1 xco46 xf_5_12,
   fun _ _ _ _ => xl_gf d46_4 xco46 xf_5_32,
   fun _ _ _ => xl_ic d46_7 (by decide +kernel),
   fun _ _ _ _ _ => xl_iceq d46_8 rfl,
   fun _ _ _ _ => xl_aln d46_11 rfl,
   fun _ _ _ _ => xl_gf d46_12 xco46 xf_5_12,
   fun _ _ _ => xl_ic d46_15 (by decide +kernel),
   fun ls a0 a1 h => xl_cv (As := [a0, a1]) (st := []) d46_16 xco46 xm_5_49 (congrArg Nat.succ xnp35) (by decide +kernel) rfl,
   fun _ _ _ hc => xl_irz d46_19 xrt46 hc,
   fun _ _ _ _ => xl_aln d46_20 rfl,
   fun _ _ _ _ => xl_gf d46_21 xco46 xf_5_12,
   fun _ _ _ _ => xl_gf d46_24 xco46 xf_5_104,
   fun _ _ _ _ => xl_iln d46_27 rfl,
   fun _ _ _ _ _ => xl_icle d46_28 rfl,
   fun _ _ _ _ => xl_aln d46_31 rfl,
   fun _ _ _ _ => xl_gf d46_32 xco46 xf_5_12,
   fun _ _ _ => xl_ic d46_35 (by decide +kernel),
   fun ls a0 a1 h => xl_cv (As := [a0, a1]) (st := []) d46_36 xco46 xm_5_49 (congrArg Nat.succ xnp35) (by decide +kernel) rfl,
   fun _ _ _ _ => xl_ifeq d46_39 rfl,
   fun _ _ _ => xl_ic d46_42 (by decide +kernel),
   fun _ _ _ => xl_goto d46_43 rfl,
   fun _ _ _ => xl_ic d46_46 (by decide +kernel),
   fun _ _ _ hc => xl_irz d46_47 xrt46 hc⟩
/-! 47 FacetSieve$Stock.isThere(I)Z -/
theorem d47_0 : decode (zz_c 47) 0 = .ok (.iload_n 1, 1) := by decide +kernel
theorem d47_1 : decode (zz_c 47) 1 = .ok (.invokestatic 57, 3) := by decide +kernel
theorem d47_4 : decode (zz_c 47) 4 = .ok (.ifCond .eq 17, 3) := by decide +kernel
theorem d47_7 : decode (zz_c 47) 7 = .ok (.aload_n 0, 1) := by decide +kernel
theorem d47_8 : decode (zz_c 47) 8 = .ok (.getfield 18, 3) := by decide +kernel
theorem d47_11 : decode (zz_c 47) 11 = .ok (.iload_n 1, 1) := by decide +kernel
theorem d47_12 : decode (zz_c 47) 12 = .ok (.iaload, 1) := by decide +kernel
theorem d47_13 : decode (zz_c 47) 13 = .ok (.iconst (-1), 1) := by decide +kernel
theorem d47_14 : decode (zz_c 47) 14 = .ok (.if_icmp .eq 7, 3) := by decide +kernel
theorem d47_17 : decode (zz_c 47) 17 = .ok (.iconst 1, 1) := by decide +kernel
theorem d47_18 : decode (zz_c 47) 18 = .ok (.goto 4, 3) := by decide +kernel
theorem d47_21 : decode (zz_c 47) 21 = .ok (.iconst 0, 1) := by decide +kernel
theorem d47_22 : decode (zz_c 47) 22 = .ok (.ireturn, 1) := by decide +kernel
theorem x47 : (∀ l0 x st h, zz_Y 47 (0, [l0, some (.int x)], st, h) = zz_Y 47 (1, [l0, some (.int x)], .int x :: st, h)) ∧ (∀ ls a0 h, zz_Y 47 (1, ls, [a0], h) = mo_k 47 4 ls [] (zz_run 48 [a0] h)) ∧ (∀ ls a st h, zz_Y 47 (4, ls, .int a :: st, h) = if a = nI 0 then zz_Y 47 (21, ls, st, h) else zz_Y 47 (7, ls, st, h)) ∧ (∀ l1 x st h, zz_Y 47 (7, [some (.ref x), l1], st, h) = zz_Y 47 (8, [some (.ref x), l1], .ref x :: st, h)) ∧ (∀ ls a st h, zz_Y 47 (8, ls, .ref a :: st, h) = mo_gf (hp_g h a) 7 1 47 11 ls st h) ∧ (∀ l0 x st h, zz_Y 47 (11, [l0, some (.int x)], st, h) = zz_Y 47 (12, [l0, some (.int x)], .int x :: st, h)) ∧ (∀ ls a i st h, zz_Y 47 (12, ls, .int i :: .ref a :: st, h) = mo_ia (hp_g h a) i a 47 13 ls st h) ∧ (∀ ls st h, zz_Y 47 (13, ls, st, h) = zz_Y 47 (14, ls, .int (-1) :: st, h)) ∧ (∀ ls a b st h, zz_Y 47 (14, ls, .int b :: .int a :: st, h) = if a = b then zz_Y 47 (21, ls, st, h) else zz_Y 47 (17, ls, st, h)) ∧ (∀ ls st h, zz_Y 47 (17, ls, st, h) = zz_Y 47 (18, ls, .int (nI 1) :: st, h)) ∧ (∀ ls st h, zz_Y 47 (18, ls, st, h) = zz_Y 47 (22, ls, st, h)) ∧ (∀ ls st h, zz_Y 47 (21, ls, st, h) = zz_Y 47 (22, ls, .int (nI 0) :: st, h)) ∧ (∀ ls v h, v = nI 0 ∨ v = nI 1 → zz_Y 47 (22, ls, [.int v], h) = some (some (.int v), h)) :=
  ⟨fun _ _ _ _ => xl_iln d47_0 rfl,
   fun ls a0 h => xl_csn (As := [a0]) (st := []) d47_1 xco47 xm_7_57 xnp48 (by decide +kernel) rfl,
   fun _ _ _ _ => xl_ifeq d47_4 rfl,
   fun _ _ _ _ => xl_aln d47_7 rfl,
   fun _ _ _ _ => xl_gf d47_8 xco47 xf_7_18,
   fun _ _ _ _ => xl_iln d47_11 rfl,
   fun _ _ _ _ _ => xl_ia d47_12,
   fun _ _ _ => xl_ic d47_13 (by decide +kernel),
   fun _ _ _ _ _ => xl_iceq d47_14 rfl,
   fun _ _ _ => xl_ic d47_17 (by decide +kernel),
   fun _ _ _ => xl_goto d47_18 rfl,
   fun _ _ _ => xl_ic d47_21 (by decide +kernel),
   fun _ _ _ hc => xl_irz d47_22 xrt47 hc⟩
/-! 48 FacetSieve.isRecord(I)Z -/
theorem d48_0 : decode (zz_c 48) 0 = .ok (.iload_n 0, 1) := by decide +kernel
theorem d48_1 : decode (zz_c 48) 1 = .ok (.ifCond .lt 14, 3) := by decide +kernel
theorem d48_4 : decode (zz_c 48) 4 = .ok (.iload_n 0, 1) := by decide +kernel
theorem d48_5 : decode (zz_c 48) 5 = .ok (.sipush 256, 3) := by decide +kernel
theorem d48_8 : decode (zz_c 48) 8 = .ok (.if_icmp .ge 7, 3) := by decide +kernel
theorem d48_11 : decode (zz_c 48) 11 = .ok (.iconst 1, 1) := by decide +kernel
theorem d48_12 : decode (zz_c 48) 12 = .ok (.goto 4, 3) := by decide +kernel
theorem d48_15 : decode (zz_c 48) 15 = .ok (.iconst 0, 1) := by decide +kernel
theorem d48_16 : decode (zz_c 48) 16 = .ok (.ireturn, 1) := by decide +kernel
theorem x48 : (∀ x st h, zz_Y 48 (0, [some (.int x)], st, h) = zz_Y 48 (1, [some (.int x)], .int x :: st, h)) ∧ (∀ ls a st h, zz_Y 48 (1, ls, .int a :: st, h) = if a < nI 0 then zz_Y 48 (15, ls, st, h) else zz_Y 48 (4, ls, st, h)) ∧ (∀ x st h, zz_Y 48 (4, [some (.int x)], st, h) = zz_Y 48 (5, [some (.int x)], .int x :: st, h)) ∧ (∀ ls st h, zz_Y 48 (5, ls, st, h) = zz_Y 48 (8, ls, .int (nI 256) :: st, h)) ∧ (∀ ls a b st h, zz_Y 48 (8, ls, .int b :: .int a :: st, h) = if a < b then zz_Y 48 (11, ls, st, h) else zz_Y 48 (15, ls, st, h)) ∧ (∀ ls st h, zz_Y 48 (11, ls, st, h) = zz_Y 48 (12, ls, .int (nI 1) :: st, h)) ∧ (∀ ls st h, zz_Y 48 (12, ls, st, h) = zz_Y 48 (16, ls, st, h)) ∧ (∀ ls st h, zz_Y 48 (15, ls, st, h) = zz_Y 48 (16, ls, .int (nI 0) :: st, h)) ∧ (∀ ls v h, v = nI 0 ∨ v = nI 1 → zz_Y 48 (16, ls, [.int v], h) = some (some (.int v), h)) :=
  ⟨fun _ _ _ => xl_iln d48_0 rfl,
   fun _ _ _ _ => xl_iflt d48_1 rfl,
   fun _ _ _ => xl_iln d48_4 rfl,
   fun _ _ _ => xl_si d48_5 (by decide +kernel),
   fun _ _ _ _ _ => xl_icge d48_8 rfl,
   fun _ _ _ => xl_ic d48_11 (by decide +kernel),
   fun _ _ _ => xl_goto d48_12 rfl,
   fun _ _ _ => xl_ic d48_15 (by decide +kernel),
   fun _ _ _ hc => xl_irz d48_16 xrt48 hc⟩
/-! 49 FacetSieve$SchemeReader.readTags(II)Z -/
theorem d49_0 : decode (zz_c 49) 0 = .ok (.iconst 0, 1) := by decide +kernel
theorem d49_1 : decode (zz_c 49) 1 = .ok (.istore_n 3, 1) := by decide +kernel
theorem d49_2 : decode (zz_c 49) 2 = .ok (.iconst 0, 1) := by decide +kernel
theorem d49_3 : decode (zz_c 49) 3 = .ok (.istore 4, 2) := by decide +kernel
theorem d49_5 : decode (zz_c 49) 5 = .ok (.aload_n 0, 1) := by decide +kernel
theorem d49_6 : decode (zz_c 49) 6 = .ok (.getfield 12, 3) := by decide +kernel
theorem d49_9 : decode (zz_c 49) 9 = .ok (.getfield 32, 3) := by decide +kernel
theorem d49_12 : decode (zz_c 49) 12 = .ok (.iconst 2, 1) := by decide +kernel
theorem d49_13 : decode (zz_c 49) 13 = .ok (.if_icmp .ne 101, 3) := by decide +kernel
theorem d49_16 : decode (zz_c 49) 16 = .ok (.iload 4, 2) := by decide +kernel
theorem d49_18 : decode (zz_c 49) 18 = .ok (.sipush 600, 3) := by decide +kernel
theorem d49_21 : decode (zz_c 49) 21 = .ok (.if_icmp .ge 93, 3) := by decide +kernel
theorem d49_24 : decode (zz_c 49) 24 = .ok (.aload_n 0, 1) := by decide +kernel
theorem d49_25 : decode (zz_c 49) 25 = .ok (.getfield 21, 3) := by decide +kernel
theorem d49_28 : decode (zz_c 49) 28 = .ok (.getfield 56, 3) := by decide +kernel
theorem d49_31 : decode (zz_c 49) 31 = .ok (.aload_n 0, 1) := by decide +kernel
theorem d49_32 : decode (zz_c 49) 32 = .ok (.getfield 12, 3) := by decide +kernel
theorem d49_35 : decode (zz_c 49) 35 = .ok (.getfield 68, 3) := by decide +kernel
theorem d49_38 : decode (zz_c 49) 38 = .ok (.invokevirtual 82, 3) := by decide +kernel
theorem d49_41 : decode (zz_c 49) 41 = .ok (.istore 5, 2) := by decide +kernel
theorem d49_43 : decode (zz_c 49) 43 = .ok (.iload 5, 2) := by decide +kernel
theorem d49_45 : decode (zz_c 49) 45 = .ok (.iconst (-1), 1) := by decide +kernel
theorem d49_46 : decode (zz_c 49) 46 = .ok (.if_icmp .ne 12, 3) := by decide +kernel
theorem d49_49 : decode (zz_c 49) 49 = .ok (.aload_n 0, 1) := by decide +kernel
theorem d49_50 : decode (zz_c 49) 50 = .ok (.getfield 12, 3) := by decide +kernel
theorem d49_53 : decode (zz_c 49) 53 = .ok (.iconst 3, 1) := by decide +kernel
theorem d49_54 : decode (zz_c 49) 54 = .ok (.invokevirtual 49, 3) := by decide +kernel
theorem d49_57 : decode (zz_c 49) 57 = .ok (.ireturn, 1) := by decide +kernel
theorem d49_58 : decode (zz_c 49) 58 = .ok (.iload_n 3, 1) := by decide +kernel
theorem d49_59 : decode (zz_c 49) 59 = .ok (.iload 5, 2) := by decide +kernel
theorem d49_61 : decode (zz_c 49) 61 = .ok (.invokestatic 114, 3) := by decide +kernel
theorem d49_64 : decode (zz_c 49) 64 = .ok (.ifCond .ne 20, 3) := by decide +kernel
theorem d49_67 : decode (zz_c 49) 67 = .ok (.aload_n 0, 1) := by decide +kernel
theorem d49_68 : decode (zz_c 49) 68 = .ok (.getfield 21, 3) := by decide +kernel
theorem d49_71 : decode (zz_c 49) 71 = .ok (.getfield 56, 3) := by decide +kernel
theorem d49_74 : decode (zz_c 49) 74 = .ok (.iload_n 3, 1) := by decide +kernel
theorem d49_75 : decode (zz_c 49) 75 = .ok (.iload 5, 2) := by decide +kernel
theorem d49_77 : decode (zz_c 49) 77 = .ok (.invokevirtual 117, 3) := by decide +kernel
theorem d49_80 : decode (zz_c 49) 80 = .ok (.iconst (-1), 1) := by decide +kernel
theorem d49_81 : decode (zz_c 49) 81 = .ok (.if_icmp .eq 13, 3) := by decide +kernel
theorem d49_84 : decode (zz_c 49) 84 = .ok (.aload_n 0, 1) := by decide +kernel
theorem d49_85 : decode (zz_c 49) 85 = .ok (.getfield 12, 3) := by decide +kernel
theorem d49_88 : decode (zz_c 49) 88 = .ok (.bipush 6, 2) := by decide +kernel
theorem d49_90 : decode (zz_c 49) 90 = .ok (.invokevirtual 49, 3) := by decide +kernel
theorem d49_93 : decode (zz_c 49) 93 = .ok (.ireturn, 1) := by decide +kernel
theorem d49_94 : decode (zz_c 49) 94 = .ok (.iload_n 3, 1) := by decide +kernel
theorem d49_95 : decode (zz_c 49) 95 = .ok (.iconst 1, 1) := by decide +kernel
theorem d49_96 : decode (zz_c 49) 96 = .ok (.iload 5, 2) := by decide +kernel
theorem d49_98 : decode (zz_c 49) 98 = .ok (.ishl, 1) := by decide +kernel
theorem d49_99 : decode (zz_c 49) 99 = .ok (.ior, 1) := by decide +kernel
theorem d49_100 : decode (zz_c 49) 100 = .ok (.istore_n 3, 1) := by decide +kernel
theorem d49_101 : decode (zz_c 49) 101 = .ok (.aload_n 0, 1) := by decide +kernel
theorem d49_102 : decode (zz_c 49) 102 = .ok (.getfield 12, 3) := by decide +kernel
theorem d49_105 : decode (zz_c 49) 105 = .ok (.invokevirtual 53, 3) := by decide +kernel
theorem d49_108 : decode (zz_c 49) 108 = .ok (.iinc 4 1, 3) := by decide +kernel
theorem d49_111 : decode (zz_c 49) 111 = .ok (.goto (-106), 3) := by decide +kernel
theorem d49_114 : decode (zz_c 49) 114 = .ok (.aload_n 0, 1) := by decide +kernel
theorem d49_115 : decode (zz_c 49) 115 = .ok (.getfield 21, 3) := by decide +kernel
theorem d49_118 : decode (zz_c 49) 118 = .ok (.iload_n 1, 1) := by decide +kernel
theorem d49_119 : decode (zz_c 49) 119 = .ok (.iload_n 2, 1) := by decide +kernel
theorem d49_120 : decode (zz_c 49) 120 = .ok (.iload_n 3, 1) := by decide +kernel
theorem d49_121 : decode (zz_c 49) 121 = .ok (.invokevirtual 121, 3) := by decide +kernel
theorem d49_124 : decode (zz_c 49) 124 = .ok (.iconst 1, 1) := by decide +kernel
theorem d49_125 : decode (zz_c 49) 125 = .ok (.ireturn, 1) := by decide +kernel
theorem x49_p0 : (∀ ls st h, zz_Y 49 (0, ls, st, h) = zz_Y 49 (1, ls, .int (nI 0) :: st, h)) ∧ (∀ l0 l1 l2 l3 l4 l5 x st h, zz_nl l2 = true → zz_Y 49 (1, [l0, l1, l2, l3, l4, l5], .int x :: st, h) = zz_Y 49 (2, [l0, l1, l2, some (.int x), l4, l5], st, h)) ∧ (∀ ls st h, zz_Y 49 (2, ls, st, h) = zz_Y 49 (3, ls, .int (nI 0) :: st, h)) ∧ (∀ l0 l1 l2 l3 l4 l5 x st h, zz_nl l3 = true → zz_Y 49 (3, [l0, l1, l2, l3, l4, l5], .int x :: st, h) = zz_Y 49 (5, [l0, l1, l2, l3, some (.int x), l5], st, h)) ∧ (∀ ls a st h, zz_Y 49 (6, ls, .ref a :: st, h) = mo_gf (hp_g h a) 5 0 49 9 ls st h) ∧ (∀ ls a st h, zz_Y 49 (9, ls, .ref a :: st, h) = mo_gf (hp_g h a) 9 2 49 12 ls st h) ∧ (∀ ls st h, zz_Y 49 (12, ls, st, h) = zz_Y 49 (13, ls, .int (nI 2) :: st, h)) ∧ (∀ ls a b st h, zz_Y 49 (13, ls, .int b :: .int a :: st, h) = if a = b then zz_Y 49 (16, ls, st, h) else zz_Y 49 (114, ls, st, h)) ∧ (∀ l0 l1 l2 l3 l5 x st h, zz_Y 49 (16, [l0, l1, l2, l3, some (.int x), l5], st, h) = zz_Y 49 (18, [l0, l1, l2, l3, some (.int x), l5], .int x :: st, h)) ∧ (∀ ls st h, zz_Y 49 (18, ls, st, h) = zz_Y 49 (21, ls, .int (nI 600) :: st, h)) ∧ (∀ ls a b st h, zz_Y 49 (21, ls, .int b :: .int a :: st, h) = if a < b then zz_Y 49 (24, ls, st, h) else zz_Y 49 (114, ls, st, h)) ∧ (∀ l1 l2 l3 l4 l5 x st h, zz_Y 49 (24, [some (.ref x), l1, l2, l3, l4, l5], st, h) = zz_Y 49 (25, [some (.ref x), l1, l2, l3, l4, l5], .ref x :: st, h)) ∧ (∀ ls a st h, zz_Y 49 (25, ls, .ref a :: st, h) = mo_gf (hp_g h a) 5 1 49 28 ls st h) ∧ (∀ ls a st h, zz_Y 49 (28, ls, .ref a :: st, h) = mo_gf (hp_g h a) 7 0 49 31 ls st h) ∧ (∀ l1 l2 l3 l4 l5 x st h, zz_Y 49 (31, [some (.ref x), l1, l2, l3, l4, l5], st, h) = zz_Y 49 (32, [some (.ref x), l1, l2, l3, l4, l5], .ref x :: st, h)) ∧ (∀ ls a st h, zz_Y 49 (32, ls, .ref a :: st, h) = mo_gf (hp_g h a) 5 0 49 35 ls st h) ∧ (∀ ls a st h, zz_Y 49 (35, ls, .ref a :: st, h) = mo_gf (hp_g h a) 9 5 49 38 ls st h) ∧ (∀ ls a0 a1 h, zz_Y 49 (38, ls, [a1, a0], h) = mo_k 49 41 ls [] (zz_run 38 [a0, a1] h)) ∧ (∀ l0 l1 l2 l3 l4 l5 x st h, zz_nl l4 = true → zz_Y 49 (41, [l0, l1, l2, l3, l4, l5], .int x :: st, h) = zz_Y 49 (43, [l0, l1, l2, l3, l4, some (.int x)], st, h)) ∧ (∀ l0 l1 l2 l3 l4 x st h, zz_Y 49 (43, [l0, l1, l2, l3, l4, some (.int x)], st, h) = zz_Y 49 (45, [l0, l1, l2, l3, l4, some (.int x)], .int x :: st, h)) ∧ (∀ ls st h, zz_Y 49 (45, ls, st, h) = zz_Y 49 (46, ls, .int (-1) :: st, h)) ∧ (∀ ls a b st h, zz_Y 49 (46, ls, .int b :: .int a :: st, h) = if a = b then zz_Y 49 (49, ls, st, h) else zz_Y 49 (58, ls, st, h)) ∧ (∀ l1 l2 l3 l4 l5 x st h, zz_Y 49 (49, [some (.ref x), l1, l2, l3, l4, l5], st, h) = zz_Y 49 (50, [some (.ref x), l1, l2, l3, l4, l5], .ref x :: st, h)) ∧ (∀ ls a st h, zz_Y 49 (50, ls, .ref a :: st, h) = mo_gf (hp_g h a) 5 0 49 53 ls st h) ∧ (∀ ls st h, zz_Y 49 (53, ls, st, h) = zz_Y 49 (54, ls, .int (nI 3) :: st, h)) ∧ (∀ ls a0 a1 h, zz_Y 49 (54, ls, [a1, a0], h) = mo_k 49 57 ls [] (zz_run 35 [a0, a1] h)) ∧ (∀ ls v h, v = nI 0 ∨ v = nI 1 → zz_Y 49 (57, ls, [.int v], h) = some (some (.int v), h)) ∧ (∀ l0 l1 l2 l4 l5 x st h, zz_Y 49 (58, [l0, l1, l2, some (.int x), l4, l5], st, h) = zz_Y 49 (59, [l0, l1, l2, some (.int x), l4, l5], .int x :: st, h)) ∧ (∀ l0 l1 l2 l3 l4 x st h, zz_Y 49 (59, [l0, l1, l2, l3, l4, some (.int x)], st, h) = zz_Y 49 (61, [l0, l1, l2, l3, l4, some (.int x)], .int x :: st, h)) ∧ (∀ ls a0 a1 h, zz_Y 49 (61, ls, [a1, a0], h) = mo_k 49 64 ls [] (zz_run 50 [a0, a1] h)) ∧ (∀ ls a st h, zz_Y 49 (64, ls, .int a :: st, h) = if a = nI 0 then zz_Y 49 (67, ls, st, h) else zz_Y 49 (84, ls, st, h)) ∧ (∀ l1 l2 l3 l4 l5 x st h, zz_Y 49 (67, [some (.ref x), l1, l2, l3, l4, l5], st, h) = zz_Y 49 (68, [some (.ref x), l1, l2, l3, l4, l5], .ref x :: st, h)) ∧ (∀ ls a st h, zz_Y 49 (68, ls, .ref a :: st, h) = mo_gf (hp_g h a) 5 1 49 71 ls st h) ∧ (∀ ls a st h, zz_Y 49 (71, ls, .ref a :: st, h) = mo_gf (hp_g h a) 7 0 49 74 ls st h) ∧ (∀ l0 l1 l2 l4 l5 x st h, zz_Y 49 (74, [l0, l1, l2, some (.int x), l4, l5], st, h) = zz_Y 49 (75, [l0, l1, l2, some (.int x), l4, l5], .int x :: st, h)) ∧ (∀ l0 l1 l2 l3 l4 x st h, zz_Y 49 (75, [l0, l1, l2, l3, l4, some (.int x)], st, h) = zz_Y 49 (77, [l0, l1, l2, l3, l4, some (.int x)], .int x :: st, h)) ∧ (∀ ls a0 a1 a2 h, zz_Y 49 (77, ls, [a2, a1, a0], h) = mo_k 49 80 ls [] (zz_run 51 [a0, a1, a2] h)) ∧ (∀ ls st h, zz_Y 49 (80, ls, st, h) = zz_Y 49 (81, ls, .int (-1) :: st, h)) ∧ (∀ ls a b st h, zz_Y 49 (81, ls, .int b :: .int a :: st, h) = if a = b then zz_Y 49 (94, ls, st, h) else zz_Y 49 (84, ls, st, h)) ∧ (∀ l1 l2 l3 l4 l5 x st h, zz_Y 49 (84, [some (.ref x), l1, l2, l3, l4, l5], st, h) = zz_Y 49 (85, [some (.ref x), l1, l2, l3, l4, l5], .ref x :: st, h)) ∧ (∀ ls a st h, zz_Y 49 (85, ls, .ref a :: st, h) = mo_gf (hp_g h a) 5 0 49 88 ls st h) ∧ (∀ ls st h, zz_Y 49 (88, ls, st, h) = zz_Y 49 (90, ls, .int (nI 6) :: st, h)) ∧ (∀ ls a0 a1 h, zz_Y 49 (90, ls, [a1, a0], h) = mo_k 49 93 ls [] (zz_run 35 [a0, a1] h)) ∧ (∀ ls v h, v = nI 0 ∨ v = nI 1 → zz_Y 49 (93, ls, [.int v], h) = some (some (.int v), h)) ∧ (∀ l0 l1 l2 l4 l5 x st h, zz_Y 49 (94, [l0, l1, l2, some (.int x), l4, l5], st, h) = zz_Y 49 (95, [l0, l1, l2, some (.int x), l4, l5], .int x :: st, h)) ∧ (∀ ls st h, zz_Y 49 (95, ls, st, h) = zz_Y 49 (96, ls, .int (nI 1) :: st, h)) ∧ (∀ l0 l1 l2 l3 l4 x st h, zz_Y 49 (96, [l0, l1, l2, l3, l4, some (.int x)], st, h) = zz_Y 49 (98, [l0, l1, l2, l3, l4, some (.int x)], .int x :: st, h)) ∧ (∀ ls a b st h, zz_Y 49 (98, ls, .int b :: .int a :: st, h) = zz_Y 49 (99, ls, .int (a <<< (b &&& 31)) :: st, h)) ∧ (∀ ls a b st h, zz_Y 49 (99, ls, .int b :: .int a :: st, h) = zz_Y 49 (100, ls, .int (a ||| b) :: st, h)) ∧ (∀ l0 l1 l2 l3 l4 l5 x st h, zz_nl l2 = true → zz_Y 49 (100, [l0, l1, l2, l3, l4, l5], .int x :: st, h) = zz_Y 49 (101, [l0, l1, l2, some (.int x), l4, l5], st, h)) ∧ (∀ l1 l2 l3 l4 l5 x st h, zz_Y 49 (101, [some (.ref x), l1, l2, l3, l4, l5], st, h) = zz_Y 49 (102, [some (.ref x), l1, l2, l3, l4, l5], .ref x :: st, h)) ∧ (∀ ls a st h, zz_Y 49 (102, ls, .ref a :: st, h) = mo_gf (hp_g h a) 5 0 49 105 ls st h) ∧ (∀ ls a0 h, zz_Y 49 (105, ls, [a0], h) = mo_k 49 108 ls [] (zz_run 23 [a0] h)) ∧ (∀ l0 l1 l2 l3 l5 x st h, zz_nl l3 = true → zz_Y 49 (108, [l0, l1, l2, l3, some (.int x), l5], st, h) = zz_Y 49 (111, [l0, l1, l2, l3, some (.int (x + nI 1)), l5], st, h)) ∧ (∀ ls st h, zz_Y 49 (111, ls, st, h) = zz_Y 49 (5, ls, st, h)) ∧ (∀ l1 l2 l3 l4 l5 x st h, zz_Y 49 (114, [some (.ref x), l1, l2, l3, l4, l5], st, h) = zz_Y 49 (115, [some (.ref x), l1, l2, l3, l4, l5], .ref x :: st, h)) ∧ (∀ ls a st h, zz_Y 49 (115, ls, .ref a :: st, h) = mo_gf (hp_g h a) 5 1 49 118 ls st h) ∧ (∀ l0 l2 l3 l4 l5 x st h, zz_Y 49 (118, [l0, some (.int x), l2, l3, l4, l5], st, h) = zz_Y 49 (119, [l0, some (.int x), l2, l3, l4, l5], .int x :: st, h)) ∧ (∀ l0 l1 l3 l4 l5 x st h, zz_Y 49 (119, [l0, l1, some (.int x), l3, l4, l5], st, h) = zz_Y 49 (120, [l0, l1, some (.int x), l3, l4, l5], .int x :: st, h)) ∧ (∀ l0 l1 l2 l4 l5 x st h, zz_Y 49 (120, [l0, l1, l2, some (.int x), l4, l5], st, h) = zz_Y 49 (121, [l0, l1, l2, some (.int x), l4, l5], .int x :: st, h)) :=
  ⟨fun _ _ _ => xl_ic d49_0 (by decide +kernel),
   fun _ _ _ _ _ _ _ _ _ hc => xl_isn d49_1 xml49 (by decide) (zz_nl_s1 hc),
   fun _ _ _ => xl_ic d49_2 (by decide +kernel),
   fun _ _ _ _ _ _ _ _ _ hc => xl_is d49_3 xml49 (by decide) (zz_nl_s1 hc),
   fun _ _ _ _ => xl_gf d49_6 xco49 xf_5_12,
   fun _ _ _ _ => xl_gf d49_9 xco49 xf_5_32,
   fun _ _ _ => xl_ic d49_12 (by decide +kernel),
   fun _ _ _ _ _ => xl_icne d49_13 rfl,
   fun _ _ _ _ _ _ _ _ => xl_il d49_16 rfl,
   fun _ _ _ => xl_si d49_18 (by decide +kernel),
   fun _ _ _ _ _ => xl_icge d49_21 rfl,
   fun _ _ _ _ _ _ _ _ => xl_aln d49_24 rfl,
   fun _ _ _ _ => xl_gf d49_25 xco49 xf_5_21,
   fun _ _ _ _ => xl_gf d49_28 xco49 xf_5_56,
   fun _ _ _ _ _ _ _ _ => xl_aln d49_31 rfl,
   fun _ _ _ _ => xl_gf d49_32 xco49 xf_5_12,
   fun _ _ _ _ => xl_gf d49_35 xco49 xf_5_68,
   fun ls a0 a1 h => xl_cv (As := [a0, a1]) (st := []) d49_38 xco49 xm_5_82 (congrArg Nat.succ xnp38) (by decide +kernel) rfl,
   fun _ _ _ _ _ _ _ _ _ hc => xl_is d49_41 xml49 (by decide) (zz_nl_s1 hc),
   fun _ _ _ _ _ _ _ _ => xl_il d49_43 rfl,
   fun _ _ _ => xl_ic d49_45 (by decide +kernel),
   fun _ _ _ _ _ => xl_icne d49_46 rfl,
   fun _ _ _ _ _ _ _ _ => xl_aln d49_49 rfl,
   fun _ _ _ _ => xl_gf d49_50 xco49 xf_5_12,
   fun _ _ _ => xl_ic d49_53 (by decide +kernel),
   fun ls a0 a1 h => xl_cv (As := [a0, a1]) (st := []) d49_54 xco49 xm_5_49 (congrArg Nat.succ xnp35) (by decide +kernel) rfl,
   fun _ _ _ hc => xl_irz d49_57 xrt49 hc,
   fun _ _ _ _ _ _ _ _ => xl_iln d49_58 rfl,
   fun _ _ _ _ _ _ _ _ => xl_il d49_59 rfl,
   fun ls a0 a1 h => xl_csn (As := [a0, a1]) (st := []) d49_61 xco49 xm_5_114 xnp50 (by decide +kernel) rfl,
   fun _ _ _ _ => xl_ifne d49_64 rfl,
   fun _ _ _ _ _ _ _ _ => xl_aln d49_67 rfl,
   fun _ _ _ _ => xl_gf d49_68 xco49 xf_5_21,
   fun _ _ _ _ => xl_gf d49_71 xco49 xf_5_56,
   fun _ _ _ _ _ _ _ _ => xl_iln d49_74 rfl,
   fun _ _ _ _ _ _ _ _ => xl_il d49_75 rfl,
   fun ls a0 a1 a2 h => xl_cv (As := [a0, a1, a2]) (st := []) d49_77 xco49 xm_5_117 (congrArg Nat.succ xnp51) (by decide +kernel) rfl,
   fun _ _ _ => xl_ic d49_80 (by decide +kernel),
   fun _ _ _ _ _ => xl_iceq d49_81 rfl,
   fun _ _ _ _ _ _ _ _ => xl_aln d49_84 rfl,
   fun _ _ _ _ => xl_gf d49_85 xco49 xf_5_12,
   fun _ _ _ => xl_bi d49_88 (by decide +kernel),
   fun ls a0 a1 h => xl_cv (As := [a0, a1]) (st := []) d49_90 xco49 xm_5_49 (congrArg Nat.succ xnp35) (by decide +kernel) rfl,
   fun _ _ _ hc => xl_irz d49_93 xrt49 hc,
   fun _ _ _ _ _ _ _ _ => xl_iln d49_94 rfl,
   fun _ _ _ => xl_ic d49_95 (by decide +kernel),
   fun _ _ _ _ _ _ _ _ => xl_il d49_96 rfl,
   fun _ _ _ _ _ => xl_ishl d49_98,
   fun _ _ _ _ _ => xl_ior d49_99,
   fun _ _ _ _ _ _ _ _ _ hc => xl_isn d49_100 xml49 (by decide) (zz_nl_s1 hc),
   fun _ _ _ _ _ _ _ _ => xl_aln d49_101 rfl,
   fun _ _ _ _ => xl_gf d49_102 xco49 xf_5_12,
   fun ls a0 h => xl_cv (As := [a0]) (st := []) d49_105 xco49 xm_5_53 (congrArg Nat.succ xnp23) (by decide +kernel) rfl,
   fun _ _ _ _ _ _ _ _ hc => xl_inc d49_108 xml49 (by decide) rfl (by decide +kernel) (zz_nl_s1 hc),
   fun _ _ _ => xl_goto d49_111 rfl,
   fun _ _ _ _ _ _ _ _ => xl_aln d49_114 rfl,
   fun _ _ _ _ => xl_gf d49_115 xco49 xf_5_21,
   fun _ _ _ _ _ _ _ _ => xl_iln d49_118 rfl,
   fun _ _ _ _ _ _ _ _ => xl_iln d49_119 rfl,
   fun _ _ _ _ _ _ _ _ => xl_iln d49_120 rfl⟩
theorem x49_p1 : (∀ ls a0 a1 a2 a3 h, zz_Y 49 (121, ls, [a3, a2, a1, a0], h) = mo_k 49 124 ls [] (zz_run 52 [a0, a1, a2, a3] h)) ∧ (∀ ls st h, zz_Y 49 (124, ls, st, h) = zz_Y 49 (125, ls, .int (nI 1) :: st, h)) ∧ (∀ ls v h, v = nI 0 ∨ v = nI 1 → zz_Y 49 (125, ls, [.int v], h) = some (some (.int v), h)) :=
  ⟨fun ls a0 a1 a2 a3 h => xl_cv (As := [a0, a1, a2, a3]) (st := []) d49_121 xco49 xm_5_121 (congrArg Nat.succ xnp52) (by decide +kernel) rfl,
   fun _ _ _ => xl_ic d49_124 (by decide +kernel),
   fun _ _ _ hc => xl_irz d49_125 xrt49 hc⟩
theorem x49_c5 : ∀ l1 l2 l3 l4 l5 x st h, zz_Y 49 (5, [some (.ref x), l1, l2, l3, l4, l5], st, h) = zz_Y 49 (6, [some (.ref x), l1, l2, l3, l4, l5], .ref x :: st, h) := fun _ _ _ _ _ _ _ _ => xl_aln d49_5 rfl
/-! 50 FacetSieve.hasBit(II)Z -/
theorem d50_0 : decode (zz_c 50) 0 = .ok (.iload_n 0, 1) := by decide +kernel
theorem d50_1 : decode (zz_c 50) 1 = .ok (.iload_n 1, 1) := by decide +kernel
theorem d50_2 : decode (zz_c 50) 2 = .ok (.ishr, 1) := by decide +kernel
theorem d50_3 : decode (zz_c 50) 3 = .ok (.iconst 1, 1) := by decide +kernel
theorem d50_4 : decode (zz_c 50) 4 = .ok (.iand, 1) := by decide +kernel
theorem d50_5 : decode (zz_c 50) 5 = .ok (.ifCond .eq 7, 3) := by decide +kernel
theorem d50_8 : decode (zz_c 50) 8 = .ok (.iconst 1, 1) := by decide +kernel
theorem d50_9 : decode (zz_c 50) 9 = .ok (.goto 4, 3) := by decide +kernel
theorem d50_12 : decode (zz_c 50) 12 = .ok (.iconst 0, 1) := by decide +kernel
theorem d50_13 : decode (zz_c 50) 13 = .ok (.ireturn, 1) := by decide +kernel
theorem x50 : (∀ l1 x st h, zz_Y 50 (0, [some (.int x), l1], st, h) = zz_Y 50 (1, [some (.int x), l1], .int x :: st, h)) ∧ (∀ l0 x st h, zz_Y 50 (1, [l0, some (.int x)], st, h) = zz_Y 50 (2, [l0, some (.int x)], .int x :: st, h)) ∧ (∀ ls a b st h, zz_Y 50 (2, ls, .int b :: .int a :: st, h) = zz_Y 50 (3, ls, .int (a >>> (b &&& 31)) :: st, h)) ∧ (∀ ls st h, zz_Y 50 (3, ls, st, h) = zz_Y 50 (4, ls, .int (nI 1) :: st, h)) ∧ (∀ ls a b st h, zz_Y 50 (4, ls, .int b :: .int a :: st, h) = zz_Y 50 (5, ls, .int (a &&& b) :: st, h)) ∧ (∀ ls a st h, zz_Y 50 (5, ls, .int a :: st, h) = if a = nI 0 then zz_Y 50 (12, ls, st, h) else zz_Y 50 (8, ls, st, h)) ∧ (∀ ls st h, zz_Y 50 (8, ls, st, h) = zz_Y 50 (9, ls, .int (nI 1) :: st, h)) ∧ (∀ ls st h, zz_Y 50 (9, ls, st, h) = zz_Y 50 (13, ls, st, h)) ∧ (∀ ls st h, zz_Y 50 (12, ls, st, h) = zz_Y 50 (13, ls, .int (nI 0) :: st, h)) ∧ (∀ ls v h, v = nI 0 ∨ v = nI 1 → zz_Y 50 (13, ls, [.int v], h) = some (some (.int v), h)) :=
  ⟨fun _ _ _ _ => xl_iln d50_0 rfl,
   fun _ _ _ _ => xl_iln d50_1 rfl,
   fun _ _ _ _ _ => xl_ishr d50_2,
   fun _ _ _ => xl_ic d50_3 (by decide +kernel),
   fun _ _ _ _ _ => xl_iand d50_4,
   fun _ _ _ _ => xl_ifeq d50_5 rfl,
   fun _ _ _ => xl_ic d50_8 (by decide +kernel),
   fun _ _ _ => xl_goto d50_9 rfl,
   fun _ _ _ => xl_ic d50_12 (by decide +kernel),
   fun _ _ _ hc => xl_irz d50_13 xrt50 hc⟩
/-! 51 FacetSieve$Plan.holderAgainst(II)I -/
theorem d51_0 : decode (zz_c 51) 0 = .ok (.aload_n 0, 1) := by decide +kernel
theorem d51_1 : decode (zz_c 51) 1 = .ok (.getfield 28, 3) := by decide +kernel
theorem d51_4 : decode (zz_c 51) 4 = .ok (.iload_n 2, 1) := by decide +kernel
theorem d51_5 : decode (zz_c 51) 5 = .ok (.iaload, 1) := by decide +kernel
theorem d51_6 : decode (zz_c 51) 6 = .ok (.istore_n 3, 1) := by decide +kernel
theorem d51_7 : decode (zz_c 51) 7 = .ok (.aload_n 0, 1) := by decide +kernel
theorem d51_8 : decode (zz_c 51) 8 = .ok (.getfield 15, 3) := by decide +kernel
theorem d51_11 : decode (zz_c 51) 11 = .ok (.iload_n 3, 1) := by decide +kernel
theorem d51_12 : decode (zz_c 51) 12 = .ok (.iaload, 1) := by decide +kernel
theorem d51_13 : decode (zz_c 51) 13 = .ok (.iconst 1, 1) := by decide +kernel
theorem d51_14 : decode (zz_c 51) 14 = .ok (.if_icmp .ne 5, 3) := by decide +kernel
theorem d51_17 : decode (zz_c 51) 17 = .ok (.iconst (-1), 1) := by decide +kernel
theorem d51_18 : decode (zz_c 51) 18 = .ok (.ireturn, 1) := by decide +kernel
theorem d51_19 : decode (zz_c 51) 19 = .ok (.aload_n 0, 1) := by decide +kernel
theorem d51_20 : decode (zz_c 51) 20 = .ok (.getfield 19, 3) := by decide +kernel
theorem d51_23 : decode (zz_c 51) 23 = .ok (.iload_n 3, 1) := by decide +kernel
theorem d51_24 : decode (zz_c 51) 24 = .ok (.iaload, 1) := by decide +kernel
theorem d51_25 : decode (zz_c 51) 25 = .ok (.istore 4, 2) := by decide +kernel
theorem d51_27 : decode (zz_c 51) 27 = .ok (.iload 4, 2) := by decide +kernel
theorem d51_29 : decode (zz_c 51) 29 = .ok (.aload_n 0, 1) := by decide +kernel
theorem d51_30 : decode (zz_c 51) 30 = .ok (.getfield 19, 3) := by decide +kernel
theorem d51_33 : decode (zz_c 51) 33 = .ok (.iload_n 3, 1) := by decide +kernel
theorem d51_34 : decode (zz_c 51) 34 = .ok (.iaload, 1) := by decide +kernel
theorem d51_35 : decode (zz_c 51) 35 = .ok (.aload_n 0, 1) := by decide +kernel
theorem d51_36 : decode (zz_c 51) 36 = .ok (.getfield 22, 3) := by decide +kernel
theorem d51_39 : decode (zz_c 51) 39 = .ok (.iload_n 3, 1) := by decide +kernel
theorem d51_40 : decode (zz_c 51) 40 = .ok (.iaload, 1) := by decide +kernel
theorem d51_41 : decode (zz_c 51) 41 = .ok (.iadd, 1) := by decide +kernel
theorem d51_42 : decode (zz_c 51) 42 = .ok (.if_icmp .ge 21, 3) := by decide +kernel
theorem d51_45 : decode (zz_c 51) 45 = .ok (.iload_n 1, 1) := by decide +kernel
theorem d51_46 : decode (zz_c 51) 46 = .ok (.iload 4, 2) := by decide +kernel
theorem d51_48 : decode (zz_c 51) 48 = .ok (.invokestatic 65, 3) := by decide +kernel
theorem d51_51 : decode (zz_c 51) 51 = .ok (.ifCond .eq 6, 3) := by decide +kernel
theorem d51_54 : decode (zz_c 51) 54 = .ok (.iload 4, 2) := by decide +kernel
theorem d51_56 : decode (zz_c 51) 56 = .ok (.ireturn, 1) := by decide +kernel
theorem d51_57 : decode (zz_c 51) 57 = .ok (.iinc 4 1, 3) := by decide +kernel
theorem d51_60 : decode (zz_c 51) 60 = .ok (.goto (-33), 3) := by decide +kernel
theorem d51_63 : decode (zz_c 51) 63 = .ok (.iconst (-1), 1) := by decide +kernel
theorem d51_64 : decode (zz_c 51) 64 = .ok (.ireturn, 1) := by decide +kernel
theorem x51 : (∀ l1 l2 l3 l4 x st h, zz_Y 51 (0, [some (.ref x), l1, l2, l3, l4], st, h) = zz_Y 51 (1, [some (.ref x), l1, l2, l3, l4], .ref x :: st, h)) ∧ (∀ ls a st h, zz_Y 51 (1, ls, .ref a :: st, h) = mo_gf (hp_g h a) 3 7 51 4 ls st h) ∧ (∀ l0 l1 l3 l4 x st h, zz_Y 51 (4, [l0, l1, some (.int x), l3, l4], st, h) = zz_Y 51 (5, [l0, l1, some (.int x), l3, l4], .int x :: st, h)) ∧ (∀ ls a i st h, zz_Y 51 (5, ls, .int i :: .ref a :: st, h) = mo_ia (hp_g h a) i a 51 6 ls st h) ∧ (∀ l0 l1 l2 l3 l4 x st h, zz_nl l2 = true → zz_Y 51 (6, [l0, l1, l2, l3, l4], .int x :: st, h) = zz_Y 51 (7, [l0, l1, l2, some (.int x), l4], st, h)) ∧ (∀ l1 l2 l3 l4 x st h, zz_Y 51 (7, [some (.ref x), l1, l2, l3, l4], st, h) = zz_Y 51 (8, [some (.ref x), l1, l2, l3, l4], .ref x :: st, h)) ∧ (∀ ls a st h, zz_Y 51 (8, ls, .ref a :: st, h) = mo_gf (hp_g h a) 3 2 51 11 ls st h) ∧ (∀ l0 l1 l2 l4 x st h, zz_Y 51 (11, [l0, l1, l2, some (.int x), l4], st, h) = zz_Y 51 (12, [l0, l1, l2, some (.int x), l4], .int x :: st, h)) ∧ (∀ ls a i st h, zz_Y 51 (12, ls, .int i :: .ref a :: st, h) = mo_ia (hp_g h a) i a 51 13 ls st h) ∧ (∀ ls st h, zz_Y 51 (13, ls, st, h) = zz_Y 51 (14, ls, .int (nI 1) :: st, h)) ∧ (∀ ls a b st h, zz_Y 51 (14, ls, .int b :: .int a :: st, h) = if a = b then zz_Y 51 (17, ls, st, h) else zz_Y 51 (19, ls, st, h)) ∧ (∀ ls st h, zz_Y 51 (17, ls, st, h) = zz_Y 51 (18, ls, .int (-1) :: st, h)) ∧ (∀ ls v h, zz_Y 51 (18, ls, [.int v], h) = some (some (.int v), h)) ∧ (∀ l1 l2 l3 l4 x st h, zz_Y 51 (19, [some (.ref x), l1, l2, l3, l4], st, h) = zz_Y 51 (20, [some (.ref x), l1, l2, l3, l4], .ref x :: st, h)) ∧ (∀ ls a st h, zz_Y 51 (20, ls, .ref a :: st, h) = mo_gf (hp_g h a) 3 3 51 23 ls st h) ∧ (∀ l0 l1 l2 l4 x st h, zz_Y 51 (23, [l0, l1, l2, some (.int x), l4], st, h) = zz_Y 51 (24, [l0, l1, l2, some (.int x), l4], .int x :: st, h)) ∧ (∀ ls a i st h, zz_Y 51 (24, ls, .int i :: .ref a :: st, h) = mo_ia (hp_g h a) i a 51 25 ls st h) ∧ (∀ l0 l1 l2 l3 l4 x st h, zz_nl l3 = true → zz_Y 51 (25, [l0, l1, l2, l3, l4], .int x :: st, h) = zz_Y 51 (27, [l0, l1, l2, l3, some (.int x)], st, h)) ∧ (∀ l1 l2 l3 l4 x st h, zz_Y 51 (29, [some (.ref x), l1, l2, l3, l4], st, h) = zz_Y 51 (30, [some (.ref x), l1, l2, l3, l4], .ref x :: st, h)) ∧ (∀ ls a st h, zz_Y 51 (30, ls, .ref a :: st, h) = mo_gf (hp_g h a) 3 3 51 33 ls st h) ∧ (∀ l0 l1 l2 l4 x st h, zz_Y 51 (33, [l0, l1, l2, some (.int x), l4], st, h) = zz_Y 51 (34, [l0, l1, l2, some (.int x), l4], .int x :: st, h)) ∧ (∀ ls a i st h, zz_Y 51 (34, ls, .int i :: .ref a :: st, h) = mo_ia (hp_g h a) i a 51 35 ls st h) ∧ (∀ l1 l2 l3 l4 x st h, zz_Y 51 (35, [some (.ref x), l1, l2, l3, l4], st, h) = zz_Y 51 (36, [some (.ref x), l1, l2, l3, l4], .ref x :: st, h)) ∧ (∀ ls a st h, zz_Y 51 (36, ls, .ref a :: st, h) = mo_gf (hp_g h a) 3 4 51 39 ls st h) ∧ (∀ l0 l1 l2 l4 x st h, zz_Y 51 (39, [l0, l1, l2, some (.int x), l4], st, h) = zz_Y 51 (40, [l0, l1, l2, some (.int x), l4], .int x :: st, h)) ∧ (∀ ls a i st h, zz_Y 51 (40, ls, .int i :: .ref a :: st, h) = mo_ia (hp_g h a) i a 51 41 ls st h) ∧ (∀ ls a b st h, zz_Y 51 (41, ls, .int b :: .int a :: st, h) = zz_Y 51 (42, ls, .int (a + b) :: st, h)) ∧ (∀ ls a b st h, zz_Y 51 (42, ls, .int b :: .int a :: st, h) = if a < b then zz_Y 51 (45, ls, st, h) else zz_Y 51 (63, ls, st, h)) ∧ (∀ l0 l2 l3 l4 x st h, zz_Y 51 (45, [l0, some (.int x), l2, l3, l4], st, h) = zz_Y 51 (46, [l0, some (.int x), l2, l3, l4], .int x :: st, h)) ∧ (∀ l0 l1 l2 l3 x st h, zz_Y 51 (46, [l0, l1, l2, l3, some (.int x)], st, h) = zz_Y 51 (48, [l0, l1, l2, l3, some (.int x)], .int x :: st, h)) ∧ (∀ ls a0 a1 h, zz_Y 51 (48, ls, [a1, a0], h) = mo_k 51 51 ls [] (zz_run 50 [a0, a1] h)) ∧ (∀ ls a st h, zz_Y 51 (51, ls, .int a :: st, h) = if a = nI 0 then zz_Y 51 (57, ls, st, h) else zz_Y 51 (54, ls, st, h)) ∧ (∀ l0 l1 l2 l3 x st h, zz_Y 51 (54, [l0, l1, l2, l3, some (.int x)], st, h) = zz_Y 51 (56, [l0, l1, l2, l3, some (.int x)], .int x :: st, h)) ∧ (∀ ls v h, zz_Y 51 (56, ls, [.int v], h) = some (some (.int v), h)) ∧ (∀ l0 l1 l2 l3 x st h, zz_nl l3 = true → zz_Y 51 (57, [l0, l1, l2, l3, some (.int x)], st, h) = zz_Y 51 (60, [l0, l1, l2, l3, some (.int (x + nI 1))], st, h)) ∧ (∀ ls st h, zz_Y 51 (60, ls, st, h) = zz_Y 51 (27, ls, st, h)) ∧ (∀ ls st h, zz_Y 51 (63, ls, st, h) = zz_Y 51 (64, ls, .int (-1) :: st, h)) ∧ (∀ ls v h, zz_Y 51 (64, ls, [.int v], h) = some (some (.int v), h)) :=
  ⟨fun _ _ _ _ _ _ _ => xl_aln d51_0 rfl,
   fun _ _ _ _ => xl_gf d51_1 xco51 xf_3_28,
   fun _ _ _ _ _ _ _ => xl_iln d51_4 rfl,
   fun _ _ _ _ _ => xl_ia d51_5,
   fun _ _ _ _ _ _ _ _ hc => xl_isn d51_6 xml51 (by decide) (zz_nl_s1 hc),
   fun _ _ _ _ _ _ _ => xl_aln d51_7 rfl,
   fun _ _ _ _ => xl_gf d51_8 xco51 xf_3_15,
   fun _ _ _ _ _ _ _ => xl_iln d51_11 rfl,
   fun _ _ _ _ _ => xl_ia d51_12,
   fun _ _ _ => xl_ic d51_13 (by decide +kernel),
   fun _ _ _ _ _ => xl_icne d51_14 rfl,
   fun _ _ _ => xl_ic d51_17 (by decide +kernel),
   fun _ _ _ => xl_iri d51_18 xrt51,
   fun _ _ _ _ _ _ _ => xl_aln d51_19 rfl,
   fun _ _ _ _ => xl_gf d51_20 xco51 xf_3_19,
   fun _ _ _ _ _ _ _ => xl_iln d51_23 rfl,
   fun _ _ _ _ _ => xl_ia d51_24,
   fun _ _ _ _ _ _ _ _ hc => xl_is d51_25 xml51 (by decide) (zz_nl_s1 hc),
   fun _ _ _ _ _ _ _ => xl_aln d51_29 rfl,
   fun _ _ _ _ => xl_gf d51_30 xco51 xf_3_19,
   fun _ _ _ _ _ _ _ => xl_iln d51_33 rfl,
   fun _ _ _ _ _ => xl_ia d51_34,
   fun _ _ _ _ _ _ _ => xl_aln d51_35 rfl,
   fun _ _ _ _ => xl_gf d51_36 xco51 xf_3_22,
   fun _ _ _ _ _ _ _ => xl_iln d51_39 rfl,
   fun _ _ _ _ _ => xl_ia d51_40,
   fun _ _ _ _ _ => xl_iadd d51_41,
   fun _ _ _ _ _ => xl_icge d51_42 rfl,
   fun _ _ _ _ _ _ _ => xl_iln d51_45 rfl,
   fun _ _ _ _ _ _ _ => xl_il d51_46 rfl,
   fun ls a0 a1 h => xl_csn (As := [a0, a1]) (st := []) d51_48 xco51 xm_3_65 xnp50 (by decide +kernel) rfl,
   fun _ _ _ _ => xl_ifeq d51_51 rfl,
   fun _ _ _ _ _ _ _ => xl_il d51_54 rfl,
   fun _ _ _ => xl_iri d51_56 xrt51,
   fun _ _ _ _ _ _ _ hc => xl_inc d51_57 xml51 (by decide) rfl (by decide +kernel) (zz_nl_s1 hc),
   fun _ _ _ => xl_goto d51_60 rfl,
   fun _ _ _ => xl_ic d51_63 (by decide +kernel),
   fun _ _ _ => xl_iri d51_64 xrt51⟩
theorem x51_c27 : ∀ l0 l1 l2 l3 x st h, zz_Y 51 (27, [l0, l1, l2, l3, some (.int x)], st, h) = zz_Y 51 (29, [l0, l1, l2, l3, some (.int x)], .int x :: st, h) := fun _ _ _ _ _ _ _ => xl_il d51_27 rfl
/-! 52 FacetSieve$Stock.put(III)V -/
theorem d52_0 : decode (zz_c 52) 0 = .ok (.iload_n 1, 1) := by decide +kernel
theorem d52_1 : decode (zz_c 52) 1 = .ok (.invokestatic 57, 3) := by decide +kernel
theorem d52_4 : decode (zz_c 52) 4 = .ok (.ifCond .ne 4, 3) := by decide +kernel
theorem d52_7 : decode (zz_c 52) 7 = .ok (.return_, 1) := by decide +kernel
theorem d52_8 : decode (zz_c 52) 8 = .ok (.aload_n 0, 1) := by decide +kernel
theorem d52_9 : decode (zz_c 52) 9 = .ok (.getfield 18, 3) := by decide +kernel
theorem d52_12 : decode (zz_c 52) 12 = .ok (.iload_n 1, 1) := by decide +kernel
theorem d52_13 : decode (zz_c 52) 13 = .ok (.iload_n 2, 1) := by decide +kernel
theorem d52_14 : decode (zz_c 52) 14 = .ok (.iastore, 1) := by decide +kernel
theorem d52_15 : decode (zz_c 52) 15 = .ok (.aload_n 0, 1) := by decide +kernel
theorem d52_16 : decode (zz_c 52) 16 = .ok (.getfield 22, 3) := by decide +kernel
theorem d52_19 : decode (zz_c 52) 19 = .ok (.iload_n 1, 1) := by decide +kernel
theorem d52_20 : decode (zz_c 52) 20 = .ok (.iload_n 3, 1) := by decide +kernel
theorem d52_21 : decode (zz_c 52) 21 = .ok (.iastore, 1) := by decide +kernel
theorem d52_22 : decode (zz_c 52) 22 = .ok (.aload_n 0, 1) := by decide +kernel
theorem d52_23 : decode (zz_c 52) 23 = .ok (.getfield 30, 3) := by decide +kernel
theorem d52_26 : decode (zz_c 52) 26 = .ok (.bipush 20, 2) := by decide +kernel
theorem d52_28 : decode (zz_c 52) 28 = .ok (.iload_n 1, 1) := by decide +kernel
theorem d52_29 : decode (zz_c 52) 29 = .ok (.iload_n 2, 1) := by decide +kernel
theorem d52_30 : decode (zz_c 52) 30 = .ok (.iconst (-1), 1) := by decide +kernel
theorem d52_31 : decode (zz_c 52) 31 = .ok (.if_icmp .eq 7, 3) := by decide +kernel
theorem d52_34 : decode (zz_c 52) 34 = .ok (.iconst 1, 1) := by decide +kernel
theorem d52_35 : decode (zz_c 52) 35 = .ok (.goto 4, 3) := by decide +kernel
theorem d52_38 : decode (zz_c 52) 38 = .ok (.iconst 0, 1) := by decide +kernel
theorem d52_39 : decode (zz_c 52) 39 = .ok (.invokevirtual 61, 3) := by decide +kernel
theorem d52_42 : decode (zz_c 52) 42 = .ok (.aload_n 0, 1) := by decide +kernel
theorem d52_43 : decode (zz_c 52) 43 = .ok (.getfield 12, 3) := by decide +kernel
theorem d52_46 : decode (zz_c 52) 46 = .ok (.iload_n 3, 1) := by decide +kernel
theorem d52_47 : decode (zz_c 52) 47 = .ok (.invokevirtual 65, 3) := by decide +kernel
theorem d52_50 : decode (zz_c 52) 50 = .ok (.istore 4, 2) := by decide +kernel
theorem d52_52 : decode (zz_c 52) 52 = .ok (.iconst 0, 1) := by decide +kernel
theorem d52_53 : decode (zz_c 52) 53 = .ok (.istore 5, 2) := by decide +kernel
theorem d52_55 : decode (zz_c 52) 55 = .ok (.iload 5, 2) := by decide +kernel
theorem d52_57 : decode (zz_c 52) 57 = .ok (.aload_n 0, 1) := by decide +kernel
theorem d52_58 : decode (zz_c 52) 58 = .ok (.getfield 12, 3) := by decide +kernel
theorem d52_61 : decode (zz_c 52) 61 = .ok (.getfield 69, 3) := by decide +kernel
theorem d52_64 : decode (zz_c 52) 64 = .ok (.if_icmp .ge 26, 3) := by decide +kernel
theorem d52_67 : decode (zz_c 52) 67 = .ok (.aload_n 0, 1) := by decide +kernel
theorem d52_68 : decode (zz_c 52) 68 = .ok (.getfield 30, 3) := by decide +kernel
theorem d52_71 : decode (zz_c 52) 71 = .ok (.iload 5, 2) := by decide +kernel
theorem d52_73 : decode (zz_c 52) 73 = .ok (.iload_n 1, 1) := by decide +kernel
theorem d52_74 : decode (zz_c 52) 74 = .ok (.iload 4, 2) := by decide +kernel
theorem d52_76 : decode (zz_c 52) 76 = .ok (.iload 5, 2) := by decide +kernel
theorem d52_78 : decode (zz_c 52) 78 = .ok (.invokestatic 73, 3) := by decide +kernel
theorem d52_81 : decode (zz_c 52) 81 = .ok (.invokevirtual 61, 3) := by decide +kernel
theorem d52_84 : decode (zz_c 52) 84 = .ok (.iinc 5 1, 3) := by decide +kernel
theorem d52_87 : decode (zz_c 52) 87 = .ok (.goto (-32), 3) := by decide +kernel
theorem d52_90 : decode (zz_c 52) 90 = .ok (.return_, 1) := by decide +kernel
theorem x52 : (∀ l0 l2 l3 l4 l5 x st h, zz_Y 52 (0, [l0, some (.int x), l2, l3, l4, l5], st, h) = zz_Y 52 (1, [l0, some (.int x), l2, l3, l4, l5], .int x :: st, h)) ∧ (∀ ls a0 h, zz_Y 52 (1, ls, [a0], h) = mo_k 52 4 ls [] (zz_run 48 [a0] h)) ∧ (∀ ls a st h, zz_Y 52 (4, ls, .int a :: st, h) = if a = nI 0 then zz_Y 52 (7, ls, st, h) else zz_Y 52 (8, ls, st, h)) ∧ (∀ ls h, zz_Y 52 (7, ls, [], h) = some (none, h)) ∧ (∀ l1 l2 l3 l4 l5 x st h, zz_Y 52 (8, [some (.ref x), l1, l2, l3, l4, l5], st, h) = zz_Y 52 (9, [some (.ref x), l1, l2, l3, l4, l5], .ref x :: st, h)) ∧ (∀ ls a st h, zz_Y 52 (9, ls, .ref a :: st, h) = mo_gf (hp_g h a) 7 1 52 12 ls st h) ∧ (∀ l0 l2 l3 l4 l5 x st h, zz_Y 52 (12, [l0, some (.int x), l2, l3, l4, l5], st, h) = zz_Y 52 (13, [l0, some (.int x), l2, l3, l4, l5], .int x :: st, h)) ∧ (∀ l0 l1 l3 l4 l5 x st h, zz_Y 52 (13, [l0, l1, some (.int x), l3, l4, l5], st, h) = zz_Y 52 (14, [l0, l1, some (.int x), l3, l4, l5], .int x :: st, h)) ∧ (∀ ls a i x st h, zz_Y 52 (14, ls, .int x :: .int i :: .ref a :: st, h) = mo_is (hp_g h a) x i a 52 15 ls st h) ∧ (∀ l1 l2 l3 l4 l5 x st h, zz_Y 52 (15, [some (.ref x), l1, l2, l3, l4, l5], st, h) = zz_Y 52 (16, [some (.ref x), l1, l2, l3, l4, l5], .ref x :: st, h)) ∧ (∀ ls a st h, zz_Y 52 (16, ls, .ref a :: st, h) = mo_gf (hp_g h a) 7 2 52 19 ls st h) ∧ (∀ l0 l2 l3 l4 l5 x st h, zz_Y 52 (19, [l0, some (.int x), l2, l3, l4, l5], st, h) = zz_Y 52 (20, [l0, some (.int x), l2, l3, l4, l5], .int x :: st, h)) ∧ (∀ l0 l1 l2 l4 l5 x st h, zz_Y 52 (20, [l0, l1, l2, some (.int x), l4, l5], st, h) = zz_Y 52 (21, [l0, l1, l2, some (.int x), l4, l5], .int x :: st, h)) ∧ (∀ ls a i x st h, zz_Y 52 (21, ls, .int x :: .int i :: .ref a :: st, h) = mo_is (hp_g h a) x i a 52 22 ls st h) ∧ (∀ l1 l2 l3 l4 l5 x st h, zz_Y 52 (22, [some (.ref x), l1, l2, l3, l4, l5], st, h) = zz_Y 52 (23, [some (.ref x), l1, l2, l3, l4, l5], .ref x :: st, h)) ∧ (∀ ls a st h, zz_Y 52 (23, ls, .ref a :: st, h) = mo_gf (hp_g h a) 7 3 52 26 ls st h) ∧ (∀ ls st h, zz_Y 52 (26, ls, st, h) = zz_Y 52 (28, ls, .int (nI 20) :: st, h)) ∧ (∀ l0 l2 l3 l4 l5 x st h, zz_Y 52 (28, [l0, some (.int x), l2, l3, l4, l5], st, h) = zz_Y 52 (29, [l0, some (.int x), l2, l3, l4, l5], .int x :: st, h)) ∧ (∀ l0 l1 l3 l4 l5 x st h, zz_Y 52 (29, [l0, l1, some (.int x), l3, l4, l5], st, h) = zz_Y 52 (30, [l0, l1, some (.int x), l3, l4, l5], .int x :: st, h)) ∧ (∀ ls st h, zz_Y 52 (30, ls, st, h) = zz_Y 52 (31, ls, .int (-1) :: st, h)) ∧ (∀ ls a b st h, zz_Y 52 (31, ls, .int b :: .int a :: st, h) = if a = b then zz_Y 52 (38, ls, st, h) else zz_Y 52 (34, ls, st, h)) ∧ (∀ ls st h, zz_Y 52 (34, ls, st, h) = zz_Y 52 (35, ls, .int (nI 1) :: st, h)) ∧ (∀ ls st h, zz_Y 52 (35, ls, st, h) = zz_Y 52 (39, ls, st, h)) ∧ (∀ ls st h, zz_Y 52 (38, ls, st, h) = zz_Y 52 (39, ls, .int (nI 0) :: st, h)) ∧ (∀ ls a0 a1 a2 a3 h, zz_Y 52 (39, ls, [a3, a2, a1, a0], h) = mo_k 52 42 ls [] (zz_run 53 [a0, a1, a2, a3] h)) ∧ (∀ l1 l2 l3 l4 l5 x st h, zz_Y 52 (42, [some (.ref x), l1, l2, l3, l4, l5], st, h) = zz_Y 52 (43, [some (.ref x), l1, l2, l3, l4, l5], .ref x :: st, h)) ∧ (∀ ls a st h, zz_Y 52 (43, ls, .ref a :: st, h) = mo_gf (hp_g h a) 7 0 52 46 ls st h) ∧ (∀ l0 l1 l2 l4 l5 x st h, zz_Y 52 (46, [l0, l1, l2, some (.int x), l4, l5], st, h) = zz_Y 52 (47, [l0, l1, l2, some (.int x), l4, l5], .int x :: st, h)) ∧ (∀ ls a0 a1 h, zz_Y 52 (47, ls, [a1, a0], h) = mo_k 52 50 ls [] (zz_run 55 [a0, a1] h)) ∧ (∀ l0 l1 l2 l3 l4 l5 x st h, zz_nl l3 = true → zz_Y 52 (50, [l0, l1, l2, l3, l4, l5], .int x :: st, h) = zz_Y 52 (52, [l0, l1, l2, l3, some (.int x), l5], st, h)) ∧ (∀ ls st h, zz_Y 52 (52, ls, st, h) = zz_Y 52 (53, ls, .int (nI 0) :: st, h)) ∧ (∀ l0 l1 l2 l3 l4 l5 x st h, zz_nl l4 = true → zz_Y 52 (53, [l0, l1, l2, l3, l4, l5], .int x :: st, h) = zz_Y 52 (55, [l0, l1, l2, l3, l4, some (.int x)], st, h)) ∧ (∀ l1 l2 l3 l4 l5 x st h, zz_Y 52 (57, [some (.ref x), l1, l2, l3, l4, l5], st, h) = zz_Y 52 (58, [some (.ref x), l1, l2, l3, l4, l5], .ref x :: st, h)) ∧ (∀ ls a st h, zz_Y 52 (58, ls, .ref a :: st, h) = mo_gf (hp_g h a) 7 0 52 61 ls st h) ∧ (∀ ls a st h, zz_Y 52 (61, ls, .ref a :: st, h) = mo_gf (hp_g h a) 3 5 52 64 ls st h) ∧ (∀ ls a b st h, zz_Y 52 (64, ls, .int b :: .int a :: st, h) = if a < b then zz_Y 52 (67, ls, st, h) else zz_Y 52 (90, ls, st, h)) ∧ (∀ l1 l2 l3 l4 l5 x st h, zz_Y 52 (67, [some (.ref x), l1, l2, l3, l4, l5], st, h) = zz_Y 52 (68, [some (.ref x), l1, l2, l3, l4, l5], .ref x :: st, h)) ∧ (∀ ls a st h, zz_Y 52 (68, ls, .ref a :: st, h) = mo_gf (hp_g h a) 7 3 52 71 ls st h) ∧ (∀ l0 l1 l2 l3 l4 x st h, zz_Y 52 (71, [l0, l1, l2, l3, l4, some (.int x)], st, h) = zz_Y 52 (73, [l0, l1, l2, l3, l4, some (.int x)], .int x :: st, h)) ∧ (∀ l0 l2 l3 l4 l5 x st h, zz_Y 52 (73, [l0, some (.int x), l2, l3, l4, l5], st, h) = zz_Y 52 (74, [l0, some (.int x), l2, l3, l4, l5], .int x :: st, h)) ∧ (∀ l0 l1 l2 l3 l5 x st h, zz_Y 52 (74, [l0, l1, l2, l3, some (.int x), l5], st, h) = zz_Y 52 (76, [l0, l1, l2, l3, some (.int x), l5], .int x :: st, h)) ∧ (∀ l0 l1 l2 l3 l4 x st h, zz_Y 52 (76, [l0, l1, l2, l3, l4, some (.int x)], st, h) = zz_Y 52 (78, [l0, l1, l2, l3, l4, some (.int x)], .int x :: st, h)) ∧ (∀ ls a0 a1 s0 s1 s2 h, zz_Y 52 (78, ls, [a1, a0, s0, s1, s2], h) = mo_k 52 81 ls [s0, s1, s2] (zz_run 50 [a0, a1] h)) ∧ (∀ ls a0 a1 a2 a3 h, zz_Y 52 (81, ls, [a3, a2, a1, a0], h) = mo_k 52 84 ls [] (zz_run 53 [a0, a1, a2, a3] h)) ∧ (∀ l0 l1 l2 l3 l4 x st h, zz_nl l4 = true → zz_Y 52 (84, [l0, l1, l2, l3, l4, some (.int x)], st, h) = zz_Y 52 (87, [l0, l1, l2, l3, l4, some (.int (x + nI 1))], st, h)) ∧ (∀ ls st h, zz_Y 52 (87, ls, st, h) = zz_Y 52 (55, ls, st, h)) ∧ (∀ ls h, zz_Y 52 (90, ls, [], h) = some (none, h)) :=
  ⟨fun _ _ _ _ _ _ _ _ => xl_iln d52_0 rfl,
   fun ls a0 h => xl_csn (As := [a0]) (st := []) d52_1 xco52 xm_7_57 xnp48 (by decide +kernel) rfl,
   fun _ _ _ _ => xl_ifne d52_4 rfl,
   fun _ _ => xl_r d52_7 xrt52,
   fun _ _ _ _ _ _ _ _ => xl_aln d52_8 rfl,
   fun _ _ _ _ => xl_gf d52_9 xco52 xf_7_18,
   fun _ _ _ _ _ _ _ _ => xl_iln d52_12 rfl,
   fun _ _ _ _ _ _ _ _ => xl_iln d52_13 rfl,
   fun _ _ _ _ _ _ => xl_ist d52_14,
   fun _ _ _ _ _ _ _ _ => xl_aln d52_15 rfl,
   fun _ _ _ _ => xl_gf d52_16 xco52 xf_7_22,
   fun _ _ _ _ _ _ _ _ => xl_iln d52_19 rfl,
   fun _ _ _ _ _ _ _ _ => xl_iln d52_20 rfl,
   fun _ _ _ _ _ _ => xl_ist d52_21,
   fun _ _ _ _ _ _ _ _ => xl_aln d52_22 rfl,
   fun _ _ _ _ => xl_gf d52_23 xco52 xf_7_30,
   fun _ _ _ => xl_bi d52_26 (by decide +kernel),
   fun _ _ _ _ _ _ _ _ => xl_iln d52_28 rfl,
   fun _ _ _ _ _ _ _ _ => xl_iln d52_29 rfl,
   fun _ _ _ => xl_ic d52_30 (by decide +kernel),
   fun _ _ _ _ _ => xl_iceq d52_31 rfl,
   fun _ _ _ => xl_ic d52_34 (by decide +kernel),
   fun _ _ _ => xl_goto d52_35 rfl,
   fun _ _ _ => xl_ic d52_38 (by decide +kernel),
   fun ls a0 a1 a2 a3 h => xl_cv (As := [a0, a1, a2, a3]) (st := []) d52_39 xco52 xm_7_61 (congrArg Nat.succ xnp53) (by decide +kernel) rfl,
   fun _ _ _ _ _ _ _ _ => xl_aln d52_42 rfl,
   fun _ _ _ _ => xl_gf d52_43 xco52 xf_7_12,
   fun _ _ _ _ _ _ _ _ => xl_iln d52_46 rfl,
   fun ls a0 a1 h => xl_cv (As := [a0, a1]) (st := []) d52_47 xco52 xm_7_65 (congrArg Nat.succ xnp55) (by decide +kernel) rfl,
   fun _ _ _ _ _ _ _ _ _ hc => xl_is d52_50 xml52 (by decide) (zz_nl_s1 hc),
   fun _ _ _ => xl_ic d52_52 (by decide +kernel),
   fun _ _ _ _ _ _ _ _ _ hc => xl_is d52_53 xml52 (by decide) (zz_nl_s1 hc),
   fun _ _ _ _ _ _ _ _ => xl_aln d52_57 rfl,
   fun _ _ _ _ => xl_gf d52_58 xco52 xf_7_12,
   fun _ _ _ _ => xl_gf d52_61 xco52 xf_7_69,
   fun _ _ _ _ _ => xl_icge d52_64 rfl,
   fun _ _ _ _ _ _ _ _ => xl_aln d52_67 rfl,
   fun _ _ _ _ => xl_gf d52_68 xco52 xf_7_30,
   fun _ _ _ _ _ _ _ _ => xl_il d52_71 rfl,
   fun _ _ _ _ _ _ _ _ => xl_iln d52_73 rfl,
   fun _ _ _ _ _ _ _ _ => xl_il d52_74 rfl,
   fun _ _ _ _ _ _ _ _ => xl_il d52_76 rfl,
   fun ls a0 a1 s0 s1 s2 h => xl_csn (As := [a0, a1]) (st := [s0, s1, s2]) d52_78 xco52 xm_7_73 xnp50 (by decide +kernel) rfl,
   fun ls a0 a1 a2 a3 h => xl_cv (As := [a0, a1, a2, a3]) (st := []) d52_81 xco52 xm_7_61 (congrArg Nat.succ xnp53) (by decide +kernel) rfl,
   fun _ _ _ _ _ _ _ _ hc => xl_inc d52_84 xml52 (by decide) rfl (by decide +kernel) (zz_nl_s1 hc),
   fun _ _ _ => xl_goto d52_87 rfl,
   fun _ _ => xl_r d52_90 xrt52⟩
theorem x52_c55 : ∀ l0 l1 l2 l3 l4 x st h, zz_Y 52 (55, [l0, l1, l2, l3, l4, some (.int x)], st, h) = zz_Y 52 (57, [l0, l1, l2, l3, l4, some (.int x)], .int x :: st, h) := fun _ _ _ _ _ _ _ _ => xl_il d52_55 rfl
/-! 53 FacetSieve$Sets.setMember(IIZ)V -/
theorem d53_0 : decode (zz_c 53) 0 = .ok (.iload_n 2, 1) := by decide +kernel
theorem d53_1 : decode (zz_c 53) 1 = .ok (.bipush 32, 2) := by decide +kernel
theorem d53_3 : decode (zz_c 53) 3 = .ok (.idiv, 1) := by decide +kernel
theorem d53_4 : decode (zz_c 53) 4 = .ok (.istore 4, 2) := by decide +kernel
theorem d53_6 : decode (zz_c 53) 6 = .ok (.aload_n 0, 1) := by decide +kernel
theorem d53_7 : decode (zz_c 53) 7 = .ok (.iload_n 1, 1) := by decide +kernel
theorem d53_8 : decode (zz_c 53) 8 = .ok (.iload 4, 2) := by decide +kernel
theorem d53_10 : decode (zz_c 53) 10 = .ok (.invokevirtual 25, 3) := by decide +kernel
theorem d53_13 : decode (zz_c 53) 13 = .ok (.ifCond .ne 4, 3) := by decide +kernel
theorem d53_16 : decode (zz_c 53) 16 = .ok (.return_, 1) := by decide +kernel
theorem d53_17 : decode (zz_c 53) 17 = .ok (.iconst 1, 1) := by decide +kernel
theorem d53_18 : decode (zz_c 53) 18 = .ok (.iload_n 2, 1) := by decide +kernel
theorem d53_19 : decode (zz_c 53) 19 = .ok (.bipush 32, 2) := by decide +kernel
theorem d53_21 : decode (zz_c 53) 21 = .ok (.irem, 1) := by decide +kernel
theorem d53_22 : decode (zz_c 53) 22 = .ok (.ishl, 1) := by decide +kernel
theorem d53_23 : decode (zz_c 53) 23 = .ok (.istore 5, 2) := by decide +kernel
theorem d53_25 : decode (zz_c 53) 25 = .ok (.iload_n 1, 1) := by decide +kernel
theorem d53_26 : decode (zz_c 53) 26 = .ok (.bipush 8, 2) := by decide +kernel
theorem d53_28 : decode (zz_c 53) 28 = .ok (.imul, 1) := by decide +kernel
theorem d53_29 : decode (zz_c 53) 29 = .ok (.iload 4, 2) := by decide +kernel
theorem d53_31 : decode (zz_c 53) 31 = .ok (.iadd, 1) := by decide +kernel
theorem d53_32 : decode (zz_c 53) 32 = .ok (.istore 6, 2) := by decide +kernel
theorem d53_34 : decode (zz_c 53) 34 = .ok (.aload_n 0, 1) := by decide +kernel
theorem d53_35 : decode (zz_c 53) 35 = .ok (.getfield 21, 3) := by decide +kernel
theorem d53_38 : decode (zz_c 53) 38 = .ok (.iload 6, 2) := by decide +kernel
theorem d53_40 : decode (zz_c 53) 40 = .ok (.iload_n 3, 1) := by decide +kernel
theorem d53_41 : decode (zz_c 53) 41 = .ok (.ifCond .eq 16, 3) := by decide +kernel
theorem d53_44 : decode (zz_c 53) 44 = .ok (.aload_n 0, 1) := by decide +kernel
theorem d53_45 : decode (zz_c 53) 45 = .ok (.getfield 21, 3) := by decide +kernel
theorem d53_48 : decode (zz_c 53) 48 = .ok (.iload 6, 2) := by decide +kernel
theorem d53_50 : decode (zz_c 53) 50 = .ok (.iaload, 1) := by decide +kernel
theorem d53_51 : decode (zz_c 53) 51 = .ok (.iload 5, 2) := by decide +kernel
theorem d53_53 : decode (zz_c 53) 53 = .ok (.ior, 1) := by decide +kernel
theorem d53_54 : decode (zz_c 53) 54 = .ok (.goto 15, 3) := by decide +kernel
theorem d53_57 : decode (zz_c 53) 57 = .ok (.aload_n 0, 1) := by decide +kernel
theorem d53_58 : decode (zz_c 53) 58 = .ok (.getfield 21, 3) := by decide +kernel
theorem d53_61 : decode (zz_c 53) 61 = .ok (.iload 6, 2) := by decide +kernel
theorem d53_63 : decode (zz_c 53) 63 = .ok (.iaload, 1) := by decide +kernel
theorem d53_64 : decode (zz_c 53) 64 = .ok (.iload 5, 2) := by decide +kernel
theorem d53_66 : decode (zz_c 53) 66 = .ok (.iconst (-1), 1) := by decide +kernel
theorem d53_67 : decode (zz_c 53) 67 = .ok (.ixor, 1) := by decide +kernel
theorem d53_68 : decode (zz_c 53) 68 = .ok (.iand, 1) := by decide +kernel
theorem d53_69 : decode (zz_c 53) 69 = .ok (.iastore, 1) := by decide +kernel
theorem d53_70 : decode (zz_c 53) 70 = .ok (.return_, 1) := by decide +kernel
theorem x53 : (∀ l0 l1 l3 l4 l5 l6 x st h, zz_Y 53 (0, [l0, l1, some (.int x), l3, l4, l5, l6], st, h) = zz_Y 53 (1, [l0, l1, some (.int x), l3, l4, l5, l6], .int x :: st, h)) ∧ (∀ ls st h, zz_Y 53 (1, ls, st, h) = zz_Y 53 (3, ls, .int (nI 32) :: st, h)) ∧ (∀ ls a b st h, ¬ b = 0 → zz_Y 53 (3, ls, .int b :: .int a :: st, h) = zz_Y 53 (4, ls, .int (a / b) :: st, h)) ∧ (∀ l0 l1 l2 l3 l4 l5 l6 x st h, zz_nl l3 = true → zz_Y 53 (4, [l0, l1, l2, l3, l4, l5, l6], .int x :: st, h) = zz_Y 53 (6, [l0, l1, l2, l3, some (.int x), l5, l6], st, h)) ∧ (∀ l1 l2 l3 l4 l5 l6 x st h, zz_Y 53 (6, [some (.ref x), l1, l2, l3, l4, l5, l6], st, h) = zz_Y 53 (7, [some (.ref x), l1, l2, l3, l4, l5, l6], .ref x :: st, h)) ∧ (∀ l0 l2 l3 l4 l5 l6 x st h, zz_Y 53 (7, [l0, some (.int x), l2, l3, l4, l5, l6], st, h) = zz_Y 53 (8, [l0, some (.int x), l2, l3, l4, l5, l6], .int x :: st, h)) ∧ (∀ l0 l1 l2 l3 l5 l6 x st h, zz_Y 53 (8, [l0, l1, l2, l3, some (.int x), l5, l6], st, h) = zz_Y 53 (10, [l0, l1, l2, l3, some (.int x), l5, l6], .int x :: st, h)) ∧ (∀ ls a0 a1 a2 h, zz_Y 53 (10, ls, [a2, a1, a0], h) = mo_k 53 13 ls [] (zz_run 54 [a0, a1, a2] h)) ∧ (∀ ls a st h, zz_Y 53 (13, ls, .int a :: st, h) = if a = nI 0 then zz_Y 53 (16, ls, st, h) else zz_Y 53 (17, ls, st, h)) ∧ (∀ ls h, zz_Y 53 (16, ls, [], h) = some (none, h)) ∧ (∀ ls st h, zz_Y 53 (17, ls, st, h) = zz_Y 53 (18, ls, .int (nI 1) :: st, h)) ∧ (∀ l0 l1 l3 l4 l5 l6 x st h, zz_Y 53 (18, [l0, l1, some (.int x), l3, l4, l5, l6], st, h) = zz_Y 53 (19, [l0, l1, some (.int x), l3, l4, l5, l6], .int x :: st, h)) ∧ (∀ ls st h, zz_Y 53 (19, ls, st, h) = zz_Y 53 (21, ls, .int (nI 32) :: st, h)) ∧ (∀ ls a b st h, ¬ b = 0 → zz_Y 53 (21, ls, .int b :: .int a :: st, h) = zz_Y 53 (22, ls, .int (a - a / b * b) :: st, h)) ∧ (∀ ls a b st h, zz_Y 53 (22, ls, .int b :: .int a :: st, h) = zz_Y 53 (23, ls, .int (a <<< (b &&& 31)) :: st, h)) ∧ (∀ l0 l1 l2 l3 l4 l5 l6 x st h, zz_nl l4 = true → zz_Y 53 (23, [l0, l1, l2, l3, l4, l5, l6], .int x :: st, h) = zz_Y 53 (25, [l0, l1, l2, l3, l4, some (.int x), l6], st, h)) ∧ (∀ l0 l2 l3 l4 l5 l6 x st h, zz_Y 53 (25, [l0, some (.int x), l2, l3, l4, l5, l6], st, h) = zz_Y 53 (26, [l0, some (.int x), l2, l3, l4, l5, l6], .int x :: st, h)) ∧ (∀ ls st h, zz_Y 53 (26, ls, st, h) = zz_Y 53 (28, ls, .int (nI 8) :: st, h)) ∧ (∀ ls a b st h, zz_Y 53 (28, ls, .int b :: .int a :: st, h) = zz_Y 53 (29, ls, .int (a * b) :: st, h)) ∧ (∀ l0 l1 l2 l3 l5 l6 x st h, zz_Y 53 (29, [l0, l1, l2, l3, some (.int x), l5, l6], st, h) = zz_Y 53 (31, [l0, l1, l2, l3, some (.int x), l5, l6], .int x :: st, h)) ∧ (∀ ls a b st h, zz_Y 53 (31, ls, .int b :: .int a :: st, h) = zz_Y 53 (32, ls, .int (a + b) :: st, h)) ∧ (∀ l0 l1 l2 l3 l4 l5 l6 x st h, zz_nl l5 = true → zz_Y 53 (32, [l0, l1, l2, l3, l4, l5, l6], .int x :: st, h) = zz_Y 53 (34, [l0, l1, l2, l3, l4, l5, some (.int x)], st, h)) ∧ (∀ l1 l2 l3 l4 l5 l6 x st h, zz_Y 53 (34, [some (.ref x), l1, l2, l3, l4, l5, l6], st, h) = zz_Y 53 (35, [some (.ref x), l1, l2, l3, l4, l5, l6], .ref x :: st, h)) ∧ (∀ ls a st h, zz_Y 53 (35, ls, .ref a :: st, h) = mo_gf (hp_g h a) 6 1 53 38 ls st h) ∧ (∀ l0 l1 l2 l3 l4 l5 x st h, zz_Y 53 (38, [l0, l1, l2, l3, l4, l5, some (.int x)], st, h) = zz_Y 53 (40, [l0, l1, l2, l3, l4, l5, some (.int x)], .int x :: st, h)) ∧ (∀ l0 l1 l2 l4 l5 l6 x st h, zz_Y 53 (40, [l0, l1, l2, some (.int x), l4, l5, l6], st, h) = zz_Y 53 (41, [l0, l1, l2, some (.int x), l4, l5, l6], .int x :: st, h)) ∧ (∀ ls a st h, zz_Y 53 (41, ls, .int a :: st, h) = if a = nI 0 then zz_Y 53 (57, ls, st, h) else zz_Y 53 (44, ls, st, h)) ∧ (∀ l1 l2 l3 l4 l5 l6 x st h, zz_Y 53 (44, [some (.ref x), l1, l2, l3, l4, l5, l6], st, h) = zz_Y 53 (45, [some (.ref x), l1, l2, l3, l4, l5, l6], .ref x :: st, h)) ∧ (∀ ls a st h, zz_Y 53 (45, ls, .ref a :: st, h) = mo_gf (hp_g h a) 6 1 53 48 ls st h) ∧ (∀ l0 l1 l2 l3 l4 l5 x st h, zz_Y 53 (48, [l0, l1, l2, l3, l4, l5, some (.int x)], st, h) = zz_Y 53 (50, [l0, l1, l2, l3, l4, l5, some (.int x)], .int x :: st, h)) ∧ (∀ ls a i st h, zz_Y 53 (50, ls, .int i :: .ref a :: st, h) = mo_ia (hp_g h a) i a 53 51 ls st h) ∧ (∀ l0 l1 l2 l3 l4 l6 x st h, zz_Y 53 (51, [l0, l1, l2, l3, l4, some (.int x), l6], st, h) = zz_Y 53 (53, [l0, l1, l2, l3, l4, some (.int x), l6], .int x :: st, h)) ∧ (∀ ls a b st h, zz_Y 53 (53, ls, .int b :: .int a :: st, h) = zz_Y 53 (54, ls, .int (a ||| b) :: st, h)) ∧ (∀ ls st h, zz_Y 53 (54, ls, st, h) = zz_Y 53 (69, ls, st, h)) ∧ (∀ l1 l2 l3 l4 l5 l6 x st h, zz_Y 53 (57, [some (.ref x), l1, l2, l3, l4, l5, l6], st, h) = zz_Y 53 (58, [some (.ref x), l1, l2, l3, l4, l5, l6], .ref x :: st, h)) ∧ (∀ ls a st h, zz_Y 53 (58, ls, .ref a :: st, h) = mo_gf (hp_g h a) 6 1 53 61 ls st h) ∧ (∀ l0 l1 l2 l3 l4 l5 x st h, zz_Y 53 (61, [l0, l1, l2, l3, l4, l5, some (.int x)], st, h) = zz_Y 53 (63, [l0, l1, l2, l3, l4, l5, some (.int x)], .int x :: st, h)) ∧ (∀ ls a i st h, zz_Y 53 (63, ls, .int i :: .ref a :: st, h) = mo_ia (hp_g h a) i a 53 64 ls st h) ∧ (∀ l0 l1 l2 l3 l4 l6 x st h, zz_Y 53 (64, [l0, l1, l2, l3, l4, some (.int x), l6], st, h) = zz_Y 53 (66, [l0, l1, l2, l3, l4, some (.int x), l6], .int x :: st, h)) ∧ (∀ ls st h, zz_Y 53 (66, ls, st, h) = zz_Y 53 (67, ls, .int (-1) :: st, h)) ∧ (∀ ls a b st h, zz_Y 53 (67, ls, .int b :: .int a :: st, h) = zz_Y 53 (68, ls, .int (a ^^^ b) :: st, h)) ∧ (∀ ls a b st h, zz_Y 53 (68, ls, .int b :: .int a :: st, h) = zz_Y 53 (69, ls, .int (a &&& b) :: st, h)) ∧ (∀ ls a i x st h, zz_Y 53 (69, ls, .int x :: .int i :: .ref a :: st, h) = mo_is (hp_g h a) x i a 53 70 ls st h) ∧ (∀ ls h, zz_Y 53 (70, ls, [], h) = some (none, h)) :=
  ⟨fun _ _ _ _ _ _ _ _ _ => xl_iln d53_0 rfl,
   fun _ _ _ => xl_bi d53_1 (by decide +kernel),
   fun _ _ _ _ _ hc => xl_idiv d53_3 hc,
   fun _ _ _ _ _ _ _ _ _ _ hc => xl_is d53_4 xml53 (by decide) (zz_nl_s1 hc),
   fun _ _ _ _ _ _ _ _ _ => xl_aln d53_6 rfl,
   fun _ _ _ _ _ _ _ _ _ => xl_iln d53_7 rfl,
   fun _ _ _ _ _ _ _ _ _ => xl_il d53_8 rfl,
   fun ls a0 a1 a2 h => xl_cv (As := [a0, a1, a2]) (st := []) d53_10 xco53 xm_6_25 (congrArg Nat.succ xnp54) (by decide +kernel) rfl,
   fun _ _ _ _ => xl_ifne d53_13 rfl,
   fun _ _ => xl_r d53_16 xrt53,
   fun _ _ _ => xl_ic d53_17 (by decide +kernel),
   fun _ _ _ _ _ _ _ _ _ => xl_iln d53_18 rfl,
   fun _ _ _ => xl_bi d53_19 (by decide +kernel),
   fun _ _ _ _ _ hc => xl_irem d53_21 hc,
   fun _ _ _ _ _ => xl_ishl d53_22,
   fun _ _ _ _ _ _ _ _ _ _ hc => xl_is d53_23 xml53 (by decide) (zz_nl_s1 hc),
   fun _ _ _ _ _ _ _ _ _ => xl_iln d53_25 rfl,
   fun _ _ _ => xl_bi d53_26 (by decide +kernel),
   fun _ _ _ _ _ => xl_imul d53_28,
   fun _ _ _ _ _ _ _ _ _ => xl_il d53_29 rfl,
   fun _ _ _ _ _ => xl_iadd d53_31,
   fun _ _ _ _ _ _ _ _ _ _ hc => xl_is d53_32 xml53 (by decide) (zz_nl_s1 hc),
   fun _ _ _ _ _ _ _ _ _ => xl_aln d53_34 rfl,
   fun _ _ _ _ => xl_gf d53_35 xco53 xf_6_21,
   fun _ _ _ _ _ _ _ _ _ => xl_il d53_38 rfl,
   fun _ _ _ _ _ _ _ _ _ => xl_iln d53_40 rfl,
   fun _ _ _ _ => xl_ifeq d53_41 rfl,
   fun _ _ _ _ _ _ _ _ _ => xl_aln d53_44 rfl,
   fun _ _ _ _ => xl_gf d53_45 xco53 xf_6_21,
   fun _ _ _ _ _ _ _ _ _ => xl_il d53_48 rfl,
   fun _ _ _ _ _ => xl_ia d53_50,
   fun _ _ _ _ _ _ _ _ _ => xl_il d53_51 rfl,
   fun _ _ _ _ _ => xl_ior d53_53,
   fun _ _ _ => xl_goto d53_54 rfl,
   fun _ _ _ _ _ _ _ _ _ => xl_aln d53_57 rfl,
   fun _ _ _ _ => xl_gf d53_58 xco53 xf_6_21,
   fun _ _ _ _ _ _ _ _ _ => xl_il d53_61 rfl,
   fun _ _ _ _ _ => xl_ia d53_63,
   fun _ _ _ _ _ _ _ _ _ => xl_il d53_64 rfl,
   fun _ _ _ => xl_ic d53_66 (by decide +kernel),
   fun _ _ _ _ _ => xl_ixor d53_67,
   fun _ _ _ _ _ => xl_iand d53_68,
   fun _ _ _ _ _ _ => xl_ist d53_69,
   fun _ _ => xl_r d53_70 xrt53⟩
/-! 54 FacetSieve$Sets.isInside(II)Z -/
theorem d54_0 : decode (zz_c 54) 0 = .ok (.iload_n 1, 1) := by decide +kernel
theorem d54_1 : decode (zz_c 54) 1 = .ok (.ifCond .lt 25, 3) := by decide +kernel
theorem d54_4 : decode (zz_c 54) 4 = .ok (.iload_n 1, 1) := by decide +kernel
theorem d54_5 : decode (zz_c 54) 5 = .ok (.aload_n 0, 1) := by decide +kernel
theorem d54_6 : decode (zz_c 54) 6 = .ok (.getfield 15, 3) := by decide +kernel
theorem d54_9 : decode (zz_c 54) 9 = .ok (.if_icmp .ge 17, 3) := by decide +kernel
theorem d54_12 : decode (zz_c 54) 12 = .ok (.iload_n 2, 1) := by decide +kernel
theorem d54_13 : decode (zz_c 54) 13 = .ok (.ifCond .lt 13, 3) := by decide +kernel
theorem d54_16 : decode (zz_c 54) 16 = .ok (.iload_n 2, 1) := by decide +kernel
theorem d54_17 : decode (zz_c 54) 17 = .ok (.bipush 8, 2) := by decide +kernel
theorem d54_19 : decode (zz_c 54) 19 = .ok (.if_icmp .ge 7, 3) := by decide +kernel
theorem d54_22 : decode (zz_c 54) 22 = .ok (.iconst 1, 1) := by decide +kernel
theorem d54_23 : decode (zz_c 54) 23 = .ok (.goto 4, 3) := by decide +kernel
theorem d54_26 : decode (zz_c 54) 26 = .ok (.iconst 0, 1) := by decide +kernel
theorem d54_27 : decode (zz_c 54) 27 = .ok (.ireturn, 1) := by decide +kernel
theorem x54 : (∀ l0 l2 x st h, zz_Y 54 (0, [l0, some (.int x), l2], st, h) = zz_Y 54 (1, [l0, some (.int x), l2], .int x :: st, h)) ∧ (∀ ls a st h, zz_Y 54 (1, ls, .int a :: st, h) = if a < nI 0 then zz_Y 54 (26, ls, st, h) else zz_Y 54 (4, ls, st, h)) ∧ (∀ l0 l2 x st h, zz_Y 54 (4, [l0, some (.int x), l2], st, h) = zz_Y 54 (5, [l0, some (.int x), l2], .int x :: st, h)) ∧ (∀ l1 l2 x st h, zz_Y 54 (5, [some (.ref x), l1, l2], st, h) = zz_Y 54 (6, [some (.ref x), l1, l2], .ref x :: st, h)) ∧ (∀ ls a st h, zz_Y 54 (6, ls, .ref a :: st, h) = mo_gf (hp_g h a) 6 0 54 9 ls st h) ∧ (∀ ls a b st h, zz_Y 54 (9, ls, .int b :: .int a :: st, h) = if a < b then zz_Y 54 (12, ls, st, h) else zz_Y 54 (26, ls, st, h)) ∧ (∀ l0 l1 x st h, zz_Y 54 (12, [l0, l1, some (.int x)], st, h) = zz_Y 54 (13, [l0, l1, some (.int x)], .int x :: st, h)) ∧ (∀ ls a st h, zz_Y 54 (13, ls, .int a :: st, h) = if a < nI 0 then zz_Y 54 (26, ls, st, h) else zz_Y 54 (16, ls, st, h)) ∧ (∀ l0 l1 x st h, zz_Y 54 (16, [l0, l1, some (.int x)], st, h) = zz_Y 54 (17, [l0, l1, some (.int x)], .int x :: st, h)) ∧ (∀ ls st h, zz_Y 54 (17, ls, st, h) = zz_Y 54 (19, ls, .int (nI 8) :: st, h)) ∧ (∀ ls a b st h, zz_Y 54 (19, ls, .int b :: .int a :: st, h) = if a < b then zz_Y 54 (22, ls, st, h) else zz_Y 54 (26, ls, st, h)) ∧ (∀ ls st h, zz_Y 54 (22, ls, st, h) = zz_Y 54 (23, ls, .int (nI 1) :: st, h)) ∧ (∀ ls st h, zz_Y 54 (23, ls, st, h) = zz_Y 54 (27, ls, st, h)) ∧ (∀ ls st h, zz_Y 54 (26, ls, st, h) = zz_Y 54 (27, ls, .int (nI 0) :: st, h)) ∧ (∀ ls v h, v = nI 0 ∨ v = nI 1 → zz_Y 54 (27, ls, [.int v], h) = some (some (.int v), h)) :=
  ⟨fun _ _ _ _ _ => xl_iln d54_0 rfl,
   fun _ _ _ _ => xl_iflt d54_1 rfl,
   fun _ _ _ _ _ => xl_iln d54_4 rfl,
   fun _ _ _ _ _ => xl_aln d54_5 rfl,
   fun _ _ _ _ => xl_gf d54_6 xco54 xf_6_15,
   fun _ _ _ _ _ => xl_icge d54_9 rfl,
   fun _ _ _ _ _ => xl_iln d54_12 rfl,
   fun _ _ _ _ => xl_iflt d54_13 rfl,
   fun _ _ _ _ _ => xl_iln d54_16 rfl,
   fun _ _ _ => xl_bi d54_17 (by decide +kernel),
   fun _ _ _ _ _ => xl_icge d54_19 rfl,
   fun _ _ _ => xl_ic d54_22 (by decide +kernel),
   fun _ _ _ => xl_goto d54_23 rfl,
   fun _ _ _ => xl_ic d54_26 (by decide +kernel),
   fun _ _ _ hc => xl_irz d54_27 xrt54 hc⟩
/-! 55 FacetSieve$Plan.lineageOf(I)I -/
theorem d55_0 : decode (zz_c 55) 0 = .ok (.iconst 0, 1) := by decide +kernel
theorem d55_1 : decode (zz_c 55) 1 = .ok (.istore_n 2, 1) := by decide +kernel
theorem d55_2 : decode (zz_c 55) 2 = .ok (.iconst 0, 1) := by decide +kernel
theorem d55_3 : decode (zz_c 55) 3 = .ok (.istore_n 3, 1) := by decide +kernel
theorem d55_4 : decode (zz_c 55) 4 = .ok (.iload_n 3, 1) := by decide +kernel
theorem d55_5 : decode (zz_c 55) 5 = .ok (.aload_n 0, 1) := by decide +kernel
theorem d55_6 : decode (zz_c 55) 6 = .ok (.getfield 41, 3) := by decide +kernel
theorem d55_9 : decode (zz_c 55) 9 = .ok (.if_icmp .ge 26, 3) := by decide +kernel
theorem d55_12 : decode (zz_c 55) 12 = .ok (.iload_n 1, 1) := by decide +kernel
theorem d55_13 : decode (zz_c 55) 13 = .ok (.iload_n 3, 1) := by decide +kernel
theorem d55_14 : decode (zz_c 55) 14 = .ok (.invokestatic 65, 3) := by decide +kernel
theorem d55_17 : decode (zz_c 55) 17 = .ok (.ifCond .eq 12, 3) := by decide +kernel
theorem d55_20 : decode (zz_c 55) 20 = .ok (.iload_n 2, 1) := by decide +kernel
theorem d55_21 : decode (zz_c 55) 21 = .ok (.aload_n 0, 1) := by decide +kernel
theorem d55_22 : decode (zz_c 55) 22 = .ok (.getfield 34, 3) := by decide +kernel
theorem d55_25 : decode (zz_c 55) 25 = .ok (.iload_n 3, 1) := by decide +kernel
theorem d55_26 : decode (zz_c 55) 26 = .ok (.iaload, 1) := by decide +kernel
theorem d55_27 : decode (zz_c 55) 27 = .ok (.ior, 1) := by decide +kernel
theorem d55_28 : decode (zz_c 55) 28 = .ok (.istore_n 2, 1) := by decide +kernel
theorem d55_29 : decode (zz_c 55) 29 = .ok (.iinc 3 1, 3) := by decide +kernel
theorem d55_32 : decode (zz_c 55) 32 = .ok (.goto (-28), 3) := by decide +kernel
theorem d55_35 : decode (zz_c 55) 35 = .ok (.iload_n 2, 1) := by decide +kernel
theorem d55_36 : decode (zz_c 55) 36 = .ok (.ireturn, 1) := by decide +kernel
theorem x55 : (∀ ls st h, zz_Y 55 (0, ls, st, h) = zz_Y 55 (1, ls, .int (nI 0) :: st, h)) ∧ (∀ l0 l1 l2 l3 x st h, zz_nl l1 = true → zz_Y 55 (1, [l0, l1, l2, l3], .int x :: st, h) = zz_Y 55 (2, [l0, l1, some (.int x), l3], st, h)) ∧ (∀ ls st h, zz_Y 55 (2, ls, st, h) = zz_Y 55 (3, ls, .int (nI 0) :: st, h)) ∧ (∀ l0 l1 l2 l3 x st h, zz_nl l2 = true → zz_Y 55 (3, [l0, l1, l2, l3], .int x :: st, h) = zz_Y 55 (4, [l0, l1, l2, some (.int x)], st, h)) ∧ (∀ l1 l2 l3 x st h, zz_Y 55 (5, [some (.ref x), l1, l2, l3], st, h) = zz_Y 55 (6, [some (.ref x), l1, l2, l3], .ref x :: st, h)) ∧ (∀ ls a st h, zz_Y 55 (6, ls, .ref a :: st, h) = mo_gf (hp_g h a) 3 5 55 9 ls st h) ∧ (∀ ls a b st h, zz_Y 55 (9, ls, .int b :: .int a :: st, h) = if a < b then zz_Y 55 (12, ls, st, h) else zz_Y 55 (35, ls, st, h)) ∧ (∀ l0 l2 l3 x st h, zz_Y 55 (12, [l0, some (.int x), l2, l3], st, h) = zz_Y 55 (13, [l0, some (.int x), l2, l3], .int x :: st, h)) ∧ (∀ l0 l1 l2 x st h, zz_Y 55 (13, [l0, l1, l2, some (.int x)], st, h) = zz_Y 55 (14, [l0, l1, l2, some (.int x)], .int x :: st, h)) ∧ (∀ ls a0 a1 h, zz_Y 55 (14, ls, [a1, a0], h) = mo_k 55 17 ls [] (zz_run 50 [a0, a1] h)) ∧ (∀ ls a st h, zz_Y 55 (17, ls, .int a :: st, h) = if a = nI 0 then zz_Y 55 (29, ls, st, h) else zz_Y 55 (20, ls, st, h)) ∧ (∀ l0 l1 l3 x st h, zz_Y 55 (20, [l0, l1, some (.int x), l3], st, h) = zz_Y 55 (21, [l0, l1, some (.int x), l3], .int x :: st, h)) ∧ (∀ l1 l2 l3 x st h, zz_Y 55 (21, [some (.ref x), l1, l2, l3], st, h) = zz_Y 55 (22, [some (.ref x), l1, l2, l3], .ref x :: st, h)) ∧ (∀ ls a st h, zz_Y 55 (22, ls, .ref a :: st, h) = mo_gf (hp_g h a) 3 9 55 25 ls st h) ∧ (∀ l0 l1 l2 x st h, zz_Y 55 (25, [l0, l1, l2, some (.int x)], st, h) = zz_Y 55 (26, [l0, l1, l2, some (.int x)], .int x :: st, h)) ∧ (∀ ls a i st h, zz_Y 55 (26, ls, .int i :: .ref a :: st, h) = mo_ia (hp_g h a) i a 55 27 ls st h) ∧ (∀ ls a b st h, zz_Y 55 (27, ls, .int b :: .int a :: st, h) = zz_Y 55 (28, ls, .int (a ||| b) :: st, h)) ∧ (∀ l0 l1 l2 l3 x st h, zz_nl l1 = true → zz_Y 55 (28, [l0, l1, l2, l3], .int x :: st, h) = zz_Y 55 (29, [l0, l1, some (.int x), l3], st, h)) ∧ (∀ l0 l1 l2 x st h, zz_nl l2 = true → zz_Y 55 (29, [l0, l1, l2, some (.int x)], st, h) = zz_Y 55 (32, [l0, l1, l2, some (.int (x + nI 1))], st, h)) ∧ (∀ ls st h, zz_Y 55 (32, ls, st, h) = zz_Y 55 (4, ls, st, h)) ∧ (∀ l0 l1 l3 x st h, zz_Y 55 (35, [l0, l1, some (.int x), l3], st, h) = zz_Y 55 (36, [l0, l1, some (.int x), l3], .int x :: st, h)) ∧ (∀ ls v h, zz_Y 55 (36, ls, [.int v], h) = some (some (.int v), h)) :=
  ⟨fun _ _ _ => xl_ic d55_0 (by decide +kernel),
   fun _ _ _ _ _ _ _ hc => xl_isn d55_1 xml55 (by decide) (zz_nl_s1 hc),
   fun _ _ _ => xl_ic d55_2 (by decide +kernel),
   fun _ _ _ _ _ _ _ hc => xl_isn d55_3 xml55 (by decide) (zz_nl_s1 hc),
   fun _ _ _ _ _ _ => xl_aln d55_5 rfl,
   fun _ _ _ _ => xl_gf d55_6 xco55 xf_3_41,
   fun _ _ _ _ _ => xl_icge d55_9 rfl,
   fun _ _ _ _ _ _ => xl_iln d55_12 rfl,
   fun _ _ _ _ _ _ => xl_iln d55_13 rfl,
   fun ls a0 a1 h => xl_csn (As := [a0, a1]) (st := []) d55_14 xco55 xm_3_65 xnp50 (by decide +kernel) rfl,
   fun _ _ _ _ => xl_ifeq d55_17 rfl,
   fun _ _ _ _ _ _ => xl_iln d55_20 rfl,
   fun _ _ _ _ _ _ => xl_aln d55_21 rfl,
   fun _ _ _ _ => xl_gf d55_22 xco55 xf_3_34,
   fun _ _ _ _ _ _ => xl_iln d55_25 rfl,
   fun _ _ _ _ _ => xl_ia d55_26,
   fun _ _ _ _ _ => xl_ior d55_27,
   fun _ _ _ _ _ _ _ hc => xl_isn d55_28 xml55 (by decide) (zz_nl_s1 hc),
   fun _ _ _ _ _ _ hc => xl_inc d55_29 xml55 (by decide) rfl (by decide +kernel) (zz_nl_s1 hc),
   fun _ _ _ => xl_goto d55_32 rfl,
   fun _ _ _ _ _ _ => xl_iln d55_35 rfl,
   fun _ _ _ => xl_iri d55_36 xrt55⟩
theorem x55_c4 : ∀ l0 l1 l2 x st h, zz_Y 55 (4, [l0, l1, l2, some (.int x)], st, h) = zz_Y 55 (5, [l0, l1, l2, some (.int x)], .int x :: st, h) := fun _ _ _ _ _ _ => xl_iln d55_4 rfl
/-! 56 FacetSieve$Everything.noteFault(LFacetSieve$Tokens;)V -/
theorem d56_0 : decode (zz_c 56) 0 = .ok (.aload_n 0, 1) := by decide +kernel
theorem d56_1 : decode (zz_c 56) 1 = .ok (.aload_n 1, 1) := by decide +kernel
theorem d56_2 : decode (zz_c 56) 2 = .ok (.getfield 74, 3) := by decide +kernel
theorem d56_5 : decode (zz_c 56) 5 = .ok (.putfield 58, 3) := by decide +kernel
theorem d56_8 : decode (zz_c 56) 8 = .ok (.aload_n 0, 1) := by decide +kernel
theorem d56_9 : decode (zz_c 56) 9 = .ok (.aload_n 1, 1) := by decide +kernel
theorem d56_10 : decode (zz_c 56) 10 = .ok (.getfield 77, 3) := by decide +kernel
theorem d56_13 : decode (zz_c 56) 13 = .ok (.putfield 32, 3) := by decide +kernel
theorem d56_16 : decode (zz_c 56) 16 = .ok (.return_, 1) := by decide +kernel
theorem x56 : (∀ l1 x st h, zz_Y 56 (0, [some (.ref x), l1], st, h) = zz_Y 56 (1, [some (.ref x), l1], .ref x :: st, h)) ∧ (∀ l0 x st h, zz_Y 56 (1, [l0, some (.ref x)], st, h) = zz_Y 56 (2, [l0, some (.ref x)], .ref x :: st, h)) ∧ (∀ ls a st h, zz_Y 56 (2, ls, .ref a :: st, h) = mo_gf (hp_g h a) 9 6 56 5 ls st h) ∧ (∀ ls a v st h, zz_Y 56 (5, ls, v :: .ref a :: st, h) = mo_pf (hp_g h a) 1 3 .int v a 56 8 ls st h) ∧ (∀ l1 x st h, zz_Y 56 (8, [some (.ref x), l1], st, h) = zz_Y 56 (9, [some (.ref x), l1], .ref x :: st, h)) ∧ (∀ l0 x st h, zz_Y 56 (9, [l0, some (.ref x)], st, h) = zz_Y 56 (10, [l0, some (.ref x)], .ref x :: st, h)) ∧ (∀ ls a st h, zz_Y 56 (10, ls, .ref a :: st, h) = mo_gf (hp_g h a) 9 7 56 13 ls st h) ∧ (∀ ls a v st h, zz_Y 56 (13, ls, v :: .ref a :: st, h) = mo_pf (hp_g h a) 1 4 .int v a 56 16 ls st h) ∧ (∀ ls h, zz_Y 56 (16, ls, [], h) = some (none, h)) :=
  ⟨fun _ _ _ _ => xl_aln d56_0 rfl,
   fun _ _ _ _ => xl_aln d56_1 rfl,
   fun _ _ _ _ => xl_gf d56_2 xco56 xf_1_74,
   fun _ _ _ _ _ => xl_pf d56_5 xco56 xf_1_58 (by decide +kernel) rfl,
   fun _ _ _ _ => xl_aln d56_8 rfl,
   fun _ _ _ _ => xl_aln d56_9 rfl,
   fun _ _ _ _ => xl_gf d56_10 xco56 xf_1_77,
   fun _ _ _ _ _ => xl_pf d56_13 xco56 xf_1_32 (by decide +kernel) rfl,
   fun _ _ => xl_r d56_16 xrt56⟩
/-! 57 FacetSieve$Stock.copyFrom(LFacetSieve$Stock;)V -/
theorem d57_0 : decode (zz_c 57) 0 = .ok (.aload_n 0, 1) := by decide +kernel
theorem d57_1 : decode (zz_c 57) 1 = .ok (.getfield 12, 3) := by decide +kernel
theorem d57_4 : decode (zz_c 57) 4 = .ok (.aload_n 1, 1) := by decide +kernel
theorem d57_5 : decode (zz_c 57) 5 = .ok (.getfield 12, 3) := by decide +kernel
theorem d57_8 : decode (zz_c 57) 8 = .ok (.invokevirtual 44, 3) := by decide +kernel
theorem d57_11 : decode (zz_c 57) 11 = .ok (.aload_n 1, 1) := by decide +kernel
theorem d57_12 : decode (zz_c 57) 12 = .ok (.getfield 18, 3) := by decide +kernel
theorem d57_15 : decode (zz_c 57) 15 = .ok (.iconst 0, 1) := by decide +kernel
theorem d57_16 : decode (zz_c 57) 16 = .ok (.aload_n 0, 1) := by decide +kernel
theorem d57_17 : decode (zz_c 57) 17 = .ok (.getfield 18, 3) := by decide +kernel
theorem d57_20 : decode (zz_c 57) 20 = .ok (.iconst 0, 1) := by decide +kernel
theorem d57_21 : decode (zz_c 57) 21 = .ok (.sipush 256, 3) := by decide +kernel
theorem d57_24 : decode (zz_c 57) 24 = .ok (.invokestatic 48, 3) := by decide +kernel
theorem d57_27 : decode (zz_c 57) 27 = .ok (.aload_n 1, 1) := by decide +kernel
theorem d57_28 : decode (zz_c 57) 28 = .ok (.getfield 22, 3) := by decide +kernel
theorem d57_31 : decode (zz_c 57) 31 = .ok (.iconst 0, 1) := by decide +kernel
theorem d57_32 : decode (zz_c 57) 32 = .ok (.aload_n 0, 1) := by decide +kernel
theorem d57_33 : decode (zz_c 57) 33 = .ok (.getfield 22, 3) := by decide +kernel
theorem d57_36 : decode (zz_c 57) 36 = .ok (.iconst 0, 1) := by decide +kernel
theorem d57_37 : decode (zz_c 57) 37 = .ok (.sipush 256, 3) := by decide +kernel
theorem d57_40 : decode (zz_c 57) 40 = .ok (.invokestatic 48, 3) := by decide +kernel
theorem d57_43 : decode (zz_c 57) 43 = .ok (.aload_n 0, 1) := by decide +kernel
theorem d57_44 : decode (zz_c 57) 44 = .ok (.getfield 30, 3) := by decide +kernel
theorem d57_47 : decode (zz_c 57) 47 = .ok (.aload_n 1, 1) := by decide +kernel
theorem d57_48 : decode (zz_c 57) 48 = .ok (.getfield 30, 3) := by decide +kernel
theorem d57_51 : decode (zz_c 57) 51 = .ok (.invokevirtual 54, 3) := by decide +kernel
theorem d57_54 : decode (zz_c 57) 54 = .ok (.return_, 1) := by decide +kernel
theorem x57 : (∀ l1 x st h, zz_Y 57 (0, [some (.ref x), l1], st, h) = zz_Y 57 (1, [some (.ref x), l1], .ref x :: st, h)) ∧ (∀ ls a st h, zz_Y 57 (1, ls, .ref a :: st, h) = mo_gf (hp_g h a) 7 0 57 4 ls st h) ∧ (∀ l0 x st h, zz_Y 57 (4, [l0, some (.ref x)], st, h) = zz_Y 57 (5, [l0, some (.ref x)], .ref x :: st, h)) ∧ (∀ ls a st h, zz_Y 57 (5, ls, .ref a :: st, h) = mo_gf (hp_g h a) 7 0 57 8 ls st h) ∧ (∀ ls a0 a1 h, zz_Y 57 (8, ls, [a1, a0], h) = mo_k 57 11 ls [] (zz_run 58 [a0, a1] h)) ∧ (∀ l0 x st h, zz_Y 57 (11, [l0, some (.ref x)], st, h) = zz_Y 57 (12, [l0, some (.ref x)], .ref x :: st, h)) ∧ (∀ ls a st h, zz_Y 57 (12, ls, .ref a :: st, h) = mo_gf (hp_g h a) 7 1 57 15 ls st h) ∧ (∀ ls st h, zz_Y 57 (15, ls, st, h) = zz_Y 57 (16, ls, .int (nI 0) :: st, h)) ∧ (∀ l1 x st h, zz_Y 57 (16, [some (.ref x), l1], st, h) = zz_Y 57 (17, [some (.ref x), l1], .ref x :: st, h)) ∧ (∀ ls a st h, zz_Y 57 (17, ls, .ref a :: st, h) = mo_gf (hp_g h a) 7 1 57 20 ls st h) ∧ (∀ ls st h, zz_Y 57 (20, ls, st, h) = zz_Y 57 (21, ls, .int (nI 0) :: st, h)) ∧ (∀ ls st h, zz_Y 57 (21, ls, st, h) = zz_Y 57 (24, ls, .int (nI 256) :: st, h)) ∧ (∀ ls a a0 n dp sp h, zz_Y 57 (24, ls, [.int n, .int dp, .ref a, .int sp, .ref a0], h) = mo_ac (hp_g h a0) (hp_g h a) sp dp n a 57 27 ls [] h) ∧ (∀ l0 x st h, zz_Y 57 (27, [l0, some (.ref x)], st, h) = zz_Y 57 (28, [l0, some (.ref x)], .ref x :: st, h)) ∧ (∀ ls a st h, zz_Y 57 (28, ls, .ref a :: st, h) = mo_gf (hp_g h a) 7 2 57 31 ls st h) ∧ (∀ ls st h, zz_Y 57 (31, ls, st, h) = zz_Y 57 (32, ls, .int (nI 0) :: st, h)) ∧ (∀ l1 x st h, zz_Y 57 (32, [some (.ref x), l1], st, h) = zz_Y 57 (33, [some (.ref x), l1], .ref x :: st, h)) ∧ (∀ ls a st h, zz_Y 57 (33, ls, .ref a :: st, h) = mo_gf (hp_g h a) 7 2 57 36 ls st h) ∧ (∀ ls st h, zz_Y 57 (36, ls, st, h) = zz_Y 57 (37, ls, .int (nI 0) :: st, h)) ∧ (∀ ls st h, zz_Y 57 (37, ls, st, h) = zz_Y 57 (40, ls, .int (nI 256) :: st, h)) ∧ (∀ ls a a0 n dp sp h, zz_Y 57 (40, ls, [.int n, .int dp, .ref a, .int sp, .ref a0], h) = mo_ac (hp_g h a0) (hp_g h a) sp dp n a 57 43 ls [] h) ∧ (∀ l1 x st h, zz_Y 57 (43, [some (.ref x), l1], st, h) = zz_Y 57 (44, [some (.ref x), l1], .ref x :: st, h)) ∧ (∀ ls a st h, zz_Y 57 (44, ls, .ref a :: st, h) = mo_gf (hp_g h a) 7 3 57 47 ls st h) ∧ (∀ l0 x st h, zz_Y 57 (47, [l0, some (.ref x)], st, h) = zz_Y 57 (48, [l0, some (.ref x)], .ref x :: st, h)) ∧ (∀ ls a st h, zz_Y 57 (48, ls, .ref a :: st, h) = mo_gf (hp_g h a) 7 3 57 51 ls st h) ∧ (∀ ls a0 a1 h, zz_Y 57 (51, ls, [a1, a0], h) = mo_k 57 54 ls [] (zz_run 59 [a0, a1] h)) ∧ (∀ ls h, zz_Y 57 (54, ls, [], h) = some (none, h)) :=
  ⟨fun _ _ _ _ => xl_aln d57_0 rfl,
   fun _ _ _ _ => xl_gf d57_1 xco57 xf_7_12,
   fun _ _ _ _ => xl_aln d57_4 rfl,
   fun _ _ _ _ => xl_gf d57_5 xco57 xf_7_12,
   fun ls a0 a1 h => xl_cv (As := [a0, a1]) (st := []) d57_8 xco57 xm_7_44 (congrArg Nat.succ xnp58) (by decide +kernel) rfl,
   fun _ _ _ _ => xl_aln d57_11 rfl,
   fun _ _ _ _ => xl_gf d57_12 xco57 xf_7_18,
   fun _ _ _ => xl_ic d57_15 (by decide +kernel),
   fun _ _ _ _ => xl_aln d57_16 rfl,
   fun _ _ _ _ => xl_gf d57_17 xco57 xf_7_18,
   fun _ _ _ => xl_ic d57_20 (by decide +kernel),
   fun _ _ _ => xl_si d57_21 (by decide +kernel),
   fun _ _ _ _ _ _ _ => xl_cp d57_24 xco57 xm_7_48 (by decide +kernel) (by decide +kernel) rfl,
   fun _ _ _ _ => xl_aln d57_27 rfl,
   fun _ _ _ _ => xl_gf d57_28 xco57 xf_7_22,
   fun _ _ _ => xl_ic d57_31 (by decide +kernel),
   fun _ _ _ _ => xl_aln d57_32 rfl,
   fun _ _ _ _ => xl_gf d57_33 xco57 xf_7_22,
   fun _ _ _ => xl_ic d57_36 (by decide +kernel),
   fun _ _ _ => xl_si d57_37 (by decide +kernel),
   fun _ _ _ _ _ _ _ => xl_cp d57_40 xco57 xm_7_48 (by decide +kernel) (by decide +kernel) rfl,
   fun _ _ _ _ => xl_aln d57_43 rfl,
   fun _ _ _ _ => xl_gf d57_44 xco57 xf_7_30,
   fun _ _ _ _ => xl_aln d57_47 rfl,
   fun _ _ _ _ => xl_gf d57_48 xco57 xf_7_30,
   fun ls a0 a1 h => xl_cv (As := [a0, a1]) (st := []) d57_51 xco57 xm_7_54 (congrArg Nat.succ xnp59) (by decide +kernel) rfl,
   fun _ _ => xl_r d57_54 xrt57⟩
/-! 58 FacetSieve$Plan.copyFrom(LFacetSieve$Plan;)V -/
theorem d58_0 : decode (zz_c 58) 0 = .ok (.aload_n 0, 1) := by decide +kernel
theorem d58_1 : decode (zz_c 58) 1 = .ok (.aload_n 1, 1) := by decide +kernel
theorem d58_2 : decode (zz_c 58) 2 = .ok (.getfield 37, 3) := by decide +kernel
theorem d58_5 : decode (zz_c 58) 5 = .ok (.putfield 37, 3) := by decide +kernel
theorem d58_8 : decode (zz_c 58) 8 = .ok (.aload_n 1, 1) := by decide +kernel
theorem d58_9 : decode (zz_c 58) 9 = .ok (.getfield 9, 3) := by decide +kernel
theorem d58_12 : decode (zz_c 58) 12 = .ok (.iconst 0, 1) := by decide +kernel
theorem d58_13 : decode (zz_c 58) 13 = .ok (.aload_n 0, 1) := by decide +kernel
theorem d58_14 : decode (zz_c 58) 14 = .ok (.getfield 9, 3) := by decide +kernel
theorem d58_17 : decode (zz_c 58) 17 = .ok (.iconst 0, 1) := by decide +kernel
theorem d58_18 : decode (zz_c 58) 18 = .ok (.iconst 4, 1) := by decide +kernel
theorem d58_19 : decode (zz_c 58) 19 = .ok (.invokestatic 44, 3) := by decide +kernel
theorem d58_22 : decode (zz_c 58) 22 = .ok (.aload_n 1, 1) := by decide +kernel
theorem d58_23 : decode (zz_c 58) 23 = .ok (.getfield 15, 3) := by decide +kernel
theorem d58_26 : decode (zz_c 58) 26 = .ok (.iconst 0, 1) := by decide +kernel
theorem d58_27 : decode (zz_c 58) 27 = .ok (.aload_n 0, 1) := by decide +kernel
theorem d58_28 : decode (zz_c 58) 28 = .ok (.getfield 15, 3) := by decide +kernel
theorem d58_31 : decode (zz_c 58) 31 = .ok (.iconst 0, 1) := by decide +kernel
theorem d58_32 : decode (zz_c 58) 32 = .ok (.iconst 4, 1) := by decide +kernel
theorem d58_33 : decode (zz_c 58) 33 = .ok (.invokestatic 44, 3) := by decide +kernel
theorem d58_36 : decode (zz_c 58) 36 = .ok (.aload_n 1, 1) := by decide +kernel
theorem d58_37 : decode (zz_c 58) 37 = .ok (.getfield 19, 3) := by decide +kernel
theorem d58_40 : decode (zz_c 58) 40 = .ok (.iconst 0, 1) := by decide +kernel
theorem d58_41 : decode (zz_c 58) 41 = .ok (.aload_n 0, 1) := by decide +kernel
theorem d58_42 : decode (zz_c 58) 42 = .ok (.getfield 19, 3) := by decide +kernel
theorem d58_45 : decode (zz_c 58) 45 = .ok (.iconst 0, 1) := by decide +kernel
theorem d58_46 : decode (zz_c 58) 46 = .ok (.iconst 4, 1) := by decide +kernel
theorem d58_47 : decode (zz_c 58) 47 = .ok (.invokestatic 44, 3) := by decide +kernel
theorem d58_50 : decode (zz_c 58) 50 = .ok (.aload_n 1, 1) := by decide +kernel
theorem d58_51 : decode (zz_c 58) 51 = .ok (.getfield 22, 3) := by decide +kernel
theorem d58_54 : decode (zz_c 58) 54 = .ok (.iconst 0, 1) := by decide +kernel
theorem d58_55 : decode (zz_c 58) 55 = .ok (.aload_n 0, 1) := by decide +kernel
theorem d58_56 : decode (zz_c 58) 56 = .ok (.getfield 22, 3) := by decide +kernel
theorem d58_59 : decode (zz_c 58) 59 = .ok (.iconst 0, 1) := by decide +kernel
theorem d58_60 : decode (zz_c 58) 60 = .ok (.iconst 4, 1) := by decide +kernel
theorem d58_61 : decode (zz_c 58) 61 = .ok (.invokestatic 44, 3) := by decide +kernel
theorem d58_64 : decode (zz_c 58) 64 = .ok (.aload_n 0, 1) := by decide +kernel
theorem d58_65 : decode (zz_c 58) 65 = .ok (.aload_n 1, 1) := by decide +kernel
theorem d58_66 : decode (zz_c 58) 66 = .ok (.getfield 41, 3) := by decide +kernel
theorem d58_69 : decode (zz_c 58) 69 = .ok (.putfield 41, 3) := by decide +kernel
theorem d58_72 : decode (zz_c 58) 72 = .ok (.aload_n 1, 1) := by decide +kernel
theorem d58_73 : decode (zz_c 58) 73 = .ok (.getfield 25, 3) := by decide +kernel
theorem d58_76 : decode (zz_c 58) 76 = .ok (.iconst 0, 1) := by decide +kernel
theorem d58_77 : decode (zz_c 58) 77 = .ok (.aload_n 0, 1) := by decide +kernel
theorem d58_78 : decode (zz_c 58) 78 = .ok (.getfield 25, 3) := by decide +kernel
theorem d58_81 : decode (zz_c 58) 81 = .ok (.iconst 0, 1) := by decide +kernel
theorem d58_82 : decode (zz_c 58) 82 = .ok (.bipush 20, 2) := by decide +kernel
theorem d58_84 : decode (zz_c 58) 84 = .ok (.invokestatic 44, 3) := by decide +kernel
theorem d58_87 : decode (zz_c 58) 87 = .ok (.aload_n 1, 1) := by decide +kernel
theorem d58_88 : decode (zz_c 58) 88 = .ok (.getfield 28, 3) := by decide +kernel
theorem d58_91 : decode (zz_c 58) 91 = .ok (.iconst 0, 1) := by decide +kernel
theorem d58_92 : decode (zz_c 58) 92 = .ok (.aload_n 0, 1) := by decide +kernel
theorem d58_93 : decode (zz_c 58) 93 = .ok (.getfield 28, 3) := by decide +kernel
theorem d58_96 : decode (zz_c 58) 96 = .ok (.iconst 0, 1) := by decide +kernel
theorem d58_97 : decode (zz_c 58) 97 = .ok (.bipush 20, 2) := by decide +kernel
theorem d58_99 : decode (zz_c 58) 99 = .ok (.invokestatic 44, 3) := by decide +kernel
theorem d58_102 : decode (zz_c 58) 102 = .ok (.aload_n 1, 1) := by decide +kernel
theorem d58_103 : decode (zz_c 58) 103 = .ok (.getfield 31, 3) := by decide +kernel
theorem d58_106 : decode (zz_c 58) 106 = .ok (.iconst 0, 1) := by decide +kernel
theorem d58_107 : decode (zz_c 58) 107 = .ok (.aload_n 0, 1) := by decide +kernel
theorem d58_108 : decode (zz_c 58) 108 = .ok (.getfield 31, 3) := by decide +kernel
theorem d58_111 : decode (zz_c 58) 111 = .ok (.iconst 0, 1) := by decide +kernel
theorem d58_112 : decode (zz_c 58) 112 = .ok (.bipush 20, 2) := by decide +kernel
theorem d58_114 : decode (zz_c 58) 114 = .ok (.invokestatic 44, 3) := by decide +kernel
theorem d58_117 : decode (zz_c 58) 117 = .ok (.aload_n 1, 1) := by decide +kernel
theorem d58_118 : decode (zz_c 58) 118 = .ok (.getfield 34, 3) := by decide +kernel
theorem d58_121 : decode (zz_c 58) 121 = .ok (.iconst 0, 1) := by decide +kernel
theorem d58_122 : decode (zz_c 58) 122 = .ok (.aload_n 0, 1) := by decide +kernel
theorem d58_123 : decode (zz_c 58) 123 = .ok (.getfield 34, 3) := by decide +kernel
theorem d58_126 : decode (zz_c 58) 126 = .ok (.iconst 0, 1) := by decide +kernel
theorem d58_127 : decode (zz_c 58) 127 = .ok (.bipush 20, 2) := by decide +kernel
theorem d58_129 : decode (zz_c 58) 129 = .ok (.invokestatic 44, 3) := by decide +kernel
theorem d58_132 : decode (zz_c 58) 132 = .ok (.return_, 1) := by decide +kernel
theorem x58_p0 : (∀ l1 x st h, zz_Y 58 (0, [some (.ref x), l1], st, h) = zz_Y 58 (1, [some (.ref x), l1], .ref x :: st, h)) ∧ (∀ l0 x st h, zz_Y 58 (1, [l0, some (.ref x)], st, h) = zz_Y 58 (2, [l0, some (.ref x)], .ref x :: st, h)) ∧ (∀ ls a st h, zz_Y 58 (2, ls, .ref a :: st, h) = mo_gf (hp_g h a) 3 0 58 5 ls st h) ∧ (∀ ls a v st h, zz_Y 58 (5, ls, v :: .ref a :: st, h) = mo_pf (hp_g h a) 3 0 .int v a 58 8 ls st h) ∧ (∀ l0 x st h, zz_Y 58 (8, [l0, some (.ref x)], st, h) = zz_Y 58 (9, [l0, some (.ref x)], .ref x :: st, h)) ∧ (∀ ls a st h, zz_Y 58 (9, ls, .ref a :: st, h) = mo_gf (hp_g h a) 3 1 58 12 ls st h) ∧ (∀ ls st h, zz_Y 58 (12, ls, st, h) = zz_Y 58 (13, ls, .int (nI 0) :: st, h)) ∧ (∀ l1 x st h, zz_Y 58 (13, [some (.ref x), l1], st, h) = zz_Y 58 (14, [some (.ref x), l1], .ref x :: st, h)) ∧ (∀ ls a st h, zz_Y 58 (14, ls, .ref a :: st, h) = mo_gf (hp_g h a) 3 1 58 17 ls st h) ∧ (∀ ls st h, zz_Y 58 (17, ls, st, h) = zz_Y 58 (18, ls, .int (nI 0) :: st, h)) ∧ (∀ ls st h, zz_Y 58 (18, ls, st, h) = zz_Y 58 (19, ls, .int (nI 4) :: st, h)) ∧ (∀ ls a a0 n dp sp h, zz_Y 58 (19, ls, [.int n, .int dp, .ref a, .int sp, .ref a0], h) = mo_ac (hp_g h a0) (hp_g h a) sp dp n a 58 22 ls [] h) ∧ (∀ l0 x st h, zz_Y 58 (22, [l0, some (.ref x)], st, h) = zz_Y 58 (23, [l0, some (.ref x)], .ref x :: st, h)) ∧ (∀ ls a st h, zz_Y 58 (23, ls, .ref a :: st, h) = mo_gf (hp_g h a) 3 2 58 26 ls st h) ∧ (∀ ls st h, zz_Y 58 (26, ls, st, h) = zz_Y 58 (27, ls, .int (nI 0) :: st, h)) ∧ (∀ l1 x st h, zz_Y 58 (27, [some (.ref x), l1], st, h) = zz_Y 58 (28, [some (.ref x), l1], .ref x :: st, h)) ∧ (∀ ls a st h, zz_Y 58 (28, ls, .ref a :: st, h) = mo_gf (hp_g h a) 3 2 58 31 ls st h) ∧ (∀ ls st h, zz_Y 58 (31, ls, st, h) = zz_Y 58 (32, ls, .int (nI 0) :: st, h)) ∧ (∀ ls st h, zz_Y 58 (32, ls, st, h) = zz_Y 58 (33, ls, .int (nI 4) :: st, h)) ∧ (∀ ls a a0 n dp sp h, zz_Y 58 (33, ls, [.int n, .int dp, .ref a, .int sp, .ref a0], h) = mo_ac (hp_g h a0) (hp_g h a) sp dp n a 58 36 ls [] h) ∧ (∀ l0 x st h, zz_Y 58 (36, [l0, some (.ref x)], st, h) = zz_Y 58 (37, [l0, some (.ref x)], .ref x :: st, h)) ∧ (∀ ls a st h, zz_Y 58 (37, ls, .ref a :: st, h) = mo_gf (hp_g h a) 3 3 58 40 ls st h) ∧ (∀ ls st h, zz_Y 58 (40, ls, st, h) = zz_Y 58 (41, ls, .int (nI 0) :: st, h)) ∧ (∀ l1 x st h, zz_Y 58 (41, [some (.ref x), l1], st, h) = zz_Y 58 (42, [some (.ref x), l1], .ref x :: st, h)) ∧ (∀ ls a st h, zz_Y 58 (42, ls, .ref a :: st, h) = mo_gf (hp_g h a) 3 3 58 45 ls st h) ∧ (∀ ls st h, zz_Y 58 (45, ls, st, h) = zz_Y 58 (46, ls, .int (nI 0) :: st, h)) ∧ (∀ ls st h, zz_Y 58 (46, ls, st, h) = zz_Y 58 (47, ls, .int (nI 4) :: st, h)) ∧ (∀ ls a a0 n dp sp h, zz_Y 58 (47, ls, [.int n, .int dp, .ref a, .int sp, .ref a0], h) = mo_ac (hp_g h a0) (hp_g h a) sp dp n a 58 50 ls [] h) ∧ (∀ l0 x st h, zz_Y 58 (50, [l0, some (.ref x)], st, h) = zz_Y 58 (51, [l0, some (.ref x)], .ref x :: st, h)) ∧ (∀ ls a st h, zz_Y 58 (51, ls, .ref a :: st, h) = mo_gf (hp_g h a) 3 4 58 54 ls st h) ∧ (∀ ls st h, zz_Y 58 (54, ls, st, h) = zz_Y 58 (55, ls, .int (nI 0) :: st, h)) ∧ (∀ l1 x st h, zz_Y 58 (55, [some (.ref x), l1], st, h) = zz_Y 58 (56, [some (.ref x), l1], .ref x :: st, h)) ∧ (∀ ls a st h, zz_Y 58 (56, ls, .ref a :: st, h) = mo_gf (hp_g h a) 3 4 58 59 ls st h) ∧ (∀ ls st h, zz_Y 58 (59, ls, st, h) = zz_Y 58 (60, ls, .int (nI 0) :: st, h)) ∧ (∀ ls st h, zz_Y 58 (60, ls, st, h) = zz_Y 58 (61, ls, .int (nI 4) :: st, h)) ∧ (∀ ls a a0 n dp sp h, zz_Y 58 (61, ls, [.int n, .int dp, .ref a, .int sp, .ref a0], h) = mo_ac (hp_g h a0) (hp_g h a) sp dp n a 58 64 ls [] h) ∧ (∀ l1 x st h, zz_Y 58 (64, [some (.ref x), l1], st, h) = zz_Y 58 (65, [some (.ref x), l1], .ref x :: st, h)) ∧ (∀ l0 x st h, zz_Y 58 (65, [l0, some (.ref x)], st, h) = zz_Y 58 (66, [l0, some (.ref x)], .ref x :: st, h)) ∧ (∀ ls a st h, zz_Y 58 (66, ls, .ref a :: st, h) = mo_gf (hp_g h a) 3 5 58 69 ls st h) ∧ (∀ ls a v st h, zz_Y 58 (69, ls, v :: .ref a :: st, h) = mo_pf (hp_g h a) 3 5 .int v a 58 72 ls st h) ∧ (∀ l0 x st h, zz_Y 58 (72, [l0, some (.ref x)], st, h) = zz_Y 58 (73, [l0, some (.ref x)], .ref x :: st, h)) ∧ (∀ ls a st h, zz_Y 58 (73, ls, .ref a :: st, h) = mo_gf (hp_g h a) 3 6 58 76 ls st h) ∧ (∀ ls st h, zz_Y 58 (76, ls, st, h) = zz_Y 58 (77, ls, .int (nI 0) :: st, h)) ∧ (∀ l1 x st h, zz_Y 58 (77, [some (.ref x), l1], st, h) = zz_Y 58 (78, [some (.ref x), l1], .ref x :: st, h)) ∧ (∀ ls a st h, zz_Y 58 (78, ls, .ref a :: st, h) = mo_gf (hp_g h a) 3 6 58 81 ls st h) ∧ (∀ ls st h, zz_Y 58 (81, ls, st, h) = zz_Y 58 (82, ls, .int (nI 0) :: st, h)) ∧ (∀ ls st h, zz_Y 58 (82, ls, st, h) = zz_Y 58 (84, ls, .int (nI 20) :: st, h)) ∧ (∀ ls a a0 n dp sp h, zz_Y 58 (84, ls, [.int n, .int dp, .ref a, .int sp, .ref a0], h) = mo_ac (hp_g h a0) (hp_g h a) sp dp n a 58 87 ls [] h) ∧ (∀ l0 x st h, zz_Y 58 (87, [l0, some (.ref x)], st, h) = zz_Y 58 (88, [l0, some (.ref x)], .ref x :: st, h)) ∧ (∀ ls a st h, zz_Y 58 (88, ls, .ref a :: st, h) = mo_gf (hp_g h a) 3 7 58 91 ls st h) ∧ (∀ ls st h, zz_Y 58 (91, ls, st, h) = zz_Y 58 (92, ls, .int (nI 0) :: st, h)) ∧ (∀ l1 x st h, zz_Y 58 (92, [some (.ref x), l1], st, h) = zz_Y 58 (93, [some (.ref x), l1], .ref x :: st, h)) ∧ (∀ ls a st h, zz_Y 58 (93, ls, .ref a :: st, h) = mo_gf (hp_g h a) 3 7 58 96 ls st h) ∧ (∀ ls st h, zz_Y 58 (96, ls, st, h) = zz_Y 58 (97, ls, .int (nI 0) :: st, h)) ∧ (∀ ls st h, zz_Y 58 (97, ls, st, h) = zz_Y 58 (99, ls, .int (nI 20) :: st, h)) ∧ (∀ ls a a0 n dp sp h, zz_Y 58 (99, ls, [.int n, .int dp, .ref a, .int sp, .ref a0], h) = mo_ac (hp_g h a0) (hp_g h a) sp dp n a 58 102 ls [] h) ∧ (∀ l0 x st h, zz_Y 58 (102, [l0, some (.ref x)], st, h) = zz_Y 58 (103, [l0, some (.ref x)], .ref x :: st, h)) ∧ (∀ ls a st h, zz_Y 58 (103, ls, .ref a :: st, h) = mo_gf (hp_g h a) 3 8 58 106 ls st h) ∧ (∀ ls st h, zz_Y 58 (106, ls, st, h) = zz_Y 58 (107, ls, .int (nI 0) :: st, h)) ∧ (∀ l1 x st h, zz_Y 58 (107, [some (.ref x), l1], st, h) = zz_Y 58 (108, [some (.ref x), l1], .ref x :: st, h)) :=
  ⟨fun _ _ _ _ => xl_aln d58_0 rfl,
   fun _ _ _ _ => xl_aln d58_1 rfl,
   fun _ _ _ _ => xl_gf d58_2 xco58 xf_3_37,
   fun _ _ _ _ _ => xl_pf d58_5 xco58 xf_3_37 (by decide +kernel) rfl,
   fun _ _ _ _ => xl_aln d58_8 rfl,
   fun _ _ _ _ => xl_gf d58_9 xco58 xf_3_9,
   fun _ _ _ => xl_ic d58_12 (by decide +kernel),
   fun _ _ _ _ => xl_aln d58_13 rfl,
   fun _ _ _ _ => xl_gf d58_14 xco58 xf_3_9,
   fun _ _ _ => xl_ic d58_17 (by decide +kernel),
   fun _ _ _ => xl_ic d58_18 (by decide +kernel),
   fun _ _ _ _ _ _ _ => xl_cp d58_19 xco58 xm_3_44 (by decide +kernel) (by decide +kernel) rfl,
   fun _ _ _ _ => xl_aln d58_22 rfl,
   fun _ _ _ _ => xl_gf d58_23 xco58 xf_3_15,
   fun _ _ _ => xl_ic d58_26 (by decide +kernel),
   fun _ _ _ _ => xl_aln d58_27 rfl,
   fun _ _ _ _ => xl_gf d58_28 xco58 xf_3_15,
   fun _ _ _ => xl_ic d58_31 (by decide +kernel),
   fun _ _ _ => xl_ic d58_32 (by decide +kernel),
   fun _ _ _ _ _ _ _ => xl_cp d58_33 xco58 xm_3_44 (by decide +kernel) (by decide +kernel) rfl,
   fun _ _ _ _ => xl_aln d58_36 rfl,
   fun _ _ _ _ => xl_gf d58_37 xco58 xf_3_19,
   fun _ _ _ => xl_ic d58_40 (by decide +kernel),
   fun _ _ _ _ => xl_aln d58_41 rfl,
   fun _ _ _ _ => xl_gf d58_42 xco58 xf_3_19,
   fun _ _ _ => xl_ic d58_45 (by decide +kernel),
   fun _ _ _ => xl_ic d58_46 (by decide +kernel),
   fun _ _ _ _ _ _ _ => xl_cp d58_47 xco58 xm_3_44 (by decide +kernel) (by decide +kernel) rfl,
   fun _ _ _ _ => xl_aln d58_50 rfl,
   fun _ _ _ _ => xl_gf d58_51 xco58 xf_3_22,
   fun _ _ _ => xl_ic d58_54 (by decide +kernel),
   fun _ _ _ _ => xl_aln d58_55 rfl,
   fun _ _ _ _ => xl_gf d58_56 xco58 xf_3_22,
   fun _ _ _ => xl_ic d58_59 (by decide +kernel),
   fun _ _ _ => xl_ic d58_60 (by decide +kernel),
   fun _ _ _ _ _ _ _ => xl_cp d58_61 xco58 xm_3_44 (by decide +kernel) (by decide +kernel) rfl,
   fun _ _ _ _ => xl_aln d58_64 rfl,
   fun _ _ _ _ => xl_aln d58_65 rfl,
   fun _ _ _ _ => xl_gf d58_66 xco58 xf_3_41,
   fun _ _ _ _ _ => xl_pf d58_69 xco58 xf_3_41 (by decide +kernel) rfl,
   fun _ _ _ _ => xl_aln d58_72 rfl,
   fun _ _ _ _ => xl_gf d58_73 xco58 xf_3_25,
   fun _ _ _ => xl_ic d58_76 (by decide +kernel),
   fun _ _ _ _ => xl_aln d58_77 rfl,
   fun _ _ _ _ => xl_gf d58_78 xco58 xf_3_25,
   fun _ _ _ => xl_ic d58_81 (by decide +kernel),
   fun _ _ _ => xl_bi d58_82 (by decide +kernel),
   fun _ _ _ _ _ _ _ => xl_cp d58_84 xco58 xm_3_44 (by decide +kernel) (by decide +kernel) rfl,
   fun _ _ _ _ => xl_aln d58_87 rfl,
   fun _ _ _ _ => xl_gf d58_88 xco58 xf_3_28,
   fun _ _ _ => xl_ic d58_91 (by decide +kernel),
   fun _ _ _ _ => xl_aln d58_92 rfl,
   fun _ _ _ _ => xl_gf d58_93 xco58 xf_3_28,
   fun _ _ _ => xl_ic d58_96 (by decide +kernel),
   fun _ _ _ => xl_bi d58_97 (by decide +kernel),
   fun _ _ _ _ _ _ _ => xl_cp d58_99 xco58 xm_3_44 (by decide +kernel) (by decide +kernel) rfl,
   fun _ _ _ _ => xl_aln d58_102 rfl,
   fun _ _ _ _ => xl_gf d58_103 xco58 xf_3_31,
   fun _ _ _ => xl_ic d58_106 (by decide +kernel),
   fun _ _ _ _ => xl_aln d58_107 rfl⟩
theorem x58_p1 : (∀ ls a st h, zz_Y 58 (108, ls, .ref a :: st, h) = mo_gf (hp_g h a) 3 8 58 111 ls st h) ∧ (∀ ls st h, zz_Y 58 (111, ls, st, h) = zz_Y 58 (112, ls, .int (nI 0) :: st, h)) ∧ (∀ ls st h, zz_Y 58 (112, ls, st, h) = zz_Y 58 (114, ls, .int (nI 20) :: st, h)) ∧ (∀ ls a a0 n dp sp h, zz_Y 58 (114, ls, [.int n, .int dp, .ref a, .int sp, .ref a0], h) = mo_ac (hp_g h a0) (hp_g h a) sp dp n a 58 117 ls [] h) ∧ (∀ l0 x st h, zz_Y 58 (117, [l0, some (.ref x)], st, h) = zz_Y 58 (118, [l0, some (.ref x)], .ref x :: st, h)) ∧ (∀ ls a st h, zz_Y 58 (118, ls, .ref a :: st, h) = mo_gf (hp_g h a) 3 9 58 121 ls st h) ∧ (∀ ls st h, zz_Y 58 (121, ls, st, h) = zz_Y 58 (122, ls, .int (nI 0) :: st, h)) ∧ (∀ l1 x st h, zz_Y 58 (122, [some (.ref x), l1], st, h) = zz_Y 58 (123, [some (.ref x), l1], .ref x :: st, h)) ∧ (∀ ls a st h, zz_Y 58 (123, ls, .ref a :: st, h) = mo_gf (hp_g h a) 3 9 58 126 ls st h) ∧ (∀ ls st h, zz_Y 58 (126, ls, st, h) = zz_Y 58 (127, ls, .int (nI 0) :: st, h)) ∧ (∀ ls st h, zz_Y 58 (127, ls, st, h) = zz_Y 58 (129, ls, .int (nI 20) :: st, h)) ∧ (∀ ls a a0 n dp sp h, zz_Y 58 (129, ls, [.int n, .int dp, .ref a, .int sp, .ref a0], h) = mo_ac (hp_g h a0) (hp_g h a) sp dp n a 58 132 ls [] h) ∧ (∀ ls h, zz_Y 58 (132, ls, [], h) = some (none, h)) :=
  ⟨fun _ _ _ _ => xl_gf d58_108 xco58 xf_3_31,
   fun _ _ _ => xl_ic d58_111 (by decide +kernel),
   fun _ _ _ => xl_bi d58_112 (by decide +kernel),
   fun _ _ _ _ _ _ _ => xl_cp d58_114 xco58 xm_3_44 (by decide +kernel) (by decide +kernel) rfl,
   fun _ _ _ _ => xl_aln d58_117 rfl,
   fun _ _ _ _ => xl_gf d58_118 xco58 xf_3_34,
   fun _ _ _ => xl_ic d58_121 (by decide +kernel),
   fun _ _ _ _ => xl_aln d58_122 rfl,
   fun _ _ _ _ => xl_gf d58_123 xco58 xf_3_34,
   fun _ _ _ => xl_ic d58_126 (by decide +kernel),
   fun _ _ _ => xl_bi d58_127 (by decide +kernel),
   fun _ _ _ _ _ _ _ => xl_cp d58_129 xco58 xm_3_44 (by decide +kernel) (by decide +kernel) rfl,
   fun _ _ => xl_r d58_132 xrt58⟩
/-! 59 FacetSieve$Sets.copyFrom(LFacetSieve$Sets;)V -/
theorem d59_0 : decode (zz_c 59) 0 = .ok (.aload_n 1, 1) := by decide +kernel
theorem d59_1 : decode (zz_c 59) 1 = .ok (.getfield 21, 3) := by decide +kernel
theorem d59_4 : decode (zz_c 59) 4 = .ok (.iconst 0, 1) := by decide +kernel
theorem d59_5 : decode (zz_c 59) 5 = .ok (.aload_n 0, 1) := by decide +kernel
theorem d59_6 : decode (zz_c 59) 6 = .ok (.getfield 21, 3) := by decide +kernel
theorem d59_9 : decode (zz_c 59) 9 = .ok (.iconst 0, 1) := by decide +kernel
theorem d59_10 : decode (zz_c 59) 10 = .ok (.aload_n 1, 1) := by decide +kernel
theorem d59_11 : decode (zz_c 59) 11 = .ok (.getfield 21, 3) := by decide +kernel
theorem d59_14 : decode (zz_c 59) 14 = .ok (.arraylength, 1) := by decide +kernel
theorem d59_15 : decode (zz_c 59) 15 = .ok (.aload_n 0, 1) := by decide +kernel
theorem d59_16 : decode (zz_c 59) 16 = .ok (.getfield 21, 3) := by decide +kernel
theorem d59_19 : decode (zz_c 59) 19 = .ok (.arraylength, 1) := by decide +kernel
theorem d59_20 : decode (zz_c 59) 20 = .ok (.invokestatic 41, 3) := by decide +kernel
theorem d59_23 : decode (zz_c 59) 23 = .ok (.invokestatic 44, 3) := by decide +kernel
theorem d59_26 : decode (zz_c 59) 26 = .ok (.return_, 1) := by decide +kernel
theorem x59 : (∀ l0 x st h, zz_Y 59 (0, [l0, some (.ref x)], st, h) = zz_Y 59 (1, [l0, some (.ref x)], .ref x :: st, h)) ∧ (∀ ls a st h, zz_Y 59 (1, ls, .ref a :: st, h) = mo_gf (hp_g h a) 6 1 59 4 ls st h) ∧ (∀ ls st h, zz_Y 59 (4, ls, st, h) = zz_Y 59 (5, ls, .int (nI 0) :: st, h)) ∧ (∀ l1 x st h, zz_Y 59 (5, [some (.ref x), l1], st, h) = zz_Y 59 (6, [some (.ref x), l1], .ref x :: st, h)) ∧ (∀ ls a st h, zz_Y 59 (6, ls, .ref a :: st, h) = mo_gf (hp_g h a) 6 1 59 9 ls st h) ∧ (∀ ls st h, zz_Y 59 (9, ls, st, h) = zz_Y 59 (10, ls, .int (nI 0) :: st, h)) ∧ (∀ l0 x st h, zz_Y 59 (10, [l0, some (.ref x)], st, h) = zz_Y 59 (11, [l0, some (.ref x)], .ref x :: st, h)) ∧ (∀ ls a st h, zz_Y 59 (11, ls, .ref a :: st, h) = mo_gf (hp_g h a) 6 1 59 14 ls st h) ∧ (∀ ls a st h, zz_Y 59 (14, ls, .ref a :: st, h) = mo_le (hp_g h a) a 59 15 ls st h) ∧ (∀ l1 x st h, zz_Y 59 (15, [some (.ref x), l1], st, h) = zz_Y 59 (16, [some (.ref x), l1], .ref x :: st, h)) ∧ (∀ ls a st h, zz_Y 59 (16, ls, .ref a :: st, h) = mo_gf (hp_g h a) 6 1 59 19 ls st h) ∧ (∀ ls a st h, zz_Y 59 (19, ls, .ref a :: st, h) = mo_le (hp_g h a) a 59 20 ls st h) ∧ (∀ ls a b s0 s1 s2 s3 h, zz_Y 59 (20, ls, [.int b, .int a, s0, s1, s2, s3], h) = zz_Y 59 (23, ls, [.int (if b < a then b else a), s0, s1, s2, s3], h)) ∧ (∀ ls a a0 n dp sp h, zz_Y 59 (23, ls, [.int n, .int dp, .ref a, .int sp, .ref a0], h) = mo_ac (hp_g h a0) (hp_g h a) sp dp n a 59 26 ls [] h) ∧ (∀ ls h, zz_Y 59 (26, ls, [], h) = some (none, h)) :=
  ⟨fun _ _ _ _ => xl_aln d59_0 rfl,
   fun _ _ _ _ => xl_gf d59_1 xco59 xf_6_21,
   fun _ _ _ => xl_ic d59_4 (by decide +kernel),
   fun _ _ _ _ => xl_aln d59_5 rfl,
   fun _ _ _ _ => xl_gf d59_6 xco59 xf_6_21,
   fun _ _ _ => xl_ic d59_9 (by decide +kernel),
   fun _ _ _ _ => xl_aln d59_10 rfl,
   fun _ _ _ _ => xl_gf d59_11 xco59 xf_6_21,
   fun _ _ _ _ => xl_le d59_14,
   fun _ _ _ _ => xl_aln d59_15 rfl,
   fun _ _ _ _ => xl_gf d59_16 xco59 xf_6_21,
   fun _ _ _ _ => xl_le d59_19,
   fun _ _ _ _ _ _ _ _ => xl_mn d59_20 xco59 xm_6_41 (by decide +kernel) (by decide +kernel) rfl,
   fun _ _ _ _ _ _ _ => xl_cp d59_23 xco59 xm_6_44 (by decide +kernel) (by decide +kernel) rfl,
   fun _ _ => xl_r d59_26 xrt59⟩
/-! 60 FacetSieve$Choice.clear()V -/
theorem d60_0 : decode (zz_c 60) 0 = .ok (.aload_n 0, 1) := by decide +kernel
theorem d60_1 : decode (zz_c 60) 1 = .ok (.getfield 9, 3) := by decide +kernel
theorem d60_4 : decode (zz_c 60) 4 = .ok (.iconst 0, 1) := by decide +kernel
theorem d60_5 : decode (zz_c 60) 5 = .ok (.invokestatic 18, 3) := by decide +kernel
theorem d60_8 : decode (zz_c 60) 8 = .ok (.aload_n 0, 1) := by decide +kernel
theorem d60_9 : decode (zz_c 60) 9 = .ok (.getfield 15, 3) := by decide +kernel
theorem d60_12 : decode (zz_c 60) 12 = .ok (.iconst 0, 1) := by decide +kernel
theorem d60_13 : decode (zz_c 60) 13 = .ok (.invokestatic 18, 3) := by decide +kernel
theorem d60_16 : decode (zz_c 60) 16 = .ok (.return_, 1) := by decide +kernel
theorem x60 : (∀ x st h, zz_Y 60 (0, [some (.ref x)], st, h) = zz_Y 60 (1, [some (.ref x)], .ref x :: st, h)) ∧ (∀ ls a st h, zz_Y 60 (1, ls, .ref a :: st, h) = mo_gf (hp_g h a) 0 0 60 4 ls st h) ∧ (∀ ls st h, zz_Y 60 (4, ls, st, h) = zz_Y 60 (5, ls, .int (nI 0) :: st, h)) ∧ (∀ ls a0 a1 h, zz_Y 60 (5, ls, [a1, a0], h) = mo_k 60 8 ls [] (zz_run 7 [a0, a1] h)) ∧ (∀ x st h, zz_Y 60 (8, [some (.ref x)], st, h) = zz_Y 60 (9, [some (.ref x)], .ref x :: st, h)) ∧ (∀ ls a st h, zz_Y 60 (9, ls, .ref a :: st, h) = mo_gf (hp_g h a) 0 1 60 12 ls st h) ∧ (∀ ls st h, zz_Y 60 (12, ls, st, h) = zz_Y 60 (13, ls, .int (nI 0) :: st, h)) ∧ (∀ ls a0 a1 h, zz_Y 60 (13, ls, [a1, a0], h) = mo_k 60 16 ls [] (zz_run 7 [a0, a1] h)) ∧ (∀ ls h, zz_Y 60 (16, ls, [], h) = some (none, h)) :=
  ⟨fun _ _ _ => xl_aln d60_0 rfl,
   fun _ _ _ _ => xl_gf d60_1 xco60 xf_0_9,
   fun _ _ _ => xl_ic d60_4 (by decide +kernel),
   fun ls a0 a1 h => xl_cs (As := [a0, a1]) (st := []) d60_5 xco60 xm_0_18 xnp7 (by decide +kernel) rfl,
   fun _ _ _ => xl_aln d60_8 rfl,
   fun _ _ _ _ => xl_gf d60_9 xco60 xf_0_15,
   fun _ _ _ => xl_ic d60_12 (by decide +kernel),
   fun ls a0 a1 h => xl_cs (As := [a0, a1]) (st := []) d60_13 xco60 xm_0_18 xnp7 (by decide +kernel) rfl,
   fun _ _ => xl_r d60_16 xrt60⟩
/-! 61 FacetSieve$Journal.clear()V -/
theorem d61_0 : decode (zz_c 61) 0 = .ok (.aload_n 0, 1) := by decide +kernel
theorem d61_1 : decode (zz_c 61) 1 = .ok (.iconst 0, 1) := by decide +kernel
theorem d61_2 : decode (zz_c 61) 2 = .ok (.putfield 22, 3) := by decide +kernel
theorem d61_5 : decode (zz_c 61) 5 = .ok (.aload_n 0, 1) := by decide +kernel
theorem d61_6 : decode (zz_c 61) 6 = .ok (.iconst 0, 1) := by decide +kernel
theorem d61_7 : decode (zz_c 61) 7 = .ok (.putfield 26, 3) := by decide +kernel
theorem d61_10 : decode (zz_c 61) 10 = .ok (.return_, 1) := by decide +kernel
theorem x61 : (∀ x st h, zz_Y 61 (0, [some (.ref x)], st, h) = zz_Y 61 (1, [some (.ref x)], .ref x :: st, h)) ∧ (∀ ls st h, zz_Y 61 (1, ls, st, h) = zz_Y 61 (2, ls, .int (nI 0) :: st, h)) ∧ (∀ ls a v st h, zz_Y 61 (2, ls, v :: .ref a :: st, h) = mo_pf (hp_g h a) 2 4 .int v a 61 5 ls st h) ∧ (∀ x st h, zz_Y 61 (5, [some (.ref x)], st, h) = zz_Y 61 (6, [some (.ref x)], .ref x :: st, h)) ∧ (∀ ls st h, zz_Y 61 (6, ls, st, h) = zz_Y 61 (7, ls, .int (nI 0) :: st, h)) ∧ (∀ ls a v st h, zz_Y 61 (7, ls, v :: .ref a :: st, h) = mo_pf (hp_g h a) 2 5 .int v a 61 10 ls st h) ∧ (∀ ls h, zz_Y 61 (10, ls, [], h) = some (none, h)) :=
  ⟨fun _ _ _ => xl_aln d61_0 rfl,
   fun _ _ _ => xl_ic d61_1 (by decide +kernel),
   fun _ _ _ _ _ => xl_pf d61_2 xco61 xf_2_22 (by decide +kernel) rfl,
   fun _ _ _ => xl_aln d61_5 rfl,
   fun _ _ _ => xl_ic d61_6 (by decide +kernel),
   fun _ _ _ _ _ => xl_pf d61_7 xco61 xf_2_26 (by decide +kernel) rfl,
   fun _ _ => xl_r d61_10 xrt61⟩
/-! 62 FacetSieve$Sets.amount(I)I -/
theorem d62_0 : decode (zz_c 62) 0 = .ok (.iconst 0, 1) := by decide +kernel
theorem d62_1 : decode (zz_c 62) 1 = .ok (.istore_n 2, 1) := by decide +kernel
theorem d62_2 : decode (zz_c 62) 2 = .ok (.iconst 0, 1) := by decide +kernel
theorem d62_3 : decode (zz_c 62) 3 = .ok (.istore_n 3, 1) := by decide +kernel
theorem d62_4 : decode (zz_c 62) 4 = .ok (.iload_n 3, 1) := by decide +kernel
theorem d62_5 : decode (zz_c 62) 5 = .ok (.bipush 8, 2) := by decide +kernel
theorem d62_7 : decode (zz_c 62) 7 = .ok (.if_icmp .ge 21, 3) := by decide +kernel
theorem d62_10 : decode (zz_c 62) 10 = .ok (.iload_n 2, 1) := by decide +kernel
theorem d62_11 : decode (zz_c 62) 11 = .ok (.aload_n 0, 1) := by decide +kernel
theorem d62_12 : decode (zz_c 62) 12 = .ok (.iload_n 1, 1) := by decide +kernel
theorem d62_13 : decode (zz_c 62) 13 = .ok (.iload_n 3, 1) := by decide +kernel
theorem d62_14 : decode (zz_c 62) 14 = .ok (.invokevirtual 29, 3) := by decide +kernel
theorem d62_17 : decode (zz_c 62) 17 = .ok (.invokestatic 54, 3) := by decide +kernel
theorem d62_20 : decode (zz_c 62) 20 = .ok (.iadd, 1) := by decide +kernel
theorem d62_21 : decode (zz_c 62) 21 = .ok (.istore_n 2, 1) := by decide +kernel
theorem d62_22 : decode (zz_c 62) 22 = .ok (.iinc 3 1, 3) := by decide +kernel
theorem d62_25 : decode (zz_c 62) 25 = .ok (.goto (-21), 3) := by decide +kernel
theorem d62_28 : decode (zz_c 62) 28 = .ok (.iload_n 2, 1) := by decide +kernel
theorem d62_29 : decode (zz_c 62) 29 = .ok (.ireturn, 1) := by decide +kernel
theorem x62 : (∀ ls st h, zz_Y 62 (0, ls, st, h) = zz_Y 62 (1, ls, .int (nI 0) :: st, h)) ∧ (∀ l0 l1 l2 l3 x st h, zz_nl l1 = true → zz_Y 62 (1, [l0, l1, l2, l3], .int x :: st, h) = zz_Y 62 (2, [l0, l1, some (.int x), l3], st, h)) ∧ (∀ ls st h, zz_Y 62 (2, ls, st, h) = zz_Y 62 (3, ls, .int (nI 0) :: st, h)) ∧ (∀ l0 l1 l2 l3 x st h, zz_nl l2 = true → zz_Y 62 (3, [l0, l1, l2, l3], .int x :: st, h) = zz_Y 62 (4, [l0, l1, l2, some (.int x)], st, h)) ∧ (∀ ls st h, zz_Y 62 (5, ls, st, h) = zz_Y 62 (7, ls, .int (nI 8) :: st, h)) ∧ (∀ ls a b st h, zz_Y 62 (7, ls, .int b :: .int a :: st, h) = if a < b then zz_Y 62 (10, ls, st, h) else zz_Y 62 (28, ls, st, h)) ∧ (∀ l0 l1 l3 x st h, zz_Y 62 (10, [l0, l1, some (.int x), l3], st, h) = zz_Y 62 (11, [l0, l1, some (.int x), l3], .int x :: st, h)) ∧ (∀ l1 l2 l3 x st h, zz_Y 62 (11, [some (.ref x), l1, l2, l3], st, h) = zz_Y 62 (12, [some (.ref x), l1, l2, l3], .ref x :: st, h)) ∧ (∀ l0 l2 l3 x st h, zz_Y 62 (12, [l0, some (.int x), l2, l3], st, h) = zz_Y 62 (13, [l0, some (.int x), l2, l3], .int x :: st, h)) ∧ (∀ l0 l1 l2 x st h, zz_Y 62 (13, [l0, l1, l2, some (.int x)], st, h) = zz_Y 62 (14, [l0, l1, l2, some (.int x)], .int x :: st, h)) ∧ (∀ ls a0 a1 a2 s0 h, zz_Y 62 (14, ls, [a2, a1, a0, s0], h) = mo_k 62 17 ls [s0] (zz_run 63 [a0, a1, a2] h)) ∧ (∀ ls a0 s0 h, zz_Y 62 (17, ls, [a0, s0], h) = mo_k 62 20 ls [s0] (zz_run 64 [a0] h)) ∧ (∀ ls a b st h, zz_Y 62 (20, ls, .int b :: .int a :: st, h) = zz_Y 62 (21, ls, .int (a + b) :: st, h)) ∧ (∀ l0 l1 l2 l3 x st h, zz_nl l1 = true → zz_Y 62 (21, [l0, l1, l2, l3], .int x :: st, h) = zz_Y 62 (22, [l0, l1, some (.int x), l3], st, h)) ∧ (∀ l0 l1 l2 x st h, zz_nl l2 = true → zz_Y 62 (22, [l0, l1, l2, some (.int x)], st, h) = zz_Y 62 (25, [l0, l1, l2, some (.int (x + nI 1))], st, h)) ∧ (∀ ls st h, zz_Y 62 (25, ls, st, h) = zz_Y 62 (4, ls, st, h)) ∧ (∀ l0 l1 l3 x st h, zz_Y 62 (28, [l0, l1, some (.int x), l3], st, h) = zz_Y 62 (29, [l0, l1, some (.int x), l3], .int x :: st, h)) ∧ (∀ ls v h, zz_Y 62 (29, ls, [.int v], h) = some (some (.int v), h)) :=
  ⟨fun _ _ _ => xl_ic d62_0 (by decide +kernel),
   fun _ _ _ _ _ _ _ hc => xl_isn d62_1 xml62 (by decide) (zz_nl_s1 hc),
   fun _ _ _ => xl_ic d62_2 (by decide +kernel),
   fun _ _ _ _ _ _ _ hc => xl_isn d62_3 xml62 (by decide) (zz_nl_s1 hc),
   fun _ _ _ => xl_bi d62_5 (by decide +kernel),
   fun _ _ _ _ _ => xl_icge d62_7 rfl,
   fun _ _ _ _ _ _ => xl_iln d62_10 rfl,
   fun _ _ _ _ _ _ => xl_aln d62_11 rfl,
   fun _ _ _ _ _ _ => xl_iln d62_12 rfl,
   fun _ _ _ _ _ _ => xl_iln d62_13 rfl,
   fun ls a0 a1 a2 s0 h => xl_cv (As := [a0, a1, a2]) (st := [s0]) d62_14 xco62 xm_6_29 (congrArg Nat.succ xnp63) (by decide +kernel) rfl,
   fun ls a0 s0 h => xl_cs (As := [a0]) (st := [s0]) d62_17 xco62 xm_6_54 xnp64 (by decide +kernel) rfl,
   fun _ _ _ _ _ => xl_iadd d62_20,
   fun _ _ _ _ _ _ _ hc => xl_isn d62_21 xml62 (by decide) (zz_nl_s1 hc),
   fun _ _ _ _ _ _ hc => xl_inc d62_22 xml62 (by decide) rfl (by decide +kernel) (zz_nl_s1 hc),
   fun _ _ _ => xl_goto d62_25 rfl,
   fun _ _ _ _ _ _ => xl_iln d62_28 rfl,
   fun _ _ _ => xl_iri d62_29 xrt62⟩
theorem x62_c4 : ∀ l0 l1 l2 x st h, zz_Y 62 (4, [l0, l1, l2, some (.int x)], st, h) = zz_Y 62 (5, [l0, l1, l2, some (.int x)], .int x :: st, h) := fun _ _ _ _ _ _ => xl_iln d62_4 rfl
/-! 63 FacetSieve$Sets.bitsOf(II)I -/
theorem d63_0 : decode (zz_c 63) 0 = .ok (.aload_n 0, 1) := by decide +kernel
theorem d63_1 : decode (zz_c 63) 1 = .ok (.iload_n 1, 1) := by decide +kernel
theorem d63_2 : decode (zz_c 63) 2 = .ok (.iload_n 2, 1) := by decide +kernel
theorem d63_3 : decode (zz_c 63) 3 = .ok (.invokevirtual 25, 3) := by decide +kernel
theorem d63_6 : decode (zz_c 63) 6 = .ok (.ifCond .eq 17, 3) := by decide +kernel
theorem d63_9 : decode (zz_c 63) 9 = .ok (.aload_n 0, 1) := by decide +kernel
theorem d63_10 : decode (zz_c 63) 10 = .ok (.getfield 21, 3) := by decide +kernel
theorem d63_13 : decode (zz_c 63) 13 = .ok (.iload_n 1, 1) := by decide +kernel
theorem d63_14 : decode (zz_c 63) 14 = .ok (.bipush 8, 2) := by decide +kernel
theorem d63_16 : decode (zz_c 63) 16 = .ok (.imul, 1) := by decide +kernel
theorem d63_17 : decode (zz_c 63) 17 = .ok (.iload_n 2, 1) := by decide +kernel
theorem d63_18 : decode (zz_c 63) 18 = .ok (.iadd, 1) := by decide +kernel
theorem d63_19 : decode (zz_c 63) 19 = .ok (.iaload, 1) := by decide +kernel
theorem d63_20 : decode (zz_c 63) 20 = .ok (.goto 4, 3) := by decide +kernel
theorem d63_23 : decode (zz_c 63) 23 = .ok (.iconst 0, 1) := by decide +kernel
theorem d63_24 : decode (zz_c 63) 24 = .ok (.ireturn, 1) := by decide +kernel
theorem x63 : (∀ l1 l2 x st h, zz_Y 63 (0, [some (.ref x), l1, l2], st, h) = zz_Y 63 (1, [some (.ref x), l1, l2], .ref x :: st, h)) ∧ (∀ l0 l2 x st h, zz_Y 63 (1, [l0, some (.int x), l2], st, h) = zz_Y 63 (2, [l0, some (.int x), l2], .int x :: st, h)) ∧ (∀ l0 l1 x st h, zz_Y 63 (2, [l0, l1, some (.int x)], st, h) = zz_Y 63 (3, [l0, l1, some (.int x)], .int x :: st, h)) ∧ (∀ ls a0 a1 a2 h, zz_Y 63 (3, ls, [a2, a1, a0], h) = mo_k 63 6 ls [] (zz_run 54 [a0, a1, a2] h)) ∧ (∀ ls a st h, zz_Y 63 (6, ls, .int a :: st, h) = if a = nI 0 then zz_Y 63 (23, ls, st, h) else zz_Y 63 (9, ls, st, h)) ∧ (∀ l1 l2 x st h, zz_Y 63 (9, [some (.ref x), l1, l2], st, h) = zz_Y 63 (10, [some (.ref x), l1, l2], .ref x :: st, h)) ∧ (∀ ls a st h, zz_Y 63 (10, ls, .ref a :: st, h) = mo_gf (hp_g h a) 6 1 63 13 ls st h) ∧ (∀ l0 l2 x st h, zz_Y 63 (13, [l0, some (.int x), l2], st, h) = zz_Y 63 (14, [l0, some (.int x), l2], .int x :: st, h)) ∧ (∀ ls st h, zz_Y 63 (14, ls, st, h) = zz_Y 63 (16, ls, .int (nI 8) :: st, h)) ∧ (∀ ls a b st h, zz_Y 63 (16, ls, .int b :: .int a :: st, h) = zz_Y 63 (17, ls, .int (a * b) :: st, h)) ∧ (∀ l0 l1 x st h, zz_Y 63 (17, [l0, l1, some (.int x)], st, h) = zz_Y 63 (18, [l0, l1, some (.int x)], .int x :: st, h)) ∧ (∀ ls a b st h, zz_Y 63 (18, ls, .int b :: .int a :: st, h) = zz_Y 63 (19, ls, .int (a + b) :: st, h)) ∧ (∀ ls a i st h, zz_Y 63 (19, ls, .int i :: .ref a :: st, h) = mo_ia (hp_g h a) i a 63 20 ls st h) ∧ (∀ ls st h, zz_Y 63 (20, ls, st, h) = zz_Y 63 (24, ls, st, h)) ∧ (∀ ls st h, zz_Y 63 (23, ls, st, h) = zz_Y 63 (24, ls, .int (nI 0) :: st, h)) ∧ (∀ ls v h, zz_Y 63 (24, ls, [.int v], h) = some (some (.int v), h)) :=
  ⟨fun _ _ _ _ _ => xl_aln d63_0 rfl,
   fun _ _ _ _ _ => xl_iln d63_1 rfl,
   fun _ _ _ _ _ => xl_iln d63_2 rfl,
   fun ls a0 a1 a2 h => xl_cv (As := [a0, a1, a2]) (st := []) d63_3 xco63 xm_6_25 (congrArg Nat.succ xnp54) (by decide +kernel) rfl,
   fun _ _ _ _ => xl_ifeq d63_6 rfl,
   fun _ _ _ _ _ => xl_aln d63_9 rfl,
   fun _ _ _ _ => xl_gf d63_10 xco63 xf_6_21,
   fun _ _ _ _ _ => xl_iln d63_13 rfl,
   fun _ _ _ => xl_bi d63_14 (by decide +kernel),
   fun _ _ _ _ _ => xl_imul d63_16,
   fun _ _ _ _ _ => xl_iln d63_17 rfl,
   fun _ _ _ _ _ => xl_iadd d63_18,
   fun _ _ _ _ _ => xl_ia d63_19,
   fun _ _ _ => xl_goto d63_20 rfl,
   fun _ _ _ => xl_ic d63_23 (by decide +kernel),
   fun _ _ _ => xl_iri d63_24 xrt63⟩
/-! 64 java/lang/Integer.bitCount(I)I -/
theorem d64_0 : decode (zz_c 64) 0 = .ok (.iload_n 0, 1) := by decide +kernel
theorem d64_1 : decode (zz_c 64) 1 = .ok (.iload_n 0, 1) := by decide +kernel
theorem d64_2 : decode (zz_c 64) 2 = .ok (.iconst 1, 1) := by decide +kernel
theorem d64_3 : decode (zz_c 64) 3 = .ok (.iushr, 1) := by decide +kernel
theorem d64_4 : decode (zz_c 64) 4 = .ok (.ldc_w 265, 3) := by decide +kernel
theorem d64_7 : decode (zz_c 64) 7 = .ok (.iand, 1) := by decide +kernel
theorem d64_8 : decode (zz_c 64) 8 = .ok (.isub, 1) := by decide +kernel
theorem d64_9 : decode (zz_c 64) 9 = .ok (.istore_n 0, 1) := by decide +kernel
theorem d64_10 : decode (zz_c 64) 10 = .ok (.iload_n 0, 1) := by decide +kernel
theorem d64_11 : decode (zz_c 64) 11 = .ok (.ldc_w 266, 3) := by decide +kernel
theorem d64_14 : decode (zz_c 64) 14 = .ok (.iand, 1) := by decide +kernel
theorem d64_15 : decode (zz_c 64) 15 = .ok (.iload_n 0, 1) := by decide +kernel
theorem d64_16 : decode (zz_c 64) 16 = .ok (.iconst 2, 1) := by decide +kernel
theorem d64_17 : decode (zz_c 64) 17 = .ok (.iushr, 1) := by decide +kernel
theorem d64_18 : decode (zz_c 64) 18 = .ok (.ldc_w 266, 3) := by decide +kernel
theorem d64_21 : decode (zz_c 64) 21 = .ok (.iand, 1) := by decide +kernel
theorem d64_22 : decode (zz_c 64) 22 = .ok (.iadd, 1) := by decide +kernel
theorem d64_23 : decode (zz_c 64) 23 = .ok (.istore_n 0, 1) := by decide +kernel
theorem d64_24 : decode (zz_c 64) 24 = .ok (.iload_n 0, 1) := by decide +kernel
theorem d64_25 : decode (zz_c 64) 25 = .ok (.iload_n 0, 1) := by decide +kernel
theorem d64_26 : decode (zz_c 64) 26 = .ok (.iconst 4, 1) := by decide +kernel
theorem d64_27 : decode (zz_c 64) 27 = .ok (.iushr, 1) := by decide +kernel
theorem d64_28 : decode (zz_c 64) 28 = .ok (.iadd, 1) := by decide +kernel
theorem d64_29 : decode (zz_c 64) 29 = .ok (.ldc_w 267, 3) := by decide +kernel
theorem d64_32 : decode (zz_c 64) 32 = .ok (.iand, 1) := by decide +kernel
theorem d64_33 : decode (zz_c 64) 33 = .ok (.istore_n 0, 1) := by decide +kernel
theorem d64_34 : decode (zz_c 64) 34 = .ok (.iload_n 0, 1) := by decide +kernel
theorem d64_35 : decode (zz_c 64) 35 = .ok (.iload_n 0, 1) := by decide +kernel
theorem d64_36 : decode (zz_c 64) 36 = .ok (.bipush 8, 2) := by decide +kernel
theorem d64_38 : decode (zz_c 64) 38 = .ok (.iushr, 1) := by decide +kernel
theorem d64_39 : decode (zz_c 64) 39 = .ok (.iadd, 1) := by decide +kernel
theorem d64_40 : decode (zz_c 64) 40 = .ok (.istore_n 0, 1) := by decide +kernel
theorem d64_41 : decode (zz_c 64) 41 = .ok (.iload_n 0, 1) := by decide +kernel
theorem d64_42 : decode (zz_c 64) 42 = .ok (.iload_n 0, 1) := by decide +kernel
theorem d64_43 : decode (zz_c 64) 43 = .ok (.bipush 16, 2) := by decide +kernel
theorem d64_45 : decode (zz_c 64) 45 = .ok (.iushr, 1) := by decide +kernel
theorem d64_46 : decode (zz_c 64) 46 = .ok (.iadd, 1) := by decide +kernel
theorem d64_47 : decode (zz_c 64) 47 = .ok (.istore_n 0, 1) := by decide +kernel
theorem d64_48 : decode (zz_c 64) 48 = .ok (.iload_n 0, 1) := by decide +kernel
theorem d64_49 : decode (zz_c 64) 49 = .ok (.bipush 63, 2) := by decide +kernel
theorem d64_51 : decode (zz_c 64) 51 = .ok (.iand, 1) := by decide +kernel
theorem d64_52 : decode (zz_c 64) 52 = .ok (.ireturn, 1) := by decide +kernel
theorem x64 : (∀ x st h, zz_Y 64 (0, [some (.int x)], st, h) = zz_Y 64 (1, [some (.int x)], .int x :: st, h)) ∧ (∀ x st h, zz_Y 64 (1, [some (.int x)], st, h) = zz_Y 64 (2, [some (.int x)], .int x :: st, h)) ∧ (∀ ls st h, zz_Y 64 (2, ls, st, h) = zz_Y 64 (3, ls, .int (nI 1) :: st, h)) ∧ (∀ ls a b st h, zz_Y 64 (3, ls, .int b :: .int a :: st, h) = zz_Y 64 (4, ls, .int ((a.toUInt32 >>> (b.toUInt32 &&& Int32.toUInt32 31)).toInt32) :: st, h)) ∧ (∀ ls st h, zz_Y 64 (4, ls, st, h) = zz_Y 64 (7, ls, .int (nI 1431655765) :: st, h)) ∧ (∀ ls a b st h, zz_Y 64 (7, ls, .int b :: .int a :: st, h) = zz_Y 64 (8, ls, .int (a &&& b) :: st, h)) ∧ (∀ ls a b st h, zz_Y 64 (8, ls, .int b :: .int a :: st, h) = zz_Y 64 (9, ls, .int (a - b) :: st, h)) ∧ (∀ l0 x st h, zz_Y 64 (9, [l0], .int x :: st, h) = zz_Y 64 (10, [some (.int x)], st, h)) ∧ (∀ x st h, zz_Y 64 (10, [some (.int x)], st, h) = zz_Y 64 (11, [some (.int x)], .int x :: st, h)) ∧ (∀ ls st h, zz_Y 64 (11, ls, st, h) = zz_Y 64 (14, ls, .int (nI 858993459) :: st, h)) ∧ (∀ ls a b st h, zz_Y 64 (14, ls, .int b :: .int a :: st, h) = zz_Y 64 (15, ls, .int (a &&& b) :: st, h)) ∧ (∀ x st h, zz_Y 64 (15, [some (.int x)], st, h) = zz_Y 64 (16, [some (.int x)], .int x :: st, h)) ∧ (∀ ls st h, zz_Y 64 (16, ls, st, h) = zz_Y 64 (17, ls, .int (nI 2) :: st, h)) ∧ (∀ ls a b st h, zz_Y 64 (17, ls, .int b :: .int a :: st, h) = zz_Y 64 (18, ls, .int ((a.toUInt32 >>> (b.toUInt32 &&& Int32.toUInt32 31)).toInt32) :: st, h)) ∧ (∀ ls st h, zz_Y 64 (18, ls, st, h) = zz_Y 64 (21, ls, .int (nI 858993459) :: st, h)) ∧ (∀ ls a b st h, zz_Y 64 (21, ls, .int b :: .int a :: st, h) = zz_Y 64 (22, ls, .int (a &&& b) :: st, h)) ∧ (∀ ls a b st h, zz_Y 64 (22, ls, .int b :: .int a :: st, h) = zz_Y 64 (23, ls, .int (a + b) :: st, h)) ∧ (∀ l0 x st h, zz_Y 64 (23, [l0], .int x :: st, h) = zz_Y 64 (24, [some (.int x)], st, h)) ∧ (∀ x st h, zz_Y 64 (24, [some (.int x)], st, h) = zz_Y 64 (25, [some (.int x)], .int x :: st, h)) ∧ (∀ x st h, zz_Y 64 (25, [some (.int x)], st, h) = zz_Y 64 (26, [some (.int x)], .int x :: st, h)) ∧ (∀ ls st h, zz_Y 64 (26, ls, st, h) = zz_Y 64 (27, ls, .int (nI 4) :: st, h)) ∧ (∀ ls a b st h, zz_Y 64 (27, ls, .int b :: .int a :: st, h) = zz_Y 64 (28, ls, .int ((a.toUInt32 >>> (b.toUInt32 &&& Int32.toUInt32 31)).toInt32) :: st, h)) ∧ (∀ ls a b st h, zz_Y 64 (28, ls, .int b :: .int a :: st, h) = zz_Y 64 (29, ls, .int (a + b) :: st, h)) ∧ (∀ ls st h, zz_Y 64 (29, ls, st, h) = zz_Y 64 (32, ls, .int (nI 252645135) :: st, h)) ∧ (∀ ls a b st h, zz_Y 64 (32, ls, .int b :: .int a :: st, h) = zz_Y 64 (33, ls, .int (a &&& b) :: st, h)) ∧ (∀ l0 x st h, zz_Y 64 (33, [l0], .int x :: st, h) = zz_Y 64 (34, [some (.int x)], st, h)) ∧ (∀ x st h, zz_Y 64 (34, [some (.int x)], st, h) = zz_Y 64 (35, [some (.int x)], .int x :: st, h)) ∧ (∀ x st h, zz_Y 64 (35, [some (.int x)], st, h) = zz_Y 64 (36, [some (.int x)], .int x :: st, h)) ∧ (∀ ls st h, zz_Y 64 (36, ls, st, h) = zz_Y 64 (38, ls, .int (nI 8) :: st, h)) ∧ (∀ ls a b st h, zz_Y 64 (38, ls, .int b :: .int a :: st, h) = zz_Y 64 (39, ls, .int ((a.toUInt32 >>> (b.toUInt32 &&& Int32.toUInt32 31)).toInt32) :: st, h)) ∧ (∀ ls a b st h, zz_Y 64 (39, ls, .int b :: .int a :: st, h) = zz_Y 64 (40, ls, .int (a + b) :: st, h)) ∧ (∀ l0 x st h, zz_Y 64 (40, [l0], .int x :: st, h) = zz_Y 64 (41, [some (.int x)], st, h)) ∧ (∀ x st h, zz_Y 64 (41, [some (.int x)], st, h) = zz_Y 64 (42, [some (.int x)], .int x :: st, h)) ∧ (∀ x st h, zz_Y 64 (42, [some (.int x)], st, h) = zz_Y 64 (43, [some (.int x)], .int x :: st, h)) ∧ (∀ ls st h, zz_Y 64 (43, ls, st, h) = zz_Y 64 (45, ls, .int (nI 16) :: st, h)) ∧ (∀ ls a b st h, zz_Y 64 (45, ls, .int b :: .int a :: st, h) = zz_Y 64 (46, ls, .int ((a.toUInt32 >>> (b.toUInt32 &&& Int32.toUInt32 31)).toInt32) :: st, h)) ∧ (∀ ls a b st h, zz_Y 64 (46, ls, .int b :: .int a :: st, h) = zz_Y 64 (47, ls, .int (a + b) :: st, h)) ∧ (∀ l0 x st h, zz_Y 64 (47, [l0], .int x :: st, h) = zz_Y 64 (48, [some (.int x)], st, h)) ∧ (∀ x st h, zz_Y 64 (48, [some (.int x)], st, h) = zz_Y 64 (49, [some (.int x)], .int x :: st, h)) ∧ (∀ ls st h, zz_Y 64 (49, ls, st, h) = zz_Y 64 (51, ls, .int (nI 63) :: st, h)) ∧ (∀ ls a b st h, zz_Y 64 (51, ls, .int b :: .int a :: st, h) = zz_Y 64 (52, ls, .int (a &&& b) :: st, h)) ∧ (∀ ls v h, zz_Y 64 (52, ls, [.int v], h) = some (some (.int v), h)) :=
  ⟨fun _ _ _ => xl_iln d64_0 rfl,
   fun _ _ _ => xl_iln d64_1 rfl,
   fun _ _ _ => xl_ic d64_2 (by decide +kernel),
   fun _ _ _ _ _ => xl_iushr d64_3,
   fun _ _ _ => xl_kw d64_4 xco64 (by decide +kernel),
   fun _ _ _ _ _ => xl_iand d64_7,
   fun _ _ _ _ _ => xl_isub d64_8,
   fun _ _ _ _ => xl_isn d64_9 xml64 (by decide) rfl,
   fun _ _ _ => xl_iln d64_10 rfl,
   fun _ _ _ => xl_kw d64_11 xco64 (by decide +kernel),
   fun _ _ _ _ _ => xl_iand d64_14,
   fun _ _ _ => xl_iln d64_15 rfl,
   fun _ _ _ => xl_ic d64_16 (by decide +kernel),
   fun _ _ _ _ _ => xl_iushr d64_17,
   fun _ _ _ => xl_kw d64_18 xco64 (by decide +kernel),
   fun _ _ _ _ _ => xl_iand d64_21,
   fun _ _ _ _ _ => xl_iadd d64_22,
   fun _ _ _ _ => xl_isn d64_23 xml64 (by decide) rfl,
   fun _ _ _ => xl_iln d64_24 rfl,
   fun _ _ _ => xl_iln d64_25 rfl,
   fun _ _ _ => xl_ic d64_26 (by decide +kernel),
   fun _ _ _ _ _ => xl_iushr d64_27,
   fun _ _ _ _ _ => xl_iadd d64_28,
   fun _ _ _ => xl_kw d64_29 xco64 (by decide +kernel),
   fun _ _ _ _ _ => xl_iand d64_32,
   fun _ _ _ _ => xl_isn d64_33 xml64 (by decide) rfl,
   fun _ _ _ => xl_iln d64_34 rfl,
   fun _ _ _ => xl_iln d64_35 rfl,
   fun _ _ _ => xl_bi d64_36 (by decide +kernel),
   fun _ _ _ _ _ => xl_iushr d64_38,
   fun _ _ _ _ _ => xl_iadd d64_39,
   fun _ _ _ _ => xl_isn d64_40 xml64 (by decide) rfl,
   fun _ _ _ => xl_iln d64_41 rfl,
   fun _ _ _ => xl_iln d64_42 rfl,
   fun _ _ _ => xl_bi d64_43 (by decide +kernel),
   fun _ _ _ _ _ => xl_iushr d64_45,
   fun _ _ _ _ _ => xl_iadd d64_46,
   fun _ _ _ _ => xl_isn d64_47 xml64 (by decide) rfl,
   fun _ _ _ => xl_iln d64_48 rfl,
   fun _ _ _ => xl_bi d64_49 (by decide +kernel),
   fun _ _ _ _ _ => xl_iand d64_51,
   fun _ _ _ => xl_iri d64_52 xrt64⟩
/-! 65 FacetSieve.ask()I -/
theorem d65_0 : decode (zz_c 65) 0 = .ok (.aload_n 0, 1) := by decide +kernel
theorem d65_1 : decode (zz_c 65) 1 = .ok (.getfield 37, 3) := by decide +kernel
theorem d65_4 : decode (zz_c 65) 4 = .ok (.aload_n 0, 1) := by decide +kernel
theorem d65_5 : decode (zz_c 65) 5 = .ok (.getfield 12, 3) := by decide +kernel
theorem d65_8 : decode (zz_c 65) 8 = .ok (.getfield 50, 3) := by decide +kernel
theorem d65_11 : decode (zz_c 65) 11 = .ok (.aload_n 0, 1) := by decide +kernel
theorem d65_12 : decode (zz_c 65) 12 = .ok (.getfield 12, 3) := by decide +kernel
theorem d65_15 : decode (zz_c 65) 15 = .ok (.getfield 79, 3) := by decide +kernel
theorem d65_18 : decode (zz_c 65) 18 = .ok (.invokevirtual 109, 3) := by decide +kernel
theorem d65_21 : decode (zz_c 65) 21 = .ok (.istore_n 1, 1) := by decide +kernel
theorem d65_22 : decode (zz_c 65) 22 = .ok (.aload_n 0, 1) := by decide +kernel
theorem d65_23 : decode (zz_c 65) 23 = .ok (.getfield 12, 3) := by decide +kernel
theorem d65_26 : decode (zz_c 65) 26 = .ok (.aload_n 0, 1) := by decide +kernel
theorem d65_27 : decode (zz_c 65) 27 = .ok (.getfield 37, 3) := by decide +kernel
theorem d65_30 : decode (zz_c 65) 30 = .ok (.getfield 113, 3) := by decide +kernel
theorem d65_33 : decode (zz_c 65) 33 = .ok (.invokevirtual 75, 3) := by decide +kernel
theorem d65_36 : decode (zz_c 65) 36 = .ok (.iload_n 1, 1) := by decide +kernel
theorem d65_37 : decode (zz_c 65) 37 = .ok (.ifCond .ne 5, 3) := by decide +kernel
theorem d65_40 : decode (zz_c 65) 40 = .ok (.iconst (-1), 1) := by decide +kernel
theorem d65_41 : decode (zz_c 65) 41 = .ok (.ireturn, 1) := by decide +kernel
theorem d65_42 : decode (zz_c 65) 42 = .ok (.aload_n 0, 1) := by decide +kernel
theorem d65_43 : decode (zz_c 65) 43 = .ok (.getfield 12, 3) := by decide +kernel
theorem d65_46 : decode (zz_c 65) 46 = .ok (.iconst 1, 1) := by decide +kernel
theorem d65_47 : decode (zz_c 65) 47 = .ok (.putfield 114, 3) := by decide +kernel
theorem d65_50 : decode (zz_c 65) 50 = .ok (.aload_n 0, 1) := by decide +kernel
theorem d65_51 : decode (zz_c 65) 51 = .ok (.getfield 12, 3) := by decide +kernel
theorem d65_54 : decode (zz_c 65) 54 = .ok (.aload_n 0, 1) := by decide +kernel
theorem d65_55 : decode (zz_c 65) 55 = .ok (.getfield 37, 3) := by decide +kernel
theorem d65_58 : decode (zz_c 65) 58 = .ok (.getfield 118, 3) := by decide +kernel
theorem d65_61 : decode (zz_c 65) 61 = .ok (.putfield 121, 3) := by decide +kernel
theorem d65_64 : decode (zz_c 65) 64 = .ok (.aload_n 0, 1) := by decide +kernel
theorem d65_65 : decode (zz_c 65) 65 = .ok (.getfield 12, 3) := by decide +kernel
theorem d65_68 : decode (zz_c 65) 68 = .ok (.getfield 124, 3) := by decide +kernel
theorem d65_71 : decode (zz_c 65) 71 = .ok (.iconst 0, 1) := by decide +kernel
theorem d65_72 : decode (zz_c 65) 72 = .ok (.aload_n 0, 1) := by decide +kernel
theorem d65_73 : decode (zz_c 65) 73 = .ok (.getfield 37, 3) := by decide +kernel
theorem d65_76 : decode (zz_c 65) 76 = .ok (.getfield 127, 3) := by decide +kernel
theorem d65_79 : decode (zz_c 65) 79 = .ok (.iconst 0, 1) := by decide +kernel
theorem d65_80 : decode (zz_c 65) 80 = .ok (.invokevirtual 130, 3) := by decide +kernel
theorem d65_83 : decode (zz_c 65) 83 = .ok (.aload_n 0, 1) := by decide +kernel
theorem d65_84 : decode (zz_c 65) 84 = .ok (.getfield 12, 3) := by decide +kernel
theorem d65_87 : decode (zz_c 65) 87 = .ok (.getfield 124, 3) := by decide +kernel
theorem d65_90 : decode (zz_c 65) 90 = .ok (.iconst 0, 1) := by decide +kernel
theorem d65_91 : decode (zz_c 65) 91 = .ok (.invokevirtual 105, 3) := by decide +kernel
theorem d65_94 : decode (zz_c 65) 94 = .ok (.ireturn, 1) := by decide +kernel
theorem x65 : (∀ l1 x st h, zz_Y 65 (0, [some (.ref x), l1], st, h) = zz_Y 65 (1, [some (.ref x), l1], .ref x :: st, h)) ∧ (∀ ls a st h, zz_Y 65 (1, ls, .ref a :: st, h) = mo_gf (hp_g h a) 10 4 65 4 ls st h) ∧ (∀ l1 x st h, zz_Y 65 (4, [some (.ref x), l1], st, h) = zz_Y 65 (5, [some (.ref x), l1], .ref x :: st, h)) ∧ (∀ ls a st h, zz_Y 65 (5, ls, .ref a :: st, h) = mo_gf (hp_g h a) 10 0 65 8 ls st h) ∧ (∀ ls a st h, zz_Y 65 (8, ls, .ref a :: st, h) = mo_gf (hp_g h a) 1 0 65 11 ls st h) ∧ (∀ l1 x st h, zz_Y 65 (11, [some (.ref x), l1], st, h) = zz_Y 65 (12, [some (.ref x), l1], .ref x :: st, h)) ∧ (∀ ls a st h, zz_Y 65 (12, ls, .ref a :: st, h) = mo_gf (hp_g h a) 10 0 65 15 ls st h) ∧ (∀ ls a st h, zz_Y 65 (15, ls, .ref a :: st, h) = mo_gf (hp_g h a) 1 1 65 18 ls st h) ∧ (∀ ls a0 a1 a2 h, zz_Y 65 (18, ls, [a2, a1, a0], h) = mo_k 65 21 ls [] (zz_run 66 [a0, a1, a2] h)) ∧ (∀ l0 l1 x st h, zz_nl l0 = true → zz_Y 65 (21, [l0, l1], .int x :: st, h) = zz_Y 65 (22, [l0, some (.int x)], st, h)) ∧ (∀ l1 x st h, zz_Y 65 (22, [some (.ref x), l1], st, h) = zz_Y 65 (23, [some (.ref x), l1], .ref x :: st, h)) ∧ (∀ ls a st h, zz_Y 65 (23, ls, .ref a :: st, h) = mo_gf (hp_g h a) 10 0 65 26 ls st h) ∧ (∀ l1 x st h, zz_Y 65 (26, [some (.ref x), l1], st, h) = zz_Y 65 (27, [some (.ref x), l1], .ref x :: st, h)) ∧ (∀ ls a st h, zz_Y 65 (27, ls, .ref a :: st, h) = mo_gf (hp_g h a) 10 4 65 30 ls st h) ∧ (∀ ls a st h, zz_Y 65 (30, ls, .ref a :: st, h) = mo_gf (hp_g h a) 4 0 65 33 ls st h) ∧ (∀ ls a0 a1 h, zz_Y 65 (33, ls, [a1, a0], h) = mo_k 65 36 ls [] (zz_run 56 [a0, a1] h)) ∧ (∀ l0 x st h, zz_Y 65 (36, [l0, some (.int x)], st, h) = zz_Y 65 (37, [l0, some (.int x)], .int x :: st, h)) ∧ (∀ ls a st h, zz_Y 65 (37, ls, .int a :: st, h) = if a = nI 0 then zz_Y 65 (40, ls, st, h) else zz_Y 65 (42, ls, st, h)) ∧ (∀ ls st h, zz_Y 65 (40, ls, st, h) = zz_Y 65 (41, ls, .int (-1) :: st, h)) ∧ (∀ ls v h, zz_Y 65 (41, ls, [.int v], h) = some (some (.int v), h)) ∧ (∀ l1 x st h, zz_Y 65 (42, [some (.ref x), l1], st, h) = zz_Y 65 (43, [some (.ref x), l1], .ref x :: st, h)) ∧ (∀ ls a st h, zz_Y 65 (43, ls, .ref a :: st, h) = mo_gf (hp_g h a) 10 0 65 46 ls st h) ∧ (∀ ls st h, zz_Y 65 (46, ls, st, h) = zz_Y 65 (47, ls, .int (nI 1) :: st, h)) ∧ (∀ ls a v st h, zz_Y 65 (47, ls, v :: .ref a :: st, h) = mo_pf (hp_g h a) 1 5 .boolean v a 65 50 ls st h) ∧ (∀ l1 x st h, zz_Y 65 (50, [some (.ref x), l1], st, h) = zz_Y 65 (51, [some (.ref x), l1], .ref x :: st, h)) ∧ (∀ ls a st h, zz_Y 65 (51, ls, .ref a :: st, h) = mo_gf (hp_g h a) 10 0 65 54 ls st h) ∧ (∀ l1 x st h, zz_Y 65 (54, [some (.ref x), l1], st, h) = zz_Y 65 (55, [some (.ref x), l1], .ref x :: st, h)) ∧ (∀ ls a st h, zz_Y 65 (55, ls, .ref a :: st, h) = mo_gf (hp_g h a) 10 4 65 58 ls st h) ∧ (∀ ls a st h, zz_Y 65 (58, ls, .ref a :: st, h) = mo_gf (hp_g h a) 4 8 65 61 ls st h) ∧ (∀ ls a v st h, zz_Y 65 (61, ls, v :: .ref a :: st, h) = mo_pf (hp_g h a) 1 6 .int v a 65 64 ls st h) ∧ (∀ l1 x st h, zz_Y 65 (64, [some (.ref x), l1], st, h) = zz_Y 65 (65, [some (.ref x), l1], .ref x :: st, h)) ∧ (∀ ls a st h, zz_Y 65 (65, ls, .ref a :: st, h) = mo_gf (hp_g h a) 10 0 65 68 ls st h) ∧ (∀ ls a st h, zz_Y 65 (68, ls, .ref a :: st, h) = mo_gf (hp_g h a) 1 7 65 71 ls st h) ∧ (∀ ls st h, zz_Y 65 (71, ls, st, h) = zz_Y 65 (72, ls, .int (nI 0) :: st, h)) ∧ (∀ l1 x st h, zz_Y 65 (72, [some (.ref x), l1], st, h) = zz_Y 65 (73, [some (.ref x), l1], .ref x :: st, h)) ∧ (∀ ls a st h, zz_Y 65 (73, ls, .ref a :: st, h) = mo_gf (hp_g h a) 10 4 65 76 ls st h) ∧ (∀ ls a st h, zz_Y 65 (76, ls, .ref a :: st, h) = mo_gf (hp_g h a) 4 1 65 79 ls st h) ∧ (∀ ls st h, zz_Y 65 (79, ls, st, h) = zz_Y 65 (80, ls, .int (nI 0) :: st, h)) ∧ (∀ ls a0 a1 a2 a3 h, zz_Y 65 (80, ls, [a3, a2, a1, a0], h) = mo_k 65 83 ls [] (zz_run 70 [a0, a1, a2, a3] h)) ∧ (∀ l1 x st h, zz_Y 65 (83, [some (.ref x), l1], st, h) = zz_Y 65 (84, [some (.ref x), l1], .ref x :: st, h)) ∧ (∀ ls a st h, zz_Y 65 (84, ls, .ref a :: st, h) = mo_gf (hp_g h a) 10 0 65 87 ls st h) ∧ (∀ ls a st h, zz_Y 65 (87, ls, .ref a :: st, h) = mo_gf (hp_g h a) 1 7 65 90 ls st h) ∧ (∀ ls st h, zz_Y 65 (90, ls, st, h) = zz_Y 65 (91, ls, .int (nI 0) :: st, h)) ∧ (∀ ls a0 a1 h, zz_Y 65 (91, ls, [a1, a0], h) = mo_k 65 94 ls [] (zz_run 62 [a0, a1] h)) ∧ (∀ ls v h, zz_Y 65 (94, ls, [.int v], h) = some (some (.int v), h)) :=
  ⟨fun _ _ _ _ => xl_aln d65_0 rfl,
   fun _ _ _ _ => xl_gf d65_1 xco65 xf_10_37,
   fun _ _ _ _ => xl_aln d65_4 rfl,
   fun _ _ _ _ => xl_gf d65_5 xco65 xf_10_12,
   fun _ _ _ _ => xl_gf d65_8 xco65 xf_10_50,
   fun _ _ _ _ => xl_aln d65_11 rfl,
   fun _ _ _ _ => xl_gf d65_12 xco65 xf_10_12,
   fun _ _ _ _ => xl_gf d65_15 xco65 xf_10_79,
   fun ls a0 a1 a2 h => xl_cv (As := [a0, a1, a2]) (st := []) d65_18 xco65 xm_10_109 (congrArg Nat.succ xnp66) (by decide +kernel) rfl,
   fun _ _ _ _ _ hc => xl_isn d65_21 xml65 (by decide) (zz_nl_s1 hc),
   fun _ _ _ _ => xl_aln d65_22 rfl,
   fun _ _ _ _ => xl_gf d65_23 xco65 xf_10_12,
   fun _ _ _ _ => xl_aln d65_26 rfl,
   fun _ _ _ _ => xl_gf d65_27 xco65 xf_10_37,
   fun _ _ _ _ => xl_gf d65_30 xco65 xf_10_113,
   fun ls a0 a1 h => xl_cv (As := [a0, a1]) (st := []) d65_33 xco65 xm_10_75 (congrArg Nat.succ xnp56) (by decide +kernel) rfl,
   fun _ _ _ _ => xl_iln d65_36 rfl,
   fun _ _ _ _ => xl_ifne d65_37 rfl,
   fun _ _ _ => xl_ic d65_40 (by decide +kernel),
   fun _ _ _ => xl_iri d65_41 xrt65,
   fun _ _ _ _ => xl_aln d65_42 rfl,
   fun _ _ _ _ => xl_gf d65_43 xco65 xf_10_12,
   fun _ _ _ => xl_ic d65_46 (by decide +kernel),
   fun _ _ _ _ _ => xl_pf d65_47 xco65 xf_10_114 (by decide +kernel) rfl,
   fun _ _ _ _ => xl_aln d65_50 rfl,
   fun _ _ _ _ => xl_gf d65_51 xco65 xf_10_12,
   fun _ _ _ _ => xl_aln d65_54 rfl,
   fun _ _ _ _ => xl_gf d65_55 xco65 xf_10_37,
   fun _ _ _ _ => xl_gf d65_58 xco65 xf_10_118,
   fun _ _ _ _ _ => xl_pf d65_61 xco65 xf_10_121 (by decide +kernel) rfl,
   fun _ _ _ _ => xl_aln d65_64 rfl,
   fun _ _ _ _ => xl_gf d65_65 xco65 xf_10_12,
   fun _ _ _ _ => xl_gf d65_68 xco65 xf_10_124,
   fun _ _ _ => xl_ic d65_71 (by decide +kernel),
   fun _ _ _ _ => xl_aln d65_72 rfl,
   fun _ _ _ _ => xl_gf d65_73 xco65 xf_10_37,
   fun _ _ _ _ => xl_gf d65_76 xco65 xf_10_127,
   fun _ _ _ => xl_ic d65_79 (by decide +kernel),
   fun ls a0 a1 a2 a3 h => xl_cv (As := [a0, a1, a2, a3]) (st := []) d65_80 xco65 xm_10_130 (congrArg Nat.succ xnp70) (by decide +kernel) rfl,
   fun _ _ _ _ => xl_aln d65_83 rfl,
   fun _ _ _ _ => xl_gf d65_84 xco65 xf_10_12,
   fun _ _ _ _ => xl_gf d65_87 xco65 xf_10_124,
   fun _ _ _ => xl_ic d65_90 (by decide +kernel),
   fun ls a0 a1 h => xl_cv (As := [a0, a1]) (st := []) d65_91 xco65 xm_10_105 (congrArg Nat.succ xnp62) (by decide +kernel) rfl,
   fun _ _ _ => xl_iri d65_94 xrt65⟩
/-! 66 FacetSieve$QuestionReader.readWhole(LFacetSieve$Tape;LFacetSieve$Stock;)Z -/
theorem d66_0 : decode (zz_c 66) 0 = .ok (.aload_n 0, 1) := by decide +kernel
theorem d66_1 : decode (zz_c 66) 1 = .ok (.iconst 0, 1) := by decide +kernel
theorem d66_2 : decode (zz_c 66) 2 = .ok (.putfield 34, 3) := by decide +kernel
theorem d66_5 : decode (zz_c 66) 5 = .ok (.aload_n 0, 1) := by decide +kernel
theorem d66_6 : decode (zz_c 66) 6 = .ok (.iconst 0, 1) := by decide +kernel
theorem d66_7 : decode (zz_c 66) 7 = .ok (.putfield 38, 3) := by decide +kernel
theorem d66_10 : decode (zz_c 66) 10 = .ok (.aload_n 0, 1) := by decide +kernel
theorem d66_11 : decode (zz_c 66) 11 = .ok (.iconst 0, 1) := by decide +kernel
theorem d66_12 : decode (zz_c 66) 12 = .ok (.putfield 41, 3) := by decide +kernel
theorem d66_15 : decode (zz_c 66) 15 = .ok (.aload_n 0, 1) := by decide +kernel
theorem d66_16 : decode (zz_c 66) 16 = .ok (.iconst 0, 1) := by decide +kernel
theorem d66_17 : decode (zz_c 66) 17 = .ok (.invokevirtual 44, 3) := by decide +kernel
theorem d66_20 : decode (zz_c 66) 20 = .ok (.aload_n 0, 1) := by decide +kernel
theorem d66_21 : decode (zz_c 66) 21 = .ok (.getfield 14, 3) := by decide +kernel
theorem d66_24 : decode (zz_c 66) 24 = .ok (.aload_n 1, 1) := by decide +kernel
theorem d66_25 : decode (zz_c 66) 25 = .ok (.invokevirtual 47, 3) := by decide +kernel
theorem d66_28 : decode (zz_c 66) 28 = .ok (.iconst 1, 1) := by decide +kernel
theorem d66_29 : decode (zz_c 66) 29 = .ok (.istore_n 3, 1) := by decide +kernel
theorem d66_30 : decode (zz_c 66) 30 = .ok (.iconst 0, 1) := by decide +kernel
theorem d66_31 : decode (zz_c 66) 31 = .ok (.istore 4, 2) := by decide +kernel
theorem d66_33 : decode (zz_c 66) 33 = .ok (.iload_n 3, 1) := by decide +kernel
theorem d66_34 : decode (zz_c 66) 34 = .ok (.ifCond .eq 73, 3) := by decide +kernel
theorem d66_37 : decode (zz_c 66) 37 = .ok (.aload_n 0, 1) := by decide +kernel
theorem d66_38 : decode (zz_c 66) 38 = .ok (.getfield 14, 3) := by decide +kernel
theorem d66_41 : decode (zz_c 66) 41 = .ok (.getfield 51, 3) := by decide +kernel
theorem d66_44 : decode (zz_c 66) 44 = .ok (.ifCond .eq 63, 3) := by decide +kernel
theorem d66_47 : decode (zz_c 66) 47 = .ok (.iload 4, 2) := by decide +kernel
theorem d66_49 : decode (zz_c 66) 49 = .ok (.sipush 600, 3) := by decide +kernel
theorem d66_52 : decode (zz_c 66) 52 = .ok (.if_icmp .ge 55, 3) := by decide +kernel
theorem d66_55 : decode (zz_c 66) 55 = .ok (.aload_n 0, 1) := by decide +kernel
theorem d66_56 : decode (zz_c 66) 56 = .ok (.getfield 54, 3) := by decide +kernel
theorem d66_59 : decode (zz_c 66) 59 = .ok (.ifCond .eq 11, 3) := by decide +kernel
theorem d66_62 : decode (zz_c 66) 62 = .ok (.aload_n 0, 1) := by decide +kernel
theorem d66_63 : decode (zz_c 66) 63 = .ok (.aload_n 2, 1) := by decide +kernel
theorem d66_64 : decode (zz_c 66) 64 = .ok (.invokevirtual 58, 3) := by decide +kernel
theorem d66_67 : decode (zz_c 66) 67 = .ok (.goto 7, 3) := by decide +kernel
theorem d66_70 : decode (zz_c 66) 70 = .ok (.aload_n 0, 1) := by decide +kernel
theorem d66_71 : decode (zz_c 66) 71 = .ok (.invokevirtual 62, 3) := by decide +kernel
theorem d66_74 : decode (zz_c 66) 74 = .ok (.istore_n 3, 1) := by decide +kernel
theorem d66_75 : decode (zz_c 66) 75 = .ok (.iload_n 3, 1) := by decide +kernel
theorem d66_76 : decode (zz_c 66) 76 = .ok (.ifCond .eq 14, 3) := by decide +kernel
theorem d66_79 : decode (zz_c 66) 79 = .ok (.aload_n 0, 1) := by decide +kernel
theorem d66_80 : decode (zz_c 66) 80 = .ok (.getfield 54, 3) := by decide +kernel
theorem d66_83 : decode (zz_c 66) 83 = .ok (.ifCond .ne 7, 3) := by decide +kernel
theorem d66_86 : decode (zz_c 66) 86 = .ok (.aload_n 0, 1) := by decide +kernel
theorem d66_87 : decode (zz_c 66) 87 = .ok (.invokevirtual 66, 3) := by decide +kernel
theorem d66_90 : decode (zz_c 66) 90 = .ok (.iload_n 3, 1) := by decide +kernel
theorem d66_91 : decode (zz_c 66) 91 = .ok (.ifCond .eq 10, 3) := by decide +kernel
theorem d66_94 : decode (zz_c 66) 94 = .ok (.aload_n 0, 1) := by decide +kernel
theorem d66_95 : decode (zz_c 66) 95 = .ok (.getfield 14, 3) := by decide +kernel
theorem d66_98 : decode (zz_c 66) 98 = .ok (.invokevirtual 69, 3) := by decide +kernel
theorem d66_101 : decode (zz_c 66) 101 = .ok (.iinc 4 1, 3) := by decide +kernel
theorem d66_104 : decode (zz_c 66) 104 = .ok (.goto (-71), 3) := by decide +kernel
theorem d66_107 : decode (zz_c 66) 107 = .ok (.iload_n 3, 1) := by decide +kernel
theorem d66_108 : decode (zz_c 66) 108 = .ok (.ifCond .eq 26, 3) := by decide +kernel
theorem d66_111 : decode (zz_c 66) 111 = .ok (.aload_n 0, 1) := by decide +kernel
theorem d66_112 : decode (zz_c 66) 112 = .ok (.getfield 54, 3) := by decide +kernel
theorem d66_115 : decode (zz_c 66) 115 = .ok (.ifCond .ne 10, 3) := by decide +kernel
theorem d66_118 : decode (zz_c 66) 118 = .ok (.aload_n 0, 1) := by decide +kernel
theorem d66_119 : decode (zz_c 66) 119 = .ok (.getfield 72, 3) := by decide +kernel
theorem d66_122 : decode (zz_c 66) 122 = .ok (.ifCond .le 12, 3) := by decide +kernel
theorem d66_125 : decode (zz_c 66) 125 = .ok (.aload_n 0, 1) := by decide +kernel
theorem d66_126 : decode (zz_c 66) 126 = .ok (.getfield 14, 3) := by decide +kernel
theorem d66_129 : decode (zz_c 66) 129 = .ok (.iconst 1, 1) := by decide +kernel
theorem d66_130 : decode (zz_c 66) 130 = .ok (.invokevirtual 75, 3) := by decide +kernel
theorem d66_133 : decode (zz_c 66) 133 = .ok (.istore_n 3, 1) := by decide +kernel
theorem d66_134 : decode (zz_c 66) 134 = .ok (.iload_n 3, 1) := by decide +kernel
theorem d66_135 : decode (zz_c 66) 135 = .ok (.ifCond .eq 7, 3) := by decide +kernel
theorem d66_138 : decode (zz_c 66) 138 = .ok (.aload_n 0, 1) := by decide +kernel
theorem d66_139 : decode (zz_c 66) 139 = .ok (.invokevirtual 79, 3) := by decide +kernel
theorem d66_142 : decode (zz_c 66) 142 = .ok (.iload_n 3, 1) := by decide +kernel
theorem d66_143 : decode (zz_c 66) 143 = .ok (.ireturn, 1) := by decide +kernel
theorem x66_p0 : (∀ l1 l2 l3 l4 x st h, zz_Y 66 (0, [some (.ref x), l1, l2, l3, l4], st, h) = zz_Y 66 (1, [some (.ref x), l1, l2, l3, l4], .ref x :: st, h)) ∧ (∀ ls st h, zz_Y 66 (1, ls, st, h) = zz_Y 66 (2, ls, .int (nI 0) :: st, h)) ∧ (∀ ls a v st h, zz_Y 66 (2, ls, v :: .ref a :: st, h) = mo_pf (hp_g h a) 4 4 .int v a 66 5 ls st h) ∧ (∀ l1 l2 l3 l4 x st h, zz_Y 66 (5, [some (.ref x), l1, l2, l3, l4], st, h) = zz_Y 66 (6, [some (.ref x), l1, l2, l3, l4], .ref x :: st, h)) ∧ (∀ ls st h, zz_Y 66 (6, ls, st, h) = zz_Y 66 (7, ls, .int (nI 0) :: st, h)) ∧ (∀ ls a v st h, zz_Y 66 (7, ls, v :: .ref a :: st, h) = mo_pf (hp_g h a) 4 7 .int v a 66 10 ls st h) ∧ (∀ l1 l2 l3 l4 x st h, zz_Y 66 (10, [some (.ref x), l1, l2, l3, l4], st, h) = zz_Y 66 (11, [some (.ref x), l1, l2, l3, l4], .ref x :: st, h)) ∧ (∀ ls st h, zz_Y 66 (11, ls, st, h) = zz_Y 66 (12, ls, .int (nI 0) :: st, h)) ∧ (∀ ls a v st h, zz_Y 66 (12, ls, v :: .ref a :: st, h) = mo_pf (hp_g h a) 4 8 .int v a 66 15 ls st h) ∧ (∀ l1 l2 l3 l4 x st h, zz_Y 66 (15, [some (.ref x), l1, l2, l3, l4], st, h) = zz_Y 66 (16, [some (.ref x), l1, l2, l3, l4], .ref x :: st, h)) ∧ (∀ ls st h, zz_Y 66 (16, ls, st, h) = zz_Y 66 (17, ls, .int (nI 0) :: st, h)) ∧ (∀ ls a0 a1 h, zz_Y 66 (17, ls, [a1, a0], h) = mo_k 66 20 ls [] (zz_run 67 [a0, a1] h)) ∧ (∀ l1 l2 l3 l4 x st h, zz_Y 66 (20, [some (.ref x), l1, l2, l3, l4], st, h) = zz_Y 66 (21, [some (.ref x), l1, l2, l3, l4], .ref x :: st, h)) ∧ (∀ ls a st h, zz_Y 66 (21, ls, .ref a :: st, h) = mo_gf (hp_g h a) 4 0 66 24 ls st h) ∧ (∀ l0 l2 l3 l4 x st h, zz_Y 66 (24, [l0, some (.ref x), l2, l3, l4], st, h) = zz_Y 66 (25, [l0, some (.ref x), l2, l3, l4], .ref x :: st, h)) ∧ (∀ ls a0 a1 h, zz_Y 66 (25, ls, [a1, a0], h) = mo_k 66 28 ls [] (zz_run 22 [a0, a1] h)) ∧ (∀ ls st h, zz_Y 66 (28, ls, st, h) = zz_Y 66 (29, ls, .int (nI 1) :: st, h)) ∧ (∀ l0 l1 l2 l3 l4 x st h, zz_nl l2 = true → zz_Y 66 (29, [l0, l1, l2, l3, l4], .int x :: st, h) = zz_Y 66 (30, [l0, l1, l2, some (.int x), l4], st, h)) ∧ (∀ ls st h, zz_Y 66 (30, ls, st, h) = zz_Y 66 (31, ls, .int (nI 0) :: st, h)) ∧ (∀ l0 l1 l2 l3 l4 x st h, zz_nl l3 = true → zz_Y 66 (31, [l0, l1, l2, l3, l4], .int x :: st, h) = zz_Y 66 (33, [l0, l1, l2, l3, some (.int x)], st, h)) ∧ (∀ ls a st h, zz_Y 66 (34, ls, .int a :: st, h) = if a = nI 0 then zz_Y 66 (107, ls, st, h) else zz_Y 66 (37, ls, st, h)) ∧ (∀ l1 l2 l3 l4 x st h, zz_Y 66 (37, [some (.ref x), l1, l2, l3, l4], st, h) = zz_Y 66 (38, [some (.ref x), l1, l2, l3, l4], .ref x :: st, h)) ∧ (∀ ls a st h, zz_Y 66 (38, ls, .ref a :: st, h) = mo_gf (hp_g h a) 4 0 66 41 ls st h) ∧ (∀ ls a st h, zz_Y 66 (41, ls, .ref a :: st, h) = mo_gf (hp_g h a) 9 2 66 44 ls st h) ∧ (∀ ls a st h, zz_Y 66 (44, ls, .int a :: st, h) = if a = nI 0 then zz_Y 66 (107, ls, st, h) else zz_Y 66 (47, ls, st, h)) ∧ (∀ l0 l1 l2 l3 x st h, zz_Y 66 (47, [l0, l1, l2, l3, some (.int x)], st, h) = zz_Y 66 (49, [l0, l1, l2, l3, some (.int x)], .int x :: st, h)) ∧ (∀ ls st h, zz_Y 66 (49, ls, st, h) = zz_Y 66 (52, ls, .int (nI 600) :: st, h)) ∧ (∀ ls a b st h, zz_Y 66 (52, ls, .int b :: .int a :: st, h) = if a < b then zz_Y 66 (55, ls, st, h) else zz_Y 66 (107, ls, st, h)) ∧ (∀ l1 l2 l3 l4 x st h, zz_Y 66 (55, [some (.ref x), l1, l2, l3, l4], st, h) = zz_Y 66 (56, [some (.ref x), l1, l2, l3, l4], .ref x :: st, h)) ∧ (∀ ls a st h, zz_Y 66 (56, ls, .ref a :: st, h) = mo_gf (hp_g h a) 4 6 66 59 ls st h) ∧ (∀ ls a st h, zz_Y 66 (59, ls, .int a :: st, h) = if a = nI 0 then zz_Y 66 (70, ls, st, h) else zz_Y 66 (62, ls, st, h)) ∧ (∀ l1 l2 l3 l4 x st h, zz_Y 66 (62, [some (.ref x), l1, l2, l3, l4], st, h) = zz_Y 66 (63, [some (.ref x), l1, l2, l3, l4], .ref x :: st, h)) ∧ (∀ l0 l1 l3 l4 x st h, zz_Y 66 (63, [l0, l1, some (.ref x), l3, l4], st, h) = zz_Y 66 (64, [l0, l1, some (.ref x), l3, l4], .ref x :: st, h)) ∧ (∀ ls a0 a1 h, zz_Y 66 (64, ls, [a1, a0], h) = mo_k 66 67 ls [] (zz_run 68 [a0, a1] h)) ∧ (∀ ls st h, zz_Y 66 (67, ls, st, h) = zz_Y 66 (74, ls, st, h)) ∧ (∀ l1 l2 l3 l4 x st h, zz_Y 66 (70, [some (.ref x), l1, l2, l3, l4], st, h) = zz_Y 66 (71, [some (.ref x), l1, l2, l3, l4], .ref x :: st, h)) ∧ (∀ ls a0 h, zz_Y 66 (71, ls, [a0], h) = mo_k 66 74 ls [] (zz_run 77 [a0] h)) ∧ (∀ l0 l1 l2 l3 l4 x st h, zz_nl l2 = true → zz_Y 66 (74, [l0, l1, l2, l3, l4], .int x :: st, h) = zz_Y 66 (75, [l0, l1, l2, some (.int x), l4], st, h)) ∧ (∀ l0 l1 l2 l4 x st h, zz_Y 66 (75, [l0, l1, l2, some (.int x), l4], st, h) = zz_Y 66 (76, [l0, l1, l2, some (.int x), l4], .int x :: st, h)) ∧ (∀ ls a st h, zz_Y 66 (76, ls, .int a :: st, h) = if a = nI 0 then zz_Y 66 (90, ls, st, h) else zz_Y 66 (79, ls, st, h)) ∧ (∀ l1 l2 l3 l4 x st h, zz_Y 66 (79, [some (.ref x), l1, l2, l3, l4], st, h) = zz_Y 66 (80, [some (.ref x), l1, l2, l3, l4], .ref x :: st, h)) ∧ (∀ ls a st h, zz_Y 66 (80, ls, .ref a :: st, h) = mo_gf (hp_g h a) 4 6 66 83 ls st h) ∧ (∀ ls a st h, zz_Y 66 (83, ls, .int a :: st, h) = if a = nI 0 then zz_Y 66 (86, ls, st, h) else zz_Y 66 (90, ls, st, h)) ∧ (∀ l1 l2 l3 l4 x st h, zz_Y 66 (86, [some (.ref x), l1, l2, l3, l4], st, h) = zz_Y 66 (87, [some (.ref x), l1, l2, l3, l4], .ref x :: st, h)) ∧ (∀ ls a0 h, zz_Y 66 (87, ls, [a0], h) = mo_k 66 90 ls [] (zz_run 72 [a0] h)) ∧ (∀ l0 l1 l2 l4 x st h, zz_Y 66 (90, [l0, l1, l2, some (.int x), l4], st, h) = zz_Y 66 (91, [l0, l1, l2, some (.int x), l4], .int x :: st, h)) ∧ (∀ ls a st h, zz_Y 66 (91, ls, .int a :: st, h) = if a = nI 0 then zz_Y 66 (101, ls, st, h) else zz_Y 66 (94, ls, st, h)) ∧ (∀ l1 l2 l3 l4 x st h, zz_Y 66 (94, [some (.ref x), l1, l2, l3, l4], st, h) = zz_Y 66 (95, [some (.ref x), l1, l2, l3, l4], .ref x :: st, h)) ∧ (∀ ls a st h, zz_Y 66 (95, ls, .ref a :: st, h) = mo_gf (hp_g h a) 4 0 66 98 ls st h) ∧ (∀ ls a0 h, zz_Y 66 (98, ls, [a0], h) = mo_k 66 101 ls [] (zz_run 23 [a0] h)) ∧ (∀ l0 l1 l2 l3 x st h, zz_nl l3 = true → zz_Y 66 (101, [l0, l1, l2, l3, some (.int x)], st, h) = zz_Y 66 (104, [l0, l1, l2, l3, some (.int (x + nI 1))], st, h)) ∧ (∀ ls st h, zz_Y 66 (104, ls, st, h) = zz_Y 66 (33, ls, st, h)) ∧ (∀ l0 l1 l2 l4 x st h, zz_Y 66 (107, [l0, l1, l2, some (.int x), l4], st, h) = zz_Y 66 (108, [l0, l1, l2, some (.int x), l4], .int x :: st, h)) ∧ (∀ ls a st h, zz_Y 66 (108, ls, .int a :: st, h) = if a = nI 0 then zz_Y 66 (134, ls, st, h) else zz_Y 66 (111, ls, st, h)) ∧ (∀ l1 l2 l3 l4 x st h, zz_Y 66 (111, [some (.ref x), l1, l2, l3, l4], st, h) = zz_Y 66 (112, [some (.ref x), l1, l2, l3, l4], .ref x :: st, h)) ∧ (∀ ls a st h, zz_Y 66 (112, ls, .ref a :: st, h) = mo_gf (hp_g h a) 4 6 66 115 ls st h) ∧ (∀ ls a st h, zz_Y 66 (115, ls, .int a :: st, h) = if a = nI 0 then zz_Y 66 (118, ls, st, h) else zz_Y 66 (125, ls, st, h)) ∧ (∀ l1 l2 l3 l4 x st h, zz_Y 66 (118, [some (.ref x), l1, l2, l3, l4], st, h) = zz_Y 66 (119, [some (.ref x), l1, l2, l3, l4], .ref x :: st, h)) ∧ (∀ ls a st h, zz_Y 66 (119, ls, .ref a :: st, h) = mo_gf (hp_g h a) 4 5 66 122 ls st h) ∧ (∀ ls a st h, zz_Y 66 (122, ls, .int a :: st, h) = if nI 0 < a then zz_Y 66 (125, ls, st, h) else zz_Y 66 (134, ls, st, h)) :=
  ⟨fun _ _ _ _ _ _ _ => xl_aln d66_0 rfl,
   fun _ _ _ => xl_ic d66_1 (by decide +kernel),
   fun _ _ _ _ _ => xl_pf d66_2 xco66 xf_4_34 (by decide +kernel) rfl,
   fun _ _ _ _ _ _ _ => xl_aln d66_5 rfl,
   fun _ _ _ => xl_ic d66_6 (by decide +kernel),
   fun _ _ _ _ _ => xl_pf d66_7 xco66 xf_4_38 (by decide +kernel) rfl,
   fun _ _ _ _ _ _ _ => xl_aln d66_10 rfl,
   fun _ _ _ => xl_ic d66_11 (by decide +kernel),
   fun _ _ _ _ _ => xl_pf d66_12 xco66 xf_4_41 (by decide +kernel) rfl,
   fun _ _ _ _ _ _ _ => xl_aln d66_15 rfl,
   fun _ _ _ => xl_ic d66_16 (by decide +kernel),
   fun ls a0 a1 h => xl_cv (As := [a0, a1]) (st := []) d66_17 xco66 xm_4_44 (congrArg Nat.succ xnp67) (by decide +kernel) rfl,
   fun _ _ _ _ _ _ _ => xl_aln d66_20 rfl,
   fun _ _ _ _ => xl_gf d66_21 xco66 xf_4_14,
   fun _ _ _ _ _ _ _ => xl_aln d66_24 rfl,
   fun ls a0 a1 h => xl_cv (As := [a0, a1]) (st := []) d66_25 xco66 xm_4_47 (congrArg Nat.succ xnp22) (by decide +kernel) rfl,
   fun _ _ _ => xl_ic d66_28 (by decide +kernel),
   fun _ _ _ _ _ _ _ _ hc => xl_isn d66_29 xml66 (by decide) (zz_nl_s1 hc),
   fun _ _ _ => xl_ic d66_30 (by decide +kernel),
   fun _ _ _ _ _ _ _ _ hc => xl_is d66_31 xml66 (by decide) (zz_nl_s1 hc),
   fun _ _ _ _ => xl_ifeq d66_34 rfl,
   fun _ _ _ _ _ _ _ => xl_aln d66_37 rfl,
   fun _ _ _ _ => xl_gf d66_38 xco66 xf_4_14,
   fun _ _ _ _ => xl_gf d66_41 xco66 xf_4_51,
   fun _ _ _ _ => xl_ifeq d66_44 rfl,
   fun _ _ _ _ _ _ _ => xl_il d66_47 rfl,
   fun _ _ _ => xl_si d66_49 (by decide +kernel),
   fun _ _ _ _ _ => xl_icge d66_52 rfl,
   fun _ _ _ _ _ _ _ => xl_aln d66_55 rfl,
   fun _ _ _ _ => xl_gf d66_56 xco66 xf_4_54,
   fun _ _ _ _ => xl_ifeq d66_59 rfl,
   fun _ _ _ _ _ _ _ => xl_aln d66_62 rfl,
   fun _ _ _ _ _ _ _ => xl_aln d66_63 rfl,
   fun ls a0 a1 h => xl_cv (As := [a0, a1]) (st := []) d66_64 xco66 xm_4_58 (congrArg Nat.succ xnp68) (by decide +kernel) rfl,
   fun _ _ _ => xl_goto d66_67 rfl,
   fun _ _ _ _ _ _ _ => xl_aln d66_70 rfl,
   fun ls a0 h => xl_cv (As := [a0]) (st := []) d66_71 xco66 xm_4_62 (congrArg Nat.succ xnp77) (by decide +kernel) rfl,
   fun _ _ _ _ _ _ _ _ hc => xl_isn d66_74 xml66 (by decide) (zz_nl_s1 hc),
   fun _ _ _ _ _ _ _ => xl_iln d66_75 rfl,
   fun _ _ _ _ => xl_ifeq d66_76 rfl,
   fun _ _ _ _ _ _ _ => xl_aln d66_79 rfl,
   fun _ _ _ _ => xl_gf d66_80 xco66 xf_4_54,
   fun _ _ _ _ => xl_ifne d66_83 rfl,
   fun _ _ _ _ _ _ _ => xl_aln d66_86 rfl,
   fun ls a0 h => xl_cv (As := [a0]) (st := []) d66_87 xco66 xm_4_66 (congrArg Nat.succ xnp72) (by decide +kernel) rfl,
   fun _ _ _ _ _ _ _ => xl_iln d66_90 rfl,
   fun _ _ _ _ => xl_ifeq d66_91 rfl,
   fun _ _ _ _ _ _ _ => xl_aln d66_94 rfl,
   fun _ _ _ _ => xl_gf d66_95 xco66 xf_4_14,
   fun ls a0 h => xl_cv (As := [a0]) (st := []) d66_98 xco66 xm_4_69 (congrArg Nat.succ xnp23) (by decide +kernel) rfl,
   fun _ _ _ _ _ _ _ hc => xl_inc d66_101 xml66 (by decide) rfl (by decide +kernel) (zz_nl_s1 hc),
   fun _ _ _ => xl_goto d66_104 rfl,
   fun _ _ _ _ _ _ _ => xl_iln d66_107 rfl,
   fun _ _ _ _ => xl_ifeq d66_108 rfl,
   fun _ _ _ _ _ _ _ => xl_aln d66_111 rfl,
   fun _ _ _ _ => xl_gf d66_112 xco66 xf_4_54,
   fun _ _ _ _ => xl_ifne d66_115 rfl,
   fun _ _ _ _ _ _ _ => xl_aln d66_118 rfl,
   fun _ _ _ _ => xl_gf d66_119 xco66 xf_4_72,
   fun _ _ _ _ => xl_ifle d66_122 rfl⟩
theorem x66_p1 : (∀ l1 l2 l3 l4 x st h, zz_Y 66 (125, [some (.ref x), l1, l2, l3, l4], st, h) = zz_Y 66 (126, [some (.ref x), l1, l2, l3, l4], .ref x :: st, h)) ∧ (∀ ls a st h, zz_Y 66 (126, ls, .ref a :: st, h) = mo_gf (hp_g h a) 4 0 66 129 ls st h) ∧ (∀ ls st h, zz_Y 66 (129, ls, st, h) = zz_Y 66 (130, ls, .int (nI 1) :: st, h)) ∧ (∀ ls a0 a1 h, zz_Y 66 (130, ls, [a1, a0], h) = mo_k 66 133 ls [] (zz_run 35 [a0, a1] h)) ∧ (∀ l0 l1 l2 l3 l4 x st h, zz_nl l2 = true → zz_Y 66 (133, [l0, l1, l2, l3, l4], .int x :: st, h) = zz_Y 66 (134, [l0, l1, l2, some (.int x), l4], st, h)) ∧ (∀ l0 l1 l2 l4 x st h, zz_Y 66 (134, [l0, l1, l2, some (.int x), l4], st, h) = zz_Y 66 (135, [l0, l1, l2, some (.int x), l4], .int x :: st, h)) ∧ (∀ ls a st h, zz_Y 66 (135, ls, .int a :: st, h) = if a = nI 0 then zz_Y 66 (142, ls, st, h) else zz_Y 66 (138, ls, st, h)) ∧ (∀ l1 l2 l3 l4 x st h, zz_Y 66 (138, [some (.ref x), l1, l2, l3, l4], st, h) = zz_Y 66 (139, [some (.ref x), l1, l2, l3, l4], .ref x :: st, h)) ∧ (∀ ls a0 h, zz_Y 66 (139, ls, [a0], h) = mo_k 66 142 ls [] (zz_run 78 [a0] h)) ∧ (∀ l0 l1 l2 l4 x st h, zz_Y 66 (142, [l0, l1, l2, some (.int x), l4], st, h) = zz_Y 66 (143, [l0, l1, l2, some (.int x), l4], .int x :: st, h)) ∧ (∀ ls v h, v = nI 0 ∨ v = nI 1 → zz_Y 66 (143, ls, [.int v], h) = some (some (.int v), h)) :=
  ⟨fun _ _ _ _ _ _ _ => xl_aln d66_125 rfl,
   fun _ _ _ _ => xl_gf d66_126 xco66 xf_4_14,
   fun _ _ _ => xl_ic d66_129 (by decide +kernel),
   fun ls a0 a1 h => xl_cv (As := [a0, a1]) (st := []) d66_130 xco66 xm_4_75 (congrArg Nat.succ xnp35) (by decide +kernel) rfl,
   fun _ _ _ _ _ _ _ _ hc => xl_isn d66_133 xml66 (by decide) (zz_nl_s1 hc),
   fun _ _ _ _ _ _ _ => xl_iln d66_134 rfl,
   fun _ _ _ _ => xl_ifeq d66_135 rfl,
   fun _ _ _ _ _ _ _ => xl_aln d66_138 rfl,
   fun ls a0 h => xl_cv (As := [a0]) (st := []) d66_139 xco66 xm_4_79 (congrArg Nat.succ xnp78) (by decide +kernel) rfl,
   fun _ _ _ _ _ _ _ => xl_iln d66_142 rfl,
   fun _ _ _ hc => xl_irz d66_143 xrt66 hc⟩
theorem x66_c33 : ∀ l0 l1 l2 l4 x st h, zz_Y 66 (33, [l0, l1, l2, some (.int x), l4], st, h) = zz_Y 66 (34, [l0, l1, l2, some (.int x), l4], .int x :: st, h) := fun _ _ _ _ _ _ _ => xl_iln d66_33 rfl
/-! 67 FacetSieve$QuestionReader.startDepth(I)V -/
theorem d67_0 : decode (zz_c 67) 0 = .ok (.aload_n 0, 1) := by decide +kernel
theorem d67_1 : decode (zz_c 67) 1 = .ok (.iload_n 1, 1) := by decide +kernel
theorem d67_2 : decode (zz_c 67) 2 = .ok (.putfield 72, 3) := by decide +kernel
theorem d67_5 : decode (zz_c 67) 5 = .ok (.aload_n 0, 1) := by decide +kernel
theorem d67_6 : decode (zz_c 67) 6 = .ok (.getfield 27, 3) := by decide +kernel
theorem d67_9 : decode (zz_c 67) 9 = .ok (.aload_n 0, 1) := by decide +kernel
theorem d67_10 : decode (zz_c 67) 10 = .ok (.getfield 72, 3) := by decide +kernel
theorem d67_13 : decode (zz_c 67) 13 = .ok (.iconst (-1), 1) := by decide +kernel
theorem d67_14 : decode (zz_c 67) 14 = .ok (.iastore, 1) := by decide +kernel
theorem d67_15 : decode (zz_c 67) 15 = .ok (.aload_n 0, 1) := by decide +kernel
theorem d67_16 : decode (zz_c 67) 16 = .ok (.getfield 31, 3) := by decide +kernel
theorem d67_19 : decode (zz_c 67) 19 = .ok (.aload_n 0, 1) := by decide +kernel
theorem d67_20 : decode (zz_c 67) 20 = .ok (.getfield 72, 3) := by decide +kernel
theorem d67_23 : decode (zz_c 67) 23 = .ok (.iconst 0, 1) := by decide +kernel
theorem d67_24 : decode (zz_c 67) 24 = .ok (.iastore, 1) := by decide +kernel
theorem d67_25 : decode (zz_c 67) 25 = .ok (.aload_n 0, 1) := by decide +kernel
theorem d67_26 : decode (zz_c 67) 26 = .ok (.iconst 1, 1) := by decide +kernel
theorem d67_27 : decode (zz_c 67) 27 = .ok (.putfield 54, 3) := by decide +kernel
theorem d67_30 : decode (zz_c 67) 30 = .ok (.return_, 1) := by decide +kernel
theorem x67 : (∀ l1 x st h, zz_Y 67 (0, [some (.ref x), l1], st, h) = zz_Y 67 (1, [some (.ref x), l1], .ref x :: st, h)) ∧ (∀ l0 x st h, zz_Y 67 (1, [l0, some (.int x)], st, h) = zz_Y 67 (2, [l0, some (.int x)], .int x :: st, h)) ∧ (∀ ls a v st h, zz_Y 67 (2, ls, v :: .ref a :: st, h) = mo_pf (hp_g h a) 4 5 .int v a 67 5 ls st h) ∧ (∀ l1 x st h, zz_Y 67 (5, [some (.ref x), l1], st, h) = zz_Y 67 (6, [some (.ref x), l1], .ref x :: st, h)) ∧ (∀ ls a st h, zz_Y 67 (6, ls, .ref a :: st, h) = mo_gf (hp_g h a) 4 2 67 9 ls st h) ∧ (∀ l1 x st h, zz_Y 67 (9, [some (.ref x), l1], st, h) = zz_Y 67 (10, [some (.ref x), l1], .ref x :: st, h)) ∧ (∀ ls a st h, zz_Y 67 (10, ls, .ref a :: st, h) = mo_gf (hp_g h a) 4 5 67 13 ls st h) ∧ (∀ ls st h, zz_Y 67 (13, ls, st, h) = zz_Y 67 (14, ls, .int (-1) :: st, h)) ∧ (∀ ls a i x st h, zz_Y 67 (14, ls, .int x :: .int i :: .ref a :: st, h) = mo_is (hp_g h a) x i a 67 15 ls st h) ∧ (∀ l1 x st h, zz_Y 67 (15, [some (.ref x), l1], st, h) = zz_Y 67 (16, [some (.ref x), l1], .ref x :: st, h)) ∧ (∀ ls a st h, zz_Y 67 (16, ls, .ref a :: st, h) = mo_gf (hp_g h a) 4 3 67 19 ls st h) ∧ (∀ l1 x st h, zz_Y 67 (19, [some (.ref x), l1], st, h) = zz_Y 67 (20, [some (.ref x), l1], .ref x :: st, h)) ∧ (∀ ls a st h, zz_Y 67 (20, ls, .ref a :: st, h) = mo_gf (hp_g h a) 4 5 67 23 ls st h) ∧ (∀ ls st h, zz_Y 67 (23, ls, st, h) = zz_Y 67 (24, ls, .int (nI 0) :: st, h)) ∧ (∀ ls a i x st h, zz_Y 67 (24, ls, .int x :: .int i :: .ref a :: st, h) = mo_is (hp_g h a) x i a 67 25 ls st h) ∧ (∀ l1 x st h, zz_Y 67 (25, [some (.ref x), l1], st, h) = zz_Y 67 (26, [some (.ref x), l1], .ref x :: st, h)) ∧ (∀ ls st h, zz_Y 67 (26, ls, st, h) = zz_Y 67 (27, ls, .int (nI 1) :: st, h)) ∧ (∀ ls a v st h, zz_Y 67 (27, ls, v :: .ref a :: st, h) = mo_pf (hp_g h a) 4 6 .boolean v a 67 30 ls st h) ∧ (∀ ls h, zz_Y 67 (30, ls, [], h) = some (none, h)) :=
  ⟨fun _ _ _ _ => xl_aln d67_0 rfl,
   fun _ _ _ _ => xl_iln d67_1 rfl,
   fun _ _ _ _ _ => xl_pf d67_2 xco67 xf_4_72 (by decide +kernel) rfl,
   fun _ _ _ _ => xl_aln d67_5 rfl,
   fun _ _ _ _ => xl_gf d67_6 xco67 xf_4_27,
   fun _ _ _ _ => xl_aln d67_9 rfl,
   fun _ _ _ _ => xl_gf d67_10 xco67 xf_4_72,
   fun _ _ _ => xl_ic d67_13 (by decide +kernel),
   fun _ _ _ _ _ _ => xl_ist d67_14,
   fun _ _ _ _ => xl_aln d67_15 rfl,
   fun _ _ _ _ => xl_gf d67_16 xco67 xf_4_31,
   fun _ _ _ _ => xl_aln d67_19 rfl,
   fun _ _ _ _ => xl_gf d67_20 xco67 xf_4_72,
   fun _ _ _ => xl_ic d67_23 (by decide +kernel),
   fun _ _ _ _ _ _ => xl_ist d67_24,
   fun _ _ _ _ => xl_aln d67_25 rfl,
   fun _ _ _ => xl_ic d67_26 (by decide +kernel),
   fun _ _ _ _ _ => xl_pf d67_27 xco67 xf_4_54 (by decide +kernel) rfl,
   fun _ _ => xl_r d67_30 xrt67⟩
/-! 68 FacetSieve$QuestionReader.readFact(LFacetSieve$Stock;)Z -/
theorem d68_0 : decode (zz_c 68) 0 = .ok (.aload_n 0, 1) := by decide +kernel
theorem d68_1 : decode (zz_c 68) 1 = .ok (.getfield 14, 3) := by decide +kernel
theorem d68_4 : decode (zz_c 68) 4 = .ok (.getfield 51, 3) := by decide +kernel
theorem d68_7 : decode (zz_c 68) 7 = .ok (.lookupswitch 98 #[(2, 33), (5, 67), (16, 56)], 33) := by decide +kernel
theorem d68_40 : decode (zz_c 68) 40 = .ok (.aload_n 0, 1) := by decide +kernel
theorem d68_41 : decode (zz_c 68) 41 = .ok (.aload_n 1, 1) := by decide +kernel
theorem d68_42 : decode (zz_c 68) 42 = .ok (.getfield 82, 3) := by decide +kernel
theorem d68_45 : decode (zz_c 68) 45 = .ok (.aload_n 1, 1) := by decide +kernel
theorem d68_46 : decode (zz_c 68) 46 = .ok (.getfield 87, 3) := by decide +kernel
theorem d68_49 : decode (zz_c 68) 49 = .ok (.aload_n 0, 1) := by decide +kernel
theorem d68_50 : decode (zz_c 68) 50 = .ok (.getfield 14, 3) := by decide +kernel
theorem d68_53 : decode (zz_c 68) 53 = .ok (.getfield 91, 3) := by decide +kernel
theorem d68_56 : decode (zz_c 68) 56 = .ok (.invokevirtual 95, 3) := by decide +kernel
theorem d68_59 : decode (zz_c 68) 59 = .ok (.invokevirtual 101, 3) := by decide +kernel
theorem d68_62 : decode (zz_c 68) 62 = .ok (.ireturn, 1) := by decide +kernel
theorem d68_63 : decode (zz_c 68) 63 = .ok (.aload_n 0, 1) := by decide +kernel
theorem d68_64 : decode (zz_c 68) 64 = .ok (.aload_n 1, 1) := by decide +kernel
theorem d68_65 : decode (zz_c 68) 65 = .ok (.getfield 82, 3) := by decide +kernel
theorem d68_68 : decode (zz_c 68) 68 = .ok (.bipush 20, 2) := by decide +kernel
theorem d68_70 : decode (zz_c 68) 70 = .ok (.invokevirtual 101, 3) := by decide +kernel
theorem d68_73 : decode (zz_c 68) 73 = .ok (.ireturn, 1) := by decide +kernel
theorem d68_74 : decode (zz_c 68) 74 = .ok (.aload_n 0, 1) := by decide +kernel
theorem d68_75 : decode (zz_c 68) 75 = .ok (.getfield 72, 3) := by decide +kernel
theorem d68_78 : decode (zz_c 68) 78 = .ok (.bipush 6, 2) := by decide +kernel
theorem d68_80 : decode (zz_c 68) 80 = .ok (.if_icmp .lt 13, 3) := by decide +kernel
theorem d68_83 : decode (zz_c 68) 83 = .ok (.aload_n 0, 1) := by decide +kernel
theorem d68_84 : decode (zz_c 68) 84 = .ok (.getfield 14, 3) := by decide +kernel
theorem d68_87 : decode (zz_c 68) 87 = .ok (.bipush 8, 2) := by decide +kernel
theorem d68_89 : decode (zz_c 68) 89 = .ok (.invokevirtual 75, 3) := by decide +kernel
theorem d68_92 : decode (zz_c 68) 92 = .ok (.ireturn, 1) := by decide +kernel
theorem d68_93 : decode (zz_c 68) 93 = .ok (.aload_n 0, 1) := by decide +kernel
theorem d68_94 : decode (zz_c 68) 94 = .ok (.aload_n 0, 1) := by decide +kernel
theorem d68_95 : decode (zz_c 68) 95 = .ok (.getfield 72, 3) := by decide +kernel
theorem d68_98 : decode (zz_c 68) 98 = .ok (.iconst 1, 1) := by decide +kernel
theorem d68_99 : decode (zz_c 68) 99 = .ok (.iadd, 1) := by decide +kernel
theorem d68_100 : decode (zz_c 68) 100 = .ok (.invokevirtual 44, 3) := by decide +kernel
theorem d68_103 : decode (zz_c 68) 103 = .ok (.iconst 1, 1) := by decide +kernel
theorem d68_104 : decode (zz_c 68) 104 = .ok (.ireturn, 1) := by decide +kernel
theorem d68_105 : decode (zz_c 68) 105 = .ok (.aload_n 0, 1) := by decide +kernel
theorem d68_106 : decode (zz_c 68) 106 = .ok (.getfield 14, 3) := by decide +kernel
theorem d68_109 : decode (zz_c 68) 109 = .ok (.iconst 1, 1) := by decide +kernel
theorem d68_110 : decode (zz_c 68) 110 = .ok (.invokevirtual 75, 3) := by decide +kernel
theorem d68_113 : decode (zz_c 68) 113 = .ok (.ireturn, 1) := by decide +kernel
theorem x68 : (∀ l1 x st h, zz_Y 68 (0, [some (.ref x), l1], st, h) = zz_Y 68 (1, [some (.ref x), l1], .ref x :: st, h)) ∧ (∀ ls a st h, zz_Y 68 (1, ls, .ref a :: st, h) = mo_gf (hp_g h a) 4 0 68 4 ls st h) ∧ (∀ ls a st h, zz_Y 68 (4, ls, .ref a :: st, h) = mo_gf (hp_g h a) 9 2 68 7 ls st h) ∧ (∀ ls x st h, zz_Y 68 (7, ls, .int x :: st, h) = zz_Y 68 (zz_sw [(nI 2, 40), (nI 5, 74), (nI 16, 63)] 105 x, ls, st, h)) ∧ (∀ l1 x st h, zz_Y 68 (40, [some (.ref x), l1], st, h) = zz_Y 68 (41, [some (.ref x), l1], .ref x :: st, h)) ∧ (∀ l0 x st h, zz_Y 68 (41, [l0, some (.ref x)], st, h) = zz_Y 68 (42, [l0, some (.ref x)], .ref x :: st, h)) ∧ (∀ ls a st h, zz_Y 68 (42, ls, .ref a :: st, h) = mo_gf (hp_g h a) 7 3 68 45 ls st h) ∧ (∀ l0 x st h, zz_Y 68 (45, [l0, some (.ref x)], st, h) = zz_Y 68 (46, [l0, some (.ref x)], .ref x :: st, h)) ∧ (∀ ls a st h, zz_Y 68 (46, ls, .ref a :: st, h) = mo_gf (hp_g h a) 7 0 68 49 ls st h) ∧ (∀ l1 x st h, zz_Y 68 (49, [some (.ref x), l1], st, h) = zz_Y 68 (50, [some (.ref x), l1], .ref x :: st, h)) ∧ (∀ ls a st h, zz_Y 68 (50, ls, .ref a :: st, h) = mo_gf (hp_g h a) 4 0 68 53 ls st h) ∧ (∀ ls a st h, zz_Y 68 (53, ls, .ref a :: st, h) = mo_gf (hp_g h a) 9 5 68 56 ls st h) ∧ (∀ ls a0 a1 s0 s1 h, zz_Y 68 (56, ls, [a1, a0, s0, s1], h) = mo_k 68 59 ls [s0, s1] (zz_run 38 [a0, a1] h)) ∧ (∀ ls a0 a1 a2 h, zz_Y 68 (59, ls, [a2, a1, a0], h) = mo_k 68 62 ls [] (zz_run 69 [a0, a1, a2] h)) ∧ (∀ ls v h, v = nI 0 ∨ v = nI 1 → zz_Y 68 (62, ls, [.int v], h) = some (some (.int v), h)) ∧ (∀ l1 x st h, zz_Y 68 (63, [some (.ref x), l1], st, h) = zz_Y 68 (64, [some (.ref x), l1], .ref x :: st, h)) ∧ (∀ l0 x st h, zz_Y 68 (64, [l0, some (.ref x)], st, h) = zz_Y 68 (65, [l0, some (.ref x)], .ref x :: st, h)) ∧ (∀ ls a st h, zz_Y 68 (65, ls, .ref a :: st, h) = mo_gf (hp_g h a) 7 3 68 68 ls st h) ∧ (∀ ls st h, zz_Y 68 (68, ls, st, h) = zz_Y 68 (70, ls, .int (nI 20) :: st, h)) ∧ (∀ ls a0 a1 a2 h, zz_Y 68 (70, ls, [a2, a1, a0], h) = mo_k 68 73 ls [] (zz_run 69 [a0, a1, a2] h)) ∧ (∀ ls v h, v = nI 0 ∨ v = nI 1 → zz_Y 68 (73, ls, [.int v], h) = some (some (.int v), h)) ∧ (∀ l1 x st h, zz_Y 68 (74, [some (.ref x), l1], st, h) = zz_Y 68 (75, [some (.ref x), l1], .ref x :: st, h)) ∧ (∀ ls a st h, zz_Y 68 (75, ls, .ref a :: st, h) = mo_gf (hp_g h a) 4 5 68 78 ls st h) ∧ (∀ ls st h, zz_Y 68 (78, ls, st, h) = zz_Y 68 (80, ls, .int (nI 6) :: st, h)) ∧ (∀ ls a b st h, zz_Y 68 (80, ls, .int b :: .int a :: st, h) = if a < b then zz_Y 68 (93, ls, st, h) else zz_Y 68 (83, ls, st, h)) ∧ (∀ l1 x st h, zz_Y 68 (83, [some (.ref x), l1], st, h) = zz_Y 68 (84, [some (.ref x), l1], .ref x :: st, h)) ∧ (∀ ls a st h, zz_Y 68 (84, ls, .ref a :: st, h) = mo_gf (hp_g h a) 4 0 68 87 ls st h) ∧ (∀ ls st h, zz_Y 68 (87, ls, st, h) = zz_Y 68 (89, ls, .int (nI 8) :: st, h)) ∧ (∀ ls a0 a1 h, zz_Y 68 (89, ls, [a1, a0], h) = mo_k 68 92 ls [] (zz_run 35 [a0, a1] h)) ∧ (∀ ls v h, v = nI 0 ∨ v = nI 1 → zz_Y 68 (92, ls, [.int v], h) = some (some (.int v), h)) ∧ (∀ l1 x st h, zz_Y 68 (93, [some (.ref x), l1], st, h) = zz_Y 68 (94, [some (.ref x), l1], .ref x :: st, h)) ∧ (∀ l1 x st h, zz_Y 68 (94, [some (.ref x), l1], st, h) = zz_Y 68 (95, [some (.ref x), l1], .ref x :: st, h)) ∧ (∀ ls a st h, zz_Y 68 (95, ls, .ref a :: st, h) = mo_gf (hp_g h a) 4 5 68 98 ls st h) ∧ (∀ ls st h, zz_Y 68 (98, ls, st, h) = zz_Y 68 (99, ls, .int (nI 1) :: st, h)) ∧ (∀ ls a b st h, zz_Y 68 (99, ls, .int b :: .int a :: st, h) = zz_Y 68 (100, ls, .int (a + b) :: st, h)) ∧ (∀ ls a0 a1 h, zz_Y 68 (100, ls, [a1, a0], h) = mo_k 68 103 ls [] (zz_run 67 [a0, a1] h)) ∧ (∀ ls st h, zz_Y 68 (103, ls, st, h) = zz_Y 68 (104, ls, .int (nI 1) :: st, h)) ∧ (∀ ls v h, v = nI 0 ∨ v = nI 1 → zz_Y 68 (104, ls, [.int v], h) = some (some (.int v), h)) ∧ (∀ l1 x st h, zz_Y 68 (105, [some (.ref x), l1], st, h) = zz_Y 68 (106, [some (.ref x), l1], .ref x :: st, h)) ∧ (∀ ls a st h, zz_Y 68 (106, ls, .ref a :: st, h) = mo_gf (hp_g h a) 4 0 68 109 ls st h) ∧ (∀ ls st h, zz_Y 68 (109, ls, st, h) = zz_Y 68 (110, ls, .int (nI 1) :: st, h)) ∧ (∀ ls a0 a1 h, zz_Y 68 (110, ls, [a1, a0], h) = mo_k 68 113 ls [] (zz_run 35 [a0, a1] h)) ∧ (∀ ls v h, v = nI 0 ∨ v = nI 1 → zz_Y 68 (113, ls, [.int v], h) = some (some (.int v), h)) :=
  ⟨fun _ _ _ _ => xl_aln d68_0 rfl,
   fun _ _ _ _ => xl_gf d68_1 xco68 xf_4_14,
   fun _ _ _ _ => xl_gf d68_4 xco68 xf_4_51,
   fun _ _ _ _ => xl_lks (qs := [(nI 2, 40), (nI 5, 74), (nI 16, 63)]) d68_7 (by decide +kernel) rfl (by decide +kernel),
   fun _ _ _ _ => xl_aln d68_40 rfl,
   fun _ _ _ _ => xl_aln d68_41 rfl,
   fun _ _ _ _ => xl_gf d68_42 xco68 xf_4_82,
   fun _ _ _ _ => xl_aln d68_45 rfl,
   fun _ _ _ _ => xl_gf d68_46 xco68 xf_4_87,
   fun _ _ _ _ => xl_aln d68_49 rfl,
   fun _ _ _ _ => xl_gf d68_50 xco68 xf_4_14,
   fun _ _ _ _ => xl_gf d68_53 xco68 xf_4_91,
   fun ls a0 a1 s0 s1 h => xl_cv (As := [a0, a1]) (st := [s0, s1]) d68_56 xco68 xm_4_95 (congrArg Nat.succ xnp38) (by decide +kernel) rfl,
   fun ls a0 a1 a2 h => xl_cv (As := [a0, a1, a2]) (st := []) d68_59 xco68 xm_4_101 (congrArg Nat.succ xnp69) (by decide +kernel) rfl,
   fun _ _ _ hc => xl_irz d68_62 xrt68 hc,
   fun _ _ _ _ => xl_aln d68_63 rfl,
   fun _ _ _ _ => xl_aln d68_64 rfl,
   fun _ _ _ _ => xl_gf d68_65 xco68 xf_4_82,
   fun _ _ _ => xl_bi d68_68 (by decide +kernel),
   fun ls a0 a1 a2 h => xl_cv (As := [a0, a1, a2]) (st := []) d68_70 xco68 xm_4_101 (congrArg Nat.succ xnp69) (by decide +kernel) rfl,
   fun _ _ _ hc => xl_irz d68_73 xrt68 hc,
   fun _ _ _ _ => xl_aln d68_74 rfl,
   fun _ _ _ _ => xl_gf d68_75 xco68 xf_4_72,
   fun _ _ _ => xl_bi d68_78 (by decide +kernel),
   fun _ _ _ _ _ => xl_iclt d68_80 rfl,
   fun _ _ _ _ => xl_aln d68_83 rfl,
   fun _ _ _ _ => xl_gf d68_84 xco68 xf_4_14,
   fun _ _ _ => xl_bi d68_87 (by decide +kernel),
   fun ls a0 a1 h => xl_cv (As := [a0, a1]) (st := []) d68_89 xco68 xm_4_75 (congrArg Nat.succ xnp35) (by decide +kernel) rfl,
   fun _ _ _ hc => xl_irz d68_92 xrt68 hc,
   fun _ _ _ _ => xl_aln d68_93 rfl,
   fun _ _ _ _ => xl_aln d68_94 rfl,
   fun _ _ _ _ => xl_gf d68_95 xco68 xf_4_72,
   fun _ _ _ => xl_ic d68_98 (by decide +kernel),
   fun _ _ _ _ _ => xl_iadd d68_99,
   fun ls a0 a1 h => xl_cv (As := [a0, a1]) (st := []) d68_100 xco68 xm_4_44 (congrArg Nat.succ xnp67) (by decide +kernel) rfl,
   fun _ _ _ => xl_ic d68_103 (by decide +kernel),
   fun _ _ _ hc => xl_irz d68_104 xrt68 hc,
   fun _ _ _ _ => xl_aln d68_105 rfl,
   fun _ _ _ _ => xl_gf d68_106 xco68 xf_4_14,
   fun _ _ _ => xl_ic d68_109 (by decide +kernel),
   fun ls a0 a1 h => xl_cv (As := [a0, a1]) (st := []) d68_110 xco68 xm_4_75 (congrArg Nat.succ xnp35) (by decide +kernel) rfl,
   fun _ _ _ hc => xl_irz d68_113 xrt68 hc⟩
/-! 69 FacetSieve$QuestionReader.readSet(LFacetSieve$Sets;I)Z -/
theorem d69_0 : decode (zz_c 69) 0 = .ok (.iload_n 2, 1) := by decide +kernel
theorem d69_1 : decode (zz_c 69) 1 = .ok (.iconst (-1), 1) := by decide +kernel
theorem d69_2 : decode (zz_c 69) 2 = .ok (.if_icmp .ne 12, 3) := by decide +kernel
theorem d69_5 : decode (zz_c 69) 5 = .ok (.aload_n 0, 1) := by decide +kernel
theorem d69_6 : decode (zz_c 69) 6 = .ok (.getfield 14, 3) := by decide +kernel
theorem d69_9 : decode (zz_c 69) 9 = .ok (.iconst 3, 1) := by decide +kernel
theorem d69_10 : decode (zz_c 69) 10 = .ok (.invokevirtual 75, 3) := by decide +kernel
theorem d69_13 : decode (zz_c 69) 13 = .ok (.ireturn, 1) := by decide +kernel
theorem d69_14 : decode (zz_c 69) 14 = .ok (.aload_n 0, 1) := by decide +kernel
theorem d69_15 : decode (zz_c 69) 15 = .ok (.getfield 38, 3) := by decide +kernel
theorem d69_18 : decode (zz_c 69) 18 = .ok (.bipush 30, 2) := by decide +kernel
theorem d69_20 : decode (zz_c 69) 20 = .ok (.if_icmp .lt 13, 3) := by decide +kernel
theorem d69_23 : decode (zz_c 69) 23 = .ok (.aload_n 0, 1) := by decide +kernel
theorem d69_24 : decode (zz_c 69) 24 = .ok (.getfield 14, 3) := by decide +kernel
theorem d69_27 : decode (zz_c 69) 27 = .ok (.bipush 7, 2) := by decide +kernel
theorem d69_29 : decode (zz_c 69) 29 = .ok (.invokevirtual 75, 3) := by decide +kernel
theorem d69_32 : decode (zz_c 69) 32 = .ok (.ireturn, 1) := by decide +kernel
theorem d69_33 : decode (zz_c 69) 33 = .ok (.aload_n 0, 1) := by decide +kernel
theorem d69_34 : decode (zz_c 69) 34 = .ok (.dup, 1) := by decide +kernel
theorem d69_35 : decode (zz_c 69) 35 = .ok (.getfield 38, 3) := by decide +kernel
theorem d69_38 : decode (zz_c 69) 38 = .ok (.iconst 1, 1) := by decide +kernel
theorem d69_39 : decode (zz_c 69) 39 = .ok (.iadd, 1) := by decide +kernel
theorem d69_40 : decode (zz_c 69) 40 = .ok (.putfield 38, 3) := by decide +kernel
theorem d69_43 : decode (zz_c 69) 43 = .ok (.aload_n 0, 1) := by decide +kernel
theorem d69_44 : decode (zz_c 69) 44 = .ok (.getfield 23, 3) := by decide +kernel
theorem d69_47 : decode (zz_c 69) 47 = .ok (.aload_n 0, 1) := by decide +kernel
theorem d69_48 : decode (zz_c 69) 48 = .ok (.getfield 34, 3) := by decide +kernel
theorem d69_51 : decode (zz_c 69) 51 = .ok (.aload_n 1, 1) := by decide +kernel
theorem d69_52 : decode (zz_c 69) 52 = .ok (.iload_n 2, 1) := by decide +kernel
theorem d69_53 : decode (zz_c 69) 53 = .ok (.invokevirtual 105, 3) := by decide +kernel
theorem d69_56 : decode (zz_c 69) 56 = .ok (.aload_n 0, 1) := by decide +kernel
theorem d69_57 : decode (zz_c 69) 57 = .ok (.dup, 1) := by decide +kernel
theorem d69_58 : decode (zz_c 69) 58 = .ok (.getfield 34, 3) := by decide +kernel
theorem d69_61 : decode (zz_c 69) 61 = .ok (.iconst 1, 1) := by decide +kernel
theorem d69_62 : decode (zz_c 69) 62 = .ok (.iadd, 1) := by decide +kernel
theorem d69_63 : decode (zz_c 69) 63 = .ok (.putfield 34, 3) := by decide +kernel
theorem d69_66 : decode (zz_c 69) 66 = .ok (.aload_n 0, 1) := by decide +kernel
theorem d69_67 : decode (zz_c 69) 67 = .ok (.iconst 0, 1) := by decide +kernel
theorem d69_68 : decode (zz_c 69) 68 = .ok (.putfield 54, 3) := by decide +kernel
theorem d69_71 : decode (zz_c 69) 71 = .ok (.iconst 1, 1) := by decide +kernel
theorem d69_72 : decode (zz_c 69) 72 = .ok (.ireturn, 1) := by decide +kernel
theorem x69 : (∀ l0 l1 x st h, zz_Y 69 (0, [l0, l1, some (.int x)], st, h) = zz_Y 69 (1, [l0, l1, some (.int x)], .int x :: st, h)) ∧ (∀ ls st h, zz_Y 69 (1, ls, st, h) = zz_Y 69 (2, ls, .int (-1) :: st, h)) ∧ (∀ ls a b st h, zz_Y 69 (2, ls, .int b :: .int a :: st, h) = if a = b then zz_Y 69 (5, ls, st, h) else zz_Y 69 (14, ls, st, h)) ∧ (∀ l1 l2 x st h, zz_Y 69 (5, [some (.ref x), l1, l2], st, h) = zz_Y 69 (6, [some (.ref x), l1, l2], .ref x :: st, h)) ∧ (∀ ls a st h, zz_Y 69 (6, ls, .ref a :: st, h) = mo_gf (hp_g h a) 4 0 69 9 ls st h) ∧ (∀ ls st h, zz_Y 69 (9, ls, st, h) = zz_Y 69 (10, ls, .int (nI 3) :: st, h)) ∧ (∀ ls a0 a1 h, zz_Y 69 (10, ls, [a1, a0], h) = mo_k 69 13 ls [] (zz_run 35 [a0, a1] h)) ∧ (∀ ls v h, v = nI 0 ∨ v = nI 1 → zz_Y 69 (13, ls, [.int v], h) = some (some (.int v), h)) ∧ (∀ l1 l2 x st h, zz_Y 69 (14, [some (.ref x), l1, l2], st, h) = zz_Y 69 (15, [some (.ref x), l1, l2], .ref x :: st, h)) ∧ (∀ ls a st h, zz_Y 69 (15, ls, .ref a :: st, h) = mo_gf (hp_g h a) 4 7 69 18 ls st h) ∧ (∀ ls st h, zz_Y 69 (18, ls, st, h) = zz_Y 69 (20, ls, .int (nI 30) :: st, h)) ∧ (∀ ls a b st h, zz_Y 69 (20, ls, .int b :: .int a :: st, h) = if a < b then zz_Y 69 (33, ls, st, h) else zz_Y 69 (23, ls, st, h)) ∧ (∀ l1 l2 x st h, zz_Y 69 (23, [some (.ref x), l1, l2], st, h) = zz_Y 69 (24, [some (.ref x), l1, l2], .ref x :: st, h)) ∧ (∀ ls a st h, zz_Y 69 (24, ls, .ref a :: st, h) = mo_gf (hp_g h a) 4 0 69 27 ls st h) ∧ (∀ ls st h, zz_Y 69 (27, ls, st, h) = zz_Y 69 (29, ls, .int (nI 7) :: st, h)) ∧ (∀ ls a0 a1 h, zz_Y 69 (29, ls, [a1, a0], h) = mo_k 69 32 ls [] (zz_run 35 [a0, a1] h)) ∧ (∀ ls v h, v = nI 0 ∨ v = nI 1 → zz_Y 69 (32, ls, [.int v], h) = some (some (.int v), h)) ∧ (∀ l1 l2 x st h, zz_Y 69 (33, [some (.ref x), l1, l2], st, h) = zz_Y 69 (34, [some (.ref x), l1, l2], .ref x :: st, h)) ∧ (∀ ls a st h, zz_Y 69 (34, ls, .ref a :: st, h) = zz_Y 69 (35, ls, .ref a :: .ref a :: st, h)) ∧ (∀ ls a st h, zz_Y 69 (35, ls, .ref a :: st, h) = mo_gf (hp_g h a) 4 7 69 38 ls st h) ∧ (∀ ls st h, zz_Y 69 (38, ls, st, h) = zz_Y 69 (39, ls, .int (nI 1) :: st, h)) ∧ (∀ ls a b st h, zz_Y 69 (39, ls, .int b :: .int a :: st, h) = zz_Y 69 (40, ls, .int (a + b) :: st, h)) ∧ (∀ ls a v st h, zz_Y 69 (40, ls, v :: .ref a :: st, h) = mo_pf (hp_g h a) 4 7 .int v a 69 43 ls st h) ∧ (∀ l1 l2 x st h, zz_Y 69 (43, [some (.ref x), l1, l2], st, h) = zz_Y 69 (44, [some (.ref x), l1, l2], .ref x :: st, h)) ∧ (∀ ls a st h, zz_Y 69 (44, ls, .ref a :: st, h) = mo_gf (hp_g h a) 4 1 69 47 ls st h) ∧ (∀ l1 l2 x st h, zz_Y 69 (47, [some (.ref x), l1, l2], st, h) = zz_Y 69 (48, [some (.ref x), l1, l2], .ref x :: st, h)) ∧ (∀ ls a st h, zz_Y 69 (48, ls, .ref a :: st, h) = mo_gf (hp_g h a) 4 4 69 51 ls st h) ∧ (∀ l0 l2 x st h, zz_Y 69 (51, [l0, some (.ref x), l2], st, h) = zz_Y 69 (52, [l0, some (.ref x), l2], .ref x :: st, h)) ∧ (∀ l0 l1 x st h, zz_Y 69 (52, [l0, l1, some (.int x)], st, h) = zz_Y 69 (53, [l0, l1, some (.int x)], .int x :: st, h)) ∧ (∀ ls a0 a1 a2 a3 h, zz_Y 69 (53, ls, [a3, a2, a1, a0], h) = mo_k 69 56 ls [] (zz_run 70 [a0, a1, a2, a3] h)) ∧ (∀ l1 l2 x st h, zz_Y 69 (56, [some (.ref x), l1, l2], st, h) = zz_Y 69 (57, [some (.ref x), l1, l2], .ref x :: st, h)) ∧ (∀ ls a st h, zz_Y 69 (57, ls, .ref a :: st, h) = zz_Y 69 (58, ls, .ref a :: .ref a :: st, h)) ∧ (∀ ls a st h, zz_Y 69 (58, ls, .ref a :: st, h) = mo_gf (hp_g h a) 4 4 69 61 ls st h) ∧ (∀ ls st h, zz_Y 69 (61, ls, st, h) = zz_Y 69 (62, ls, .int (nI 1) :: st, h)) ∧ (∀ ls a b st h, zz_Y 69 (62, ls, .int b :: .int a :: st, h) = zz_Y 69 (63, ls, .int (a + b) :: st, h)) ∧ (∀ ls a v st h, zz_Y 69 (63, ls, v :: .ref a :: st, h) = mo_pf (hp_g h a) 4 4 .int v a 69 66 ls st h) ∧ (∀ l1 l2 x st h, zz_Y 69 (66, [some (.ref x), l1, l2], st, h) = zz_Y 69 (67, [some (.ref x), l1, l2], .ref x :: st, h)) ∧ (∀ ls st h, zz_Y 69 (67, ls, st, h) = zz_Y 69 (68, ls, .int (nI 0) :: st, h)) ∧ (∀ ls a v st h, zz_Y 69 (68, ls, v :: .ref a :: st, h) = mo_pf (hp_g h a) 4 6 .boolean v a 69 71 ls st h) ∧ (∀ ls st h, zz_Y 69 (71, ls, st, h) = zz_Y 69 (72, ls, .int (nI 1) :: st, h)) ∧ (∀ ls v h, v = nI 0 ∨ v = nI 1 → zz_Y 69 (72, ls, [.int v], h) = some (some (.int v), h)) :=
  ⟨fun _ _ _ _ _ => xl_iln d69_0 rfl,
   fun _ _ _ => xl_ic d69_1 (by decide +kernel),
   fun _ _ _ _ _ => xl_icne d69_2 rfl,
   fun _ _ _ _ _ => xl_aln d69_5 rfl,
   fun _ _ _ _ => xl_gf d69_6 xco69 xf_4_14,
   fun _ _ _ => xl_ic d69_9 (by decide +kernel),
   fun ls a0 a1 h => xl_cv (As := [a0, a1]) (st := []) d69_10 xco69 xm_4_75 (congrArg Nat.succ xnp35) (by decide +kernel) rfl,
   fun _ _ _ hc => xl_irz d69_13 xrt69 hc,
   fun _ _ _ _ _ => xl_aln d69_14 rfl,
   fun _ _ _ _ => xl_gf d69_15 xco69 xf_4_38,
   fun _ _ _ => xl_bi d69_18 (by decide +kernel),
   fun _ _ _ _ _ => xl_iclt d69_20 rfl,
   fun _ _ _ _ _ => xl_aln d69_23 rfl,
   fun _ _ _ _ => xl_gf d69_24 xco69 xf_4_14,
   fun _ _ _ => xl_bi d69_27 (by decide +kernel),
   fun ls a0 a1 h => xl_cv (As := [a0, a1]) (st := []) d69_29 xco69 xm_4_75 (congrArg Nat.succ xnp35) (by decide +kernel) rfl,
   fun _ _ _ hc => xl_irz d69_32 xrt69 hc,
   fun _ _ _ _ _ => xl_aln d69_33 rfl,
   fun _ _ _ _ => xl_dupr d69_34,
   fun _ _ _ _ => xl_gf d69_35 xco69 xf_4_38,
   fun _ _ _ => xl_ic d69_38 (by decide +kernel),
   fun _ _ _ _ _ => xl_iadd d69_39,
   fun _ _ _ _ _ => xl_pf d69_40 xco69 xf_4_38 (by decide +kernel) rfl,
   fun _ _ _ _ _ => xl_aln d69_43 rfl,
   fun _ _ _ _ => xl_gf d69_44 xco69 xf_4_23,
   fun _ _ _ _ _ => xl_aln d69_47 rfl,
   fun _ _ _ _ => xl_gf d69_48 xco69 xf_4_34,
   fun _ _ _ _ _ => xl_aln d69_51 rfl,
   fun _ _ _ _ _ => xl_iln d69_52 rfl,
   fun ls a0 a1 a2 a3 h => xl_cv (As := [a0, a1, a2, a3]) (st := []) d69_53 xco69 xm_4_105 (congrArg Nat.succ xnp70) (by decide +kernel) rfl,
   fun _ _ _ _ _ => xl_aln d69_56 rfl,
   fun _ _ _ _ => xl_dupr d69_57,
   fun _ _ _ _ => xl_gf d69_58 xco69 xf_4_34,
   fun _ _ _ => xl_ic d69_61 (by decide +kernel),
   fun _ _ _ _ _ => xl_iadd d69_62,
   fun _ _ _ _ _ => xl_pf d69_63 xco69 xf_4_34 (by decide +kernel) rfl,
   fun _ _ _ _ _ => xl_aln d69_66 rfl,
   fun _ _ _ => xl_ic d69_67 (by decide +kernel),
   fun _ _ _ _ _ => xl_pf d69_68 xco69 xf_4_54 (by decide +kernel) rfl,
   fun _ _ _ => xl_ic d69_71 (by decide +kernel),
   fun _ _ _ hc => xl_irz d69_72 xrt69 hc⟩
/-! 70 FacetSieve$Sets.copyRow(ILFacetSieve$Sets;I)V -/
theorem d70_0 : decode (zz_c 70) 0 = .ok (.iconst 0, 1) := by decide +kernel
theorem d70_1 : decode (zz_c 70) 1 = .ok (.istore 4, 2) := by decide +kernel
theorem d70_3 : decode (zz_c 70) 3 = .ok (.iload 4, 2) := by decide +kernel
theorem d70_5 : decode (zz_c 70) 5 = .ok (.bipush 8, 2) := by decide +kernel
theorem d70_7 : decode (zz_c 70) 7 = .ok (.if_icmp .ge 23, 3) := by decide +kernel
theorem d70_10 : decode (zz_c 70) 10 = .ok (.aload_n 0, 1) := by decide +kernel
theorem d70_11 : decode (zz_c 70) 11 = .ok (.iload_n 1, 1) := by decide +kernel
theorem d70_12 : decode (zz_c 70) 12 = .ok (.iload 4, 2) := by decide +kernel
theorem d70_14 : decode (zz_c 70) 14 = .ok (.aload_n 2, 1) := by decide +kernel
theorem d70_15 : decode (zz_c 70) 15 = .ok (.iload_n 3, 1) := by decide +kernel
theorem d70_16 : decode (zz_c 70) 16 = .ok (.iload 4, 2) := by decide +kernel
theorem d70_18 : decode (zz_c 70) 18 = .ok (.invokevirtual 29, 3) := by decide +kernel
theorem d70_21 : decode (zz_c 70) 21 = .ok (.invokevirtual 50, 3) := by decide +kernel
theorem d70_24 : decode (zz_c 70) 24 = .ok (.iinc 4 1, 3) := by decide +kernel
theorem d70_27 : decode (zz_c 70) 27 = .ok (.goto (-24), 3) := by decide +kernel
theorem d70_30 : decode (zz_c 70) 30 = .ok (.return_, 1) := by decide +kernel
theorem x70 : (∀ ls st h, zz_Y 70 (0, ls, st, h) = zz_Y 70 (1, ls, .int (nI 0) :: st, h)) ∧ (∀ l0 l1 l2 l3 l4 x st h, zz_nl l3 = true → zz_Y 70 (1, [l0, l1, l2, l3, l4], .int x :: st, h) = zz_Y 70 (3, [l0, l1, l2, l3, some (.int x)], st, h)) ∧ (∀ ls st h, zz_Y 70 (5, ls, st, h) = zz_Y 70 (7, ls, .int (nI 8) :: st, h)) ∧ (∀ ls a b st h, zz_Y 70 (7, ls, .int b :: .int a :: st, h) = if a < b then zz_Y 70 (10, ls, st, h) else zz_Y 70 (30, ls, st, h)) ∧ (∀ l1 l2 l3 l4 x st h, zz_Y 70 (10, [some (.ref x), l1, l2, l3, l4], st, h) = zz_Y 70 (11, [some (.ref x), l1, l2, l3, l4], .ref x :: st, h)) ∧ (∀ l0 l2 l3 l4 x st h, zz_Y 70 (11, [l0, some (.int x), l2, l3, l4], st, h) = zz_Y 70 (12, [l0, some (.int x), l2, l3, l4], .int x :: st, h)) ∧ (∀ l0 l1 l2 l3 x st h, zz_Y 70 (12, [l0, l1, l2, l3, some (.int x)], st, h) = zz_Y 70 (14, [l0, l1, l2, l3, some (.int x)], .int x :: st, h)) ∧ (∀ l0 l1 l3 l4 x st h, zz_Y 70 (14, [l0, l1, some (.ref x), l3, l4], st, h) = zz_Y 70 (15, [l0, l1, some (.ref x), l3, l4], .ref x :: st, h)) ∧ (∀ l0 l1 l2 l4 x st h, zz_Y 70 (15, [l0, l1, l2, some (.int x), l4], st, h) = zz_Y 70 (16, [l0, l1, l2, some (.int x), l4], .int x :: st, h)) ∧ (∀ l0 l1 l2 l3 x st h, zz_Y 70 (16, [l0, l1, l2, l3, some (.int x)], st, h) = zz_Y 70 (18, [l0, l1, l2, l3, some (.int x)], .int x :: st, h)) ∧ (∀ ls a0 a1 a2 s0 s1 s2 h, zz_Y 70 (18, ls, [a2, a1, a0, s0, s1, s2], h) = mo_k 70 21 ls [s0, s1, s2] (zz_run 63 [a0, a1, a2] h)) ∧ (∀ ls a0 a1 a2 a3 h, zz_Y 70 (21, ls, [a3, a2, a1, a0], h) = mo_k 70 24 ls [] (zz_run 71 [a0, a1, a2, a3] h)) ∧ (∀ l0 l1 l2 l3 x st h, zz_nl l3 = true → zz_Y 70 (24, [l0, l1, l2, l3, some (.int x)], st, h) = zz_Y 70 (27, [l0, l1, l2, l3, some (.int (x + nI 1))], st, h)) ∧ (∀ ls st h, zz_Y 70 (27, ls, st, h) = zz_Y 70 (3, ls, st, h)) ∧ (∀ ls h, zz_Y 70 (30, ls, [], h) = some (none, h)) :=
  ⟨fun _ _ _ => xl_ic d70_0 (by decide +kernel),
   fun _ _ _ _ _ _ _ _ hc => xl_is d70_1 xml70 (by decide) (zz_nl_s1 hc),
   fun _ _ _ => xl_bi d70_5 (by decide +kernel),
   fun _ _ _ _ _ => xl_icge d70_7 rfl,
   fun _ _ _ _ _ _ _ => xl_aln d70_10 rfl,
   fun _ _ _ _ _ _ _ => xl_iln d70_11 rfl,
   fun _ _ _ _ _ _ _ => xl_il d70_12 rfl,
   fun _ _ _ _ _ _ _ => xl_aln d70_14 rfl,
   fun _ _ _ _ _ _ _ => xl_iln d70_15 rfl,
   fun _ _ _ _ _ _ _ => xl_il d70_16 rfl,
   fun ls a0 a1 a2 s0 s1 s2 h => xl_cv (As := [a0, a1, a2]) (st := [s0, s1, s2]) d70_18 xco70 xm_6_29 (congrArg Nat.succ xnp63) (by decide +kernel) rfl,
   fun ls a0 a1 a2 a3 h => xl_cv (As := [a0, a1, a2, a3]) (st := []) d70_21 xco70 xm_6_50 (congrArg Nat.succ xnp71) (by decide +kernel) rfl,
   fun _ _ _ _ _ _ _ hc => xl_inc d70_24 xml70 (by decide) rfl (by decide +kernel) (zz_nl_s1 hc),
   fun _ _ _ => xl_goto d70_27 rfl,
   fun _ _ => xl_r d70_30 xrt70⟩
theorem x70_c3 : ∀ l0 l1 l2 l3 x st h, zz_Y 70 (3, [l0, l1, l2, l3, some (.int x)], st, h) = zz_Y 70 (5, [l0, l1, l2, l3, some (.int x)], .int x :: st, h) := fun _ _ _ _ _ _ _ => xl_il d70_3 rfl
/-! 71 FacetSieve$Sets.setBits(III)V -/
theorem d71_0 : decode (zz_c 71) 0 = .ok (.aload_n 0, 1) := by decide +kernel
theorem d71_1 : decode (zz_c 71) 1 = .ok (.iload_n 1, 1) := by decide +kernel
theorem d71_2 : decode (zz_c 71) 2 = .ok (.iload_n 2, 1) := by decide +kernel
theorem d71_3 : decode (zz_c 71) 3 = .ok (.invokevirtual 25, 3) := by decide +kernel
theorem d71_6 : decode (zz_c 71) 6 = .ok (.ifCond .eq 15, 3) := by decide +kernel
theorem d71_9 : decode (zz_c 71) 9 = .ok (.aload_n 0, 1) := by decide +kernel
theorem d71_10 : decode (zz_c 71) 10 = .ok (.getfield 21, 3) := by decide +kernel
theorem d71_13 : decode (zz_c 71) 13 = .ok (.iload_n 1, 1) := by decide +kernel
theorem d71_14 : decode (zz_c 71) 14 = .ok (.bipush 8, 2) := by decide +kernel
theorem d71_16 : decode (zz_c 71) 16 = .ok (.imul, 1) := by decide +kernel
theorem d71_17 : decode (zz_c 71) 17 = .ok (.iload_n 2, 1) := by decide +kernel
theorem d71_18 : decode (zz_c 71) 18 = .ok (.iadd, 1) := by decide +kernel
theorem d71_19 : decode (zz_c 71) 19 = .ok (.iload_n 3, 1) := by decide +kernel
theorem d71_20 : decode (zz_c 71) 20 = .ok (.iastore, 1) := by decide +kernel
theorem d71_21 : decode (zz_c 71) 21 = .ok (.return_, 1) := by decide +kernel
theorem x71 : (∀ l1 l2 l3 x st h, zz_Y 71 (0, [some (.ref x), l1, l2, l3], st, h) = zz_Y 71 (1, [some (.ref x), l1, l2, l3], .ref x :: st, h)) ∧ (∀ l0 l2 l3 x st h, zz_Y 71 (1, [l0, some (.int x), l2, l3], st, h) = zz_Y 71 (2, [l0, some (.int x), l2, l3], .int x :: st, h)) ∧ (∀ l0 l1 l3 x st h, zz_Y 71 (2, [l0, l1, some (.int x), l3], st, h) = zz_Y 71 (3, [l0, l1, some (.int x), l3], .int x :: st, h)) ∧ (∀ ls a0 a1 a2 h, zz_Y 71 (3, ls, [a2, a1, a0], h) = mo_k 71 6 ls [] (zz_run 54 [a0, a1, a2] h)) ∧ (∀ ls a st h, zz_Y 71 (6, ls, .int a :: st, h) = if a = nI 0 then zz_Y 71 (21, ls, st, h) else zz_Y 71 (9, ls, st, h)) ∧ (∀ l1 l2 l3 x st h, zz_Y 71 (9, [some (.ref x), l1, l2, l3], st, h) = zz_Y 71 (10, [some (.ref x), l1, l2, l3], .ref x :: st, h)) ∧ (∀ ls a st h, zz_Y 71 (10, ls, .ref a :: st, h) = mo_gf (hp_g h a) 6 1 71 13 ls st h) ∧ (∀ l0 l2 l3 x st h, zz_Y 71 (13, [l0, some (.int x), l2, l3], st, h) = zz_Y 71 (14, [l0, some (.int x), l2, l3], .int x :: st, h)) ∧ (∀ ls st h, zz_Y 71 (14, ls, st, h) = zz_Y 71 (16, ls, .int (nI 8) :: st, h)) ∧ (∀ ls a b st h, zz_Y 71 (16, ls, .int b :: .int a :: st, h) = zz_Y 71 (17, ls, .int (a * b) :: st, h)) ∧ (∀ l0 l1 l3 x st h, zz_Y 71 (17, [l0, l1, some (.int x), l3], st, h) = zz_Y 71 (18, [l0, l1, some (.int x), l3], .int x :: st, h)) ∧ (∀ ls a b st h, zz_Y 71 (18, ls, .int b :: .int a :: st, h) = zz_Y 71 (19, ls, .int (a + b) :: st, h)) ∧ (∀ l0 l1 l2 x st h, zz_Y 71 (19, [l0, l1, l2, some (.int x)], st, h) = zz_Y 71 (20, [l0, l1, l2, some (.int x)], .int x :: st, h)) ∧ (∀ ls a i x st h, zz_Y 71 (20, ls, .int x :: .int i :: .ref a :: st, h) = mo_is (hp_g h a) x i a 71 21 ls st h) ∧ (∀ ls h, zz_Y 71 (21, ls, [], h) = some (none, h)) :=
  ⟨fun _ _ _ _ _ _ => xl_aln d71_0 rfl,
   fun _ _ _ _ _ _ => xl_iln d71_1 rfl,
   fun _ _ _ _ _ _ => xl_iln d71_2 rfl,
   fun ls a0 a1 a2 h => xl_cv (As := [a0, a1, a2]) (st := []) d71_3 xco71 xm_6_25 (congrArg Nat.succ xnp54) (by decide +kernel) rfl,
   fun _ _ _ _ => xl_ifeq d71_6 rfl,
   fun _ _ _ _ _ _ => xl_aln d71_9 rfl,
   fun _ _ _ _ => xl_gf d71_10 xco71 xf_6_21,
   fun _ _ _ _ _ _ => xl_iln d71_13 rfl,
   fun _ _ _ => xl_bi d71_14 (by decide +kernel),
   fun _ _ _ _ _ => xl_imul d71_16,
   fun _ _ _ _ _ _ => xl_iln d71_17 rfl,
   fun _ _ _ _ _ => xl_iadd d71_18,
   fun _ _ _ _ _ _ => xl_iln d71_19 rfl,
   fun _ _ _ _ _ _ => xl_ist d71_20,
   fun _ _ => xl_r d71_21 xrt71⟩
/-! 72 FacetSieve$QuestionReader.joinFact()V -/
theorem d72_0 : decode (zz_c 72) 0 = .ok (.aload_n 0, 1) := by decide +kernel
theorem d72_1 : decode (zz_c 72) 1 = .ok (.getfield 27, 3) := by decide +kernel
theorem d72_4 : decode (zz_c 72) 4 = .ok (.aload_n 0, 1) := by decide +kernel
theorem d72_5 : decode (zz_c 72) 5 = .ok (.getfield 72, 3) := by decide +kernel
theorem d72_8 : decode (zz_c 72) 8 = .ok (.iaload, 1) := by decide +kernel
theorem d72_9 : decode (zz_c 72) 9 = .ok (.iconst (-1), 1) := by decide +kernel
theorem d72_10 : decode (zz_c 72) 10 = .ok (.if_icmp .eq 26, 3) := by decide +kernel
theorem d72_13 : decode (zz_c 72) 13 = .ok (.aload_n 0, 1) := by decide +kernel
theorem d72_14 : decode (zz_c 72) 14 = .ok (.aload_n 0, 1) := by decide +kernel
theorem d72_15 : decode (zz_c 72) 15 = .ok (.getfield 27, 3) := by decide +kernel
theorem d72_18 : decode (zz_c 72) 18 = .ok (.aload_n 0, 1) := by decide +kernel
theorem d72_19 : decode (zz_c 72) 19 = .ok (.getfield 72, 3) := by decide +kernel
theorem d72_22 : decode (zz_c 72) 22 = .ok (.iaload, 1) := by decide +kernel
theorem d72_23 : decode (zz_c 72) 23 = .ok (.invokevirtual 111, 3) := by decide +kernel
theorem d72_26 : decode (zz_c 72) 26 = .ok (.aload_n 0, 1) := by decide +kernel
theorem d72_27 : decode (zz_c 72) 27 = .ok (.getfield 27, 3) := by decide +kernel
theorem d72_30 : decode (zz_c 72) 30 = .ok (.aload_n 0, 1) := by decide +kernel
theorem d72_31 : decode (zz_c 72) 31 = .ok (.getfield 72, 3) := by decide +kernel
theorem d72_34 : decode (zz_c 72) 34 = .ok (.iconst (-1), 1) := by decide +kernel
theorem d72_35 : decode (zz_c 72) 35 = .ok (.iastore, 1) := by decide +kernel
theorem d72_36 : decode (zz_c 72) 36 = .ok (.return_, 1) := by decide +kernel
theorem x72 : (∀ x st h, zz_Y 72 (0, [some (.ref x)], st, h) = zz_Y 72 (1, [some (.ref x)], .ref x :: st, h)) ∧ (∀ ls a st h, zz_Y 72 (1, ls, .ref a :: st, h) = mo_gf (hp_g h a) 4 2 72 4 ls st h) ∧ (∀ x st h, zz_Y 72 (4, [some (.ref x)], st, h) = zz_Y 72 (5, [some (.ref x)], .ref x :: st, h)) ∧ (∀ ls a st h, zz_Y 72 (5, ls, .ref a :: st, h) = mo_gf (hp_g h a) 4 5 72 8 ls st h) ∧ (∀ ls a i st h, zz_Y 72 (8, ls, .int i :: .ref a :: st, h) = mo_ia (hp_g h a) i a 72 9 ls st h) ∧ (∀ ls st h, zz_Y 72 (9, ls, st, h) = zz_Y 72 (10, ls, .int (-1) :: st, h)) ∧ (∀ ls a b st h, zz_Y 72 (10, ls, .int b :: .int a :: st, h) = if a = b then zz_Y 72 (36, ls, st, h) else zz_Y 72 (13, ls, st, h)) ∧ (∀ x st h, zz_Y 72 (13, [some (.ref x)], st, h) = zz_Y 72 (14, [some (.ref x)], .ref x :: st, h)) ∧ (∀ x st h, zz_Y 72 (14, [some (.ref x)], st, h) = zz_Y 72 (15, [some (.ref x)], .ref x :: st, h)) ∧ (∀ ls a st h, zz_Y 72 (15, ls, .ref a :: st, h) = mo_gf (hp_g h a) 4 2 72 18 ls st h) ∧ (∀ x st h, zz_Y 72 (18, [some (.ref x)], st, h) = zz_Y 72 (19, [some (.ref x)], .ref x :: st, h)) ∧ (∀ ls a st h, zz_Y 72 (19, ls, .ref a :: st, h) = mo_gf (hp_g h a) 4 5 72 22 ls st h) ∧ (∀ ls a i st h, zz_Y 72 (22, ls, .int i :: .ref a :: st, h) = mo_ia (hp_g h a) i a 72 23 ls st h) ∧ (∀ ls a0 a1 h, zz_Y 72 (23, ls, [a1, a0], h) = mo_k 72 26 ls [] (zz_run 73 [a0, a1] h)) ∧ (∀ x st h, zz_Y 72 (26, [some (.ref x)], st, h) = zz_Y 72 (27, [some (.ref x)], .ref x :: st, h)) ∧ (∀ ls a st h, zz_Y 72 (27, ls, .ref a :: st, h) = mo_gf (hp_g h a) 4 2 72 30 ls st h) ∧ (∀ x st h, zz_Y 72 (30, [some (.ref x)], st, h) = zz_Y 72 (31, [some (.ref x)], .ref x :: st, h)) ∧ (∀ ls a st h, zz_Y 72 (31, ls, .ref a :: st, h) = mo_gf (hp_g h a) 4 5 72 34 ls st h) ∧ (∀ ls st h, zz_Y 72 (34, ls, st, h) = zz_Y 72 (35, ls, .int (-1) :: st, h)) ∧ (∀ ls a i x st h, zz_Y 72 (35, ls, .int x :: .int i :: .ref a :: st, h) = mo_is (hp_g h a) x i a 72 36 ls st h) ∧ (∀ ls h, zz_Y 72 (36, ls, [], h) = some (none, h)) :=
  ⟨fun _ _ _ => xl_aln d72_0 rfl,
   fun _ _ _ _ => xl_gf d72_1 xco72 xf_4_27,
   fun _ _ _ => xl_aln d72_4 rfl,
   fun _ _ _ _ => xl_gf d72_5 xco72 xf_4_72,
   fun _ _ _ _ _ => xl_ia d72_8,
   fun _ _ _ => xl_ic d72_9 (by decide +kernel),
   fun _ _ _ _ _ => xl_iceq d72_10 rfl,
   fun _ _ _ => xl_aln d72_13 rfl,
   fun _ _ _ => xl_aln d72_14 rfl,
   fun _ _ _ _ => xl_gf d72_15 xco72 xf_4_27,
   fun _ _ _ => xl_aln d72_18 rfl,
   fun _ _ _ _ => xl_gf d72_19 xco72 xf_4_72,
   fun _ _ _ _ _ => xl_ia d72_22,
   fun ls a0 a1 h => xl_cv (As := [a0, a1]) (st := []) d72_23 xco72 xm_4_111 (congrArg Nat.succ xnp73) (by decide +kernel) rfl,
   fun _ _ _ => xl_aln d72_26 rfl,
   fun _ _ _ _ => xl_gf d72_27 xco72 xf_4_27,
   fun _ _ _ => xl_aln d72_30 rfl,
   fun _ _ _ _ => xl_gf d72_31 xco72 xf_4_72,
   fun _ _ _ => xl_ic d72_34 (by decide +kernel),
   fun _ _ _ _ _ _ => xl_ist d72_35,
   fun _ _ => xl_r d72_36 xrt72⟩
/-! 73 FacetSieve$QuestionReader.joinTopTwo(I)V -/
theorem d73_0 : decode (zz_c 73) 0 = .ok (.aload_n 0, 1) := by decide +kernel
theorem d73_1 : decode (zz_c 73) 1 = .ok (.getfield 34, 3) := by decide +kernel
theorem d73_4 : decode (zz_c 73) 4 = .ok (.iconst 2, 1) := by decide +kernel
theorem d73_5 : decode (zz_c 73) 5 = .ok (.if_icmp .ge 4, 3) := by decide +kernel
theorem d73_8 : decode (zz_c 73) 8 = .ok (.return_, 1) := by decide +kernel
theorem d73_9 : decode (zz_c 73) 9 = .ok (.aload_n 0, 1) := by decide +kernel
theorem d73_10 : decode (zz_c 73) 10 = .ok (.dup, 1) := by decide +kernel
theorem d73_11 : decode (zz_c 73) 11 = .ok (.getfield 34, 3) := by decide +kernel
theorem d73_14 : decode (zz_c 73) 14 = .ok (.iconst 1, 1) := by decide +kernel
theorem d73_15 : decode (zz_c 73) 15 = .ok (.isub, 1) := by decide +kernel
theorem d73_16 : decode (zz_c 73) 16 = .ok (.putfield 34, 3) := by decide +kernel
theorem d73_19 : decode (zz_c 73) 19 = .ok (.iconst 0, 1) := by decide +kernel
theorem d73_20 : decode (zz_c 73) 20 = .ok (.istore_n 2, 1) := by decide +kernel
theorem d73_21 : decode (zz_c 73) 21 = .ok (.iload_n 2, 1) := by decide +kernel
theorem d73_22 : decode (zz_c 73) 22 = .ok (.bipush 8, 2) := by decide +kernel
theorem d73_24 : decode (zz_c 73) 24 = .ok (.if_icmp .ge 75, 3) := by decide +kernel
theorem d73_27 : decode (zz_c 73) 27 = .ok (.aload_n 0, 1) := by decide +kernel
theorem d73_28 : decode (zz_c 73) 28 = .ok (.getfield 23, 3) := by decide +kernel
theorem d73_31 : decode (zz_c 73) 31 = .ok (.aload_n 0, 1) := by decide +kernel
theorem d73_32 : decode (zz_c 73) 32 = .ok (.getfield 34, 3) := by decide +kernel
theorem d73_35 : decode (zz_c 73) 35 = .ok (.iconst 1, 1) := by decide +kernel
theorem d73_36 : decode (zz_c 73) 36 = .ok (.isub, 1) := by decide +kernel
theorem d73_37 : decode (zz_c 73) 37 = .ok (.iload_n 2, 1) := by decide +kernel
theorem d73_38 : decode (zz_c 73) 38 = .ok (.invokevirtual 114, 3) := by decide +kernel
theorem d73_41 : decode (zz_c 73) 41 = .ok (.istore_n 3, 1) := by decide +kernel
theorem d73_42 : decode (zz_c 73) 42 = .ok (.aload_n 0, 1) := by decide +kernel
theorem d73_43 : decode (zz_c 73) 43 = .ok (.getfield 23, 3) := by decide +kernel
theorem d73_46 : decode (zz_c 73) 46 = .ok (.aload_n 0, 1) := by decide +kernel
theorem d73_47 : decode (zz_c 73) 47 = .ok (.getfield 34, 3) := by decide +kernel
theorem d73_50 : decode (zz_c 73) 50 = .ok (.iload_n 2, 1) := by decide +kernel
theorem d73_51 : decode (zz_c 73) 51 = .ok (.invokevirtual 114, 3) := by decide +kernel
theorem d73_54 : decode (zz_c 73) 54 = .ok (.istore 4, 2) := by decide +kernel
theorem d73_56 : decode (zz_c 73) 56 = .ok (.aload_n 0, 1) := by decide +kernel
theorem d73_57 : decode (zz_c 73) 57 = .ok (.dup, 1) := by decide +kernel
theorem d73_58 : decode (zz_c 73) 58 = .ok (.getfield 41, 3) := by decide +kernel
theorem d73_61 : decode (zz_c 73) 61 = .ok (.iload_n 3, 1) := by decide +kernel
theorem d73_62 : decode (zz_c 73) 62 = .ok (.iload 4, 2) := by decide +kernel
theorem d73_64 : decode (zz_c 73) 64 = .ok (.iload_n 1, 1) := by decide +kernel
theorem d73_65 : decode (zz_c 73) 65 = .ok (.invokestatic 118, 3) := by decide +kernel
theorem d73_68 : decode (zz_c 73) 68 = .ok (.iadd, 1) := by decide +kernel
theorem d73_69 : decode (zz_c 73) 69 = .ok (.putfield 41, 3) := by decide +kernel
theorem d73_72 : decode (zz_c 73) 72 = .ok (.aload_n 0, 1) := by decide +kernel
theorem d73_73 : decode (zz_c 73) 73 = .ok (.getfield 23, 3) := by decide +kernel
theorem d73_76 : decode (zz_c 73) 76 = .ok (.aload_n 0, 1) := by decide +kernel
theorem d73_77 : decode (zz_c 73) 77 = .ok (.getfield 34, 3) := by decide +kernel
theorem d73_80 : decode (zz_c 73) 80 = .ok (.iconst 1, 1) := by decide +kernel
theorem d73_81 : decode (zz_c 73) 81 = .ok (.isub, 1) := by decide +kernel
theorem d73_82 : decode (zz_c 73) 82 = .ok (.iload_n 2, 1) := by decide +kernel
theorem d73_83 : decode (zz_c 73) 83 = .ok (.iload_n 3, 1) := by decide +kernel
theorem d73_84 : decode (zz_c 73) 84 = .ok (.iload 4, 2) := by decide +kernel
theorem d73_86 : decode (zz_c 73) 86 = .ok (.iload_n 1, 1) := by decide +kernel
theorem d73_87 : decode (zz_c 73) 87 = .ok (.invokestatic 121, 3) := by decide +kernel
theorem d73_90 : decode (zz_c 73) 90 = .ok (.invokevirtual 124, 3) := by decide +kernel
theorem d73_93 : decode (zz_c 73) 93 = .ok (.iinc 2 1, 3) := by decide +kernel
theorem d73_96 : decode (zz_c 73) 96 = .ok (.goto (-75), 3) := by decide +kernel
theorem d73_99 : decode (zz_c 73) 99 = .ok (.return_, 1) := by decide +kernel
theorem x73 : (∀ l1 l2 l3 l4 x st h, zz_Y 73 (0, [some (.ref x), l1, l2, l3, l4], st, h) = zz_Y 73 (1, [some (.ref x), l1, l2, l3, l4], .ref x :: st, h)) ∧ (∀ ls a st h, zz_Y 73 (1, ls, .ref a :: st, h) = mo_gf (hp_g h a) 4 4 73 4 ls st h) ∧ (∀ ls st h, zz_Y 73 (4, ls, st, h) = zz_Y 73 (5, ls, .int (nI 2) :: st, h)) ∧ (∀ ls a b st h, zz_Y 73 (5, ls, .int b :: .int a :: st, h) = if a < b then zz_Y 73 (8, ls, st, h) else zz_Y 73 (9, ls, st, h)) ∧ (∀ ls h, zz_Y 73 (8, ls, [], h) = some (none, h)) ∧ (∀ l1 l2 l3 l4 x st h, zz_Y 73 (9, [some (.ref x), l1, l2, l3, l4], st, h) = zz_Y 73 (10, [some (.ref x), l1, l2, l3, l4], .ref x :: st, h)) ∧ (∀ ls a st h, zz_Y 73 (10, ls, .ref a :: st, h) = zz_Y 73 (11, ls, .ref a :: .ref a :: st, h)) ∧ (∀ ls a st h, zz_Y 73 (11, ls, .ref a :: st, h) = mo_gf (hp_g h a) 4 4 73 14 ls st h) ∧ (∀ ls st h, zz_Y 73 (14, ls, st, h) = zz_Y 73 (15, ls, .int (nI 1) :: st, h)) ∧ (∀ ls a b st h, zz_Y 73 (15, ls, .int b :: .int a :: st, h) = zz_Y 73 (16, ls, .int (a - b) :: st, h)) ∧ (∀ ls a v st h, zz_Y 73 (16, ls, v :: .ref a :: st, h) = mo_pf (hp_g h a) 4 4 .int v a 73 19 ls st h) ∧ (∀ ls st h, zz_Y 73 (19, ls, st, h) = zz_Y 73 (20, ls, .int (nI 0) :: st, h)) ∧ (∀ l0 l1 l2 l3 l4 x st h, zz_nl l1 = true → zz_Y 73 (20, [l0, l1, l2, l3, l4], .int x :: st, h) = zz_Y 73 (21, [l0, l1, some (.int x), l3, l4], st, h)) ∧ (∀ ls st h, zz_Y 73 (22, ls, st, h) = zz_Y 73 (24, ls, .int (nI 8) :: st, h)) ∧ (∀ ls a b st h, zz_Y 73 (24, ls, .int b :: .int a :: st, h) = if a < b then zz_Y 73 (27, ls, st, h) else zz_Y 73 (99, ls, st, h)) ∧ (∀ l1 l2 l3 l4 x st h, zz_Y 73 (27, [some (.ref x), l1, l2, l3, l4], st, h) = zz_Y 73 (28, [some (.ref x), l1, l2, l3, l4], .ref x :: st, h)) ∧ (∀ ls a st h, zz_Y 73 (28, ls, .ref a :: st, h) = mo_gf (hp_g h a) 4 1 73 31 ls st h) ∧ (∀ l1 l2 l3 l4 x st h, zz_Y 73 (31, [some (.ref x), l1, l2, l3, l4], st, h) = zz_Y 73 (32, [some (.ref x), l1, l2, l3, l4], .ref x :: st, h)) ∧ (∀ ls a st h, zz_Y 73 (32, ls, .ref a :: st, h) = mo_gf (hp_g h a) 4 4 73 35 ls st h) ∧ (∀ ls st h, zz_Y 73 (35, ls, st, h) = zz_Y 73 (36, ls, .int (nI 1) :: st, h)) ∧ (∀ ls a b st h, zz_Y 73 (36, ls, .int b :: .int a :: st, h) = zz_Y 73 (37, ls, .int (a - b) :: st, h)) ∧ (∀ l0 l1 l3 l4 x st h, zz_Y 73 (37, [l0, l1, some (.int x), l3, l4], st, h) = zz_Y 73 (38, [l0, l1, some (.int x), l3, l4], .int x :: st, h)) ∧ (∀ ls a0 a1 a2 h, zz_Y 73 (38, ls, [a2, a1, a0], h) = mo_k 73 41 ls [] (zz_run 63 [a0, a1, a2] h)) ∧ (∀ l0 l1 l2 l3 l4 x st h, zz_nl l2 = true → zz_Y 73 (41, [l0, l1, l2, l3, l4], .int x :: st, h) = zz_Y 73 (42, [l0, l1, l2, some (.int x), l4], st, h)) ∧ (∀ l1 l2 l3 l4 x st h, zz_Y 73 (42, [some (.ref x), l1, l2, l3, l4], st, h) = zz_Y 73 (43, [some (.ref x), l1, l2, l3, l4], .ref x :: st, h)) ∧ (∀ ls a st h, zz_Y 73 (43, ls, .ref a :: st, h) = mo_gf (hp_g h a) 4 1 73 46 ls st h) ∧ (∀ l1 l2 l3 l4 x st h, zz_Y 73 (46, [some (.ref x), l1, l2, l3, l4], st, h) = zz_Y 73 (47, [some (.ref x), l1, l2, l3, l4], .ref x :: st, h)) ∧ (∀ ls a st h, zz_Y 73 (47, ls, .ref a :: st, h) = mo_gf (hp_g h a) 4 4 73 50 ls st h) ∧ (∀ l0 l1 l3 l4 x st h, zz_Y 73 (50, [l0, l1, some (.int x), l3, l4], st, h) = zz_Y 73 (51, [l0, l1, some (.int x), l3, l4], .int x :: st, h)) ∧ (∀ ls a0 a1 a2 h, zz_Y 73 (51, ls, [a2, a1, a0], h) = mo_k 73 54 ls [] (zz_run 63 [a0, a1, a2] h)) ∧ (∀ l0 l1 l2 l3 l4 x st h, zz_nl l3 = true → zz_Y 73 (54, [l0, l1, l2, l3, l4], .int x :: st, h) = zz_Y 73 (56, [l0, l1, l2, l3, some (.int x)], st, h)) ∧ (∀ l1 l2 l3 l4 x st h, zz_Y 73 (56, [some (.ref x), l1, l2, l3, l4], st, h) = zz_Y 73 (57, [some (.ref x), l1, l2, l3, l4], .ref x :: st, h)) ∧ (∀ ls a st h, zz_Y 73 (57, ls, .ref a :: st, h) = zz_Y 73 (58, ls, .ref a :: .ref a :: st, h)) ∧ (∀ ls a st h, zz_Y 73 (58, ls, .ref a :: st, h) = mo_gf (hp_g h a) 4 8 73 61 ls st h) ∧ (∀ l0 l1 l2 l4 x st h, zz_Y 73 (61, [l0, l1, l2, some (.int x), l4], st, h) = zz_Y 73 (62, [l0, l1, l2, some (.int x), l4], .int x :: st, h)) ∧ (∀ l0 l1 l2 l3 x st h, zz_Y 73 (62, [l0, l1, l2, l3, some (.int x)], st, h) = zz_Y 73 (64, [l0, l1, l2, l3, some (.int x)], .int x :: st, h)) ∧ (∀ l0 l2 l3 l4 x st h, zz_Y 73 (64, [l0, some (.int x), l2, l3, l4], st, h) = zz_Y 73 (65, [l0, some (.int x), l2, l3, l4], .int x :: st, h)) ∧ (∀ ls a0 a1 a2 s0 s1 h, zz_Y 73 (65, ls, [a2, a1, a0, s0, s1], h) = mo_k 73 68 ls [s0, s1] (zz_run 74 [a0, a1, a2] h)) ∧ (∀ ls a b st h, zz_Y 73 (68, ls, .int b :: .int a :: st, h) = zz_Y 73 (69, ls, .int (a + b) :: st, h)) ∧ (∀ ls a v st h, zz_Y 73 (69, ls, v :: .ref a :: st, h) = mo_pf (hp_g h a) 4 8 .int v a 73 72 ls st h) ∧ (∀ l1 l2 l3 l4 x st h, zz_Y 73 (72, [some (.ref x), l1, l2, l3, l4], st, h) = zz_Y 73 (73, [some (.ref x), l1, l2, l3, l4], .ref x :: st, h)) ∧ (∀ ls a st h, zz_Y 73 (73, ls, .ref a :: st, h) = mo_gf (hp_g h a) 4 1 73 76 ls st h) ∧ (∀ l1 l2 l3 l4 x st h, zz_Y 73 (76, [some (.ref x), l1, l2, l3, l4], st, h) = zz_Y 73 (77, [some (.ref x), l1, l2, l3, l4], .ref x :: st, h)) ∧ (∀ ls a st h, zz_Y 73 (77, ls, .ref a :: st, h) = mo_gf (hp_g h a) 4 4 73 80 ls st h) ∧ (∀ ls st h, zz_Y 73 (80, ls, st, h) = zz_Y 73 (81, ls, .int (nI 1) :: st, h)) ∧ (∀ ls a b st h, zz_Y 73 (81, ls, .int b :: .int a :: st, h) = zz_Y 73 (82, ls, .int (a - b) :: st, h)) ∧ (∀ l0 l1 l3 l4 x st h, zz_Y 73 (82, [l0, l1, some (.int x), l3, l4], st, h) = zz_Y 73 (83, [l0, l1, some (.int x), l3, l4], .int x :: st, h)) ∧ (∀ l0 l1 l2 l4 x st h, zz_Y 73 (83, [l0, l1, l2, some (.int x), l4], st, h) = zz_Y 73 (84, [l0, l1, l2, some (.int x), l4], .int x :: st, h)) ∧ (∀ l0 l1 l2 l3 x st h, zz_Y 73 (84, [l0, l1, l2, l3, some (.int x)], st, h) = zz_Y 73 (86, [l0, l1, l2, l3, some (.int x)], .int x :: st, h)) ∧ (∀ l0 l2 l3 l4 x st h, zz_Y 73 (86, [l0, some (.int x), l2, l3, l4], st, h) = zz_Y 73 (87, [l0, some (.int x), l2, l3, l4], .int x :: st, h)) ∧ (∀ ls a0 a1 a2 s0 s1 s2 h, zz_Y 73 (87, ls, [a2, a1, a0, s0, s1, s2], h) = mo_k 73 90 ls [s0, s1, s2] (zz_run 76 [a0, a1, a2] h)) ∧ (∀ ls a0 a1 a2 a3 h, zz_Y 73 (90, ls, [a3, a2, a1, a0], h) = mo_k 73 93 ls [] (zz_run 71 [a0, a1, a2, a3] h)) ∧ (∀ l0 l1 l3 l4 x st h, zz_nl l1 = true → zz_Y 73 (93, [l0, l1, some (.int x), l3, l4], st, h) = zz_Y 73 (96, [l0, l1, some (.int (x + nI 1)), l3, l4], st, h)) ∧ (∀ ls st h, zz_Y 73 (96, ls, st, h) = zz_Y 73 (21, ls, st, h)) ∧ (∀ ls h, zz_Y 73 (99, ls, [], h) = some (none, h)) :=
  ⟨fun _ _ _ _ _ _ _ => xl_aln d73_0 rfl,
   fun _ _ _ _ => xl_gf d73_1 xco73 xf_4_34,
   fun _ _ _ => xl_ic d73_4 (by decide +kernel),
   fun _ _ _ _ _ => xl_icge d73_5 rfl,
   fun _ _ => xl_r d73_8 xrt73,
   fun _ _ _ _ _ _ _ => xl_aln d73_9 rfl,
   fun _ _ _ _ => xl_dupr d73_10,
   fun _ _ _ _ => xl_gf d73_11 xco73 xf_4_34,
   fun _ _ _ => xl_ic d73_14 (by decide +kernel),
   fun _ _ _ _ _ => xl_isub d73_15,
   fun _ _ _ _ _ => xl_pf d73_16 xco73 xf_4_34 (by decide +kernel) rfl,
   fun _ _ _ => xl_ic d73_19 (by decide +kernel),
   fun _ _ _ _ _ _ _ _ hc => xl_isn d73_20 xml73 (by decide) (zz_nl_s1 hc),
   fun _ _ _ => xl_bi d73_22 (by decide +kernel),
   fun _ _ _ _ _ => xl_icge d73_24 rfl,
   fun _ _ _ _ _ _ _ => xl_aln d73_27 rfl,
   fun _ _ _ _ => xl_gf d73_28 xco73 xf_4_23,
   fun _ _ _ _ _ _ _ => xl_aln d73_31 rfl,
   fun _ _ _ _ => xl_gf d73_32 xco73 xf_4_34,
   fun _ _ _ => xl_ic d73_35 (by decide +kernel),
   fun _ _ _ _ _ => xl_isub d73_36,
   fun _ _ _ _ _ _ _ => xl_iln d73_37 rfl,
   fun ls a0 a1 a2 h => xl_cv (As := [a0, a1, a2]) (st := []) d73_38 xco73 xm_4_114 (congrArg Nat.succ xnp63) (by decide +kernel) rfl,
   fun _ _ _ _ _ _ _ _ hc => xl_isn d73_41 xml73 (by decide) (zz_nl_s1 hc),
   fun _ _ _ _ _ _ _ => xl_aln d73_42 rfl,
   fun _ _ _ _ => xl_gf d73_43 xco73 xf_4_23,
   fun _ _ _ _ _ _ _ => xl_aln d73_46 rfl,
   fun _ _ _ _ => xl_gf d73_47 xco73 xf_4_34,
   fun _ _ _ _ _ _ _ => xl_iln d73_50 rfl,
   fun ls a0 a1 a2 h => xl_cv (As := [a0, a1, a2]) (st := []) d73_51 xco73 xm_4_114 (congrArg Nat.succ xnp63) (by decide +kernel) rfl,
   fun _ _ _ _ _ _ _ _ hc => xl_is d73_54 xml73 (by decide) (zz_nl_s1 hc),
   fun _ _ _ _ _ _ _ => xl_aln d73_56 rfl,
   fun _ _ _ _ => xl_dupr d73_57,
   fun _ _ _ _ => xl_gf d73_58 xco73 xf_4_41,
   fun _ _ _ _ _ _ _ => xl_iln d73_61 rfl,
   fun _ _ _ _ _ _ _ => xl_il d73_62 rfl,
   fun _ _ _ _ _ _ _ => xl_iln d73_64 rfl,
   fun ls a0 a1 a2 s0 s1 h => xl_cs (As := [a0, a1, a2]) (st := [s0, s1]) d73_65 xco73 xm_4_118 xnp74 (by decide +kernel) rfl,
   fun _ _ _ _ _ => xl_iadd d73_68,
   fun _ _ _ _ _ => xl_pf d73_69 xco73 xf_4_41 (by decide +kernel) rfl,
   fun _ _ _ _ _ _ _ => xl_aln d73_72 rfl,
   fun _ _ _ _ => xl_gf d73_73 xco73 xf_4_23,
   fun _ _ _ _ _ _ _ => xl_aln d73_76 rfl,
   fun _ _ _ _ => xl_gf d73_77 xco73 xf_4_34,
   fun _ _ _ => xl_ic d73_80 (by decide +kernel),
   fun _ _ _ _ _ => xl_isub d73_81,
   fun _ _ _ _ _ _ _ => xl_iln d73_82 rfl,
   fun _ _ _ _ _ _ _ => xl_iln d73_83 rfl,
   fun _ _ _ _ _ _ _ => xl_il d73_84 rfl,
   fun _ _ _ _ _ _ _ => xl_iln d73_86 rfl,
   fun ls a0 a1 a2 s0 s1 s2 h => xl_cs (As := [a0, a1, a2]) (st := [s0, s1, s2]) d73_87 xco73 xm_4_121 xnp76 (by decide +kernel) rfl,
   fun ls a0 a1 a2 a3 h => xl_cv (As := [a0, a1, a2, a3]) (st := []) d73_90 xco73 xm_4_124 (congrArg Nat.succ xnp71) (by decide +kernel) rfl,
   fun _ _ _ _ _ _ _ hc => xl_inc d73_93 xml73 (by decide) rfl (by decide +kernel) (zz_nl_s1 hc),
   fun _ _ _ => xl_goto d73_96 rfl,
   fun _ _ => xl_r d73_99 xrt73⟩
theorem x73_c21 : ∀ l0 l1 l3 l4 x st h, zz_Y 73 (21, [l0, l1, some (.int x), l3, l4], st, h) = zz_Y 73 (22, [l0, l1, some (.int x), l3, l4], .int x :: st, h) := fun _ _ _ _ _ _ _ => xl_iln d73_21 rfl
