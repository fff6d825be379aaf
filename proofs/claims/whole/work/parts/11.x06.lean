/-! 133 FacetSieve$Sets.amountJoined(III)I -/
theorem d133_0 : decode (zz_c 133) 0 = .ok (.iconst 0, 1) := by decide +kernel
theorem d133_1 : decode (zz_c 133) 1 = .ok (.istore 4, 2) := by decide +kernel
theorem d133_3 : decode (zz_c 133) 3 = .ok (.iconst 0, 1) := by decide +kernel
theorem d133_4 : decode (zz_c 133) 4 = .ok (.istore 5, 2) := by decide +kernel
theorem d133_6 : decode (zz_c 133) 6 = .ok (.iload 5, 2) := by decide +kernel
theorem d133_8 : decode (zz_c 133) 8 = .ok (.bipush 8, 2) := by decide +kernel
theorem d133_10 : decode (zz_c 133) 10 = .ok (.if_icmp .ge 35, 3) := by decide +kernel
theorem d133_13 : decode (zz_c 133) 13 = .ok (.iload 4, 2) := by decide +kernel
theorem d133_15 : decode (zz_c 133) 15 = .ok (.aload_n 0, 1) := by decide +kernel
theorem d133_16 : decode (zz_c 133) 16 = .ok (.iload_n 1, 1) := by decide +kernel
theorem d133_17 : decode (zz_c 133) 17 = .ok (.iload 5, 2) := by decide +kernel
theorem d133_19 : decode (zz_c 133) 19 = .ok (.invokevirtual 29, 3) := by decide +kernel
theorem d133_22 : decode (zz_c 133) 22 = .ok (.aload_n 0, 1) := by decide +kernel
theorem d133_23 : decode (zz_c 133) 23 = .ok (.iload_n 2, 1) := by decide +kernel
theorem d133_24 : decode (zz_c 133) 24 = .ok (.iload 5, 2) := by decide +kernel
theorem d133_26 : decode (zz_c 133) 26 = .ok (.invokevirtual 29, 3) := by decide +kernel
theorem d133_29 : decode (zz_c 133) 29 = .ok (.iload_n 3, 1) := by decide +kernel
theorem d133_30 : decode (zz_c 133) 30 = .ok (.invokestatic 71, 3) := by decide +kernel
theorem d133_33 : decode (zz_c 133) 33 = .ok (.invokestatic 54, 3) := by decide +kernel
theorem d133_36 : decode (zz_c 133) 36 = .ok (.iadd, 1) := by decide +kernel
theorem d133_37 : decode (zz_c 133) 37 = .ok (.istore 4, 2) := by decide +kernel
theorem d133_39 : decode (zz_c 133) 39 = .ok (.iinc 5 1, 3) := by decide +kernel
theorem d133_42 : decode (zz_c 133) 42 = .ok (.goto (-36), 3) := by decide +kernel
theorem d133_45 : decode (zz_c 133) 45 = .ok (.iload 4, 2) := by decide +kernel
theorem d133_47 : decode (zz_c 133) 47 = .ok (.ireturn, 1) := by decide +kernel
theorem x133 : (∀ ls st h, zz_Y 133 (0, ls, st, h) = zz_Y 133 (1, ls, .int (nI 0) :: st, h)) ∧ (∀ l0 l1 l2 l3 l4 l5 x st h, zz_nl l3 = true → zz_Y 133 (1, [l0, l1, l2, l3, l4, l5], .int x :: st, h) = zz_Y 133 (3, [l0, l1, l2, l3, some (.int x), l5], st, h)) ∧ (∀ ls st h, zz_Y 133 (3, ls, st, h) = zz_Y 133 (4, ls, .int (nI 0) :: st, h)) ∧ (∀ l0 l1 l2 l3 l4 l5 x st h, zz_nl l4 = true → zz_Y 133 (4, [l0, l1, l2, l3, l4, l5], .int x :: st, h) = zz_Y 133 (6, [l0, l1, l2, l3, l4, some (.int x)], st, h)) ∧ (∀ ls st h, zz_Y 133 (8, ls, st, h) = zz_Y 133 (10, ls, .int (nI 8) :: st, h)) ∧ (∀ ls a b st h, zz_Y 133 (10, ls, .int b :: .int a :: st, h) = if a < b then zz_Y 133 (13, ls, st, h) else zz_Y 133 (45, ls, st, h)) ∧ (∀ l0 l1 l2 l3 l5 x st h, zz_Y 133 (13, [l0, l1, l2, l3, some (.int x), l5], st, h) = zz_Y 133 (15, [l0, l1, l2, l3, some (.int x), l5], .int x :: st, h)) ∧ (∀ l1 l2 l3 l4 l5 x st h, zz_Y 133 (15, [some (.ref x), l1, l2, l3, l4, l5], st, h) = zz_Y 133 (16, [some (.ref x), l1, l2, l3, l4, l5], .ref x :: st, h)) ∧ (∀ l0 l2 l3 l4 l5 x st h, zz_Y 133 (16, [l0, some (.int x), l2, l3, l4, l5], st, h) = zz_Y 133 (17, [l0, some (.int x), l2, l3, l4, l5], .int x :: st, h)) ∧ (∀ l0 l1 l2 l3 l4 x st h, zz_Y 133 (17, [l0, l1, l2, l3, l4, some (.int x)], st, h) = zz_Y 133 (19, [l0, l1, l2, l3, l4, some (.int x)], .int x :: st, h)) ∧ (∀ ls a0 a1 a2 s0 h, zz_Y 133 (19, ls, [a2, a1, a0, s0], h) = mo_k 133 22 ls [s0] (zz_run 63 [a0, a1, a2] h)) ∧ (∀ l1 l2 l3 l4 l5 x st h, zz_Y 133 (22, [some (.ref x), l1, l2, l3, l4, l5], st, h) = zz_Y 133 (23, [some (.ref x), l1, l2, l3, l4, l5], .ref x :: st, h)) ∧ (∀ l0 l1 l3 l4 l5 x st h, zz_Y 133 (23, [l0, l1, some (.int x), l3, l4, l5], st, h) = zz_Y 133 (24, [l0, l1, some (.int x), l3, l4, l5], .int x :: st, h)) ∧ (∀ l0 l1 l2 l3 l4 x st h, zz_Y 133 (24, [l0, l1, l2, l3, l4, some (.int x)], st, h) = zz_Y 133 (26, [l0, l1, l2, l3, l4, some (.int x)], .int x :: st, h)) ∧ (∀ ls a0 a1 a2 s0 s1 h, zz_Y 133 (26, ls, [a2, a1, a0, s0, s1], h) = mo_k 133 29 ls [s0, s1] (zz_run 63 [a0, a1, a2] h)) ∧ (∀ l0 l1 l2 l4 l5 x st h, zz_Y 133 (29, [l0, l1, l2, some (.int x), l4, l5], st, h) = zz_Y 133 (30, [l0, l1, l2, some (.int x), l4, l5], .int x :: st, h)) ∧ (∀ ls a0 a1 a2 s0 h, zz_Y 133 (30, ls, [a2, a1, a0, s0], h) = mo_k 133 33 ls [s0] (zz_run 76 [a0, a1, a2] h)) ∧ (∀ ls a0 s0 h, zz_Y 133 (33, ls, [a0, s0], h) = mo_k 133 36 ls [s0] (zz_run 64 [a0] h)) ∧ (∀ ls a b st h, zz_Y 133 (36, ls, .int b :: .int a :: st, h) = zz_Y 133 (37, ls, .int (a + b) :: st, h)) ∧ (∀ l0 l1 l2 l3 l4 l5 x st h, zz_nl l3 = true → zz_Y 133 (37, [l0, l1, l2, l3, l4, l5], .int x :: st, h) = zz_Y 133 (39, [l0, l1, l2, l3, some (.int x), l5], st, h)) ∧ (∀ l0 l1 l2 l3 l4 x st h, zz_nl l4 = true → zz_Y 133 (39, [l0, l1, l2, l3, l4, some (.int x)], st, h) = zz_Y 133 (42, [l0, l1, l2, l3, l4, some (.int (x + nI 1))], st, h)) ∧ (∀ ls st h, zz_Y 133 (42, ls, st, h) = zz_Y 133 (6, ls, st, h)) ∧ (∀ l0 l1 l2 l3 l5 x st h, zz_Y 133 (45, [l0, l1, l2, l3, some (.int x), l5], st, h) = zz_Y 133 (47, [l0, l1, l2, l3, some (.int x), l5], .int x :: st, h)) ∧ (∀ ls v h, zz_Y 133 (47, ls, [.int v], h) = some (some (.int v), h)) :=
  ⟨fun _ _ _ => xl_ic d133_0 (by decide +kernel),
   fun _ _ _ _ _ _ _ _ _ hc => xl_is d133_1 xml133 (by decide) (zz_nl_s1 hc),
   fun _ _ _ => xl_ic d133_3 (by decide +kernel),
   fun _ _ _ _ _ _ _ _ _ hc => xl_is d133_4 xml133 (by decide) (zz_nl_s1 hc),
   fun _ _ _ => xl_bi d133_8 (by decide +kernel),
   fun _ _ _ _ _ => xl_icge d133_10 rfl,
   fun _ _ _ _ _ _ _ _ => xl_il d133_13 rfl,
   fun _ _ _ _ _ _ _ _ => xl_aln d133_15 rfl,
   fun _ _ _ _ _ _ _ _ => xl_iln d133_16 rfl,
   fun _ _ _ _ _ _ _ _ => xl_il d133_17 rfl,
   fun ls a0 a1 a2 s0 h => xl_cv (As := [a0, a1, a2]) (st := [s0]) d133_19 xco133 xm_6_29 (congrArg Nat.succ xnp63) (by decide +kernel) rfl,
   fun _ _ _ _ _ _ _ _ => xl_aln d133_22 rfl,
   fun _ _ _ _ _ _ _ _ => xl_iln d133_23 rfl,
   fun _ _ _ _ _ _ _ _ => xl_il d133_24 rfl,
   fun ls a0 a1 a2 s0 s1 h => xl_cv (As := [a0, a1, a2]) (st := [s0, s1]) d133_26 xco133 xm_6_29 (congrArg Nat.succ xnp63) (by decide +kernel) rfl,
   fun _ _ _ _ _ _ _ _ => xl_iln d133_29 rfl,
   fun ls a0 a1 a2 s0 h => xl_cs (As := [a0, a1, a2]) (st := [s0]) d133_30 xco133 xm_6_71 xnp76 (by decide +kernel) rfl,
   fun ls a0 s0 h => xl_cs (As := [a0]) (st := [s0]) d133_33 xco133 xm_6_54 xnp64 (by decide +kernel) rfl,
   fun _ _ _ _ _ => xl_iadd d133_36,
   fun _ _ _ _ _ _ _ _ _ hc => xl_is d133_37 xml133 (by decide) (zz_nl_s1 hc),
   fun _ _ _ _ _ _ _ _ hc => xl_inc d133_39 xml133 (by decide) rfl (by decide +kernel) (zz_nl_s1 hc),
   fun _ _ _ => xl_goto d133_42 rfl,
   fun _ _ _ _ _ _ _ _ => xl_il d133_45 rfl,
   fun _ _ _ => xl_iri d133_47 xrt133⟩
theorem x133_c6 : ∀ l0 l1 l2 l3 l4 x st h, zz_Y 133 (6, [l0, l1, l2, l3, l4, some (.int x)], st, h) = zz_Y 133 (8, [l0, l1, l2, l3, l4, some (.int x)], .int x :: st, h) := fun _ _ _ _ _ _ _ _ => xl_il d133_6 rfl
/-! 134 FacetSieve$Sets.workOfJoin(III)I -/
theorem d134_0 : decode (zz_c 134) 0 = .ok (.iconst 0, 1) := by decide +kernel
theorem d134_1 : decode (zz_c 134) 1 = .ok (.istore 4, 2) := by decide +kernel
theorem d134_3 : decode (zz_c 134) 3 = .ok (.iconst 0, 1) := by decide +kernel
theorem d134_4 : decode (zz_c 134) 4 = .ok (.istore 5, 2) := by decide +kernel
theorem d134_6 : decode (zz_c 134) 6 = .ok (.iload 5, 2) := by decide +kernel
theorem d134_8 : decode (zz_c 134) 8 = .ok (.bipush 8, 2) := by decide +kernel
theorem d134_10 : decode (zz_c 134) 10 = .ok (.if_icmp .ge 32, 3) := by decide +kernel
theorem d134_13 : decode (zz_c 134) 13 = .ok (.iload 4, 2) := by decide +kernel
theorem d134_15 : decode (zz_c 134) 15 = .ok (.aload_n 0, 1) := by decide +kernel
theorem d134_16 : decode (zz_c 134) 16 = .ok (.iload_n 1, 1) := by decide +kernel
theorem d134_17 : decode (zz_c 134) 17 = .ok (.iload 5, 2) := by decide +kernel
theorem d134_19 : decode (zz_c 134) 19 = .ok (.invokevirtual 29, 3) := by decide +kernel
theorem d134_22 : decode (zz_c 134) 22 = .ok (.aload_n 0, 1) := by decide +kernel
theorem d134_23 : decode (zz_c 134) 23 = .ok (.iload_n 2, 1) := by decide +kernel
theorem d134_24 : decode (zz_c 134) 24 = .ok (.iload 5, 2) := by decide +kernel
theorem d134_26 : decode (zz_c 134) 26 = .ok (.invokevirtual 29, 3) := by decide +kernel
theorem d134_29 : decode (zz_c 134) 29 = .ok (.iload_n 3, 1) := by decide +kernel
theorem d134_30 : decode (zz_c 134) 30 = .ok (.invokestatic 75, 3) := by decide +kernel
theorem d134_33 : decode (zz_c 134) 33 = .ok (.iadd, 1) := by decide +kernel
theorem d134_34 : decode (zz_c 134) 34 = .ok (.istore 4, 2) := by decide +kernel
theorem d134_36 : decode (zz_c 134) 36 = .ok (.iinc 5 1, 3) := by decide +kernel
theorem d134_39 : decode (zz_c 134) 39 = .ok (.goto (-33), 3) := by decide +kernel
theorem d134_42 : decode (zz_c 134) 42 = .ok (.iload 4, 2) := by decide +kernel
theorem d134_44 : decode (zz_c 134) 44 = .ok (.ireturn, 1) := by decide +kernel
theorem x134 : (∀ ls st h, zz_Y 134 (0, ls, st, h) = zz_Y 134 (1, ls, .int (nI 0) :: st, h)) ∧ (∀ l0 l1 l2 l3 l4 l5 x st h, zz_nl l3 = true → zz_Y 134 (1, [l0, l1, l2, l3, l4, l5], .int x :: st, h) = zz_Y 134 (3, [l0, l1, l2, l3, some (.int x), l5], st, h)) ∧ (∀ ls st h, zz_Y 134 (3, ls, st, h) = zz_Y 134 (4, ls, .int (nI 0) :: st, h)) ∧ (∀ l0 l1 l2 l3 l4 l5 x st h, zz_nl l4 = true → zz_Y 134 (4, [l0, l1, l2, l3, l4, l5], .int x :: st, h) = zz_Y 134 (6, [l0, l1, l2, l3, l4, some (.int x)], st, h)) ∧ (∀ ls st h, zz_Y 134 (8, ls, st, h) = zz_Y 134 (10, ls, .int (nI 8) :: st, h)) ∧ (∀ ls a b st h, zz_Y 134 (10, ls, .int b :: .int a :: st, h) = if a < b then zz_Y 134 (13, ls, st, h) else zz_Y 134 (42, ls, st, h)) ∧ (∀ l0 l1 l2 l3 l5 x st h, zz_Y 134 (13, [l0, l1, l2, l3, some (.int x), l5], st, h) = zz_Y 134 (15, [l0, l1, l2, l3, some (.int x), l5], .int x :: st, h)) ∧ (∀ l1 l2 l3 l4 l5 x st h, zz_Y 134 (15, [some (.ref x), l1, l2, l3, l4, l5], st, h) = zz_Y 134 (16, [some (.ref x), l1, l2, l3, l4, l5], .ref x :: st, h)) ∧ (∀ l0 l2 l3 l4 l5 x st h, zz_Y 134 (16, [l0, some (.int x), l2, l3, l4, l5], st, h) = zz_Y 134 (17, [l0, some (.int x), l2, l3, l4, l5], .int x :: st, h)) ∧ (∀ l0 l1 l2 l3 l4 x st h, zz_Y 134 (17, [l0, l1, l2, l3, l4, some (.int x)], st, h) = zz_Y 134 (19, [l0, l1, l2, l3, l4, some (.int x)], .int x :: st, h)) ∧ (∀ ls a0 a1 a2 s0 h, zz_Y 134 (19, ls, [a2, a1, a0, s0], h) = mo_k 134 22 ls [s0] (zz_run 63 [a0, a1, a2] h)) ∧ (∀ l1 l2 l3 l4 l5 x st h, zz_Y 134 (22, [some (.ref x), l1, l2, l3, l4, l5], st, h) = zz_Y 134 (23, [some (.ref x), l1, l2, l3, l4, l5], .ref x :: st, h)) ∧ (∀ l0 l1 l3 l4 l5 x st h, zz_Y 134 (23, [l0, l1, some (.int x), l3, l4, l5], st, h) = zz_Y 134 (24, [l0, l1, some (.int x), l3, l4, l5], .int x :: st, h)) ∧ (∀ l0 l1 l2 l3 l4 x st h, zz_Y 134 (24, [l0, l1, l2, l3, l4, some (.int x)], st, h) = zz_Y 134 (26, [l0, l1, l2, l3, l4, some (.int x)], .int x :: st, h)) ∧ (∀ ls a0 a1 a2 s0 s1 h, zz_Y 134 (26, ls, [a2, a1, a0, s0, s1], h) = mo_k 134 29 ls [s0, s1] (zz_run 63 [a0, a1, a2] h)) ∧ (∀ l0 l1 l2 l4 l5 x st h, zz_Y 134 (29, [l0, l1, l2, some (.int x), l4, l5], st, h) = zz_Y 134 (30, [l0, l1, l2, some (.int x), l4, l5], .int x :: st, h)) ∧ (∀ ls a0 a1 a2 s0 h, zz_Y 134 (30, ls, [a2, a1, a0, s0], h) = mo_k 134 33 ls [s0] (zz_run 74 [a0, a1, a2] h)) ∧ (∀ ls a b st h, zz_Y 134 (33, ls, .int b :: .int a :: st, h) = zz_Y 134 (34, ls, .int (a + b) :: st, h)) ∧ (∀ l0 l1 l2 l3 l4 l5 x st h, zz_nl l3 = true → zz_Y 134 (34, [l0, l1, l2, l3, l4, l5], .int x :: st, h) = zz_Y 134 (36, [l0, l1, l2, l3, some (.int x), l5], st, h)) ∧ (∀ l0 l1 l2 l3 l4 x st h, zz_nl l4 = true → zz_Y 134 (36, [l0, l1, l2, l3, l4, some (.int x)], st, h) = zz_Y 134 (39, [l0, l1, l2, l3, l4, some (.int (x + nI 1))], st, h)) ∧ (∀ ls st h, zz_Y 134 (39, ls, st, h) = zz_Y 134 (6, ls, st, h)) ∧ (∀ l0 l1 l2 l3 l5 x st h, zz_Y 134 (42, [l0, l1, l2, l3, some (.int x), l5], st, h) = zz_Y 134 (44, [l0, l1, l2, l3, some (.int x), l5], .int x :: st, h)) ∧ (∀ ls v h, zz_Y 134 (44, ls, [.int v], h) = some (some (.int v), h)) :=
  ⟨fun _ _ _ => xl_ic d134_0 (by decide +kernel),
   fun _ _ _ _ _ _ _ _ _ hc => xl_is d134_1 xml134 (by decide) (zz_nl_s1 hc),
   fun _ _ _ => xl_ic d134_3 (by decide +kernel),
   fun _ _ _ _ _ _ _ _ _ hc => xl_is d134_4 xml134 (by decide) (zz_nl_s1 hc),
   fun _ _ _ => xl_bi d134_8 (by decide +kernel),
   fun _ _ _ _ _ => xl_icge d134_10 rfl,
   fun _ _ _ _ _ _ _ _ => xl_il d134_13 rfl,
   fun _ _ _ _ _ _ _ _ => xl_aln d134_15 rfl,
   fun _ _ _ _ _ _ _ _ => xl_iln d134_16 rfl,
   fun _ _ _ _ _ _ _ _ => xl_il d134_17 rfl,
   fun ls a0 a1 a2 s0 h => xl_cv (As := [a0, a1, a2]) (st := [s0]) d134_19 xco134 xm_6_29 (congrArg Nat.succ xnp63) (by decide +kernel) rfl,
   fun _ _ _ _ _ _ _ _ => xl_aln d134_22 rfl,
   fun _ _ _ _ _ _ _ _ => xl_iln d134_23 rfl,
   fun _ _ _ _ _ _ _ _ => xl_il d134_24 rfl,
   fun ls a0 a1 a2 s0 s1 h => xl_cv (As := [a0, a1, a2]) (st := [s0, s1]) d134_26 xco134 xm_6_29 (congrArg Nat.succ xnp63) (by decide +kernel) rfl,
   fun _ _ _ _ _ _ _ _ => xl_iln d134_29 rfl,
   fun ls a0 a1 a2 s0 h => xl_cs (As := [a0, a1, a2]) (st := [s0]) d134_30 xco134 xm_6_75 xnp74 (by decide +kernel) rfl,
   fun _ _ _ _ _ => xl_iadd d134_33,
   fun _ _ _ _ _ _ _ _ _ hc => xl_is d134_34 xml134 (by decide) (zz_nl_s1 hc),
   fun _ _ _ _ _ _ _ _ hc => xl_inc d134_36 xml134 (by decide) rfl (by decide +kernel) (zz_nl_s1 hc),
   fun _ _ _ => xl_goto d134_39 rfl,
   fun _ _ _ _ _ _ _ _ => xl_il d134_42 rfl,
   fun _ _ _ => xl_iri d134_44 xrt134⟩
theorem x134_c6 : ∀ l0 l1 l2 l3 l4 x st h, zz_Y 134 (6, [l0, l1, l2, l3, l4, some (.int x)], st, h) = zz_Y 134 (8, [l0, l1, l2, l3, l4, some (.int x)], .int x :: st, h) := fun _ _ _ _ _ _ _ _ => xl_il d134_6 rfl
/-! 135 FacetSieve.alike(I)I -/
theorem d135_0 : decode (zz_c 135) 0 = .ok (.aload_n 0, 1) := by decide +kernel
theorem d135_1 : decode (zz_c 135) 1 = .ok (.getfield 12, 3) := by decide +kernel
theorem d135_4 : decode (zz_c 135) 4 = .ok (.getfield 79, 3) := by decide +kernel
theorem d135_7 : decode (zz_c 135) 7 = .ok (.getfield 163, 3) := by decide +kernel
theorem d135_10 : decode (zz_c 135) 10 = .ok (.iload_n 1, 1) := by decide +kernel
theorem d135_11 : decode (zz_c 135) 11 = .ok (.invokevirtual 167, 3) := by decide +kernel
theorem d135_14 : decode (zz_c 135) 14 = .ok (.ifCond .ne 5, 3) := by decide +kernel
theorem d135_17 : decode (zz_c 135) 17 = .ok (.iconst (-1), 1) := by decide +kernel
theorem d135_18 : decode (zz_c 135) 18 = .ok (.ireturn, 1) := by decide +kernel
theorem d135_19 : decode (zz_c 135) 19 = .ok (.aload_n 0, 1) := by decide +kernel
theorem d135_20 : decode (zz_c 135) 20 = .ok (.getfield 12, 3) := by decide +kernel
theorem d135_23 : decode (zz_c 135) 23 = .ok (.getfield 79, 3) := by decide +kernel
theorem d135_26 : decode (zz_c 135) 26 = .ok (.iload_n 1, 1) := by decide +kernel
theorem d135_27 : decode (zz_c 135) 27 = .ok (.invokevirtual 324, 3) := by decide +kernel
theorem d135_30 : decode (zz_c 135) 30 = .ok (.ireturn, 1) := by decide +kernel
theorem x135 : (∀ l1 x st h, zz_Y 135 (0, [some (.ref x), l1], st, h) = zz_Y 135 (1, [some (.ref x), l1], .ref x :: st, h)) ∧ (∀ ls a st h, zz_Y 135 (1, ls, .ref a :: st, h) = mo_gf (hp_g h a) 10 0 135 4 ls st h) ∧ (∀ ls a st h, zz_Y 135 (4, ls, .ref a :: st, h) = mo_gf (hp_g h a) 1 1 135 7 ls st h) ∧ (∀ ls a st h, zz_Y 135 (7, ls, .ref a :: st, h) = mo_gf (hp_g h a) 7 0 135 10 ls st h) ∧ (∀ l0 x st h, zz_Y 135 (10, [l0, some (.int x)], st, h) = zz_Y 135 (11, [l0, some (.int x)], .int x :: st, h)) ∧ (∀ ls a0 a1 h, zz_Y 135 (11, ls, [a1, a0], h) = mo_k 135 14 ls [] (zz_run 44 [a0, a1] h)) ∧ (∀ ls a st h, zz_Y 135 (14, ls, .int a :: st, h) = if a = nI 0 then zz_Y 135 (17, ls, st, h) else zz_Y 135 (19, ls, st, h)) ∧ (∀ ls st h, zz_Y 135 (17, ls, st, h) = zz_Y 135 (18, ls, .int (-1) :: st, h)) ∧ (∀ ls v h, zz_Y 135 (18, ls, [.int v], h) = some (some (.int v), h)) ∧ (∀ l1 x st h, zz_Y 135 (19, [some (.ref x), l1], st, h) = zz_Y 135 (20, [some (.ref x), l1], .ref x :: st, h)) ∧ (∀ ls a st h, zz_Y 135 (20, ls, .ref a :: st, h) = mo_gf (hp_g h a) 10 0 135 23 ls st h) ∧ (∀ ls a st h, zz_Y 135 (23, ls, .ref a :: st, h) = mo_gf (hp_g h a) 1 1 135 26 ls st h) ∧ (∀ l0 x st h, zz_Y 135 (26, [l0, some (.int x)], st, h) = zz_Y 135 (27, [l0, some (.int x)], .int x :: st, h)) ∧ (∀ ls a0 a1 h, zz_Y 135 (27, ls, [a1, a0], h) = mo_k 135 30 ls [] (zz_run 136 [a0, a1] h)) ∧ (∀ ls v h, zz_Y 135 (30, ls, [.int v], h) = some (some (.int v), h)) :=
  ⟨fun _ _ _ _ => xl_aln d135_0 rfl,
   fun _ _ _ _ => xl_gf d135_1 xco135 xf_10_12,
   fun _ _ _ _ => xl_gf d135_4 xco135 xf_10_79,
   fun _ _ _ _ => xl_gf d135_7 xco135 xf_10_163,
   fun _ _ _ _ => xl_iln d135_10 rfl,
   fun ls a0 a1 h => xl_cv (As := [a0, a1]) (st := []) d135_11 xco135 xm_10_167 (congrArg Nat.succ xnp44) (by decide +kernel) rfl,
   fun _ _ _ _ => xl_ifne d135_14 rfl,
   fun _ _ _ => xl_ic d135_17 (by decide +kernel),
   fun _ _ _ => xl_iri d135_18 xrt135,
   fun _ _ _ _ => xl_aln d135_19 rfl,
   fun _ _ _ _ => xl_gf d135_20 xco135 xf_10_12,
   fun _ _ _ _ => xl_gf d135_23 xco135 xf_10_79,
   fun _ _ _ _ => xl_iln d135_26 rfl,
   fun ls a0 a1 h => xl_cv (As := [a0, a1]) (st := []) d135_27 xco135 xm_10_324 (congrArg Nat.succ xnp136) (by decide +kernel) rfl,
   fun _ _ _ => xl_iri d135_30 xrt135⟩
/-! 136 FacetSieve$Stock.mostAlike(I)I -/
theorem d136_0 : decode (zz_c 136) 0 = .ok (.iconst (-1), 1) := by decide +kernel
theorem d136_1 : decode (zz_c 136) 1 = .ok (.istore_n 2, 1) := by decide +kernel
theorem d136_2 : decode (zz_c 136) 2 = .ok (.iconst 0, 1) := by decide +kernel
theorem d136_3 : decode (zz_c 136) 3 = .ok (.istore_n 3, 1) := by decide +kernel
theorem d136_4 : decode (zz_c 136) 4 = .ok (.iconst 1, 1) := by decide +kernel
theorem d136_5 : decode (zz_c 136) 5 = .ok (.istore 4, 2) := by decide +kernel
theorem d136_7 : decode (zz_c 136) 7 = .ok (.iconst 0, 1) := by decide +kernel
theorem d136_8 : decode (zz_c 136) 8 = .ok (.istore 5, 2) := by decide +kernel
theorem d136_10 : decode (zz_c 136) 10 = .ok (.iload 5, 2) := by decide +kernel
theorem d136_12 : decode (zz_c 136) 12 = .ok (.aload_n 0, 1) := by decide +kernel
theorem d136_13 : decode (zz_c 136) 13 = .ok (.getfield 12, 3) := by decide +kernel
theorem d136_16 : decode (zz_c 136) 16 = .ok (.getfield 69, 3) := by decide +kernel
theorem d136_19 : decode (zz_c 136) 19 = .ok (.if_icmp .ge 72, 3) := by decide +kernel
theorem d136_22 : decode (zz_c 136) 22 = .ok (.iload 5, 2) := by decide +kernel
theorem d136_24 : decode (zz_c 136) 24 = .ok (.iload_n 1, 1) := by decide +kernel
theorem d136_25 : decode (zz_c 136) 25 = .ok (.if_icmp .eq 60, 3) := by decide +kernel
theorem d136_28 : decode (zz_c 136) 28 = .ok (.aload_n 0, 1) := by decide +kernel
theorem d136_29 : decode (zz_c 136) 29 = .ok (.getfield 30, 3) := by decide +kernel
theorem d136_32 : decode (zz_c 136) 32 = .ok (.iload_n 1, 1) := by decide +kernel
theorem d136_33 : decode (zz_c 136) 33 = .ok (.iload 5, 2) := by decide +kernel
theorem d136_35 : decode (zz_c 136) 35 = .ok (.iconst 0, 1) := by decide +kernel
theorem d136_36 : decode (zz_c 136) 36 = .ok (.invokevirtual 91, 3) := by decide +kernel
theorem d136_39 : decode (zz_c 136) 39 = .ok (.istore 6, 2) := by decide +kernel
theorem d136_41 : decode (zz_c 136) 41 = .ok (.aload_n 0, 1) := by decide +kernel
theorem d136_42 : decode (zz_c 136) 42 = .ok (.getfield 30, 3) := by decide +kernel
theorem d136_45 : decode (zz_c 136) 45 = .ok (.iload_n 1, 1) := by decide +kernel
theorem d136_46 : decode (zz_c 136) 46 = .ok (.iload 5, 2) := by decide +kernel
theorem d136_48 : decode (zz_c 136) 48 = .ok (.iconst 1, 1) := by decide +kernel
theorem d136_49 : decode (zz_c 136) 49 = .ok (.invokevirtual 91, 3) := by decide +kernel
theorem d136_52 : decode (zz_c 136) 52 = .ok (.iconst 1, 1) := by decide +kernel
theorem d136_53 : decode (zz_c 136) 53 = .ok (.invokestatic 95, 3) := by decide +kernel
theorem d136_56 : decode (zz_c 136) 56 = .ok (.istore 7, 2) := by decide +kernel
theorem d136_58 : decode (zz_c 136) 58 = .ok (.iload_n 2, 1) := by decide +kernel
theorem d136_59 : decode (zz_c 136) 59 = .ok (.iconst (-1), 1) := by decide +kernel
theorem d136_60 : decode (zz_c 136) 60 = .ok (.if_icmp .eq 15, 3) := by decide +kernel
theorem d136_63 : decode (zz_c 136) 63 = .ok (.iload 6, 2) := by decide +kernel
theorem d136_65 : decode (zz_c 136) 65 = .ok (.iload 4, 2) := by decide +kernel
theorem d136_67 : decode (zz_c 136) 67 = .ok (.imul, 1) := by decide +kernel
theorem d136_68 : decode (zz_c 136) 68 = .ok (.iload_n 3, 1) := by decide +kernel
theorem d136_69 : decode (zz_c 136) 69 = .ok (.iload 7, 2) := by decide +kernel
theorem d136_71 : decode (zz_c 136) 71 = .ok (.imul, 1) := by decide +kernel
theorem d136_72 : decode (zz_c 136) 72 = .ok (.if_icmp .le 13, 3) := by decide +kernel
theorem d136_75 : decode (zz_c 136) 75 = .ok (.iload 5, 2) := by decide +kernel
theorem d136_77 : decode (zz_c 136) 77 = .ok (.istore_n 2, 1) := by decide +kernel
theorem d136_78 : decode (zz_c 136) 78 = .ok (.iload 6, 2) := by decide +kernel
theorem d136_80 : decode (zz_c 136) 80 = .ok (.istore_n 3, 1) := by decide +kernel
theorem d136_81 : decode (zz_c 136) 81 = .ok (.iload 7, 2) := by decide +kernel
theorem d136_83 : decode (zz_c 136) 83 = .ok (.istore 4, 2) := by decide +kernel
theorem d136_85 : decode (zz_c 136) 85 = .ok (.iinc 5 1, 3) := by decide +kernel
theorem d136_88 : decode (zz_c 136) 88 = .ok (.goto (-78), 3) := by decide +kernel
theorem d136_91 : decode (zz_c 136) 91 = .ok (.iload_n 2, 1) := by decide +kernel
theorem d136_92 : decode (zz_c 136) 92 = .ok (.ireturn, 1) := by decide +kernel
theorem x136 : (∀ ls st h, zz_Y 136 (0, ls, st, h) = zz_Y 136 (1, ls, .int (-1) :: st, h)) ∧ (∀ l0 l1 l2 l3 l4 l5 l6 l7 x st h, zz_nl l1 = true → zz_Y 136 (1, [l0, l1, l2, l3, l4, l5, l6, l7], .int x :: st, h) = zz_Y 136 (2, [l0, l1, some (.int x), l3, l4, l5, l6, l7], st, h)) ∧ (∀ ls st h, zz_Y 136 (2, ls, st, h) = zz_Y 136 (3, ls, .int (nI 0) :: st, h)) ∧ (∀ l0 l1 l2 l3 l4 l5 l6 l7 x st h, zz_nl l2 = true → zz_Y 136 (3, [l0, l1, l2, l3, l4, l5, l6, l7], .int x :: st, h) = zz_Y 136 (4, [l0, l1, l2, some (.int x), l4, l5, l6, l7], st, h)) ∧ (∀ ls st h, zz_Y 136 (4, ls, st, h) = zz_Y 136 (5, ls, .int (nI 1) :: st, h)) ∧ (∀ l0 l1 l2 l3 l4 l5 l6 l7 x st h, zz_nl l3 = true → zz_Y 136 (5, [l0, l1, l2, l3, l4, l5, l6, l7], .int x :: st, h) = zz_Y 136 (7, [l0, l1, l2, l3, some (.int x), l5, l6, l7], st, h)) ∧ (∀ ls st h, zz_Y 136 (7, ls, st, h) = zz_Y 136 (8, ls, .int (nI 0) :: st, h)) ∧ (∀ l0 l1 l2 l3 l4 l5 l6 l7 x st h, zz_nl l4 = true → zz_Y 136 (8, [l0, l1, l2, l3, l4, l5, l6, l7], .int x :: st, h) = zz_Y 136 (10, [l0, l1, l2, l3, l4, some (.int x), l6, l7], st, h)) ∧ (∀ l1 l2 l3 l4 l5 l6 l7 x st h, zz_Y 136 (12, [some (.ref x), l1, l2, l3, l4, l5, l6, l7], st, h) = zz_Y 136 (13, [some (.ref x), l1, l2, l3, l4, l5, l6, l7], .ref x :: st, h)) ∧ (∀ ls a st h, zz_Y 136 (13, ls, .ref a :: st, h) = mo_gf (hp_g h a) 7 0 136 16 ls st h) ∧ (∀ ls a st h, zz_Y 136 (16, ls, .ref a :: st, h) = mo_gf (hp_g h a) 3 5 136 19 ls st h) ∧ (∀ ls a b st h, zz_Y 136 (19, ls, .int b :: .int a :: st, h) = if a < b then zz_Y 136 (22, ls, st, h) else zz_Y 136 (91, ls, st, h)) ∧ (∀ l0 l1 l2 l3 l4 l6 l7 x st h, zz_Y 136 (22, [l0, l1, l2, l3, l4, some (.int x), l6, l7], st, h) = zz_Y 136 (24, [l0, l1, l2, l3, l4, some (.int x), l6, l7], .int x :: st, h)) ∧ (∀ l0 l2 l3 l4 l5 l6 l7 x st h, zz_Y 136 (24, [l0, some (.int x), l2, l3, l4, l5, l6, l7], st, h) = zz_Y 136 (25, [l0, some (.int x), l2, l3, l4, l5, l6, l7], .int x :: st, h)) ∧ (∀ ls a b st h, zz_Y 136 (25, ls, .int b :: .int a :: st, h) = if a = b then zz_Y 136 (85, ls, st, h) else zz_Y 136 (28, ls, st, h)) ∧ (∀ l1 l2 l3 l4 l5 l6 l7 x st h, zz_Y 136 (28, [some (.ref x), l1, l2, l3, l4, l5, l6, l7], st, h) = zz_Y 136 (29, [some (.ref x), l1, l2, l3, l4, l5, l6, l7], .ref x :: st, h)) ∧ (∀ ls a st h, zz_Y 136 (29, ls, .ref a :: st, h) = mo_gf (hp_g h a) 7 3 136 32 ls st h) ∧ (∀ l0 l2 l3 l4 l5 l6 l7 x st h, zz_Y 136 (32, [l0, some (.int x), l2, l3, l4, l5, l6, l7], st, h) = zz_Y 136 (33, [l0, some (.int x), l2, l3, l4, l5, l6, l7], .int x :: st, h)) ∧ (∀ l0 l1 l2 l3 l4 l6 l7 x st h, zz_Y 136 (33, [l0, l1, l2, l3, l4, some (.int x), l6, l7], st, h) = zz_Y 136 (35, [l0, l1, l2, l3, l4, some (.int x), l6, l7], .int x :: st, h)) ∧ (∀ ls st h, zz_Y 136 (35, ls, st, h) = zz_Y 136 (36, ls, .int (nI 0) :: st, h)) ∧ (∀ ls a0 a1 a2 a3 h, zz_Y 136 (36, ls, [a3, a2, a1, a0], h) = mo_k 136 39 ls [] (zz_run 133 [a0, a1, a2, a3] h)) ∧ (∀ l0 l1 l2 l3 l4 l5 l6 l7 x st h, zz_nl l5 = true → zz_Y 136 (39, [l0, l1, l2, l3, l4, l5, l6, l7], .int x :: st, h) = zz_Y 136 (41, [l0, l1, l2, l3, l4, l5, some (.int x), l7], st, h)) ∧ (∀ l1 l2 l3 l4 l5 l6 l7 x st h, zz_Y 136 (41, [some (.ref x), l1, l2, l3, l4, l5, l6, l7], st, h) = zz_Y 136 (42, [some (.ref x), l1, l2, l3, l4, l5, l6, l7], .ref x :: st, h)) ∧ (∀ ls a st h, zz_Y 136 (42, ls, .ref a :: st, h) = mo_gf (hp_g h a) 7 3 136 45 ls st h) ∧ (∀ l0 l2 l3 l4 l5 l6 l7 x st h, zz_Y 136 (45, [l0, some (.int x), l2, l3, l4, l5, l6, l7], st, h) = zz_Y 136 (46, [l0, some (.int x), l2, l3, l4, l5, l6, l7], .int x :: st, h)) ∧ (∀ l0 l1 l2 l3 l4 l6 l7 x st h, zz_Y 136 (46, [l0, l1, l2, l3, l4, some (.int x), l6, l7], st, h) = zz_Y 136 (48, [l0, l1, l2, l3, l4, some (.int x), l6, l7], .int x :: st, h)) ∧ (∀ ls st h, zz_Y 136 (48, ls, st, h) = zz_Y 136 (49, ls, .int (nI 1) :: st, h)) ∧ (∀ ls a0 a1 a2 a3 h, zz_Y 136 (49, ls, [a3, a2, a1, a0], h) = mo_k 136 52 ls [] (zz_run 133 [a0, a1, a2, a3] h)) ∧ (∀ ls st h, zz_Y 136 (52, ls, st, h) = zz_Y 136 (53, ls, .int (nI 1) :: st, h)) ∧ (∀ ls a b h, zz_Y 136 (53, ls, [.int b, .int a], h) = zz_Y 136 (56, ls, [.int (if a < b then b else a)], h)) ∧ (∀ l0 l1 l2 l3 l4 l5 l6 l7 x st h, zz_nl l6 = true → zz_Y 136 (56, [l0, l1, l2, l3, l4, l5, l6, l7], .int x :: st, h) = zz_Y 136 (58, [l0, l1, l2, l3, l4, l5, l6, some (.int x)], st, h)) ∧ (∀ l0 l1 l3 l4 l5 l6 l7 x st h, zz_Y 136 (58, [l0, l1, some (.int x), l3, l4, l5, l6, l7], st, h) = zz_Y 136 (59, [l0, l1, some (.int x), l3, l4, l5, l6, l7], .int x :: st, h)) ∧ (∀ ls st h, zz_Y 136 (59, ls, st, h) = zz_Y 136 (60, ls, .int (-1) :: st, h)) ∧ (∀ ls a b st h, zz_Y 136 (60, ls, .int b :: .int a :: st, h) = if a = b then zz_Y 136 (75, ls, st, h) else zz_Y 136 (63, ls, st, h)) ∧ (∀ l0 l1 l2 l3 l4 l5 l7 x st h, zz_Y 136 (63, [l0, l1, l2, l3, l4, l5, some (.int x), l7], st, h) = zz_Y 136 (65, [l0, l1, l2, l3, l4, l5, some (.int x), l7], .int x :: st, h)) ∧ (∀ l0 l1 l2 l3 l5 l6 l7 x st h, zz_Y 136 (65, [l0, l1, l2, l3, some (.int x), l5, l6, l7], st, h) = zz_Y 136 (67, [l0, l1, l2, l3, some (.int x), l5, l6, l7], .int x :: st, h)) ∧ (∀ ls a b st h, zz_Y 136 (67, ls, .int b :: .int a :: st, h) = zz_Y 136 (68, ls, .int (a * b) :: st, h)) ∧ (∀ l0 l1 l2 l4 l5 l6 l7 x st h, zz_Y 136 (68, [l0, l1, l2, some (.int x), l4, l5, l6, l7], st, h) = zz_Y 136 (69, [l0, l1, l2, some (.int x), l4, l5, l6, l7], .int x :: st, h)) ∧ (∀ l0 l1 l2 l3 l4 l5 l6 x st h, zz_Y 136 (69, [l0, l1, l2, l3, l4, l5, l6, some (.int x)], st, h) = zz_Y 136 (71, [l0, l1, l2, l3, l4, l5, l6, some (.int x)], .int x :: st, h)) ∧ (∀ ls a b st h, zz_Y 136 (71, ls, .int b :: .int a :: st, h) = zz_Y 136 (72, ls, .int (a * b) :: st, h)) ∧ (∀ ls a b st h, zz_Y 136 (72, ls, .int b :: .int a :: st, h) = if b < a then zz_Y 136 (75, ls, st, h) else zz_Y 136 (85, ls, st, h)) ∧ (∀ l0 l1 l2 l3 l4 l6 l7 x st h, zz_Y 136 (75, [l0, l1, l2, l3, l4, some (.int x), l6, l7], st, h) = zz_Y 136 (77, [l0, l1, l2, l3, l4, some (.int x), l6, l7], .int x :: st, h)) ∧ (∀ l0 l1 l2 l3 l4 l5 l6 l7 x st h, zz_nl l1 = true → zz_Y 136 (77, [l0, l1, l2, l3, l4, l5, l6, l7], .int x :: st, h) = zz_Y 136 (78, [l0, l1, some (.int x), l3, l4, l5, l6, l7], st, h)) ∧ (∀ l0 l1 l2 l3 l4 l5 l7 x st h, zz_Y 136 (78, [l0, l1, l2, l3, l4, l5, some (.int x), l7], st, h) = zz_Y 136 (80, [l0, l1, l2, l3, l4, l5, some (.int x), l7], .int x :: st, h)) ∧ (∀ l0 l1 l2 l3 l4 l5 l6 l7 x st h, zz_nl l2 = true → zz_Y 136 (80, [l0, l1, l2, l3, l4, l5, l6, l7], .int x :: st, h) = zz_Y 136 (81, [l0, l1, l2, some (.int x), l4, l5, l6, l7], st, h)) ∧ (∀ l0 l1 l2 l3 l4 l5 l6 x st h, zz_Y 136 (81, [l0, l1, l2, l3, l4, l5, l6, some (.int x)], st, h) = zz_Y 136 (83, [l0, l1, l2, l3, l4, l5, l6, some (.int x)], .int x :: st, h)) ∧ (∀ l0 l1 l2 l3 l4 l5 l6 l7 x st h, zz_nl l3 = true → zz_Y 136 (83, [l0, l1, l2, l3, l4, l5, l6, l7], .int x :: st, h) = zz_Y 136 (85, [l0, l1, l2, l3, some (.int x), l5, l6, l7], st, h)) ∧ (∀ l0 l1 l2 l3 l4 l6 l7 x st h, zz_nl l4 = true → zz_Y 136 (85, [l0, l1, l2, l3, l4, some (.int x), l6, l7], st, h) = zz_Y 136 (88, [l0, l1, l2, l3, l4, some (.int (x + nI 1)), l6, l7], st, h)) ∧ (∀ ls st h, zz_Y 136 (88, ls, st, h) = zz_Y 136 (10, ls, st, h)) ∧ (∀ l0 l1 l3 l4 l5 l6 l7 x st h, zz_Y 136 (91, [l0, l1, some (.int x), l3, l4, l5, l6, l7], st, h) = zz_Y 136 (92, [l0, l1, some (.int x), l3, l4, l5, l6, l7], .int x :: st, h)) ∧ (∀ ls v h, zz_Y 136 (92, ls, [.int v], h) = some (some (.int v), h)) :=
  ⟨fun _ _ _ => xl_ic d136_0 (by decide +kernel),
   fun _ _ _ _ _ _ _ _ _ _ _ hc => xl_isn d136_1 xml136 (by decide) (zz_nl_s1 hc),
   fun _ _ _ => xl_ic d136_2 (by decide +kernel),
   fun _ _ _ _ _ _ _ _ _ _ _ hc => xl_isn d136_3 xml136 (by decide) (zz_nl_s1 hc),
   fun _ _ _ => xl_ic d136_4 (by decide +kernel),
   fun _ _ _ _ _ _ _ _ _ _ _ hc => xl_is d136_5 xml136 (by decide) (zz_nl_s1 hc),
   fun _ _ _ => xl_ic d136_7 (by decide +kernel),
   fun _ _ _ _ _ _ _ _ _ _ _ hc => xl_is d136_8 xml136 (by decide) (zz_nl_s1 hc),
   fun _ _ _ _ _ _ _ _ _ _ => xl_aln d136_12 rfl,
   fun _ _ _ _ => xl_gf d136_13 xco136 xf_7_12,
   fun _ _ _ _ => xl_gf d136_16 xco136 xf_7_69,
   fun _ _ _ _ _ => xl_icge d136_19 rfl,
   fun _ _ _ _ _ _ _ _ _ _ => xl_il d136_22 rfl,
   fun _ _ _ _ _ _ _ _ _ _ => xl_iln d136_24 rfl,
   fun _ _ _ _ _ => xl_iceq d136_25 rfl,
   fun _ _ _ _ _ _ _ _ _ _ => xl_aln d136_28 rfl,
   fun _ _ _ _ => xl_gf d136_29 xco136 xf_7_30,
   fun _ _ _ _ _ _ _ _ _ _ => xl_iln d136_32 rfl,
   fun _ _ _ _ _ _ _ _ _ _ => xl_il d136_33 rfl,
   fun _ _ _ => xl_ic d136_35 (by decide +kernel),
   fun ls a0 a1 a2 a3 h => xl_cv (As := [a0, a1, a2, a3]) (st := []) d136_36 xco136 xm_7_91 (congrArg Nat.succ xnp133) (by decide +kernel) rfl,
   fun _ _ _ _ _ _ _ _ _ _ _ hc => xl_is d136_39 xml136 (by decide) (zz_nl_s1 hc),
   fun _ _ _ _ _ _ _ _ _ _ => xl_aln d136_41 rfl,
   fun _ _ _ _ => xl_gf d136_42 xco136 xf_7_30,
   fun _ _ _ _ _ _ _ _ _ _ => xl_iln d136_45 rfl,
   fun _ _ _ _ _ _ _ _ _ _ => xl_il d136_46 rfl,
   fun _ _ _ => xl_ic d136_48 (by decide +kernel),
   fun ls a0 a1 a2 a3 h => xl_cv (As := [a0, a1, a2, a3]) (st := []) d136_49 xco136 xm_7_91 (congrArg Nat.succ xnp133) (by decide +kernel) rfl,
   fun _ _ _ => xl_ic d136_52 (by decide +kernel),
   fun _ _ _ _ => xl_mx d136_53 xco136 xm_7_95 (by decide +kernel) (by decide +kernel) rfl,
   fun _ _ _ _ _ _ _ _ _ _ _ hc => xl_is d136_56 xml136 (by decide) (zz_nl_s1 hc),
   fun _ _ _ _ _ _ _ _ _ _ => xl_iln d136_58 rfl,
   fun _ _ _ => xl_ic d136_59 (by decide +kernel),
   fun _ _ _ _ _ => xl_iceq d136_60 rfl,
   fun _ _ _ _ _ _ _ _ _ _ => xl_il d136_63 rfl,
   fun _ _ _ _ _ _ _ _ _ _ => xl_il d136_65 rfl,
   fun _ _ _ _ _ => xl_imul d136_67,
   fun _ _ _ _ _ _ _ _ _ _ => xl_iln d136_68 rfl,
   fun _ _ _ _ _ _ _ _ _ _ => xl_il d136_69 rfl,
   fun _ _ _ _ _ => xl_imul d136_71,
   fun _ _ _ _ _ => xl_icle d136_72 rfl,
   fun _ _ _ _ _ _ _ _ _ _ => xl_il d136_75 rfl,
   fun _ _ _ _ _ _ _ _ _ _ _ hc => xl_isn d136_77 xml136 (by decide) (zz_nl_s1 hc),
   fun _ _ _ _ _ _ _ _ _ _ => xl_il d136_78 rfl,
   fun _ _ _ _ _ _ _ _ _ _ _ hc => xl_isn d136_80 xml136 (by decide) (zz_nl_s1 hc),
   fun _ _ _ _ _ _ _ _ _ _ => xl_il d136_81 rfl,
   fun _ _ _ _ _ _ _ _ _ _ _ hc => xl_is d136_83 xml136 (by decide) (zz_nl_s1 hc),
   fun _ _ _ _ _ _ _ _ _ _ hc => xl_inc d136_85 xml136 (by decide) rfl (by decide +kernel) (zz_nl_s1 hc),
   fun _ _ _ => xl_goto d136_88 rfl,
   fun _ _ _ _ _ _ _ _ _ _ => xl_iln d136_91 rfl,
   fun _ _ _ => xl_iri d136_92 xrt136⟩
theorem x136_c10 : ∀ l0 l1 l2 l3 l4 l6 l7 x st h, zz_Y 136 (10, [l0, l1, l2, l3, l4, some (.int x), l6, l7], st, h) = zz_Y 136 (12, [l0, l1, l2, l3, l4, some (.int x), l6, l7], .int x :: st, h) := fun _ _ _ _ _ _ _ _ _ _ => xl_il d136_10 rfl
/-! 137 FacetSieve.named(II)I -/
theorem d137_0 : decode (zz_c 137) 0 = .ok (.aload_n 0, 1) := by decide +kernel
theorem d137_1 : decode (zz_c 137) 1 = .ok (.getfield 12, 3) := by decide +kernel
theorem d137_4 : decode (zz_c 137) 4 = .ok (.getfield 79, 3) := by decide +kernel
theorem d137_7 : decode (zz_c 137) 7 = .ok (.iload_n 1, 1) := by decide +kernel
theorem d137_8 : decode (zz_c 137) 8 = .ok (.invokevirtual 156, 3) := by decide +kernel
theorem d137_11 : decode (zz_c 137) 11 = .ok (.ifCond .ne 6, 3) := by decide +kernel
theorem d137_14 : decode (zz_c 137) 14 = .ok (.bipush (-2), 2) := by decide +kernel
theorem d137_16 : decode (zz_c 137) 16 = .ok (.ireturn, 1) := by decide +kernel
theorem d137_17 : decode (zz_c 137) 17 = .ok (.aload_n 0, 1) := by decide +kernel
theorem d137_18 : decode (zz_c 137) 18 = .ok (.getfield 12, 3) := by decide +kernel
theorem d137_21 : decode (zz_c 137) 21 = .ok (.getfield 79, 3) := by decide +kernel
theorem d137_24 : decode (zz_c 137) 24 = .ok (.iload_n 1, 1) := by decide +kernel
theorem d137_25 : decode (zz_c 137) 25 = .ok (.invokevirtual 327, 3) := by decide +kernel
theorem d137_28 : decode (zz_c 137) 28 = .ok (.istore_n 3, 1) := by decide +kernel
theorem d137_29 : decode (zz_c 137) 29 = .ok (.iload_n 3, 1) := by decide +kernel
theorem d137_30 : decode (zz_c 137) 30 = .ok (.iconst (-1), 1) := by decide +kernel
theorem d137_31 : decode (zz_c 137) 31 = .ok (.if_icmp .ne 6, 3) := by decide +kernel
theorem d137_34 : decode (zz_c 137) 34 = .ok (.bipush (-2), 2) := by decide +kernel
theorem d137_36 : decode (zz_c 137) 36 = .ok (.ireturn, 1) := by decide +kernel
theorem d137_37 : decode (zz_c 137) 37 = .ok (.iload_n 2, 1) := by decide +kernel
theorem d137_38 : decode (zz_c 137) 38 = .ok (.iconst (-1), 1) := by decide +kernel
theorem d137_39 : decode (zz_c 137) 39 = .ok (.if_icmp .ne 8, 3) := by decide +kernel
theorem d137_42 : decode (zz_c 137) 42 = .ok (.iload_n 3, 1) := by decide +kernel
theorem d137_43 : decode (zz_c 137) 43 = .ok (.invokestatic 239, 3) := by decide +kernel
theorem d137_46 : decode (zz_c 137) 46 = .ok (.ireturn, 1) := by decide +kernel
theorem d137_47 : decode (zz_c 137) 47 = .ok (.iload_n 3, 1) := by decide +kernel
theorem d137_48 : decode (zz_c 137) 48 = .ok (.iload_n 2, 1) := by decide +kernel
theorem d137_49 : decode (zz_c 137) 49 = .ok (.invokestatic 306, 3) := by decide +kernel
theorem d137_52 : decode (zz_c 137) 52 = .ok (.istore 4, 2) := by decide +kernel
theorem d137_54 : decode (zz_c 137) 54 = .ok (.iload 4, 2) := by decide +kernel
theorem d137_56 : decode (zz_c 137) 56 = .ok (.iconst (-1), 1) := by decide +kernel
theorem d137_57 : decode (zz_c 137) 57 = .ok (.if_icmp .ne 8, 3) := by decide +kernel
theorem d137_60 : decode (zz_c 137) 60 = .ok (.bipush (-2), 2) := by decide +kernel
theorem d137_62 : decode (zz_c 137) 62 = .ok (.goto 5, 3) := by decide +kernel
theorem d137_65 : decode (zz_c 137) 65 = .ok (.iload 4, 2) := by decide +kernel
theorem d137_67 : decode (zz_c 137) 67 = .ok (.ireturn, 1) := by decide +kernel
theorem x137 : (∀ l1 l2 l3 l4 x st h, zz_Y 137 (0, [some (.ref x), l1, l2, l3, l4], st, h) = zz_Y 137 (1, [some (.ref x), l1, l2, l3, l4], .ref x :: st, h)) ∧ (∀ ls a st h, zz_Y 137 (1, ls, .ref a :: st, h) = mo_gf (hp_g h a) 10 0 137 4 ls st h) ∧ (∀ ls a st h, zz_Y 137 (4, ls, .ref a :: st, h) = mo_gf (hp_g h a) 1 1 137 7 ls st h) ∧ (∀ l0 l2 l3 l4 x st h, zz_Y 137 (7, [l0, some (.int x), l2, l3, l4], st, h) = zz_Y 137 (8, [l0, some (.int x), l2, l3, l4], .int x :: st, h)) ∧ (∀ ls a0 a1 h, zz_Y 137 (8, ls, [a1, a0], h) = mo_k 137 11 ls [] (zz_run 47 [a0, a1] h)) ∧ (∀ ls a st h, zz_Y 137 (11, ls, .int a :: st, h) = if a = nI 0 then zz_Y 137 (14, ls, st, h) else zz_Y 137 (17, ls, st, h)) ∧ (∀ ls st h, zz_Y 137 (14, ls, st, h) = zz_Y 137 (16, ls, .int (-2) :: st, h)) ∧ (∀ ls v h, zz_Y 137 (16, ls, [.int v], h) = some (some (.int v), h)) ∧ (∀ l1 l2 l3 l4 x st h, zz_Y 137 (17, [some (.ref x), l1, l2, l3, l4], st, h) = zz_Y 137 (18, [some (.ref x), l1, l2, l3, l4], .ref x :: st, h)) ∧ (∀ ls a st h, zz_Y 137 (18, ls, .ref a :: st, h) = mo_gf (hp_g h a) 10 0 137 21 ls st h) ∧ (∀ ls a st h, zz_Y 137 (21, ls, .ref a :: st, h) = mo_gf (hp_g h a) 1 1 137 24 ls st h) ∧ (∀ l0 l2 l3 l4 x st h, zz_Y 137 (24, [l0, some (.int x), l2, l3, l4], st, h) = zz_Y 137 (25, [l0, some (.int x), l2, l3, l4], .int x :: st, h)) ∧ (∀ ls a0 a1 h, zz_Y 137 (25, ls, [a1, a0], h) = mo_k 137 28 ls [] (zz_run 138 [a0, a1] h)) ∧ (∀ l0 l1 l2 l3 l4 x st h, zz_nl l2 = true → zz_Y 137 (28, [l0, l1, l2, l3, l4], .int x :: st, h) = zz_Y 137 (29, [l0, l1, l2, some (.int x), l4], st, h)) ∧ (∀ l0 l1 l2 l4 x st h, zz_Y 137 (29, [l0, l1, l2, some (.int x), l4], st, h) = zz_Y 137 (30, [l0, l1, l2, some (.int x), l4], .int x :: st, h)) ∧ (∀ ls st h, zz_Y 137 (30, ls, st, h) = zz_Y 137 (31, ls, .int (-1) :: st, h)) ∧ (∀ ls a b st h, zz_Y 137 (31, ls, .int b :: .int a :: st, h) = if a = b then zz_Y 137 (34, ls, st, h) else zz_Y 137 (37, ls, st, h)) ∧ (∀ ls st h, zz_Y 137 (34, ls, st, h) = zz_Y 137 (36, ls, .int (-2) :: st, h)) ∧ (∀ ls v h, zz_Y 137 (36, ls, [.int v], h) = some (some (.int v), h)) ∧ (∀ l0 l1 l3 l4 x st h, zz_Y 137 (37, [l0, l1, some (.int x), l3, l4], st, h) = zz_Y 137 (38, [l0, l1, some (.int x), l3, l4], .int x :: st, h)) ∧ (∀ ls st h, zz_Y 137 (38, ls, st, h) = zz_Y 137 (39, ls, .int (-1) :: st, h)) ∧ (∀ ls a b st h, zz_Y 137 (39, ls, .int b :: .int a :: st, h) = if a = b then zz_Y 137 (42, ls, st, h) else zz_Y 137 (47, ls, st, h)) ∧ (∀ l0 l1 l2 l4 x st h, zz_Y 137 (42, [l0, l1, l2, some (.int x), l4], st, h) = zz_Y 137 (43, [l0, l1, l2, some (.int x), l4], .int x :: st, h)) ∧ (∀ ls a0 h, zz_Y 137 (43, ls, [a0], h) = mo_k 137 46 ls [] (zz_run 64 [a0] h)) ∧ (∀ ls v h, zz_Y 137 (46, ls, [.int v], h) = some (some (.int v), h)) ∧ (∀ l0 l1 l2 l4 x st h, zz_Y 137 (47, [l0, l1, l2, some (.int x), l4], st, h) = zz_Y 137 (48, [l0, l1, l2, some (.int x), l4], .int x :: st, h)) ∧ (∀ l0 l1 l3 l4 x st h, zz_Y 137 (48, [l0, l1, some (.int x), l3, l4], st, h) = zz_Y 137 (49, [l0, l1, some (.int x), l3, l4], .int x :: st, h)) ∧ (∀ ls a0 a1 h, zz_Y 137 (49, ls, [a1, a0], h) = mo_k 137 52 ls [] (zz_run 82 [a0, a1] h)) ∧ (∀ l0 l1 l2 l3 l4 x st h, zz_nl l3 = true → zz_Y 137 (52, [l0, l1, l2, l3, l4], .int x :: st, h) = zz_Y 137 (54, [l0, l1, l2, l3, some (.int x)], st, h)) ∧ (∀ l0 l1 l2 l3 x st h, zz_Y 137 (54, [l0, l1, l2, l3, some (.int x)], st, h) = zz_Y 137 (56, [l0, l1, l2, l3, some (.int x)], .int x :: st, h)) ∧ (∀ ls st h, zz_Y 137 (56, ls, st, h) = zz_Y 137 (57, ls, .int (-1) :: st, h)) ∧ (∀ ls a b st h, zz_Y 137 (57, ls, .int b :: .int a :: st, h) = if a = b then zz_Y 137 (60, ls, st, h) else zz_Y 137 (65, ls, st, h)) ∧ (∀ ls st h, zz_Y 137 (60, ls, st, h) = zz_Y 137 (62, ls, .int (-2) :: st, h)) ∧ (∀ ls st h, zz_Y 137 (62, ls, st, h) = zz_Y 137 (67, ls, st, h)) ∧ (∀ l0 l1 l2 l3 x st h, zz_Y 137 (65, [l0, l1, l2, l3, some (.int x)], st, h) = zz_Y 137 (67, [l0, l1, l2, l3, some (.int x)], .int x :: st, h)) ∧ (∀ ls v h, zz_Y 137 (67, ls, [.int v], h) = some (some (.int v), h)) :=
  ⟨fun _ _ _ _ _ _ _ => xl_aln d137_0 rfl,
   fun _ _ _ _ => xl_gf d137_1 xco137 xf_10_12,
   fun _ _ _ _ => xl_gf d137_4 xco137 xf_10_79,
   fun _ _ _ _ _ _ _ => xl_iln d137_7 rfl,
   fun ls a0 a1 h => xl_cv (As := [a0, a1]) (st := []) d137_8 xco137 xm_10_156 (congrArg Nat.succ xnp47) (by decide +kernel) rfl,
   fun _ _ _ _ => xl_ifne d137_11 rfl,
   fun _ _ _ => xl_bi d137_14 (by decide +kernel),
   fun _ _ _ => xl_iri d137_16 xrt137,
   fun _ _ _ _ _ _ _ => xl_aln d137_17 rfl,
   fun _ _ _ _ => xl_gf d137_18 xco137 xf_10_12,
   fun _ _ _ _ => xl_gf d137_21 xco137 xf_10_79,
   fun _ _ _ _ _ _ _ => xl_iln d137_24 rfl,
   fun ls a0 a1 h => xl_cv (As := [a0, a1]) (st := []) d137_25 xco137 xm_10_327 (congrArg Nat.succ xnp138) (by decide +kernel) rfl,
   fun _ _ _ _ _ _ _ _ hc => xl_isn d137_28 xml137 (by decide) (zz_nl_s1 hc),
   fun _ _ _ _ _ _ _ => xl_iln d137_29 rfl,
   fun _ _ _ => xl_ic d137_30 (by decide +kernel),
   fun _ _ _ _ _ => xl_icne d137_31 rfl,
   fun _ _ _ => xl_bi d137_34 (by decide +kernel),
   fun _ _ _ => xl_iri d137_36 xrt137,
   fun _ _ _ _ _ _ _ => xl_iln d137_37 rfl,
   fun _ _ _ => xl_ic d137_38 (by decide +kernel),
   fun _ _ _ _ _ => xl_icne d137_39 rfl,
   fun _ _ _ _ _ _ _ => xl_iln d137_42 rfl,
   fun ls a0 h => xl_cs (As := [a0]) (st := []) d137_43 xco137 xm_10_239 xnp64 (by decide +kernel) rfl,
   fun _ _ _ => xl_iri d137_46 xrt137,
   fun _ _ _ _ _ _ _ => xl_iln d137_47 rfl,
   fun _ _ _ _ _ _ _ => xl_iln d137_48 rfl,
   fun ls a0 a1 h => xl_cs (As := [a0, a1]) (st := []) d137_49 xco137 xm_10_306 xnp82 (by decide +kernel) rfl,
   fun _ _ _ _ _ _ _ _ hc => xl_is d137_52 xml137 (by decide) (zz_nl_s1 hc),
   fun _ _ _ _ _ _ _ => xl_il d137_54 rfl,
   fun _ _ _ => xl_ic d137_56 (by decide +kernel),
   fun _ _ _ _ _ => xl_icne d137_57 rfl,
   fun _ _ _ => xl_bi d137_60 (by decide +kernel),
   fun _ _ _ => xl_goto d137_62 rfl,
   fun _ _ _ _ _ _ _ => xl_il d137_65 rfl,
   fun _ _ _ => xl_iri d137_67 xrt137⟩
/-! 138 FacetSieve$Stock.namingValues(I)I -/
theorem d138_0 : decode (zz_c 138) 0 = .ok (.aload_n 0, 1) := by decide +kernel
theorem d138_1 : decode (zz_c 138) 1 = .ok (.getfield 30, 3) := by decide +kernel
theorem d138_4 : decode (zz_c 138) 4 = .ok (.bipush 20, 2) := by decide +kernel
theorem d138_6 : decode (zz_c 138) 6 = .ok (.invokevirtual 100, 3) := by decide +kernel
theorem d138_9 : decode (zz_c 138) 9 = .ok (.iconst 1, 1) := by decide +kernel
theorem d138_10 : decode (zz_c 138) 10 = .ok (.if_icmp .ne 5, 3) := by decide +kernel
theorem d138_13 : decode (zz_c 138) 13 = .ok (.iconst 0, 1) := by decide +kernel
theorem d138_14 : decode (zz_c 138) 14 = .ok (.ireturn, 1) := by decide +kernel
theorem d138_15 : decode (zz_c 138) 15 = .ok (.aload_n 0, 1) := by decide +kernel
theorem d138_16 : decode (zz_c 138) 16 = .ok (.getfield 12, 3) := by decide +kernel
theorem d138_19 : decode (zz_c 138) 19 = .ok (.aload_n 0, 1) := by decide +kernel
theorem d138_20 : decode (zz_c 138) 20 = .ok (.getfield 22, 3) := by decide +kernel
theorem d138_23 : decode (zz_c 138) 23 = .ok (.iload_n 1, 1) := by decide +kernel
theorem d138_24 : decode (zz_c 138) 24 = .ok (.iaload, 1) := by decide +kernel
theorem d138_25 : decode (zz_c 138) 25 = .ok (.invokevirtual 65, 3) := by decide +kernel
theorem d138_28 : decode (zz_c 138) 28 = .ok (.istore_n 2, 1) := by decide +kernel
theorem d138_29 : decode (zz_c 138) 29 = .ok (.aload_n 0, 1) := by decide +kernel
theorem d138_30 : decode (zz_c 138) 30 = .ok (.iload_n 2, 1) := by decide +kernel
theorem d138_31 : decode (zz_c 138) 31 = .ok (.invokevirtual 103, 3) := by decide +kernel
theorem d138_34 : decode (zz_c 138) 34 = .ok (.istore_n 3, 1) := by decide +kernel
theorem d138_35 : decode (zz_c 138) 35 = .ok (.iload_n 3, 1) := by decide +kernel
theorem d138_36 : decode (zz_c 138) 36 = .ok (.iconst (-1), 1) := by decide +kernel
theorem d138_37 : decode (zz_c 138) 37 = .ok (.if_icmp .ne 9, 3) := by decide +kernel
theorem d138_40 : decode (zz_c 138) 40 = .ok (.aload_n 0, 1) := by decide +kernel
theorem d138_41 : decode (zz_c 138) 41 = .ok (.iload_n 2, 1) := by decide +kernel
theorem d138_42 : decode (zz_c 138) 42 = .ok (.invokevirtual 106, 3) := by decide +kernel
theorem d138_45 : decode (zz_c 138) 45 = .ok (.istore_n 3, 1) := by decide +kernel
theorem d138_46 : decode (zz_c 138) 46 = .ok (.iload_n 3, 1) := by decide +kernel
theorem d138_47 : decode (zz_c 138) 47 = .ok (.iconst (-1), 1) := by decide +kernel
theorem d138_48 : decode (zz_c 138) 48 = .ok (.if_icmp .ne 11, 3) := by decide +kernel
theorem d138_51 : decode (zz_c 138) 51 = .ok (.aload_n 0, 1) := by decide +kernel
theorem d138_52 : decode (zz_c 138) 52 = .ok (.iload_n 2, 1) := by decide +kernel
theorem d138_53 : decode (zz_c 138) 53 = .ok (.invokevirtual 109, 3) := by decide +kernel
theorem d138_56 : decode (zz_c 138) 56 = .ok (.goto 4, 3) := by decide +kernel
theorem d138_59 : decode (zz_c 138) 59 = .ok (.iload_n 3, 1) := by decide +kernel
theorem d138_60 : decode (zz_c 138) 60 = .ok (.ireturn, 1) := by decide +kernel
theorem x138 : (∀ l1 l2 l3 x st h, zz_Y 138 (0, [some (.ref x), l1, l2, l3], st, h) = zz_Y 138 (1, [some (.ref x), l1, l2, l3], .ref x :: st, h)) ∧ (∀ ls a st h, zz_Y 138 (1, ls, .ref a :: st, h) = mo_gf (hp_g h a) 7 3 138 4 ls st h) ∧ (∀ ls st h, zz_Y 138 (4, ls, st, h) = zz_Y 138 (6, ls, .int (nI 20) :: st, h)) ∧ (∀ ls a0 a1 h, zz_Y 138 (6, ls, [a1, a0], h) = mo_k 138 9 ls [] (zz_run 62 [a0, a1] h)) ∧ (∀ ls st h, zz_Y 138 (9, ls, st, h) = zz_Y 138 (10, ls, .int (nI 1) :: st, h)) ∧ (∀ ls a b st h, zz_Y 138 (10, ls, .int b :: .int a :: st, h) = if a = b then zz_Y 138 (13, ls, st, h) else zz_Y 138 (15, ls, st, h)) ∧ (∀ ls st h, zz_Y 138 (13, ls, st, h) = zz_Y 138 (14, ls, .int (nI 0) :: st, h)) ∧ (∀ ls v h, zz_Y 138 (14, ls, [.int v], h) = some (some (.int v), h)) ∧ (∀ l1 l2 l3 x st h, zz_Y 138 (15, [some (.ref x), l1, l2, l3], st, h) = zz_Y 138 (16, [some (.ref x), l1, l2, l3], .ref x :: st, h)) ∧ (∀ ls a st h, zz_Y 138 (16, ls, .ref a :: st, h) = mo_gf (hp_g h a) 7 0 138 19 ls st h) ∧ (∀ l1 l2 l3 x st h, zz_Y 138 (19, [some (.ref x), l1, l2, l3], st, h) = zz_Y 138 (20, [some (.ref x), l1, l2, l3], .ref x :: st, h)) ∧ (∀ ls a st h, zz_Y 138 (20, ls, .ref a :: st, h) = mo_gf (hp_g h a) 7 2 138 23 ls st h) ∧ (∀ l0 l2 l3 x st h, zz_Y 138 (23, [l0, some (.int x), l2, l3], st, h) = zz_Y 138 (24, [l0, some (.int x), l2, l3], .int x :: st, h)) ∧ (∀ ls a i st h, zz_Y 138 (24, ls, .int i :: .ref a :: st, h) = mo_ia (hp_g h a) i a 138 25 ls st h) ∧ (∀ ls a0 a1 h, zz_Y 138 (25, ls, [a1, a0], h) = mo_k 138 28 ls [] (zz_run 55 [a0, a1] h)) ∧ (∀ l0 l1 l2 l3 x st h, zz_nl l1 = true → zz_Y 138 (28, [l0, l1, l2, l3], .int x :: st, h) = zz_Y 138 (29, [l0, l1, some (.int x), l3], st, h)) ∧ (∀ l1 l2 l3 x st h, zz_Y 138 (29, [some (.ref x), l1, l2, l3], st, h) = zz_Y 138 (30, [some (.ref x), l1, l2, l3], .ref x :: st, h)) ∧ (∀ l0 l1 l3 x st h, zz_Y 138 (30, [l0, l1, some (.int x), l3], st, h) = zz_Y 138 (31, [l0, l1, some (.int x), l3], .int x :: st, h)) ∧ (∀ ls a0 a1 h, zz_Y 138 (31, ls, [a1, a0], h) = mo_k 138 34 ls [] (zz_run 139 [a0, a1] h)) ∧ (∀ l0 l1 l2 l3 x st h, zz_nl l2 = true → zz_Y 138 (34, [l0, l1, l2, l3], .int x :: st, h) = zz_Y 138 (35, [l0, l1, l2, some (.int x)], st, h)) ∧ (∀ l0 l1 l2 x st h, zz_Y 138 (35, [l0, l1, l2, some (.int x)], st, h) = zz_Y 138 (36, [l0, l1, l2, some (.int x)], .int x :: st, h)) ∧ (∀ ls st h, zz_Y 138 (36, ls, st, h) = zz_Y 138 (37, ls, .int (-1) :: st, h)) ∧ (∀ ls a b st h, zz_Y 138 (37, ls, .int b :: .int a :: st, h) = if a = b then zz_Y 138 (40, ls, st, h) else zz_Y 138 (46, ls, st, h)) ∧ (∀ l1 l2 l3 x st h, zz_Y 138 (40, [some (.ref x), l1, l2, l3], st, h) = zz_Y 138 (41, [some (.ref x), l1, l2, l3], .ref x :: st, h)) ∧ (∀ l0 l1 l3 x st h, zz_Y 138 (41, [l0, l1, some (.int x), l3], st, h) = zz_Y 138 (42, [l0, l1, some (.int x), l3], .int x :: st, h)) ∧ (∀ ls a0 a1 h, zz_Y 138 (42, ls, [a1, a0], h) = mo_k 138 45 ls [] (zz_run 141 [a0, a1] h)) ∧ (∀ l0 l1 l2 l3 x st h, zz_nl l2 = true → zz_Y 138 (45, [l0, l1, l2, l3], .int x :: st, h) = zz_Y 138 (46, [l0, l1, l2, some (.int x)], st, h)) ∧ (∀ l0 l1 l2 x st h, zz_Y 138 (46, [l0, l1, l2, some (.int x)], st, h) = zz_Y 138 (47, [l0, l1, l2, some (.int x)], .int x :: st, h)) ∧ (∀ ls st h, zz_Y 138 (47, ls, st, h) = zz_Y 138 (48, ls, .int (-1) :: st, h)) ∧ (∀ ls a b st h, zz_Y 138 (48, ls, .int b :: .int a :: st, h) = if a = b then zz_Y 138 (51, ls, st, h) else zz_Y 138 (59, ls, st, h)) ∧ (∀ l1 l2 l3 x st h, zz_Y 138 (51, [some (.ref x), l1, l2, l3], st, h) = zz_Y 138 (52, [some (.ref x), l1, l2, l3], .ref x :: st, h)) ∧ (∀ l0 l1 l3 x st h, zz_Y 138 (52, [l0, l1, some (.int x), l3], st, h) = zz_Y 138 (53, [l0, l1, some (.int x), l3], .int x :: st, h)) ∧ (∀ ls a0 a1 h, zz_Y 138 (53, ls, [a1, a0], h) = mo_k 138 56 ls [] (zz_run 142 [a0, a1] h)) ∧ (∀ ls st h, zz_Y 138 (56, ls, st, h) = zz_Y 138 (60, ls, st, h)) ∧ (∀ l0 l1 l2 x st h, zz_Y 138 (59, [l0, l1, l2, some (.int x)], st, h) = zz_Y 138 (60, [l0, l1, l2, some (.int x)], .int x :: st, h)) ∧ (∀ ls v h, zz_Y 138 (60, ls, [.int v], h) = some (some (.int v), h)) :=
  ⟨fun _ _ _ _ _ _ => xl_aln d138_0 rfl,
   fun _ _ _ _ => xl_gf d138_1 xco138 xf_7_30,
   fun _ _ _ => xl_bi d138_4 (by decide +kernel),
   fun ls a0 a1 h => xl_cv (As := [a0, a1]) (st := []) d138_6 xco138 xm_7_100 (congrArg Nat.succ xnp62) (by decide +kernel) rfl,
   fun _ _ _ => xl_ic d138_9 (by decide +kernel),
   fun _ _ _ _ _ => xl_icne d138_10 rfl,
   fun _ _ _ => xl_ic d138_13 (by decide +kernel),
   fun _ _ _ => xl_iri d138_14 xrt138,
   fun _ _ _ _ _ _ => xl_aln d138_15 rfl,
   fun _ _ _ _ => xl_gf d138_16 xco138 xf_7_12,
   fun _ _ _ _ _ _ => xl_aln d138_19 rfl,
   fun _ _ _ _ => xl_gf d138_20 xco138 xf_7_22,
   fun _ _ _ _ _ _ => xl_iln d138_23 rfl,
   fun _ _ _ _ _ => xl_ia d138_24,
   fun ls a0 a1 h => xl_cv (As := [a0, a1]) (st := []) d138_25 xco138 xm_7_65 (congrArg Nat.succ xnp55) (by decide +kernel) rfl,
   fun _ _ _ _ _ _ _ hc => xl_isn d138_28 xml138 (by decide) (zz_nl_s1 hc),
   fun _ _ _ _ _ _ => xl_aln d138_29 rfl,
   fun _ _ _ _ _ _ => xl_iln d138_30 rfl,
   fun ls a0 a1 h => xl_cv (As := [a0, a1]) (st := []) d138_31 xco138 xm_7_103 (congrArg Nat.succ xnp139) (by decide +kernel) rfl,
   fun _ _ _ _ _ _ _ hc => xl_isn d138_34 xml138 (by decide) (zz_nl_s1 hc),
   fun _ _ _ _ _ _ => xl_iln d138_35 rfl,
   fun _ _ _ => xl_ic d138_36 (by decide +kernel),
   fun _ _ _ _ _ => xl_icne d138_37 rfl,
   fun _ _ _ _ _ _ => xl_aln d138_40 rfl,
   fun _ _ _ _ _ _ => xl_iln d138_41 rfl,
   fun ls a0 a1 h => xl_cv (As := [a0, a1]) (st := []) d138_42 xco138 xm_7_106 (congrArg Nat.succ xnp141) (by decide +kernel) rfl,
   fun _ _ _ _ _ _ _ hc => xl_isn d138_45 xml138 (by decide) (zz_nl_s1 hc),
   fun _ _ _ _ _ _ => xl_iln d138_46 rfl,
   fun _ _ _ => xl_ic d138_47 (by decide +kernel),
   fun _ _ _ _ _ => xl_icne d138_48 rfl,
   fun _ _ _ _ _ _ => xl_aln d138_51 rfl,
   fun _ _ _ _ _ _ => xl_iln d138_52 rfl,
   fun ls a0 a1 h => xl_cv (As := [a0, a1]) (st := []) d138_53 xco138 xm_7_109 (congrArg Nat.succ xnp142) (by decide +kernel) rfl,
   fun _ _ _ => xl_goto d138_56 rfl,
   fun _ _ _ _ _ _ => xl_iln d138_59 rfl,
   fun _ _ _ => xl_iri d138_60 xrt138⟩
/-! 139 FacetSieve$Stock.namingOne(I)I -/
theorem d139_0 : decode (zz_c 139) 0 = .ok (.iconst 0, 1) := by decide +kernel
theorem d139_1 : decode (zz_c 139) 1 = .ok (.istore_n 2, 1) := by decide +kernel
theorem d139_2 : decode (zz_c 139) 2 = .ok (.iload_n 2, 1) := by decide +kernel
theorem d139_3 : decode (zz_c 139) 3 = .ok (.aload_n 0, 1) := by decide +kernel
theorem d139_4 : decode (zz_c 139) 4 = .ok (.getfield 12, 3) := by decide +kernel
theorem d139_7 : decode (zz_c 139) 7 = .ok (.getfield 69, 3) := by decide +kernel
theorem d139_10 : decode (zz_c 139) 10 = .ok (.if_icmp .ge 31, 3) := by decide +kernel
theorem d139_13 : decode (zz_c 139) 13 = .ok (.iload_n 1, 1) := by decide +kernel
theorem d139_14 : decode (zz_c 139) 14 = .ok (.iload_n 2, 1) := by decide +kernel
theorem d139_15 : decode (zz_c 139) 15 = .ok (.invokestatic 73, 3) := by decide +kernel
theorem d139_18 : decode (zz_c 139) 18 = .ok (.ifCond .eq 17, 3) := by decide +kernel
theorem d139_21 : decode (zz_c 139) 21 = .ok (.aload_n 0, 1) := by decide +kernel
theorem d139_22 : decode (zz_c 139) 22 = .ok (.iload_n 2, 1) := by decide +kernel
theorem d139_23 : decode (zz_c 139) 23 = .ok (.iload_n 2, 1) := by decide +kernel
theorem d139_24 : decode (zz_c 139) 24 = .ok (.iload_n 2, 1) := by decide +kernel
theorem d139_25 : decode (zz_c 139) 25 = .ok (.invokevirtual 112, 3) := by decide +kernel
theorem d139_28 : decode (zz_c 139) 28 = .ok (.ifCond .eq 7, 3) := by decide +kernel
theorem d139_31 : decode (zz_c 139) 31 = .ok (.iconst 1, 1) := by decide +kernel
theorem d139_32 : decode (zz_c 139) 32 = .ok (.iload_n 2, 1) := by decide +kernel
theorem d139_33 : decode (zz_c 139) 33 = .ok (.ishl, 1) := by decide +kernel
theorem d139_34 : decode (zz_c 139) 34 = .ok (.ireturn, 1) := by decide +kernel
theorem d139_35 : decode (zz_c 139) 35 = .ok (.iinc 2 1, 3) := by decide +kernel
theorem d139_38 : decode (zz_c 139) 38 = .ok (.goto (-36), 3) := by decide +kernel
theorem d139_41 : decode (zz_c 139) 41 = .ok (.iconst (-1), 1) := by decide +kernel
theorem d139_42 : decode (zz_c 139) 42 = .ok (.ireturn, 1) := by decide +kernel
theorem x139 : (∀ ls st h, zz_Y 139 (0, ls, st, h) = zz_Y 139 (1, ls, .int (nI 0) :: st, h)) ∧ (∀ l0 l1 l2 x st h, zz_nl l1 = true → zz_Y 139 (1, [l0, l1, l2], .int x :: st, h) = zz_Y 139 (2, [l0, l1, some (.int x)], st, h)) ∧ (∀ l1 l2 x st h, zz_Y 139 (3, [some (.ref x), l1, l2], st, h) = zz_Y 139 (4, [some (.ref x), l1, l2], .ref x :: st, h)) ∧ (∀ ls a st h, zz_Y 139 (4, ls, .ref a :: st, h) = mo_gf (hp_g h a) 7 0 139 7 ls st h) ∧ (∀ ls a st h, zz_Y 139 (7, ls, .ref a :: st, h) = mo_gf (hp_g h a) 3 5 139 10 ls st h) ∧ (∀ ls a b st h, zz_Y 139 (10, ls, .int b :: .int a :: st, h) = if a < b then zz_Y 139 (13, ls, st, h) else zz_Y 139 (41, ls, st, h)) ∧ (∀ l0 l2 x st h, zz_Y 139 (13, [l0, some (.int x), l2], st, h) = zz_Y 139 (14, [l0, some (.int x), l2], .int x :: st, h)) ∧ (∀ l0 l1 x st h, zz_Y 139 (14, [l0, l1, some (.int x)], st, h) = zz_Y 139 (15, [l0, l1, some (.int x)], .int x :: st, h)) ∧ (∀ ls a0 a1 h, zz_Y 139 (15, ls, [a1, a0], h) = mo_k 139 18 ls [] (zz_run 50 [a0, a1] h)) ∧ (∀ ls a st h, zz_Y 139 (18, ls, .int a :: st, h) = if a = nI 0 then zz_Y 139 (35, ls, st, h) else zz_Y 139 (21, ls, st, h)) ∧ (∀ l1 l2 x st h, zz_Y 139 (21, [some (.ref x), l1, l2], st, h) = zz_Y 139 (22, [some (.ref x), l1, l2], .ref x :: st, h)) ∧ (∀ l0 l1 x st h, zz_Y 139 (22, [l0, l1, some (.int x)], st, h) = zz_Y 139 (23, [l0, l1, some (.int x)], .int x :: st, h)) ∧ (∀ l0 l1 x st h, zz_Y 139 (23, [l0, l1, some (.int x)], st, h) = zz_Y 139 (24, [l0, l1, some (.int x)], .int x :: st, h)) ∧ (∀ l0 l1 x st h, zz_Y 139 (24, [l0, l1, some (.int x)], st, h) = zz_Y 139 (25, [l0, l1, some (.int x)], .int x :: st, h)) ∧ (∀ ls a0 a1 a2 a3 h, zz_Y 139 (25, ls, [a3, a2, a1, a0], h) = mo_k 139 28 ls [] (zz_run 140 [a0, a1, a2, a3] h)) ∧ (∀ ls a st h, zz_Y 139 (28, ls, .int a :: st, h) = if a = nI 0 then zz_Y 139 (35, ls, st, h) else zz_Y 139 (31, ls, st, h)) ∧ (∀ ls st h, zz_Y 139 (31, ls, st, h) = zz_Y 139 (32, ls, .int (nI 1) :: st, h)) ∧ (∀ l0 l1 x st h, zz_Y 139 (32, [l0, l1, some (.int x)], st, h) = zz_Y 139 (33, [l0, l1, some (.int x)], .int x :: st, h)) ∧ (∀ ls a b st h, zz_Y 139 (33, ls, .int b :: .int a :: st, h) = zz_Y 139 (34, ls, .int (a <<< (b &&& 31)) :: st, h)) ∧ (∀ ls v h, zz_Y 139 (34, ls, [.int v], h) = some (some (.int v), h)) ∧ (∀ l0 l1 x st h, zz_nl l1 = true → zz_Y 139 (35, [l0, l1, some (.int x)], st, h) = zz_Y 139 (38, [l0, l1, some (.int (x + nI 1))], st, h)) ∧ (∀ ls st h, zz_Y 139 (38, ls, st, h) = zz_Y 139 (2, ls, st, h)) ∧ (∀ ls st h, zz_Y 139 (41, ls, st, h) = zz_Y 139 (42, ls, .int (-1) :: st, h)) ∧ (∀ ls v h, zz_Y 139 (42, ls, [.int v], h) = some (some (.int v), h)) :=
  ⟨fun _ _ _ => xl_ic d139_0 (by decide +kernel),
   fun _ _ _ _ _ _ hc => xl_isn d139_1 xml139 (by decide) (zz_nl_s1 hc),
   fun _ _ _ _ _ => xl_aln d139_3 rfl,
   fun _ _ _ _ => xl_gf d139_4 xco139 xf_7_12,
   fun _ _ _ _ => xl_gf d139_7 xco139 xf_7_69,
   fun _ _ _ _ _ => xl_icge d139_10 rfl,
   fun _ _ _ _ _ => xl_iln d139_13 rfl,
   fun _ _ _ _ _ => xl_iln d139_14 rfl,
   fun ls a0 a1 h => xl_csn (As := [a0, a1]) (st := []) d139_15 xco139 xm_7_73 xnp50 (by decide +kernel) rfl,
   fun _ _ _ _ => xl_ifeq d139_18 rfl,
   fun _ _ _ _ _ => xl_aln d139_21 rfl,
   fun _ _ _ _ _ => xl_iln d139_22 rfl,
   fun _ _ _ _ _ => xl_iln d139_23 rfl,
   fun _ _ _ _ _ => xl_iln d139_24 rfl,
   fun ls a0 a1 a2 a3 h => xl_cv (As := [a0, a1, a2, a3]) (st := []) d139_25 xco139 xm_7_112 (congrArg Nat.succ xnp140) (by decide +kernel) rfl,
   fun _ _ _ _ => xl_ifeq d139_28 rfl,
   fun _ _ _ => xl_ic d139_31 (by decide +kernel),
   fun _ _ _ _ _ => xl_iln d139_32 rfl,
   fun _ _ _ _ _ => xl_ishl d139_33,
   fun _ _ _ => xl_iri d139_34 xrt139,
   fun _ _ _ _ _ hc => xl_inc d139_35 xml139 (by decide) rfl (by decide +kernel) (zz_nl_s1 hc),
   fun _ _ _ => xl_goto d139_38 rfl,
   fun _ _ _ => xl_ic d139_41 (by decide +kernel),
   fun _ _ _ => xl_iri d139_42 xrt139⟩
theorem x139_c2 : ∀ l0 l1 x st h, zz_Y 139 (2, [l0, l1, some (.int x)], st, h) = zz_Y 139 (3, [l0, l1, some (.int x)], .int x :: st, h) := fun _ _ _ _ _ => xl_iln d139_2 rfl
/-! 140 FacetSieve$Stock.isAlone(III)Z -/
theorem d140_0 : decode (zz_c 140) 0 = .ok (.iconst 0, 1) := by decide +kernel
theorem d140_1 : decode (zz_c 140) 1 = .ok (.istore 4, 2) := by decide +kernel
theorem d140_3 : decode (zz_c 140) 3 = .ok (.iconst 0, 1) := by decide +kernel
theorem d140_4 : decode (zz_c 140) 4 = .ok (.istore 5, 2) := by decide +kernel
theorem d140_6 : decode (zz_c 140) 6 = .ok (.iload 5, 2) := by decide +kernel
theorem d140_8 : decode (zz_c 140) 8 = .ok (.bipush 8, 2) := by decide +kernel
theorem d140_10 : decode (zz_c 140) 10 = .ok (.if_icmp .ge 55, 3) := by decide +kernel
theorem d140_13 : decode (zz_c 140) 13 = .ok (.iload 4, 2) := by decide +kernel
theorem d140_15 : decode (zz_c 140) 15 = .ok (.iconst 2, 1) := by decide +kernel
theorem d140_16 : decode (zz_c 140) 16 = .ok (.if_icmp .ge 49, 3) := by decide +kernel
theorem d140_19 : decode (zz_c 140) 19 = .ok (.iload 4, 2) := by decide +kernel
theorem d140_21 : decode (zz_c 140) 21 = .ok (.aload_n 0, 1) := by decide +kernel
theorem d140_22 : decode (zz_c 140) 22 = .ok (.getfield 30, 3) := by decide +kernel
theorem d140_25 : decode (zz_c 140) 25 = .ok (.iload_n 1, 1) := by decide +kernel
theorem d140_26 : decode (zz_c 140) 26 = .ok (.iload 5, 2) := by decide +kernel
theorem d140_28 : decode (zz_c 140) 28 = .ok (.invokevirtual 116, 3) := by decide +kernel
theorem d140_31 : decode (zz_c 140) 31 = .ok (.aload_n 0, 1) := by decide +kernel
theorem d140_32 : decode (zz_c 140) 32 = .ok (.getfield 30, 3) := by decide +kernel
theorem d140_35 : decode (zz_c 140) 35 = .ok (.iload_n 2, 1) := by decide +kernel
theorem d140_36 : decode (zz_c 140) 36 = .ok (.iload 5, 2) := by decide +kernel
theorem d140_38 : decode (zz_c 140) 38 = .ok (.invokevirtual 116, 3) := by decide +kernel
theorem d140_41 : decode (zz_c 140) 41 = .ok (.iand, 1) := by decide +kernel
theorem d140_42 : decode (zz_c 140) 42 = .ok (.aload_n 0, 1) := by decide +kernel
theorem d140_43 : decode (zz_c 140) 43 = .ok (.getfield 30, 3) := by decide +kernel
theorem d140_46 : decode (zz_c 140) 46 = .ok (.iload_n 3, 1) := by decide +kernel
theorem d140_47 : decode (zz_c 140) 47 = .ok (.iload 5, 2) := by decide +kernel
theorem d140_49 : decode (zz_c 140) 49 = .ok (.invokevirtual 116, 3) := by decide +kernel
theorem d140_52 : decode (zz_c 140) 52 = .ok (.iand, 1) := by decide +kernel
theorem d140_53 : decode (zz_c 140) 53 = .ok (.invokestatic 84, 3) := by decide +kernel
theorem d140_56 : decode (zz_c 140) 56 = .ok (.iadd, 1) := by decide +kernel
theorem d140_57 : decode (zz_c 140) 57 = .ok (.istore 4, 2) := by decide +kernel
theorem d140_59 : decode (zz_c 140) 59 = .ok (.iinc 5 1, 3) := by decide +kernel
theorem d140_62 : decode (zz_c 140) 62 = .ok (.goto (-56), 3) := by decide +kernel
theorem d140_65 : decode (zz_c 140) 65 = .ok (.iload 4, 2) := by decide +kernel
theorem d140_67 : decode (zz_c 140) 67 = .ok (.iconst 1, 1) := by decide +kernel
theorem d140_68 : decode (zz_c 140) 68 = .ok (.if_icmp .ne 7, 3) := by decide +kernel
theorem d140_71 : decode (zz_c 140) 71 = .ok (.iconst 1, 1) := by decide +kernel
theorem d140_72 : decode (zz_c 140) 72 = .ok (.goto 4, 3) := by decide +kernel
theorem d140_75 : decode (zz_c 140) 75 = .ok (.iconst 0, 1) := by decide +kernel
theorem d140_76 : decode (zz_c 140) 76 = .ok (.ireturn, 1) := by decide +kernel
theorem x140 : (∀ ls st h, zz_Y 140 (0, ls, st, h) = zz_Y 140 (1, ls, .int (nI 0) :: st, h)) ∧ (∀ l0 l1 l2 l3 l4 l5 x st h, zz_nl l3 = true → zz_Y 140 (1, [l0, l1, l2, l3, l4, l5], .int x :: st, h) = zz_Y 140 (3, [l0, l1, l2, l3, some (.int x), l5], st, h)) ∧ (∀ ls st h, zz_Y 140 (3, ls, st, h) = zz_Y 140 (4, ls, .int (nI 0) :: st, h)) ∧ (∀ l0 l1 l2 l3 l4 l5 x st h, zz_nl l4 = true → zz_Y 140 (4, [l0, l1, l2, l3, l4, l5], .int x :: st, h) = zz_Y 140 (6, [l0, l1, l2, l3, l4, some (.int x)], st, h)) ∧ (∀ ls st h, zz_Y 140 (8, ls, st, h) = zz_Y 140 (10, ls, .int (nI 8) :: st, h)) ∧ (∀ ls a b st h, zz_Y 140 (10, ls, .int b :: .int a :: st, h) = if a < b then zz_Y 140 (13, ls, st, h) else zz_Y 140 (65, ls, st, h)) ∧ (∀ l0 l1 l2 l3 l5 x st h, zz_Y 140 (13, [l0, l1, l2, l3, some (.int x), l5], st, h) = zz_Y 140 (15, [l0, l1, l2, l3, some (.int x), l5], .int x :: st, h)) ∧ (∀ ls st h, zz_Y 140 (15, ls, st, h) = zz_Y 140 (16, ls, .int (nI 2) :: st, h)) ∧ (∀ ls a b st h, zz_Y 140 (16, ls, .int b :: .int a :: st, h) = if a < b then zz_Y 140 (19, ls, st, h) else zz_Y 140 (65, ls, st, h)) ∧ (∀ l0 l1 l2 l3 l5 x st h, zz_Y 140 (19, [l0, l1, l2, l3, some (.int x), l5], st, h) = zz_Y 140 (21, [l0, l1, l2, l3, some (.int x), l5], .int x :: st, h)) ∧ (∀ l1 l2 l3 l4 l5 x st h, zz_Y 140 (21, [some (.ref x), l1, l2, l3, l4, l5], st, h) = zz_Y 140 (22, [some (.ref x), l1, l2, l3, l4, l5], .ref x :: st, h)) ∧ (∀ ls a st h, zz_Y 140 (22, ls, .ref a :: st, h) = mo_gf (hp_g h a) 7 3 140 25 ls st h) ∧ (∀ l0 l2 l3 l4 l5 x st h, zz_Y 140 (25, [l0, some (.int x), l2, l3, l4, l5], st, h) = zz_Y 140 (26, [l0, some (.int x), l2, l3, l4, l5], .int x :: st, h)) ∧ (∀ l0 l1 l2 l3 l4 x st h, zz_Y 140 (26, [l0, l1, l2, l3, l4, some (.int x)], st, h) = zz_Y 140 (28, [l0, l1, l2, l3, l4, some (.int x)], .int x :: st, h)) ∧ (∀ ls a0 a1 a2 s0 h, zz_Y 140 (28, ls, [a2, a1, a0, s0], h) = mo_k 140 31 ls [s0] (zz_run 63 [a0, a1, a2] h)) ∧ (∀ l1 l2 l3 l4 l5 x st h, zz_Y 140 (31, [some (.ref x), l1, l2, l3, l4, l5], st, h) = zz_Y 140 (32, [some (.ref x), l1, l2, l3, l4, l5], .ref x :: st, h)) ∧ (∀ ls a st h, zz_Y 140 (32, ls, .ref a :: st, h) = mo_gf (hp_g h a) 7 3 140 35 ls st h) ∧ (∀ l0 l1 l3 l4 l5 x st h, zz_Y 140 (35, [l0, l1, some (.int x), l3, l4, l5], st, h) = zz_Y 140 (36, [l0, l1, some (.int x), l3, l4, l5], .int x :: st, h)) ∧ (∀ l0 l1 l2 l3 l4 x st h, zz_Y 140 (36, [l0, l1, l2, l3, l4, some (.int x)], st, h) = zz_Y 140 (38, [l0, l1, l2, l3, l4, some (.int x)], .int x :: st, h)) ∧ (∀ ls a0 a1 a2 s0 s1 h, zz_Y 140 (38, ls, [a2, a1, a0, s0, s1], h) = mo_k 140 41 ls [s0, s1] (zz_run 63 [a0, a1, a2] h)) ∧ (∀ ls a b st h, zz_Y 140 (41, ls, .int b :: .int a :: st, h) = zz_Y 140 (42, ls, .int (a &&& b) :: st, h)) ∧ (∀ l1 l2 l3 l4 l5 x st h, zz_Y 140 (42, [some (.ref x), l1, l2, l3, l4, l5], st, h) = zz_Y 140 (43, [some (.ref x), l1, l2, l3, l4, l5], .ref x :: st, h)) ∧ (∀ ls a st h, zz_Y 140 (43, ls, .ref a :: st, h) = mo_gf (hp_g h a) 7 3 140 46 ls st h) ∧ (∀ l0 l1 l2 l4 l5 x st h, zz_Y 140 (46, [l0, l1, l2, some (.int x), l4, l5], st, h) = zz_Y 140 (47, [l0, l1, l2, some (.int x), l4, l5], .int x :: st, h)) ∧ (∀ l0 l1 l2 l3 l4 x st h, zz_Y 140 (47, [l0, l1, l2, l3, l4, some (.int x)], st, h) = zz_Y 140 (49, [l0, l1, l2, l3, l4, some (.int x)], .int x :: st, h)) ∧ (∀ ls a0 a1 a2 s0 s1 h, zz_Y 140 (49, ls, [a2, a1, a0, s0, s1], h) = mo_k 140 52 ls [s0, s1] (zz_run 63 [a0, a1, a2] h)) ∧ (∀ ls a b st h, zz_Y 140 (52, ls, .int b :: .int a :: st, h) = zz_Y 140 (53, ls, .int (a &&& b) :: st, h)) ∧ (∀ ls a0 s0 h, zz_Y 140 (53, ls, [a0, s0], h) = mo_k 140 56 ls [s0] (zz_run 64 [a0] h)) ∧ (∀ ls a b st h, zz_Y 140 (56, ls, .int b :: .int a :: st, h) = zz_Y 140 (57, ls, .int (a + b) :: st, h)) ∧ (∀ l0 l1 l2 l3 l4 l5 x st h, zz_nl l3 = true → zz_Y 140 (57, [l0, l1, l2, l3, l4, l5], .int x :: st, h) = zz_Y 140 (59, [l0, l1, l2, l3, some (.int x), l5], st, h)) ∧ (∀ l0 l1 l2 l3 l4 x st h, zz_nl l4 = true → zz_Y 140 (59, [l0, l1, l2, l3, l4, some (.int x)], st, h) = zz_Y 140 (62, [l0, l1, l2, l3, l4, some (.int (x + nI 1))], st, h)) ∧ (∀ ls st h, zz_Y 140 (62, ls, st, h) = zz_Y 140 (6, ls, st, h)) ∧ (∀ l0 l1 l2 l3 l5 x st h, zz_Y 140 (65, [l0, l1, l2, l3, some (.int x), l5], st, h) = zz_Y 140 (67, [l0, l1, l2, l3, some (.int x), l5], .int x :: st, h)) ∧ (∀ ls st h, zz_Y 140 (67, ls, st, h) = zz_Y 140 (68, ls, .int (nI 1) :: st, h)) ∧ (∀ ls a b st h, zz_Y 140 (68, ls, .int b :: .int a :: st, h) = if a = b then zz_Y 140 (71, ls, st, h) else zz_Y 140 (75, ls, st, h)) ∧ (∀ ls st h, zz_Y 140 (71, ls, st, h) = zz_Y 140 (72, ls, .int (nI 1) :: st, h)) ∧ (∀ ls st h, zz_Y 140 (72, ls, st, h) = zz_Y 140 (76, ls, st, h)) ∧ (∀ ls st h, zz_Y 140 (75, ls, st, h) = zz_Y 140 (76, ls, .int (nI 0) :: st, h)) ∧ (∀ ls v h, v = nI 0 ∨ v = nI 1 → zz_Y 140 (76, ls, [.int v], h) = some (some (.int v), h)) :=
  ⟨fun _ _ _ => xl_ic d140_0 (by decide +kernel),
   fun _ _ _ _ _ _ _ _ _ hc => xl_is d140_1 xml140 (by decide) (zz_nl_s1 hc),
   fun _ _ _ => xl_ic d140_3 (by decide +kernel),
   fun _ _ _ _ _ _ _ _ _ hc => xl_is d140_4 xml140 (by decide) (zz_nl_s1 hc),
   fun _ _ _ => xl_bi d140_8 (by decide +kernel),
   fun _ _ _ _ _ => xl_icge d140_10 rfl,
   fun _ _ _ _ _ _ _ _ => xl_il d140_13 rfl,
   fun _ _ _ => xl_ic d140_15 (by decide +kernel),
   fun _ _ _ _ _ => xl_icge d140_16 rfl,
   fun _ _ _ _ _ _ _ _ => xl_il d140_19 rfl,
   fun _ _ _ _ _ _ _ _ => xl_aln d140_21 rfl,
   fun _ _ _ _ => xl_gf d140_22 xco140 xf_7_30,
   fun _ _ _ _ _ _ _ _ => xl_iln d140_25 rfl,
   fun _ _ _ _ _ _ _ _ => xl_il d140_26 rfl,
   fun ls a0 a1 a2 s0 h => xl_cv (As := [a0, a1, a2]) (st := [s0]) d140_28 xco140 xm_7_116 (congrArg Nat.succ xnp63) (by decide +kernel) rfl,
   fun _ _ _ _ _ _ _ _ => xl_aln d140_31 rfl,
   fun _ _ _ _ => xl_gf d140_32 xco140 xf_7_30,
   fun _ _ _ _ _ _ _ _ => xl_iln d140_35 rfl,
   fun _ _ _ _ _ _ _ _ => xl_il d140_36 rfl,
   fun ls a0 a1 a2 s0 s1 h => xl_cv (As := [a0, a1, a2]) (st := [s0, s1]) d140_38 xco140 xm_7_116 (congrArg Nat.succ xnp63) (by decide +kernel) rfl,
   fun _ _ _ _ _ => xl_iand d140_41,
   fun _ _ _ _ _ _ _ _ => xl_aln d140_42 rfl,
   fun _ _ _ _ => xl_gf d140_43 xco140 xf_7_30,
   fun _ _ _ _ _ _ _ _ => xl_iln d140_46 rfl,
   fun _ _ _ _ _ _ _ _ => xl_il d140_47 rfl,
   fun ls a0 a1 a2 s0 s1 h => xl_cv (As := [a0, a1, a2]) (st := [s0, s1]) d140_49 xco140 xm_7_116 (congrArg Nat.succ xnp63) (by decide +kernel) rfl,
   fun _ _ _ _ _ => xl_iand d140_52,
   fun ls a0 s0 h => xl_cs (As := [a0]) (st := [s0]) d140_53 xco140 xm_7_84 xnp64 (by decide +kernel) rfl,
   fun _ _ _ _ _ => xl_iadd d140_56,
   fun _ _ _ _ _ _ _ _ _ hc => xl_is d140_57 xml140 (by decide) (zz_nl_s1 hc),
   fun _ _ _ _ _ _ _ _ hc => xl_inc d140_59 xml140 (by decide) rfl (by decide +kernel) (zz_nl_s1 hc),
   fun _ _ _ => xl_goto d140_62 rfl,
   fun _ _ _ _ _ _ _ _ => xl_il d140_65 rfl,
   fun _ _ _ => xl_ic d140_67 (by decide +kernel),
   fun _ _ _ _ _ => xl_icne d140_68 rfl,
   fun _ _ _ => xl_ic d140_71 (by decide +kernel),
   fun _ _ _ => xl_goto d140_72 rfl,
   fun _ _ _ => xl_ic d140_75 (by decide +kernel),
   fun _ _ _ hc => xl_irz d140_76 xrt140 hc⟩
theorem x140_c6 : ∀ l0 l1 l2 l3 l4 x st h, zz_Y 140 (6, [l0, l1, l2, l3, l4, some (.int x)], st, h) = zz_Y 140 (8, [l0, l1, l2, l3, l4, some (.int x)], .int x :: st, h) := fun _ _ _ _ _ _ _ _ => xl_il d140_6 rfl
/-! 141 FacetSieve$Stock.namingTwo(I)I -/
theorem d141_0 : decode (zz_c 141) 0 = .ok (.iconst 0, 1) := by decide +kernel
theorem d141_1 : decode (zz_c 141) 1 = .ok (.istore_n 2, 1) := by decide +kernel
theorem d141_2 : decode (zz_c 141) 2 = .ok (.iload_n 2, 1) := by decide +kernel
theorem d141_3 : decode (zz_c 141) 3 = .ok (.aload_n 0, 1) := by decide +kernel
theorem d141_4 : decode (zz_c 141) 4 = .ok (.getfield 12, 3) := by decide +kernel
theorem d141_7 : decode (zz_c 141) 7 = .ok (.getfield 69, 3) := by decide +kernel
theorem d141_10 : decode (zz_c 141) 10 = .ok (.if_icmp .ge 64, 3) := by decide +kernel
theorem d141_13 : decode (zz_c 141) 13 = .ok (.iload_n 2, 1) := by decide +kernel
theorem d141_14 : decode (zz_c 141) 14 = .ok (.iconst 1, 1) := by decide +kernel
theorem d141_15 : decode (zz_c 141) 15 = .ok (.iadd, 1) := by decide +kernel
theorem d141_16 : decode (zz_c 141) 16 = .ok (.istore_n 3, 1) := by decide +kernel
theorem d141_17 : decode (zz_c 141) 17 = .ok (.iload_n 1, 1) := by decide +kernel
theorem d141_18 : decode (zz_c 141) 18 = .ok (.iload_n 2, 1) := by decide +kernel
theorem d141_19 : decode (zz_c 141) 19 = .ok (.invokestatic 73, 3) := by decide +kernel
theorem d141_22 : decode (zz_c 141) 22 = .ok (.ifCond .eq 46, 3) := by decide +kernel
theorem d141_25 : decode (zz_c 141) 25 = .ok (.iload_n 3, 1) := by decide +kernel
theorem d141_26 : decode (zz_c 141) 26 = .ok (.aload_n 0, 1) := by decide +kernel
theorem d141_27 : decode (zz_c 141) 27 = .ok (.getfield 12, 3) := by decide +kernel
theorem d141_30 : decode (zz_c 141) 30 = .ok (.getfield 69, 3) := by decide +kernel
theorem d141_33 : decode (zz_c 141) 33 = .ok (.if_icmp .ge 35, 3) := by decide +kernel
theorem d141_36 : decode (zz_c 141) 36 = .ok (.iload_n 1, 1) := by decide +kernel
theorem d141_37 : decode (zz_c 141) 37 = .ok (.iload_n 3, 1) := by decide +kernel
theorem d141_38 : decode (zz_c 141) 38 = .ok (.invokestatic 73, 3) := by decide +kernel
theorem d141_41 : decode (zz_c 141) 41 = .ok (.ifCond .eq 21, 3) := by decide +kernel
theorem d141_44 : decode (zz_c 141) 44 = .ok (.aload_n 0, 1) := by decide +kernel
theorem d141_45 : decode (zz_c 141) 45 = .ok (.iload_n 2, 1) := by decide +kernel
theorem d141_46 : decode (zz_c 141) 46 = .ok (.iload_n 3, 1) := by decide +kernel
theorem d141_47 : decode (zz_c 141) 47 = .ok (.iload_n 3, 1) := by decide +kernel
theorem d141_48 : decode (zz_c 141) 48 = .ok (.invokevirtual 112, 3) := by decide +kernel
theorem d141_51 : decode (zz_c 141) 51 = .ok (.ifCond .eq 11, 3) := by decide +kernel
theorem d141_54 : decode (zz_c 141) 54 = .ok (.iconst 1, 1) := by decide +kernel
theorem d141_55 : decode (zz_c 141) 55 = .ok (.iload_n 2, 1) := by decide +kernel
theorem d141_56 : decode (zz_c 141) 56 = .ok (.ishl, 1) := by decide +kernel
theorem d141_57 : decode (zz_c 141) 57 = .ok (.iconst 1, 1) := by decide +kernel
theorem d141_58 : decode (zz_c 141) 58 = .ok (.iload_n 3, 1) := by decide +kernel
theorem d141_59 : decode (zz_c 141) 59 = .ok (.ishl, 1) := by decide +kernel
theorem d141_60 : decode (zz_c 141) 60 = .ok (.ior, 1) := by decide +kernel
theorem d141_61 : decode (zz_c 141) 61 = .ok (.ireturn, 1) := by decide +kernel
theorem d141_62 : decode (zz_c 141) 62 = .ok (.iinc 3 1, 3) := by decide +kernel
theorem d141_65 : decode (zz_c 141) 65 = .ok (.goto (-48), 3) := by decide +kernel
theorem d141_68 : decode (zz_c 141) 68 = .ok (.iinc 2 1, 3) := by decide +kernel
theorem d141_71 : decode (zz_c 141) 71 = .ok (.goto (-69), 3) := by decide +kernel
theorem d141_74 : decode (zz_c 141) 74 = .ok (.iconst (-1), 1) := by decide +kernel
theorem d141_75 : decode (zz_c 141) 75 = .ok (.ireturn, 1) := by decide +kernel
theorem x141 : (∀ ls st h, zz_Y 141 (0, ls, st, h) = zz_Y 141 (1, ls, .int (nI 0) :: st, h)) ∧ (∀ l0 l1 l2 l3 x st h, zz_nl l1 = true → zz_Y 141 (1, [l0, l1, l2, l3], .int x :: st, h) = zz_Y 141 (2, [l0, l1, some (.int x), l3], st, h)) ∧ (∀ l1 l2 l3 x st h, zz_Y 141 (3, [some (.ref x), l1, l2, l3], st, h) = zz_Y 141 (4, [some (.ref x), l1, l2, l3], .ref x :: st, h)) ∧ (∀ ls a st h, zz_Y 141 (4, ls, .ref a :: st, h) = mo_gf (hp_g h a) 7 0 141 7 ls st h) ∧ (∀ ls a st h, zz_Y 141 (7, ls, .ref a :: st, h) = mo_gf (hp_g h a) 3 5 141 10 ls st h) ∧ (∀ ls a b st h, zz_Y 141 (10, ls, .int b :: .int a :: st, h) = if a < b then zz_Y 141 (13, ls, st, h) else zz_Y 141 (74, ls, st, h)) ∧ (∀ l0 l1 l3 x st h, zz_Y 141 (13, [l0, l1, some (.int x), l3], st, h) = zz_Y 141 (14, [l0, l1, some (.int x), l3], .int x :: st, h)) ∧ (∀ ls st h, zz_Y 141 (14, ls, st, h) = zz_Y 141 (15, ls, .int (nI 1) :: st, h)) ∧ (∀ ls a b st h, zz_Y 141 (15, ls, .int b :: .int a :: st, h) = zz_Y 141 (16, ls, .int (a + b) :: st, h)) ∧ (∀ l0 l1 l2 l3 x st h, zz_nl l2 = true → zz_Y 141 (16, [l0, l1, l2, l3], .int x :: st, h) = zz_Y 141 (17, [l0, l1, l2, some (.int x)], st, h)) ∧ (∀ l0 l1 l3 x st h, zz_Y 141 (18, [l0, l1, some (.int x), l3], st, h) = zz_Y 141 (19, [l0, l1, some (.int x), l3], .int x :: st, h)) ∧ (∀ ls a0 a1 h, zz_Y 141 (19, ls, [a1, a0], h) = mo_k 141 22 ls [] (zz_run 50 [a0, a1] h)) ∧ (∀ ls a st h, zz_Y 141 (22, ls, .int a :: st, h) = if a = nI 0 then zz_Y 141 (68, ls, st, h) else zz_Y 141 (25, ls, st, h)) ∧ (∀ l0 l1 l2 x st h, zz_Y 141 (25, [l0, l1, l2, some (.int x)], st, h) = zz_Y 141 (26, [l0, l1, l2, some (.int x)], .int x :: st, h)) ∧ (∀ l1 l2 l3 x st h, zz_Y 141 (26, [some (.ref x), l1, l2, l3], st, h) = zz_Y 141 (27, [some (.ref x), l1, l2, l3], .ref x :: st, h)) ∧ (∀ ls a st h, zz_Y 141 (27, ls, .ref a :: st, h) = mo_gf (hp_g h a) 7 0 141 30 ls st h) ∧ (∀ ls a st h, zz_Y 141 (30, ls, .ref a :: st, h) = mo_gf (hp_g h a) 3 5 141 33 ls st h) ∧ (∀ ls a b st h, zz_Y 141 (33, ls, .int b :: .int a :: st, h) = if a < b then zz_Y 141 (36, ls, st, h) else zz_Y 141 (68, ls, st, h)) ∧ (∀ l0 l2 l3 x st h, zz_Y 141 (36, [l0, some (.int x), l2, l3], st, h) = zz_Y 141 (37, [l0, some (.int x), l2, l3], .int x :: st, h)) ∧ (∀ l0 l1 l2 x st h, zz_Y 141 (37, [l0, l1, l2, some (.int x)], st, h) = zz_Y 141 (38, [l0, l1, l2, some (.int x)], .int x :: st, h)) ∧ (∀ ls a0 a1 h, zz_Y 141 (38, ls, [a1, a0], h) = mo_k 141 41 ls [] (zz_run 50 [a0, a1] h)) ∧ (∀ ls a st h, zz_Y 141 (41, ls, .int a :: st, h) = if a = nI 0 then zz_Y 141 (62, ls, st, h) else zz_Y 141 (44, ls, st, h)) ∧ (∀ l1 l2 l3 x st h, zz_Y 141 (44, [some (.ref x), l1, l2, l3], st, h) = zz_Y 141 (45, [some (.ref x), l1, l2, l3], .ref x :: st, h)) ∧ (∀ l0 l1 l3 x st h, zz_Y 141 (45, [l0, l1, some (.int x), l3], st, h) = zz_Y 141 (46, [l0, l1, some (.int x), l3], .int x :: st, h)) ∧ (∀ l0 l1 l2 x st h, zz_Y 141 (46, [l0, l1, l2, some (.int x)], st, h) = zz_Y 141 (47, [l0, l1, l2, some (.int x)], .int x :: st, h)) ∧ (∀ l0 l1 l2 x st h, zz_Y 141 (47, [l0, l1, l2, some (.int x)], st, h) = zz_Y 141 (48, [l0, l1, l2, some (.int x)], .int x :: st, h)) ∧ (∀ ls a0 a1 a2 a3 h, zz_Y 141 (48, ls, [a3, a2, a1, a0], h) = mo_k 141 51 ls [] (zz_run 140 [a0, a1, a2, a3] h)) ∧ (∀ ls a st h, zz_Y 141 (51, ls, .int a :: st, h) = if a = nI 0 then zz_Y 141 (62, ls, st, h) else zz_Y 141 (54, ls, st, h)) ∧ (∀ ls st h, zz_Y 141 (54, ls, st, h) = zz_Y 141 (55, ls, .int (nI 1) :: st, h)) ∧ (∀ l0 l1 l3 x st h, zz_Y 141 (55, [l0, l1, some (.int x), l3], st, h) = zz_Y 141 (56, [l0, l1, some (.int x), l3], .int x :: st, h)) ∧ (∀ ls a b st h, zz_Y 141 (56, ls, .int b :: .int a :: st, h) = zz_Y 141 (57, ls, .int (a <<< (b &&& 31)) :: st, h)) ∧ (∀ ls st h, zz_Y 141 (57, ls, st, h) = zz_Y 141 (58, ls, .int (nI 1) :: st, h)) ∧ (∀ l0 l1 l2 x st h, zz_Y 141 (58, [l0, l1, l2, some (.int x)], st, h) = zz_Y 141 (59, [l0, l1, l2, some (.int x)], .int x :: st, h)) ∧ (∀ ls a b st h, zz_Y 141 (59, ls, .int b :: .int a :: st, h) = zz_Y 141 (60, ls, .int (a <<< (b &&& 31)) :: st, h)) ∧ (∀ ls a b st h, zz_Y 141 (60, ls, .int b :: .int a :: st, h) = zz_Y 141 (61, ls, .int (a ||| b) :: st, h)) ∧ (∀ ls v h, zz_Y 141 (61, ls, [.int v], h) = some (some (.int v), h)) ∧ (∀ l0 l1 l2 x st h, zz_nl l2 = true → zz_Y 141 (62, [l0, l1, l2, some (.int x)], st, h) = zz_Y 141 (65, [l0, l1, l2, some (.int (x + nI 1))], st, h)) ∧ (∀ ls st h, zz_Y 141 (65, ls, st, h) = zz_Y 141 (17, ls, st, h)) ∧ (∀ l0 l1 l3 x st h, zz_nl l1 = true → zz_Y 141 (68, [l0, l1, some (.int x), l3], st, h) = zz_Y 141 (71, [l0, l1, some (.int (x + nI 1)), l3], st, h)) ∧ (∀ ls st h, zz_Y 141 (71, ls, st, h) = zz_Y 141 (2, ls, st, h)) ∧ (∀ ls st h, zz_Y 141 (74, ls, st, h) = zz_Y 141 (75, ls, .int (-1) :: st, h)) ∧ (∀ ls v h, zz_Y 141 (75, ls, [.int v], h) = some (some (.int v), h)) :=
  ⟨fun _ _ _ => xl_ic d141_0 (by decide +kernel),
   fun _ _ _ _ _ _ _ hc => xl_isn d141_1 xml141 (by decide) (zz_nl_s1 hc),
   fun _ _ _ _ _ _ => xl_aln d141_3 rfl,
   fun _ _ _ _ => xl_gf d141_4 xco141 xf_7_12,
   fun _ _ _ _ => xl_gf d141_7 xco141 xf_7_69,
   fun _ _ _ _ _ => xl_icge d141_10 rfl,
   fun _ _ _ _ _ _ => xl_iln d141_13 rfl,
   fun _ _ _ => xl_ic d141_14 (by decide +kernel),
   fun _ _ _ _ _ => xl_iadd d141_15,
   fun _ _ _ _ _ _ _ hc => xl_isn d141_16 xml141 (by decide) (zz_nl_s1 hc),
   fun _ _ _ _ _ _ => xl_iln d141_18 rfl,
   fun ls a0 a1 h => xl_csn (As := [a0, a1]) (st := []) d141_19 xco141 xm_7_73 xnp50 (by decide +kernel) rfl,
   fun _ _ _ _ => xl_ifeq d141_22 rfl,
   fun _ _ _ _ _ _ => xl_iln d141_25 rfl,
   fun _ _ _ _ _ _ => xl_aln d141_26 rfl,
   fun _ _ _ _ => xl_gf d141_27 xco141 xf_7_12,
   fun _ _ _ _ => xl_gf d141_30 xco141 xf_7_69,
   fun _ _ _ _ _ => xl_icge d141_33 rfl,
   fun _ _ _ _ _ _ => xl_iln d141_36 rfl,
   fun _ _ _ _ _ _ => xl_iln d141_37 rfl,
   fun ls a0 a1 h => xl_csn (As := [a0, a1]) (st := []) d141_38 xco141 xm_7_73 xnp50 (by decide +kernel) rfl,
   fun _ _ _ _ => xl_ifeq d141_41 rfl,
   fun _ _ _ _ _ _ => xl_aln d141_44 rfl,
   fun _ _ _ _ _ _ => xl_iln d141_45 rfl,
   fun _ _ _ _ _ _ => xl_iln d141_46 rfl,
   fun _ _ _ _ _ _ => xl_iln d141_47 rfl,
   fun ls a0 a1 a2 a3 h => xl_cv (As := [a0, a1, a2, a3]) (st := []) d141_48 xco141 xm_7_112 (congrArg Nat.succ xnp140) (by decide +kernel) rfl,
   fun _ _ _ _ => xl_ifeq d141_51 rfl,
   fun _ _ _ => xl_ic d141_54 (by decide +kernel),
   fun _ _ _ _ _ _ => xl_iln d141_55 rfl,
   fun _ _ _ _ _ => xl_ishl d141_56,
   fun _ _ _ => xl_ic d141_57 (by decide +kernel),
   fun _ _ _ _ _ _ => xl_iln d141_58 rfl,
   fun _ _ _ _ _ => xl_ishl d141_59,
   fun _ _ _ _ _ => xl_ior d141_60,
   fun _ _ _ => xl_iri d141_61 xrt141,
   fun _ _ _ _ _ _ hc => xl_inc d141_62 xml141 (by decide) rfl (by decide +kernel) (zz_nl_s1 hc),
   fun _ _ _ => xl_goto d141_65 rfl,
   fun _ _ _ _ _ _ hc => xl_inc d141_68 xml141 (by decide) rfl (by decide +kernel) (zz_nl_s1 hc),
   fun _ _ _ => xl_goto d141_71 rfl,
   fun _ _ _ => xl_ic d141_74 (by decide +kernel),
   fun _ _ _ => xl_iri d141_75 xrt141⟩
theorem x141_c2 : ∀ l0 l1 l3 x st h, zz_Y 141 (2, [l0, l1, some (.int x), l3], st, h) = zz_Y 141 (3, [l0, l1, some (.int x), l3], .int x :: st, h) := fun _ _ _ _ _ _ => xl_iln d141_2 rfl
theorem x141_c17 : ∀ l0 l2 l3 x st h, zz_Y 141 (17, [l0, some (.int x), l2, l3], st, h) = zz_Y 141 (18, [l0, some (.int x), l2, l3], .int x :: st, h) := fun _ _ _ _ _ _ => xl_iln d141_17 rfl
/-! 142 FacetSieve$Stock.namingThree(I)I -/
theorem d142_0 : decode (zz_c 142) 0 = .ok (.iconst 0, 1) := by decide +kernel
theorem d142_1 : decode (zz_c 142) 1 = .ok (.istore_n 2, 1) := by decide +kernel
theorem d142_2 : decode (zz_c 142) 2 = .ok (.iload_n 2, 1) := by decide +kernel
theorem d142_3 : decode (zz_c 142) 3 = .ok (.aload_n 0, 1) := by decide +kernel
theorem d142_4 : decode (zz_c 142) 4 = .ok (.getfield 12, 3) := by decide +kernel
theorem d142_7 : decode (zz_c 142) 7 = .ok (.getfield 69, 3) := by decide +kernel
theorem d142_10 : decode (zz_c 142) 10 = .ok (.if_icmp .ge 102, 3) := by decide +kernel
theorem d142_13 : decode (zz_c 142) 13 = .ok (.iload_n 2, 1) := by decide +kernel
theorem d142_14 : decode (zz_c 142) 14 = .ok (.iconst 1, 1) := by decide +kernel
theorem d142_15 : decode (zz_c 142) 15 = .ok (.iadd, 1) := by decide +kernel
theorem d142_16 : decode (zz_c 142) 16 = .ok (.istore_n 3, 1) := by decide +kernel
theorem d142_17 : decode (zz_c 142) 17 = .ok (.iload_n 1, 1) := by decide +kernel
theorem d142_18 : decode (zz_c 142) 18 = .ok (.iload_n 2, 1) := by decide +kernel
theorem d142_19 : decode (zz_c 142) 19 = .ok (.invokestatic 73, 3) := by decide +kernel
theorem d142_22 : decode (zz_c 142) 22 = .ok (.ifCond .eq 84, 3) := by decide +kernel
theorem d142_25 : decode (zz_c 142) 25 = .ok (.iload_n 3, 1) := by decide +kernel
theorem d142_26 : decode (zz_c 142) 26 = .ok (.aload_n 0, 1) := by decide +kernel
theorem d142_27 : decode (zz_c 142) 27 = .ok (.getfield 12, 3) := by decide +kernel
theorem d142_30 : decode (zz_c 142) 30 = .ok (.getfield 69, 3) := by decide +kernel
theorem d142_33 : decode (zz_c 142) 33 = .ok (.if_icmp .ge 73, 3) := by decide +kernel
theorem d142_36 : decode (zz_c 142) 36 = .ok (.iload_n 3, 1) := by decide +kernel
theorem d142_37 : decode (zz_c 142) 37 = .ok (.iconst 1, 1) := by decide +kernel
theorem d142_38 : decode (zz_c 142) 38 = .ok (.iadd, 1) := by decide +kernel
theorem d142_39 : decode (zz_c 142) 39 = .ok (.istore 4, 2) := by decide +kernel
theorem d142_41 : decode (zz_c 142) 41 = .ok (.iload_n 1, 1) := by decide +kernel
theorem d142_42 : decode (zz_c 142) 42 = .ok (.iload_n 3, 1) := by decide +kernel
theorem d142_43 : decode (zz_c 142) 43 = .ok (.invokestatic 73, 3) := by decide +kernel
theorem d142_46 : decode (zz_c 142) 46 = .ok (.ifCond .eq 54, 3) := by decide +kernel
theorem d142_49 : decode (zz_c 142) 49 = .ok (.iload 4, 2) := by decide +kernel
theorem d142_51 : decode (zz_c 142) 51 = .ok (.aload_n 0, 1) := by decide +kernel
theorem d142_52 : decode (zz_c 142) 52 = .ok (.getfield 12, 3) := by decide +kernel
theorem d142_55 : decode (zz_c 142) 55 = .ok (.getfield 69, 3) := by decide +kernel
theorem d142_58 : decode (zz_c 142) 58 = .ok (.if_icmp .ge 42, 3) := by decide +kernel
theorem d142_61 : decode (zz_c 142) 61 = .ok (.iload_n 1, 1) := by decide +kernel
theorem d142_62 : decode (zz_c 142) 62 = .ok (.iload 4, 2) := by decide +kernel
theorem d142_64 : decode (zz_c 142) 64 = .ok (.invokestatic 73, 3) := by decide +kernel
theorem d142_67 : decode (zz_c 142) 67 = .ok (.ifCond .eq 27, 3) := by decide +kernel
theorem d142_70 : decode (zz_c 142) 70 = .ok (.aload_n 0, 1) := by decide +kernel
theorem d142_71 : decode (zz_c 142) 71 = .ok (.iload_n 2, 1) := by decide +kernel
theorem d142_72 : decode (zz_c 142) 72 = .ok (.iload_n 3, 1) := by decide +kernel
theorem d142_73 : decode (zz_c 142) 73 = .ok (.iload 4, 2) := by decide +kernel
theorem d142_75 : decode (zz_c 142) 75 = .ok (.invokevirtual 112, 3) := by decide +kernel
theorem d142_78 : decode (zz_c 142) 78 = .ok (.ifCond .eq 16, 3) := by decide +kernel
theorem d142_81 : decode (zz_c 142) 81 = .ok (.iconst 1, 1) := by decide +kernel
theorem d142_82 : decode (zz_c 142) 82 = .ok (.iload_n 2, 1) := by decide +kernel
theorem d142_83 : decode (zz_c 142) 83 = .ok (.ishl, 1) := by decide +kernel
theorem d142_84 : decode (zz_c 142) 84 = .ok (.iconst 1, 1) := by decide +kernel
theorem d142_85 : decode (zz_c 142) 85 = .ok (.iload_n 3, 1) := by decide +kernel
theorem d142_86 : decode (zz_c 142) 86 = .ok (.ishl, 1) := by decide +kernel
theorem d142_87 : decode (zz_c 142) 87 = .ok (.ior, 1) := by decide +kernel
theorem d142_88 : decode (zz_c 142) 88 = .ok (.iconst 1, 1) := by decide +kernel
theorem d142_89 : decode (zz_c 142) 89 = .ok (.iload 4, 2) := by decide +kernel
theorem d142_91 : decode (zz_c 142) 91 = .ok (.ishl, 1) := by decide +kernel
theorem d142_92 : decode (zz_c 142) 92 = .ok (.ior, 1) := by decide +kernel
theorem d142_93 : decode (zz_c 142) 93 = .ok (.ireturn, 1) := by decide +kernel
theorem d142_94 : decode (zz_c 142) 94 = .ok (.iinc 4 1, 3) := by decide +kernel
theorem d142_97 : decode (zz_c 142) 97 = .ok (.goto (-56), 3) := by decide +kernel
theorem d142_100 : decode (zz_c 142) 100 = .ok (.iinc 3 1, 3) := by decide +kernel
theorem d142_103 : decode (zz_c 142) 103 = .ok (.goto (-86), 3) := by decide +kernel
theorem d142_106 : decode (zz_c 142) 106 = .ok (.iinc 2 1, 3) := by decide +kernel
theorem d142_109 : decode (zz_c 142) 109 = .ok (.goto (-107), 3) := by decide +kernel
theorem d142_112 : decode (zz_c 142) 112 = .ok (.iconst (-1), 1) := by decide +kernel
theorem d142_113 : decode (zz_c 142) 113 = .ok (.ireturn, 1) := by decide +kernel
theorem x142 : (∀ ls st h, zz_Y 142 (0, ls, st, h) = zz_Y 142 (1, ls, .int (nI 0) :: st, h)) ∧ (∀ l0 l1 l2 l3 l4 x st h, zz_nl l1 = true → zz_Y 142 (1, [l0, l1, l2, l3, l4], .int x :: st, h) = zz_Y 142 (2, [l0, l1, some (.int x), l3, l4], st, h)) ∧ (∀ l1 l2 l3 l4 x st h, zz_Y 142 (3, [some (.ref x), l1, l2, l3, l4], st, h) = zz_Y 142 (4, [some (.ref x), l1, l2, l3, l4], .ref x :: st, h)) ∧ (∀ ls a st h, zz_Y 142 (4, ls, .ref a :: st, h) = mo_gf (hp_g h a) 7 0 142 7 ls st h) ∧ (∀ ls a st h, zz_Y 142 (7, ls, .ref a :: st, h) = mo_gf (hp_g h a) 3 5 142 10 ls st h) ∧ (∀ ls a b st h, zz_Y 142 (10, ls, .int b :: .int a :: st, h) = if a < b then zz_Y 142 (13, ls, st, h) else zz_Y 142 (112, ls, st, h)) ∧ (∀ l0 l1 l3 l4 x st h, zz_Y 142 (13, [l0, l1, some (.int x), l3, l4], st, h) = zz_Y 142 (14, [l0, l1, some (.int x), l3, l4], .int x :: st, h)) ∧ (∀ ls st h, zz_Y 142 (14, ls, st, h) = zz_Y 142 (15, ls, .int (nI 1) :: st, h)) ∧ (∀ ls a b st h, zz_Y 142 (15, ls, .int b :: .int a :: st, h) = zz_Y 142 (16, ls, .int (a + b) :: st, h)) ∧ (∀ l0 l1 l2 l3 l4 x st h, zz_nl l2 = true → zz_Y 142 (16, [l0, l1, l2, l3, l4], .int x :: st, h) = zz_Y 142 (17, [l0, l1, l2, some (.int x), l4], st, h)) ∧ (∀ l0 l1 l3 l4 x st h, zz_Y 142 (18, [l0, l1, some (.int x), l3, l4], st, h) = zz_Y 142 (19, [l0, l1, some (.int x), l3, l4], .int x :: st, h)) ∧ (∀ ls a0 a1 h, zz_Y 142 (19, ls, [a1, a0], h) = mo_k 142 22 ls [] (zz_run 50 [a0, a1] h)) ∧ (∀ ls a st h, zz_Y 142 (22, ls, .int a :: st, h) = if a = nI 0 then zz_Y 142 (106, ls, st, h) else zz_Y 142 (25, ls, st, h)) ∧ (∀ l0 l1 l2 l4 x st h, zz_Y 142 (25, [l0, l1, l2, some (.int x), l4], st, h) = zz_Y 142 (26, [l0, l1, l2, some (.int x), l4], .int x :: st, h)) ∧ (∀ l1 l2 l3 l4 x st h, zz_Y 142 (26, [some (.ref x), l1, l2, l3, l4], st, h) = zz_Y 142 (27, [some (.ref x), l1, l2, l3, l4], .ref x :: st, h)) ∧ (∀ ls a st h, zz_Y 142 (27, ls, .ref a :: st, h) = mo_gf (hp_g h a) 7 0 142 30 ls st h) ∧ (∀ ls a st h, zz_Y 142 (30, ls, .ref a :: st, h) = mo_gf (hp_g h a) 3 5 142 33 ls st h) ∧ (∀ ls a b st h, zz_Y 142 (33, ls, .int b :: .int a :: st, h) = if a < b then zz_Y 142 (36, ls, st, h) else zz_Y 142 (106, ls, st, h)) ∧ (∀ l0 l1 l2 l4 x st h, zz_Y 142 (36, [l0, l1, l2, some (.int x), l4], st, h) = zz_Y 142 (37, [l0, l1, l2, some (.int x), l4], .int x :: st, h)) ∧ (∀ ls st h, zz_Y 142 (37, ls, st, h) = zz_Y 142 (38, ls, .int (nI 1) :: st, h)) ∧ (∀ ls a b st h, zz_Y 142 (38, ls, .int b :: .int a :: st, h) = zz_Y 142 (39, ls, .int (a + b) :: st, h)) ∧ (∀ l0 l1 l2 l3 l4 x st h, zz_nl l3 = true → zz_Y 142 (39, [l0, l1, l2, l3, l4], .int x :: st, h) = zz_Y 142 (41, [l0, l1, l2, l3, some (.int x)], st, h)) ∧ (∀ l0 l1 l2 l4 x st h, zz_Y 142 (42, [l0, l1, l2, some (.int x), l4], st, h) = zz_Y 142 (43, [l0, l1, l2, some (.int x), l4], .int x :: st, h)) ∧ (∀ ls a0 a1 h, zz_Y 142 (43, ls, [a1, a0], h) = mo_k 142 46 ls [] (zz_run 50 [a0, a1] h)) ∧ (∀ ls a st h, zz_Y 142 (46, ls, .int a :: st, h) = if a = nI 0 then zz_Y 142 (100, ls, st, h) else zz_Y 142 (49, ls, st, h)) ∧ (∀ l0 l1 l2 l3 x st h, zz_Y 142 (49, [l0, l1, l2, l3, some (.int x)], st, h) = zz_Y 142 (51, [l0, l1, l2, l3, some (.int x)], .int x :: st, h)) ∧ (∀ l1 l2 l3 l4 x st h, zz_Y 142 (51, [some (.ref x), l1, l2, l3, l4], st, h) = zz_Y 142 (52, [some (.ref x), l1, l2, l3, l4], .ref x :: st, h)) ∧ (∀ ls a st h, zz_Y 142 (52, ls, .ref a :: st, h) = mo_gf (hp_g h a) 7 0 142 55 ls st h) ∧ (∀ ls a st h, zz_Y 142 (55, ls, .ref a :: st, h) = mo_gf (hp_g h a) 3 5 142 58 ls st h) ∧ (∀ ls a b st h, zz_Y 142 (58, ls, .int b :: .int a :: st, h) = if a < b then zz_Y 142 (61, ls, st, h) else zz_Y 142 (100, ls, st, h)) ∧ (∀ l0 l2 l3 l4 x st h, zz_Y 142 (61, [l0, some (.int x), l2, l3, l4], st, h) = zz_Y 142 (62, [l0, some (.int x), l2, l3, l4], .int x :: st, h)) ∧ (∀ l0 l1 l2 l3 x st h, zz_Y 142 (62, [l0, l1, l2, l3, some (.int x)], st, h) = zz_Y 142 (64, [l0, l1, l2, l3, some (.int x)], .int x :: st, h)) ∧ (∀ ls a0 a1 h, zz_Y 142 (64, ls, [a1, a0], h) = mo_k 142 67 ls [] (zz_run 50 [a0, a1] h)) ∧ (∀ ls a st h, zz_Y 142 (67, ls, .int a :: st, h) = if a = nI 0 then zz_Y 142 (94, ls, st, h) else zz_Y 142 (70, ls, st, h)) ∧ (∀ l1 l2 l3 l4 x st h, zz_Y 142 (70, [some (.ref x), l1, l2, l3, l4], st, h) = zz_Y 142 (71, [some (.ref x), l1, l2, l3, l4], .ref x :: st, h)) ∧ (∀ l0 l1 l3 l4 x st h, zz_Y 142 (71, [l0, l1, some (.int x), l3, l4], st, h) = zz_Y 142 (72, [l0, l1, some (.int x), l3, l4], .int x :: st, h)) ∧ (∀ l0 l1 l2 l4 x st h, zz_Y 142 (72, [l0, l1, l2, some (.int x), l4], st, h) = zz_Y 142 (73, [l0, l1, l2, some (.int x), l4], .int x :: st, h)) ∧ (∀ l0 l1 l2 l3 x st h, zz_Y 142 (73, [l0, l1, l2, l3, some (.int x)], st, h) = zz_Y 142 (75, [l0, l1, l2, l3, some (.int x)], .int x :: st, h)) ∧ (∀ ls a0 a1 a2 a3 h, zz_Y 142 (75, ls, [a3, a2, a1, a0], h) = mo_k 142 78 ls [] (zz_run 140 [a0, a1, a2, a3] h)) ∧ (∀ ls a st h, zz_Y 142 (78, ls, .int a :: st, h) = if a = nI 0 then zz_Y 142 (94, ls, st, h) else zz_Y 142 (81, ls, st, h)) ∧ (∀ ls st h, zz_Y 142 (81, ls, st, h) = zz_Y 142 (82, ls, .int (nI 1) :: st, h)) ∧ (∀ l0 l1 l3 l4 x st h, zz_Y 142 (82, [l0, l1, some (.int x), l3, l4], st, h) = zz_Y 142 (83, [l0, l1, some (.int x), l3, l4], .int x :: st, h)) ∧ (∀ ls a b st h, zz_Y 142 (83, ls, .int b :: .int a :: st, h) = zz_Y 142 (84, ls, .int (a <<< (b &&& 31)) :: st, h)) ∧ (∀ ls st h, zz_Y 142 (84, ls, st, h) = zz_Y 142 (85, ls, .int (nI 1) :: st, h)) ∧ (∀ l0 l1 l2 l4 x st h, zz_Y 142 (85, [l0, l1, l2, some (.int x), l4], st, h) = zz_Y 142 (86, [l0, l1, l2, some (.int x), l4], .int x :: st, h)) ∧ (∀ ls a b st h, zz_Y 142 (86, ls, .int b :: .int a :: st, h) = zz_Y 142 (87, ls, .int (a <<< (b &&& 31)) :: st, h)) ∧ (∀ ls a b st h, zz_Y 142 (87, ls, .int b :: .int a :: st, h) = zz_Y 142 (88, ls, .int (a ||| b) :: st, h)) ∧ (∀ ls st h, zz_Y 142 (88, ls, st, h) = zz_Y 142 (89, ls, .int (nI 1) :: st, h)) ∧ (∀ l0 l1 l2 l3 x st h, zz_Y 142 (89, [l0, l1, l2, l3, some (.int x)], st, h) = zz_Y 142 (91, [l0, l1, l2, l3, some (.int x)], .int x :: st, h)) ∧ (∀ ls a b st h, zz_Y 142 (91, ls, .int b :: .int a :: st, h) = zz_Y 142 (92, ls, .int (a <<< (b &&& 31)) :: st, h)) ∧ (∀ ls a b st h, zz_Y 142 (92, ls, .int b :: .int a :: st, h) = zz_Y 142 (93, ls, .int (a ||| b) :: st, h)) ∧ (∀ ls v h, zz_Y 142 (93, ls, [.int v], h) = some (some (.int v), h)) ∧ (∀ l0 l1 l2 l3 x st h, zz_nl l3 = true → zz_Y 142 (94, [l0, l1, l2, l3, some (.int x)], st, h) = zz_Y 142 (97, [l0, l1, l2, l3, some (.int (x + nI 1))], st, h)) ∧ (∀ ls st h, zz_Y 142 (97, ls, st, h) = zz_Y 142 (41, ls, st, h)) ∧ (∀ l0 l1 l2 l4 x st h, zz_nl l2 = true → zz_Y 142 (100, [l0, l1, l2, some (.int x), l4], st, h) = zz_Y 142 (103, [l0, l1, l2, some (.int (x + nI 1)), l4], st, h)) ∧ (∀ ls st h, zz_Y 142 (103, ls, st, h) = zz_Y 142 (17, ls, st, h)) ∧ (∀ l0 l1 l3 l4 x st h, zz_nl l1 = true → zz_Y 142 (106, [l0, l1, some (.int x), l3, l4], st, h) = zz_Y 142 (109, [l0, l1, some (.int (x + nI 1)), l3, l4], st, h)) ∧ (∀ ls st h, zz_Y 142 (109, ls, st, h) = zz_Y 142 (2, ls, st, h)) ∧ (∀ ls st h, zz_Y 142 (112, ls, st, h) = zz_Y 142 (113, ls, .int (-1) :: st, h)) ∧ (∀ ls v h, zz_Y 142 (113, ls, [.int v], h) = some (some (.int v), h)) :=
  ⟨fun _ _ _ => xl_ic d142_0 (by decide +kernel),
   fun _ _ _ _ _ _ _ _ hc => xl_isn d142_1 xml142 (by decide) (zz_nl_s1 hc),
   fun _ _ _ _ _ _ _ => xl_aln d142_3 rfl,
   fun _ _ _ _ => xl_gf d142_4 xco142 xf_7_12,
   fun _ _ _ _ => xl_gf d142_7 xco142 xf_7_69,
   fun _ _ _ _ _ => xl_icge d142_10 rfl,
   fun _ _ _ _ _ _ _ => xl_iln d142_13 rfl,
   fun _ _ _ => xl_ic d142_14 (by decide +kernel),
   fun _ _ _ _ _ => xl_iadd d142_15,
   fun _ _ _ _ _ _ _ _ hc => xl_isn d142_16 xml142 (by decide) (zz_nl_s1 hc),
   fun _ _ _ _ _ _ _ => xl_iln d142_18 rfl,
   fun ls a0 a1 h => xl_csn (As := [a0, a1]) (st := []) d142_19 xco142 xm_7_73 xnp50 (by decide +kernel) rfl,
   fun _ _ _ _ => xl_ifeq d142_22 rfl,
   fun _ _ _ _ _ _ _ => xl_iln d142_25 rfl,
   fun _ _ _ _ _ _ _ => xl_aln d142_26 rfl,
   fun _ _ _ _ => xl_gf d142_27 xco142 xf_7_12,
   fun _ _ _ _ => xl_gf d142_30 xco142 xf_7_69,
   fun _ _ _ _ _ => xl_icge d142_33 rfl,
   fun _ _ _ _ _ _ _ => xl_iln d142_36 rfl,
   fun _ _ _ => xl_ic d142_37 (by decide +kernel),
   fun _ _ _ _ _ => xl_iadd d142_38,
   fun _ _ _ _ _ _ _ _ hc => xl_is d142_39 xml142 (by decide) (zz_nl_s1 hc),
   fun _ _ _ _ _ _ _ => xl_iln d142_42 rfl,
   fun ls a0 a1 h => xl_csn (As := [a0, a1]) (st := []) d142_43 xco142 xm_7_73 xnp50 (by decide +kernel) rfl,
   fun _ _ _ _ => xl_ifeq d142_46 rfl,
   fun _ _ _ _ _ _ _ => xl_il d142_49 rfl,
   fun _ _ _ _ _ _ _ => xl_aln d142_51 rfl,
   fun _ _ _ _ => xl_gf d142_52 xco142 xf_7_12,
   fun _ _ _ _ => xl_gf d142_55 xco142 xf_7_69,
   fun _ _ _ _ _ => xl_icge d142_58 rfl,
   fun _ _ _ _ _ _ _ => xl_iln d142_61 rfl,
   fun _ _ _ _ _ _ _ => xl_il d142_62 rfl,
   fun ls a0 a1 h => xl_csn (As := [a0, a1]) (st := []) d142_64 xco142 xm_7_73 xnp50 (by decide +kernel) rfl,
   fun _ _ _ _ => xl_ifeq d142_67 rfl,
   fun _ _ _ _ _ _ _ => xl_aln d142_70 rfl,
   fun _ _ _ _ _ _ _ => xl_iln d142_71 rfl,
   fun _ _ _ _ _ _ _ => xl_iln d142_72 rfl,
   fun _ _ _ _ _ _ _ => xl_il d142_73 rfl,
   fun ls a0 a1 a2 a3 h => xl_cv (As := [a0, a1, a2, a3]) (st := []) d142_75 xco142 xm_7_112 (congrArg Nat.succ xnp140) (by decide +kernel) rfl,
   fun _ _ _ _ => xl_ifeq d142_78 rfl,
   fun _ _ _ => xl_ic d142_81 (by decide +kernel),
   fun _ _ _ _ _ _ _ => xl_iln d142_82 rfl,
   fun _ _ _ _ _ => xl_ishl d142_83,
   fun _ _ _ => xl_ic d142_84 (by decide +kernel),
   fun _ _ _ _ _ _ _ => xl_iln d142_85 rfl,
   fun _ _ _ _ _ => xl_ishl d142_86,
   fun _ _ _ _ _ => xl_ior d142_87,
   fun _ _ _ => xl_ic d142_88 (by decide +kernel),
   fun _ _ _ _ _ _ _ => xl_il d142_89 rfl,
   fun _ _ _ _ _ => xl_ishl d142_91,
   fun _ _ _ _ _ => xl_ior d142_92,
   fun _ _ _ => xl_iri d142_93 xrt142,
   fun _ _ _ _ _ _ _ hc => xl_inc d142_94 xml142 (by decide) rfl (by decide +kernel) (zz_nl_s1 hc),
   fun _ _ _ => xl_goto d142_97 rfl,
   fun _ _ _ _ _ _ _ hc => xl_inc d142_100 xml142 (by decide) rfl (by decide +kernel) (zz_nl_s1 hc),
   fun _ _ _ => xl_goto d142_103 rfl,
   fun _ _ _ _ _ _ _ hc => xl_inc d142_106 xml142 (by decide) rfl (by decide +kernel) (zz_nl_s1 hc),
   fun _ _ _ => xl_goto d142_109 rfl,
   fun _ _ _ => xl_ic d142_112 (by decide +kernel),
   fun _ _ _ => xl_iri d142_113 xrt142⟩
theorem x142_c2 : ∀ l0 l1 l3 l4 x st h, zz_Y 142 (2, [l0, l1, some (.int x), l3, l4], st, h) = zz_Y 142 (3, [l0, l1, some (.int x), l3, l4], .int x :: st, h) := fun _ _ _ _ _ _ _ => xl_iln d142_2 rfl
theorem x142_c17 : ∀ l0 l2 l3 l4 x st h, zz_Y 142 (17, [l0, some (.int x), l2, l3, l4], st, h) = zz_Y 142 (18, [l0, some (.int x), l2, l3, l4], .int x :: st, h) := fun _ _ _ _ _ _ _ => xl_iln d142_17 rfl
theorem x142_c41 : ∀ l0 l2 l3 l4 x st h, zz_Y 142 (41, [l0, some (.int x), l2, l3, l4], st, h) = zz_Y 142 (42, [l0, some (.int x), l2, l3, l4], .int x :: st, h) := fun _ _ _ _ _ _ _ => xl_iln d142_41 rfl
/-! 143 FacetSieve.likes(I)I -/
theorem d143_0 : decode (zz_c 143) 0 = .ok (.aload_n 0, 1) := by decide +kernel
theorem d143_1 : decode (zz_c 143) 1 = .ok (.getfield 12, 3) := by decide +kernel
theorem d143_4 : decode (zz_c 143) 4 = .ok (.getfield 79, 3) := by decide +kernel
theorem d143_7 : decode (zz_c 143) 7 = .ok (.iload_n 1, 1) := by decide +kernel
theorem d143_8 : decode (zz_c 143) 8 = .ok (.invokevirtual 156, 3) := by decide +kernel
theorem d143_11 : decode (zz_c 143) 11 = .ok (.ifCond .eq 17, 3) := by decide +kernel
theorem d143_14 : decode (zz_c 143) 14 = .ok (.aload_n 0, 1) := by decide +kernel
theorem d143_15 : decode (zz_c 143) 15 = .ok (.getfield 12, 3) := by decide +kernel
theorem d143_18 : decode (zz_c 143) 18 = .ok (.getfield 79, 3) := by decide +kernel
theorem d143_21 : decode (zz_c 143) 21 = .ok (.iload_n 1, 1) := by decide +kernel
theorem d143_22 : decode (zz_c 143) 22 = .ok (.invokevirtual 330, 3) := by decide +kernel
theorem d143_25 : decode (zz_c 143) 25 = .ok (.goto 4, 3) := by decide +kernel
theorem d143_28 : decode (zz_c 143) 28 = .ok (.iconst (-1), 1) := by decide +kernel
theorem d143_29 : decode (zz_c 143) 29 = .ok (.ireturn, 1) := by decide +kernel
theorem x143 : (∀ l1 x st h, zz_Y 143 (0, [some (.ref x), l1], st, h) = zz_Y 143 (1, [some (.ref x), l1], .ref x :: st, h)) ∧ (∀ ls a st h, zz_Y 143 (1, ls, .ref a :: st, h) = mo_gf (hp_g h a) 10 0 143 4 ls st h) ∧ (∀ ls a st h, zz_Y 143 (4, ls, .ref a :: st, h) = mo_gf (hp_g h a) 1 1 143 7 ls st h) ∧ (∀ l0 x st h, zz_Y 143 (7, [l0, some (.int x)], st, h) = zz_Y 143 (8, [l0, some (.int x)], .int x :: st, h)) ∧ (∀ ls a0 a1 h, zz_Y 143 (8, ls, [a1, a0], h) = mo_k 143 11 ls [] (zz_run 47 [a0, a1] h)) ∧ (∀ ls a st h, zz_Y 143 (11, ls, .int a :: st, h) = if a = nI 0 then zz_Y 143 (28, ls, st, h) else zz_Y 143 (14, ls, st, h)) ∧ (∀ l1 x st h, zz_Y 143 (14, [some (.ref x), l1], st, h) = zz_Y 143 (15, [some (.ref x), l1], .ref x :: st, h)) ∧ (∀ ls a st h, zz_Y 143 (15, ls, .ref a :: st, h) = mo_gf (hp_g h a) 10 0 143 18 ls st h) ∧ (∀ ls a st h, zz_Y 143 (18, ls, .ref a :: st, h) = mo_gf (hp_g h a) 1 1 143 21 ls st h) ∧ (∀ l0 x st h, zz_Y 143 (21, [l0, some (.int x)], st, h) = zz_Y 143 (22, [l0, some (.int x)], .int x :: st, h)) ∧ (∀ ls a0 a1 h, zz_Y 143 (22, ls, [a1, a0], h) = mo_k 143 25 ls [] (zz_run 144 [a0, a1] h)) ∧ (∀ ls st h, zz_Y 143 (25, ls, st, h) = zz_Y 143 (29, ls, st, h)) ∧ (∀ ls st h, zz_Y 143 (28, ls, st, h) = zz_Y 143 (29, ls, .int (-1) :: st, h)) ∧ (∀ ls v h, zz_Y 143 (29, ls, [.int v], h) = some (some (.int v), h)) :=
  ⟨fun _ _ _ _ => xl_aln d143_0 rfl,
   fun _ _ _ _ => xl_gf d143_1 xco143 xf_10_12,
   fun _ _ _ _ => xl_gf d143_4 xco143 xf_10_79,
   fun _ _ _ _ => xl_iln d143_7 rfl,
   fun ls a0 a1 h => xl_cv (As := [a0, a1]) (st := []) d143_8 xco143 xm_10_156 (congrArg Nat.succ xnp47) (by decide +kernel) rfl,
   fun _ _ _ _ => xl_ifeq d143_11 rfl,
   fun _ _ _ _ => xl_aln d143_14 rfl,
   fun _ _ _ _ => xl_gf d143_15 xco143 xf_10_12,
   fun _ _ _ _ => xl_gf d143_18 xco143 xf_10_79,
   fun _ _ _ _ => xl_iln d143_21 rfl,
   fun ls a0 a1 h => xl_cv (As := [a0, a1]) (st := []) d143_22 xco143 xm_10_330 (congrArg Nat.succ xnp144) (by decide +kernel) rfl,
   fun _ _ _ => xl_goto d143_25 rfl,
   fun _ _ _ => xl_ic d143_28 (by decide +kernel),
   fun _ _ _ => xl_iri d143_29 xrt143⟩
/-! 144 FacetSieve$Stock.amountWithTagsOf(I)I -/
theorem d144_0 : decode (zz_c 144) 0 = .ok (.aload_n 0, 1) := by decide +kernel
theorem d144_1 : decode (zz_c 144) 1 = .ok (.getfield 22, 3) := by decide +kernel
theorem d144_4 : decode (zz_c 144) 4 = .ok (.iload_n 1, 1) := by decide +kernel
theorem d144_5 : decode (zz_c 144) 5 = .ok (.iaload, 1) := by decide +kernel
theorem d144_6 : decode (zz_c 144) 6 = .ok (.istore_n 2, 1) := by decide +kernel
theorem d144_7 : decode (zz_c 144) 7 = .ok (.iconst 0, 1) := by decide +kernel
theorem d144_8 : decode (zz_c 144) 8 = .ok (.istore_n 3, 1) := by decide +kernel
theorem d144_9 : decode (zz_c 144) 9 = .ok (.iconst 0, 1) := by decide +kernel
theorem d144_10 : decode (zz_c 144) 10 = .ok (.istore 4, 2) := by decide +kernel
theorem d144_12 : decode (zz_c 144) 12 = .ok (.iload 4, 2) := by decide +kernel
theorem d144_14 : decode (zz_c 144) 14 = .ok (.sipush 256, 3) := by decide +kernel
theorem d144_17 : decode (zz_c 144) 17 = .ok (.if_icmp .ge 36, 3) := by decide +kernel
theorem d144_20 : decode (zz_c 144) 20 = .ok (.aload_n 0, 1) := by decide +kernel
theorem d144_21 : decode (zz_c 144) 21 = .ok (.getfield 18, 3) := by decide +kernel
theorem d144_24 : decode (zz_c 144) 24 = .ok (.iload 4, 2) := by decide +kernel
theorem d144_26 : decode (zz_c 144) 26 = .ok (.iaload, 1) := by decide +kernel
theorem d144_27 : decode (zz_c 144) 27 = .ok (.iconst (-1), 1) := by decide +kernel
theorem d144_28 : decode (zz_c 144) 28 = .ok (.if_icmp .eq 19, 3) := by decide +kernel
theorem d144_31 : decode (zz_c 144) 31 = .ok (.aload_n 0, 1) := by decide +kernel
theorem d144_32 : decode (zz_c 144) 32 = .ok (.getfield 22, 3) := by decide +kernel
theorem d144_35 : decode (zz_c 144) 35 = .ok (.iload 4, 2) := by decide +kernel
theorem d144_37 : decode (zz_c 144) 37 = .ok (.iaload, 1) := by decide +kernel
theorem d144_38 : decode (zz_c 144) 38 = .ok (.iload_n 2, 1) := by decide +kernel
theorem d144_39 : decode (zz_c 144) 39 = .ok (.iand, 1) := by decide +kernel
theorem d144_40 : decode (zz_c 144) 40 = .ok (.iload_n 2, 1) := by decide +kernel
theorem d144_41 : decode (zz_c 144) 41 = .ok (.if_icmp .ne 6, 3) := by decide +kernel
theorem d144_44 : decode (zz_c 144) 44 = .ok (.iinc 3 1, 3) := by decide +kernel
theorem d144_47 : decode (zz_c 144) 47 = .ok (.iinc 4 1, 3) := by decide +kernel
theorem d144_50 : decode (zz_c 144) 50 = .ok (.goto (-38), 3) := by decide +kernel
theorem d144_53 : decode (zz_c 144) 53 = .ok (.iload_n 3, 1) := by decide +kernel
theorem d144_54 : decode (zz_c 144) 54 = .ok (.ireturn, 1) := by decide +kernel
theorem x144 : (∀ l1 l2 l3 l4 x st h, zz_Y 144 (0, [some (.ref x), l1, l2, l3, l4], st, h) = zz_Y 144 (1, [some (.ref x), l1, l2, l3, l4], .ref x :: st, h)) ∧ (∀ ls a st h, zz_Y 144 (1, ls, .ref a :: st, h) = mo_gf (hp_g h a) 7 2 144 4 ls st h) ∧ (∀ l0 l2 l3 l4 x st h, zz_Y 144 (4, [l0, some (.int x), l2, l3, l4], st, h) = zz_Y 144 (5, [l0, some (.int x), l2, l3, l4], .int x :: st, h)) ∧ (∀ ls a i st h, zz_Y 144 (5, ls, .int i :: .ref a :: st, h) = mo_ia (hp_g h a) i a 144 6 ls st h) ∧ (∀ l0 l1 l2 l3 l4 x st h, zz_nl l1 = true → zz_Y 144 (6, [l0, l1, l2, l3, l4], .int x :: st, h) = zz_Y 144 (7, [l0, l1, some (.int x), l3, l4], st, h)) ∧ (∀ ls st h, zz_Y 144 (7, ls, st, h) = zz_Y 144 (8, ls, .int (nI 0) :: st, h)) ∧ (∀ l0 l1 l2 l3 l4 x st h, zz_nl l2 = true → zz_Y 144 (8, [l0, l1, l2, l3, l4], .int x :: st, h) = zz_Y 144 (9, [l0, l1, l2, some (.int x), l4], st, h)) ∧ (∀ ls st h, zz_Y 144 (9, ls, st, h) = zz_Y 144 (10, ls, .int (nI 0) :: st, h)) ∧ (∀ l0 l1 l2 l3 l4 x st h, zz_nl l3 = true → zz_Y 144 (10, [l0, l1, l2, l3, l4], .int x :: st, h) = zz_Y 144 (12, [l0, l1, l2, l3, some (.int x)], st, h)) ∧ (∀ ls st h, zz_Y 144 (14, ls, st, h) = zz_Y 144 (17, ls, .int (nI 256) :: st, h)) ∧ (∀ ls a b st h, zz_Y 144 (17, ls, .int b :: .int a :: st, h) = if a < b then zz_Y 144 (20, ls, st, h) else zz_Y 144 (53, ls, st, h)) ∧ (∀ l1 l2 l3 l4 x st h, zz_Y 144 (20, [some (.ref x), l1, l2, l3, l4], st, h) = zz_Y 144 (21, [some (.ref x), l1, l2, l3, l4], .ref x :: st, h)) ∧ (∀ ls a st h, zz_Y 144 (21, ls, .ref a :: st, h) = mo_gf (hp_g h a) 7 1 144 24 ls st h) ∧ (∀ l0 l1 l2 l3 x st h, zz_Y 144 (24, [l0, l1, l2, l3, some (.int x)], st, h) = zz_Y 144 (26, [l0, l1, l2, l3, some (.int x)], .int x :: st, h)) ∧ (∀ ls a i st h, zz_Y 144 (26, ls, .int i :: .ref a :: st, h) = mo_ia (hp_g h a) i a 144 27 ls st h) ∧ (∀ ls st h, zz_Y 144 (27, ls, st, h) = zz_Y 144 (28, ls, .int (-1) :: st, h)) ∧ (∀ ls a b st h, zz_Y 144 (28, ls, .int b :: .int a :: st, h) = if a = b then zz_Y 144 (47, ls, st, h) else zz_Y 144 (31, ls, st, h)) ∧ (∀ l1 l2 l3 l4 x st h, zz_Y 144 (31, [some (.ref x), l1, l2, l3, l4], st, h) = zz_Y 144 (32, [some (.ref x), l1, l2, l3, l4], .ref x :: st, h)) ∧ (∀ ls a st h, zz_Y 144 (32, ls, .ref a :: st, h) = mo_gf (hp_g h a) 7 2 144 35 ls st h) ∧ (∀ l0 l1 l2 l3 x st h, zz_Y 144 (35, [l0, l1, l2, l3, some (.int x)], st, h) = zz_Y 144 (37, [l0, l1, l2, l3, some (.int x)], .int x :: st, h)) ∧ (∀ ls a i st h, zz_Y 144 (37, ls, .int i :: .ref a :: st, h) = mo_ia (hp_g h a) i a 144 38 ls st h) ∧ (∀ l0 l1 l3 l4 x st h, zz_Y 144 (38, [l0, l1, some (.int x), l3, l4], st, h) = zz_Y 144 (39, [l0, l1, some (.int x), l3, l4], .int x :: st, h)) ∧ (∀ ls a b st h, zz_Y 144 (39, ls, .int b :: .int a :: st, h) = zz_Y 144 (40, ls, .int (a &&& b) :: st, h)) ∧ (∀ l0 l1 l3 l4 x st h, zz_Y 144 (40, [l0, l1, some (.int x), l3, l4], st, h) = zz_Y 144 (41, [l0, l1, some (.int x), l3, l4], .int x :: st, h)) ∧ (∀ ls a b st h, zz_Y 144 (41, ls, .int b :: .int a :: st, h) = if a = b then zz_Y 144 (44, ls, st, h) else zz_Y 144 (47, ls, st, h)) ∧ (∀ l0 l1 l2 l4 x st h, zz_nl l2 = true → zz_Y 144 (44, [l0, l1, l2, some (.int x), l4], st, h) = zz_Y 144 (47, [l0, l1, l2, some (.int (x + nI 1)), l4], st, h)) ∧ (∀ l0 l1 l2 l3 x st h, zz_nl l3 = true → zz_Y 144 (47, [l0, l1, l2, l3, some (.int x)], st, h) = zz_Y 144 (50, [l0, l1, l2, l3, some (.int (x + nI 1))], st, h)) ∧ (∀ ls st h, zz_Y 144 (50, ls, st, h) = zz_Y 144 (12, ls, st, h)) ∧ (∀ l0 l1 l2 l4 x st h, zz_Y 144 (53, [l0, l1, l2, some (.int x), l4], st, h) = zz_Y 144 (54, [l0, l1, l2, some (.int x), l4], .int x :: st, h)) ∧ (∀ ls v h, zz_Y 144 (54, ls, [.int v], h) = some (some (.int v), h)) :=
  ⟨fun _ _ _ _ _ _ _ => xl_aln d144_0 rfl,
   fun _ _ _ _ => xl_gf d144_1 xco144 xf_7_22,
   fun _ _ _ _ _ _ _ => xl_iln d144_4 rfl,
   fun _ _ _ _ _ => xl_ia d144_5,
   fun _ _ _ _ _ _ _ _ hc => xl_isn d144_6 xml144 (by decide) (zz_nl_s1 hc),
   fun _ _ _ => xl_ic d144_7 (by decide +kernel),
   fun _ _ _ _ _ _ _ _ hc => xl_isn d144_8 xml144 (by decide) (zz_nl_s1 hc),
   fun _ _ _ => xl_ic d144_9 (by decide +kernel),
   fun _ _ _ _ _ _ _ _ hc => xl_is d144_10 xml144 (by decide) (zz_nl_s1 hc),
   fun _ _ _ => xl_si d144_14 (by decide +kernel),
   fun _ _ _ _ _ => xl_icge d144_17 rfl,
   fun _ _ _ _ _ _ _ => xl_aln d144_20 rfl,
   fun _ _ _ _ => xl_gf d144_21 xco144 xf_7_18,
   fun _ _ _ _ _ _ _ => xl_il d144_24 rfl,
   fun _ _ _ _ _ => xl_ia d144_26,
   fun _ _ _ => xl_ic d144_27 (by decide +kernel),
   fun _ _ _ _ _ => xl_iceq d144_28 rfl,
   fun _ _ _ _ _ _ _ => xl_aln d144_31 rfl,
   fun _ _ _ _ => xl_gf d144_32 xco144 xf_7_22,
   fun _ _ _ _ _ _ _ => xl_il d144_35 rfl,
   fun _ _ _ _ _ => xl_ia d144_37,
   fun _ _ _ _ _ _ _ => xl_iln d144_38 rfl,
   fun _ _ _ _ _ => xl_iand d144_39,
   fun _ _ _ _ _ _ _ => xl_iln d144_40 rfl,
   fun _ _ _ _ _ => xl_icne d144_41 rfl,
   fun _ _ _ _ _ _ _ hc => xl_inc d144_44 xml144 (by decide) rfl (by decide +kernel) (zz_nl_s1 hc),
   fun _ _ _ _ _ _ _ hc => xl_inc d144_47 xml144 (by decide) rfl (by decide +kernel) (zz_nl_s1 hc),
   fun _ _ _ => xl_goto d144_50 rfl,
   fun _ _ _ _ _ _ _ => xl_iln d144_53 rfl,
   fun _ _ _ => xl_iri d144_54 xrt144⟩
theorem x144_c12 : ∀ l0 l1 l2 l3 x st h, zz_Y 144 (12, [l0, l1, l2, l3, some (.int x)], st, h) = zz_Y 144 (14, [l0, l1, l2, l3, some (.int x)], .int x :: st, h) := fun _ _ _ _ _ _ _ => xl_il d144_12 rfl
/-! 145 FacetSieve.spread(I)I -/
theorem d145_0 : decode (zz_c 145) 0 = .ok (.iload_n 1, 1) := by decide +kernel
theorem d145_1 : decode (zz_c 145) 1 = .ok (.ifCond .lt 9, 3) := by decide +kernel
theorem d145_4 : decode (zz_c 145) 4 = .ok (.iload_n 1, 1) := by decide +kernel
theorem d145_5 : decode (zz_c 145) 5 = .ok (.bipush 20, 2) := by decide +kernel
theorem d145_7 : decode (zz_c 145) 7 = .ok (.if_icmp .le 5, 3) := by decide +kernel
theorem d145_10 : decode (zz_c 145) 10 = .ok (.iconst (-1), 1) := by decide +kernel
theorem d145_11 : decode (zz_c 145) 11 = .ok (.ireturn, 1) := by decide +kernel
theorem d145_12 : decode (zz_c 145) 12 = .ok (.aload_n 0, 1) := by decide +kernel
theorem d145_13 : decode (zz_c 145) 13 = .ok (.invokevirtual 312, 3) := by decide +kernel
theorem d145_16 : decode (zz_c 145) 16 = .ok (.iconst 0, 1) := by decide +kernel
theorem d145_17 : decode (zz_c 145) 17 = .ok (.istore_n 2, 1) := by decide +kernel
theorem d145_18 : decode (zz_c 145) 18 = .ok (.iconst 0, 1) := by decide +kernel
theorem d145_19 : decode (zz_c 145) 19 = .ok (.istore_n 3, 1) := by decide +kernel
theorem d145_20 : decode (zz_c 145) 20 = .ok (.iload_n 3, 1) := by decide +kernel
theorem d145_21 : decode (zz_c 145) 21 = .ok (.sipush 256, 3) := by decide +kernel
theorem d145_24 : decode (zz_c 145) 24 = .ok (.if_icmp .ge 39, 3) := by decide +kernel
theorem d145_27 : decode (zz_c 145) 27 = .ok (.aload_n 0, 1) := by decide +kernel
theorem d145_28 : decode (zz_c 145) 28 = .ok (.getfield 46, 3) := by decide +kernel
theorem d145_31 : decode (zz_c 145) 31 = .ok (.iconst 0, 1) := by decide +kernel
theorem d145_32 : decode (zz_c 145) 32 = .ok (.iload_n 3, 1) := by decide +kernel
theorem d145_33 : decode (zz_c 145) 33 = .ok (.invokevirtual 309, 3) := by decide +kernel
theorem d145_36 : decode (zz_c 145) 36 = .ok (.ifCond .eq 21, 3) := by decide +kernel
theorem d145_39 : decode (zz_c 145) 39 = .ok (.aload_n 0, 1) := by decide +kernel
theorem d145_40 : decode (zz_c 145) 40 = .ok (.getfield 12, 3) := by decide +kernel
theorem d145_43 : decode (zz_c 145) 43 = .ok (.getfield 79, 3) := by decide +kernel
theorem d145_46 : decode (zz_c 145) 46 = .ok (.iload_n 3, 1) := by decide +kernel
theorem d145_47 : decode (zz_c 145) 47 = .ok (.invokevirtual 333, 3) := by decide +kernel
theorem d145_50 : decode (zz_c 145) 50 = .ok (.iload_n 1, 1) := by decide +kernel
theorem d145_51 : decode (zz_c 145) 51 = .ok (.if_icmp .ne 6, 3) := by decide +kernel
theorem d145_54 : decode (zz_c 145) 54 = .ok (.iinc 2 1, 3) := by decide +kernel
theorem d145_57 : decode (zz_c 145) 57 = .ok (.iinc 3 1, 3) := by decide +kernel
theorem d145_60 : decode (zz_c 145) 60 = .ok (.goto (-40), 3) := by decide +kernel
theorem d145_63 : decode (zz_c 145) 63 = .ok (.iload_n 2, 1) := by decide +kernel
theorem d145_64 : decode (zz_c 145) 64 = .ok (.ireturn, 1) := by decide +kernel
theorem x145 : (∀ l0 l2 l3 x st h, zz_Y 145 (0, [l0, some (.int x), l2, l3], st, h) = zz_Y 145 (1, [l0, some (.int x), l2, l3], .int x :: st, h)) ∧ (∀ ls a st h, zz_Y 145 (1, ls, .int a :: st, h) = if a < nI 0 then zz_Y 145 (10, ls, st, h) else zz_Y 145 (4, ls, st, h)) ∧ (∀ l0 l2 l3 x st h, zz_Y 145 (4, [l0, some (.int x), l2, l3], st, h) = zz_Y 145 (5, [l0, some (.int x), l2, l3], .int x :: st, h)) ∧ (∀ ls st h, zz_Y 145 (5, ls, st, h) = zz_Y 145 (7, ls, .int (nI 20) :: st, h)) ∧ (∀ ls a b st h, zz_Y 145 (7, ls, .int b :: .int a :: st, h) = if b < a then zz_Y 145 (10, ls, st, h) else zz_Y 145 (12, ls, st, h)) ∧ (∀ ls st h, zz_Y 145 (10, ls, st, h) = zz_Y 145 (11, ls, .int (-1) :: st, h)) ∧ (∀ ls v h, zz_Y 145 (11, ls, [.int v], h) = some (some (.int v), h)) ∧ (∀ l1 l2 l3 x st h, zz_Y 145 (12, [some (.ref x), l1, l2, l3], st, h) = zz_Y 145 (13, [some (.ref x), l1, l2, l3], .ref x :: st, h)) ∧ (∀ ls a0 h, zz_Y 145 (13, ls, [a0], h) = mo_k 145 16 ls [] (zz_run 112 [a0] h)) ∧ (∀ ls st h, zz_Y 145 (16, ls, st, h) = zz_Y 145 (17, ls, .int (nI 0) :: st, h)) ∧ (∀ l0 l1 l2 l3 x st h, zz_nl l1 = true → zz_Y 145 (17, [l0, l1, l2, l3], .int x :: st, h) = zz_Y 145 (18, [l0, l1, some (.int x), l3], st, h)) ∧ (∀ ls st h, zz_Y 145 (18, ls, st, h) = zz_Y 145 (19, ls, .int (nI 0) :: st, h)) ∧ (∀ l0 l1 l2 l3 x st h, zz_nl l2 = true → zz_Y 145 (19, [l0, l1, l2, l3], .int x :: st, h) = zz_Y 145 (20, [l0, l1, l2, some (.int x)], st, h)) ∧ (∀ ls st h, zz_Y 145 (21, ls, st, h) = zz_Y 145 (24, ls, .int (nI 256) :: st, h)) ∧ (∀ ls a b st h, zz_Y 145 (24, ls, .int b :: .int a :: st, h) = if a < b then zz_Y 145 (27, ls, st, h) else zz_Y 145 (63, ls, st, h)) ∧ (∀ l1 l2 l3 x st h, zz_Y 145 (27, [some (.ref x), l1, l2, l3], st, h) = zz_Y 145 (28, [some (.ref x), l1, l2, l3], .ref x :: st, h)) ∧ (∀ ls a st h, zz_Y 145 (28, ls, .ref a :: st, h) = mo_gf (hp_g h a) 10 5 145 31 ls st h) ∧ (∀ ls st h, zz_Y 145 (31, ls, st, h) = zz_Y 145 (32, ls, .int (nI 0) :: st, h)) ∧ (∀ l0 l1 l2 x st h, zz_Y 145 (32, [l0, l1, l2, some (.int x)], st, h) = zz_Y 145 (33, [l0, l1, l2, some (.int x)], .int x :: st, h)) ∧ (∀ ls a0 a1 a2 h, zz_Y 145 (33, ls, [a2, a1, a0], h) = mo_k 145 36 ls [] (zz_run 126 [a0, a1, a2] h)) ∧ (∀ ls a st h, zz_Y 145 (36, ls, .int a :: st, h) = if a = nI 0 then zz_Y 145 (57, ls, st, h) else zz_Y 145 (39, ls, st, h)) ∧ (∀ l1 l2 l3 x st h, zz_Y 145 (39, [some (.ref x), l1, l2, l3], st, h) = zz_Y 145 (40, [some (.ref x), l1, l2, l3], .ref x :: st, h)) ∧ (∀ ls a st h, zz_Y 145 (40, ls, .ref a :: st, h) = mo_gf (hp_g h a) 10 0 145 43 ls st h) ∧ (∀ ls a st h, zz_Y 145 (43, ls, .ref a :: st, h) = mo_gf (hp_g h a) 1 1 145 46 ls st h) ∧ (∀ l0 l1 l2 x st h, zz_Y 145 (46, [l0, l1, l2, some (.int x)], st, h) = zz_Y 145 (47, [l0, l1, l2, some (.int x)], .int x :: st, h)) ∧ (∀ ls a0 a1 h, zz_Y 145 (47, ls, [a1, a0], h) = mo_k 145 50 ls [] (zz_run 146 [a0, a1] h)) ∧ (∀ l0 l2 l3 x st h, zz_Y 145 (50, [l0, some (.int x), l2, l3], st, h) = zz_Y 145 (51, [l0, some (.int x), l2, l3], .int x :: st, h)) ∧ (∀ ls a b st h, zz_Y 145 (51, ls, .int b :: .int a :: st, h) = if a = b then zz_Y 145 (54, ls, st, h) else zz_Y 145 (57, ls, st, h)) ∧ (∀ l0 l1 l3 x st h, zz_nl l1 = true → zz_Y 145 (54, [l0, l1, some (.int x), l3], st, h) = zz_Y 145 (57, [l0, l1, some (.int (x + nI 1)), l3], st, h)) ∧ (∀ l0 l1 l2 x st h, zz_nl l2 = true → zz_Y 145 (57, [l0, l1, l2, some (.int x)], st, h) = zz_Y 145 (60, [l0, l1, l2, some (.int (x + nI 1))], st, h)) ∧ (∀ ls st h, zz_Y 145 (60, ls, st, h) = zz_Y 145 (20, ls, st, h)) ∧ (∀ l0 l1 l3 x st h, zz_Y 145 (63, [l0, l1, some (.int x), l3], st, h) = zz_Y 145 (64, [l0, l1, some (.int x), l3], .int x :: st, h)) ∧ (∀ ls v h, zz_Y 145 (64, ls, [.int v], h) = some (some (.int v), h)) :=
  ⟨fun _ _ _ _ _ _ => xl_iln d145_0 rfl,
   fun _ _ _ _ => xl_iflt d145_1 rfl,
   fun _ _ _ _ _ _ => xl_iln d145_4 rfl,
   fun _ _ _ => xl_bi d145_5 (by decide +kernel),
   fun _ _ _ _ _ => xl_icle d145_7 rfl,
   fun _ _ _ => xl_ic d145_10 (by decide +kernel),
   fun _ _ _ => xl_iri d145_11 xrt145,
   fun _ _ _ _ _ _ => xl_aln d145_12 rfl,
   fun ls a0 h => xl_cv (As := [a0]) (st := []) d145_13 xco145 xm_10_312 (congrArg Nat.succ xnp112) (by decide +kernel) rfl,
   fun _ _ _ => xl_ic d145_16 (by decide +kernel),
   fun _ _ _ _ _ _ _ hc => xl_isn d145_17 xml145 (by decide) (zz_nl_s1 hc),
   fun _ _ _ => xl_ic d145_18 (by decide +kernel),
   fun _ _ _ _ _ _ _ hc => xl_isn d145_19 xml145 (by decide) (zz_nl_s1 hc),
   fun _ _ _ => xl_si d145_21 (by decide +kernel),
   fun _ _ _ _ _ => xl_icge d145_24 rfl,
   fun _ _ _ _ _ _ => xl_aln d145_27 rfl,
   fun _ _ _ _ => xl_gf d145_28 xco145 xf_10_46,
   fun _ _ _ => xl_ic d145_31 (by decide +kernel),
   fun _ _ _ _ _ _ => xl_iln d145_32 rfl,
   fun ls a0 a1 a2 h => xl_cv (As := [a0, a1, a2]) (st := []) d145_33 xco145 xm_10_309 (congrArg Nat.succ xnp126) (by decide +kernel) rfl,
   fun _ _ _ _ => xl_ifeq d145_36 rfl,
   fun _ _ _ _ _ _ => xl_aln d145_39 rfl,
   fun _ _ _ _ => xl_gf d145_40 xco145 xf_10_12,
   fun _ _ _ _ => xl_gf d145_43 xco145 xf_10_79,
   fun _ _ _ _ _ _ => xl_iln d145_46 rfl,
   fun ls a0 a1 h => xl_cv (As := [a0, a1]) (st := []) d145_47 xco145 xm_10_333 (congrArg Nat.succ xnp146) (by decide +kernel) rfl,
   fun _ _ _ _ _ _ => xl_iln d145_50 rfl,
   fun _ _ _ _ _ => xl_icne d145_51 rfl,
   fun _ _ _ _ _ _ hc => xl_inc d145_54 xml145 (by decide) rfl (by decide +kernel) (zz_nl_s1 hc),
   fun _ _ _ _ _ _ hc => xl_inc d145_57 xml145 (by decide) rfl (by decide +kernel) (zz_nl_s1 hc),
   fun _ _ _ => xl_goto d145_60 rfl,
   fun _ _ _ _ _ _ => xl_iln d145_63 rfl,
   fun _ _ _ => xl_iri d145_64 xrt145⟩
theorem x145_c20 : ∀ l0 l1 l2 x st h, zz_Y 145 (20, [l0, l1, l2, some (.int x)], st, h) = zz_Y 145 (21, [l0, l1, l2, some (.int x)], .int x :: st, h) := fun _ _ _ _ _ _ => xl_iln d145_20 rfl
/-! 146 FacetSieve$Stock.setsAround(I)I -/
theorem d146_0 : decode (zz_c 146) 0 = .ok (.aload_n 0, 1) := by decide +kernel
theorem d146_1 : decode (zz_c 146) 1 = .ok (.getfield 12, 3) := by decide +kernel
theorem d146_4 : decode (zz_c 146) 4 = .ok (.aload_n 0, 1) := by decide +kernel
theorem d146_5 : decode (zz_c 146) 5 = .ok (.getfield 22, 3) := by decide +kernel
theorem d146_8 : decode (zz_c 146) 8 = .ok (.iload_n 1, 1) := by decide +kernel
theorem d146_9 : decode (zz_c 146) 9 = .ok (.iaload, 1) := by decide +kernel
theorem d146_10 : decode (zz_c 146) 10 = .ok (.invokevirtual 65, 3) := by decide +kernel
theorem d146_13 : decode (zz_c 146) 13 = .ok (.invokestatic 84, 3) := by decide +kernel
theorem d146_16 : decode (zz_c 146) 16 = .ok (.ireturn, 1) := by decide +kernel
theorem x146 : (∀ l1 x st h, zz_Y 146 (0, [some (.ref x), l1], st, h) = zz_Y 146 (1, [some (.ref x), l1], .ref x :: st, h)) ∧ (∀ ls a st h, zz_Y 146 (1, ls, .ref a :: st, h) = mo_gf (hp_g h a) 7 0 146 4 ls st h) ∧ (∀ l1 x st h, zz_Y 146 (4, [some (.ref x), l1], st, h) = zz_Y 146 (5, [some (.ref x), l1], .ref x :: st, h)) ∧ (∀ ls a st h, zz_Y 146 (5, ls, .ref a :: st, h) = mo_gf (hp_g h a) 7 2 146 8 ls st h) ∧ (∀ l0 x st h, zz_Y 146 (8, [l0, some (.int x)], st, h) = zz_Y 146 (9, [l0, some (.int x)], .int x :: st, h)) ∧ (∀ ls a i st h, zz_Y 146 (9, ls, .int i :: .ref a :: st, h) = mo_ia (hp_g h a) i a 146 10 ls st h) ∧ (∀ ls a0 a1 h, zz_Y 146 (10, ls, [a1, a0], h) = mo_k 146 13 ls [] (zz_run 55 [a0, a1] h)) ∧ (∀ ls a0 h, zz_Y 146 (13, ls, [a0], h) = mo_k 146 16 ls [] (zz_run 64 [a0] h)) ∧ (∀ ls v h, zz_Y 146 (16, ls, [.int v], h) = some (some (.int v), h)) :=
  ⟨fun _ _ _ _ => xl_aln d146_0 rfl,
   fun _ _ _ _ => xl_gf d146_1 xco146 xf_7_12,
   fun _ _ _ _ => xl_aln d146_4 rfl,
   fun _ _ _ _ => xl_gf d146_5 xco146 xf_7_22,
   fun _ _ _ _ => xl_iln d146_8 rfl,
   fun _ _ _ _ _ => xl_ia d146_9,
   fun ls a0 a1 h => xl_cv (As := [a0, a1]) (st := []) d146_10 xco146 xm_7_65 (congrArg Nat.succ xnp55) (by decide +kernel) rfl,
   fun ls a0 h => xl_cs (As := [a0]) (st := []) d146_13 xco146 xm_7_84 xnp64 (by decide +kernel) rfl,
   fun _ _ _ => xl_iri d146_16 xrt146⟩
/-! 147 FacetSieve.image(I)Z -/
theorem d147_0 : decode (zz_c 147) 0 = .ok (.iload_n 1, 1) := by decide +kernel
theorem d147_1 : decode (zz_c 147) 1 = .ok (.ifCond .lt 8, 3) := by decide +kernel
theorem d147_4 : decode (zz_c 147) 4 = .ok (.iload_n 1, 1) := by decide +kernel
theorem d147_5 : decode (zz_c 147) 5 = .ok (.iconst 3, 1) := by decide +kernel
theorem d147_6 : decode (zz_c 147) 6 = .ok (.if_icmp .lt 5, 3) := by decide +kernel
theorem d147_9 : decode (zz_c 147) 9 = .ok (.iconst 0, 1) := by decide +kernel
theorem d147_10 : decode (zz_c 147) 10 = .ok (.ireturn, 1) := by decide +kernel
theorem d147_11 : decode (zz_c 147) 11 = .ok (.aload_n 0, 1) := by decide +kernel
theorem d147_12 : decode (zz_c 147) 12 = .ok (.getfield 16, 3) := by decide +kernel
theorem d147_15 : decode (zz_c 147) 15 = .ok (.iload_n 1, 1) := by decide +kernel
theorem d147_16 : decode (zz_c 147) 16 = .ok (.aaload, 1) := by decide +kernel
theorem d147_17 : decode (zz_c 147) 17 = .ok (.ifnonnull 16, 3) := by decide +kernel
theorem d147_20 : decode (zz_c 147) 20 = .ok (.aload_n 0, 1) := by decide +kernel
theorem d147_21 : decode (zz_c 147) 21 = .ok (.getfield 16, 3) := by decide +kernel
theorem d147_24 : decode (zz_c 147) 24 = .ok (.iload_n 1, 1) := by decide +kernel
theorem d147_25 : decode (zz_c 147) 25 = .ok (.new 9, 3) := by decide +kernel
theorem d147_28 : decode (zz_c 147) 28 = .ok (.dup, 1) := by decide +kernel
theorem d147_29 : decode (zz_c 147) 29 = .ok (.invokespecial 11, 3) := by decide +kernel
theorem d147_32 : decode (zz_c 147) 32 = .ok (.aastore, 1) := by decide +kernel
theorem d147_33 : decode (zz_c 147) 33 = .ok (.aload_n 0, 1) := by decide +kernel
theorem d147_34 : decode (zz_c 147) 34 = .ok (.getfield 16, 3) := by decide +kernel
theorem d147_37 : decode (zz_c 147) 37 = .ok (.iload_n 1, 1) := by decide +kernel
theorem d147_38 : decode (zz_c 147) 38 = .ok (.aaload, 1) := by decide +kernel
theorem d147_39 : decode (zz_c 147) 39 = .ok (.aload_n 0, 1) := by decide +kernel
theorem d147_40 : decode (zz_c 147) 40 = .ok (.getfield 12, 3) := by decide +kernel
theorem d147_43 : decode (zz_c 147) 43 = .ok (.invokevirtual 336, 3) := by decide +kernel
theorem d147_46 : decode (zz_c 147) 46 = .ok (.iconst 1, 1) := by decide +kernel
theorem d147_47 : decode (zz_c 147) 47 = .ok (.ireturn, 1) := by decide +kernel
theorem x147 : (∀ l0 x st h, zz_Y 147 (0, [l0, some (.int x)], st, h) = zz_Y 147 (1, [l0, some (.int x)], .int x :: st, h)) ∧ (∀ ls a st h, zz_Y 147 (1, ls, .int a :: st, h) = if a < nI 0 then zz_Y 147 (9, ls, st, h) else zz_Y 147 (4, ls, st, h)) ∧ (∀ l0 x st h, zz_Y 147 (4, [l0, some (.int x)], st, h) = zz_Y 147 (5, [l0, some (.int x)], .int x :: st, h)) ∧ (∀ ls st h, zz_Y 147 (5, ls, st, h) = zz_Y 147 (6, ls, .int (nI 3) :: st, h)) ∧ (∀ ls a b st h, zz_Y 147 (6, ls, .int b :: .int a :: st, h) = if a < b then zz_Y 147 (11, ls, st, h) else zz_Y 147 (9, ls, st, h)) ∧ (∀ ls st h, zz_Y 147 (9, ls, st, h) = zz_Y 147 (10, ls, .int (nI 0) :: st, h)) ∧ (∀ ls v h, v = nI 0 ∨ v = nI 1 → zz_Y 147 (10, ls, [.int v], h) = some (some (.int v), h)) ∧ (∀ l1 x st h, zz_Y 147 (11, [some (.ref x), l1], st, h) = zz_Y 147 (12, [some (.ref x), l1], .ref x :: st, h)) ∧ (∀ ls a st h, zz_Y 147 (12, ls, .ref a :: st, h) = mo_gf (hp_g h a) 10 1 147 15 ls st h) ∧ (∀ l0 x st h, zz_Y 147 (15, [l0, some (.int x)], st, h) = zz_Y 147 (16, [l0, some (.int x)], .int x :: st, h)) ∧ (∀ ls a i st h, zz_Y 147 (16, ls, .int i :: .ref a :: st, h) = mo_aa (hp_g h a) i 147 17 ls st h) ∧ (∀ ls a st h, zz_Y 147 (17, ls, .ref a :: st, h) = zz_Y 147 (33, ls, st, h)) ∧ (∀ ls st h, zz_Y 147 (17, ls, .null :: st, h) = zz_Y 147 (20, ls, st, h)) ∧ (∀ l1 x st h, zz_Y 147 (20, [some (.ref x), l1], st, h) = zz_Y 147 (21, [some (.ref x), l1], .ref x :: st, h)) ∧ (∀ ls a st h, zz_Y 147 (21, ls, .ref a :: st, h) = mo_gf (hp_g h a) 10 1 147 24 ls st h) ∧ (∀ l0 x st h, zz_Y 147 (24, [l0, some (.int x)], st, h) = zz_Y 147 (25, [l0, some (.int x)], .int x :: st, h)) ∧ (∀ ls st h, zz_Y 147 (25, ls, st, h) = zz_Y 147 (28, ls, .ref h.1 :: st, hp_n h 10 (.inr (1, [.null, .null, .null, .int 0, .int 0, .int 0, .int 0, .null, .int 0, .int 0])))) ∧ (∀ ls a st h, zz_Y 147 (28, ls, .ref a :: st, h) = zz_Y 147 (29, ls, .ref a :: .ref a :: st, h)) ∧ (∀ ls a0 s0 s1 s2 h, zz_Y 147 (29, ls, [a0, s0, s1, s2], h) = mo_k 147 32 ls [s0, s1, s2] (zz_run 2 [a0] h)) ∧ (∀ ls a i x st h, zz_Y 147 (32, ls, .ref x :: .int i :: .ref a :: st, h) = mo_as (hp_g h a) (hp_g h x) x i a 147 33 ls st h) ∧ (∀ l1 x st h, zz_Y 147 (33, [some (.ref x), l1], st, h) = zz_Y 147 (34, [some (.ref x), l1], .ref x :: st, h)) ∧ (∀ ls a st h, zz_Y 147 (34, ls, .ref a :: st, h) = mo_gf (hp_g h a) 10 1 147 37 ls st h) ∧ (∀ l0 x st h, zz_Y 147 (37, [l0, some (.int x)], st, h) = zz_Y 147 (38, [l0, some (.int x)], .int x :: st, h)) ∧ (∀ ls a i st h, zz_Y 147 (38, ls, .int i :: .ref a :: st, h) = mo_aa (hp_g h a) i 147 39 ls st h) ∧ (∀ l1 x st h, zz_Y 147 (39, [some (.ref x), l1], st, h) = zz_Y 147 (40, [some (.ref x), l1], .ref x :: st, h)) ∧ (∀ ls a st h, zz_Y 147 (40, ls, .ref a :: st, h) = mo_gf (hp_g h a) 10 0 147 43 ls st h) ∧ (∀ ls a0 a1 h, zz_Y 147 (43, ls, [a1, a0], h) = mo_k 147 46 ls [] (zz_run 148 [a0, a1] h)) ∧ (∀ ls st h, zz_Y 147 (46, ls, st, h) = zz_Y 147 (47, ls, .int (nI 1) :: st, h)) ∧ (∀ ls v h, v = nI 0 ∨ v = nI 1 → zz_Y 147 (47, ls, [.int v], h) = some (some (.int v), h)) :=
  ⟨fun _ _ _ _ => xl_iln d147_0 rfl,
   fun _ _ _ _ => xl_iflt d147_1 rfl,
   fun _ _ _ _ => xl_iln d147_4 rfl,
   fun _ _ _ => xl_ic d147_5 (by decide +kernel),
   fun _ _ _ _ _ => xl_iclt d147_6 rfl,
   fun _ _ _ => xl_ic d147_9 (by decide +kernel),
   fun _ _ _ hc => xl_irz d147_10 xrt147 hc,
   fun _ _ _ _ => xl_aln d147_11 rfl,
   fun _ _ _ _ => xl_gf d147_12 xco147 xf_10_16,
   fun _ _ _ _ => xl_iln d147_15 rfl,
   fun _ _ _ _ _ => xl_aa d147_16,
   fun _ _ _ _ => xl_nnr d147_17 rfl,
   fun _ _ _ => xl_nnn d147_17,
   fun _ _ _ _ => xl_aln d147_20 rfl,
   fun _ _ _ _ => xl_gf d147_21 xco147 xf_10_16,
   fun _ _ _ _ => xl_iln d147_24 rfl,
   fun _ _ _ => xl_new d147_25 xco147 (by decide +kernel) rfl rfl (by decide +kernel),
   fun _ _ _ _ => xl_dupr d147_28,
   fun ls a0 s0 s1 s2 h => xl_cin (As := [a0]) (st := [s0, s1, s2]) d147_29 xco147 xm_10_11 (congrArg Nat.succ xnp2) (by decide +kernel) rfl,
   fun _ _ _ _ _ _ => xl_ast d147_32,
   fun _ _ _ _ => xl_aln d147_33 rfl,
   fun _ _ _ _ => xl_gf d147_34 xco147 xf_10_16,
   fun _ _ _ _ => xl_iln d147_37 rfl,
   fun _ _ _ _ _ => xl_aa d147_38,
   fun _ _ _ _ => xl_aln d147_39 rfl,
   fun _ _ _ _ => xl_gf d147_40 xco147 xf_10_12,
   fun ls a0 a1 h => xl_cv (As := [a0, a1]) (st := []) d147_43 xco147 xm_10_336 (congrArg Nat.succ xnp148) (by decide +kernel) rfl,
   fun _ _ _ => xl_ic d147_46 (by decide +kernel),
   fun _ _ _ hc => xl_irz d147_47 xrt147 hc⟩
/-! 148 FacetSieve$Everything.copyFrom(LFacetSieve$Everything;)V -/
theorem d148_0 : decode (zz_c 148) 0 = .ok (.aload_n 0, 1) := by decide +kernel
theorem d148_1 : decode (zz_c 148) 1 = .ok (.getfield 12, 3) := by decide +kernel
theorem d148_4 : decode (zz_c 148) 4 = .ok (.aload_n 1, 1) := by decide +kernel
theorem d148_5 : decode (zz_c 148) 5 = .ok (.getfield 12, 3) := by decide +kernel
theorem d148_8 : decode (zz_c 148) 8 = .ok (.invokevirtual 48, 3) := by decide +kernel
theorem d148_11 : decode (zz_c 148) 11 = .ok (.aload_n 0, 1) := by decide +kernel
theorem d148_12 : decode (zz_c 148) 12 = .ok (.getfield 21, 3) := by decide +kernel
theorem d148_15 : decode (zz_c 148) 15 = .ok (.aload_n 1, 1) := by decide +kernel
theorem d148_16 : decode (zz_c 148) 16 = .ok (.getfield 21, 3) := by decide +kernel
theorem d148_19 : decode (zz_c 148) 19 = .ok (.invokevirtual 52, 3) := by decide +kernel
theorem d148_22 : decode (zz_c 148) 22 = .ok (.aload_n 0, 1) := by decide +kernel
theorem d148_23 : decode (zz_c 148) 23 = .ok (.getfield 28, 3) := by decide +kernel
theorem d148_26 : decode (zz_c 148) 26 = .ok (.aload_n 1, 1) := by decide +kernel
theorem d148_27 : decode (zz_c 148) 27 = .ok (.getfield 28, 3) := by decide +kernel
theorem d148_30 : decode (zz_c 148) 30 = .ok (.invokevirtual 55, 3) := by decide +kernel
theorem d148_33 : decode (zz_c 148) 33 = .ok (.aload_n 0, 1) := by decide +kernel
theorem d148_34 : decode (zz_c 148) 34 = .ok (.aload_n 1, 1) := by decide +kernel
theorem d148_35 : decode (zz_c 148) 35 = .ok (.getfield 58, 3) := by decide +kernel
theorem d148_38 : decode (zz_c 148) 38 = .ok (.putfield 58, 3) := by decide +kernel
theorem d148_41 : decode (zz_c 148) 41 = .ok (.aload_n 0, 1) := by decide +kernel
theorem d148_42 : decode (zz_c 148) 42 = .ok (.aload_n 1, 1) := by decide +kernel
theorem d148_43 : decode (zz_c 148) 43 = .ok (.getfield 32, 3) := by decide +kernel
theorem d148_46 : decode (zz_c 148) 46 = .ok (.putfield 32, 3) := by decide +kernel
theorem d148_49 : decode (zz_c 148) 49 = .ok (.aload_n 0, 1) := by decide +kernel
theorem d148_50 : decode (zz_c 148) 50 = .ok (.aload_n 1, 1) := by decide +kernel
theorem d148_51 : decode (zz_c 148) 51 = .ok (.getfield 61, 3) := by decide +kernel
theorem d148_54 : decode (zz_c 148) 54 = .ok (.putfield 61, 3) := by decide +kernel
theorem d148_57 : decode (zz_c 148) 57 = .ok (.aload_n 0, 1) := by decide +kernel
theorem d148_58 : decode (zz_c 148) 58 = .ok (.aload_n 1, 1) := by decide +kernel
theorem d148_59 : decode (zz_c 148) 59 = .ok (.getfield 65, 3) := by decide +kernel
theorem d148_62 : decode (zz_c 148) 62 = .ok (.putfield 65, 3) := by decide +kernel
theorem d148_65 : decode (zz_c 148) 65 = .ok (.aload_n 0, 1) := by decide +kernel
theorem d148_66 : decode (zz_c 148) 66 = .ok (.getfield 41, 3) := by decide +kernel
theorem d148_69 : decode (zz_c 148) 69 = .ok (.aload_n 1, 1) := by decide +kernel
theorem d148_70 : decode (zz_c 148) 70 = .ok (.getfield 41, 3) := by decide +kernel
theorem d148_73 : decode (zz_c 148) 73 = .ok (.invokevirtual 68, 3) := by decide +kernel
theorem d148_76 : decode (zz_c 148) 76 = .ok (.aload_n 0, 1) := by decide +kernel
theorem d148_77 : decode (zz_c 148) 77 = .ok (.aload_n 1, 1) := by decide +kernel
theorem d148_78 : decode (zz_c 148) 78 = .ok (.getfield 71, 3) := by decide +kernel
theorem d148_81 : decode (zz_c 148) 81 = .ok (.putfield 71, 3) := by decide +kernel
theorem d148_84 : decode (zz_c 148) 84 = .ok (.aload_n 0, 1) := by decide +kernel
theorem d148_85 : decode (zz_c 148) 85 = .ok (.aload_n 1, 1) := by decide +kernel
theorem d148_86 : decode (zz_c 148) 86 = .ok (.getfield 45, 3) := by decide +kernel
theorem d148_89 : decode (zz_c 148) 89 = .ok (.putfield 45, 3) := by decide +kernel
theorem d148_92 : decode (zz_c 148) 92 = .ok (.return_, 1) := by decide +kernel
theorem x148 : (∀ l1 x st h, zz_Y 148 (0, [some (.ref x), l1], st, h) = zz_Y 148 (1, [some (.ref x), l1], .ref x :: st, h)) ∧ (∀ ls a st h, zz_Y 148 (1, ls, .ref a :: st, h) = mo_gf (hp_g h a) 1 0 148 4 ls st h) ∧ (∀ l0 x st h, zz_Y 148 (4, [l0, some (.ref x)], st, h) = zz_Y 148 (5, [l0, some (.ref x)], .ref x :: st, h)) ∧ (∀ ls a st h, zz_Y 148 (5, ls, .ref a :: st, h) = mo_gf (hp_g h a) 1 0 148 8 ls st h) ∧ (∀ ls a0 a1 h, zz_Y 148 (8, ls, [a1, a0], h) = mo_k 148 11 ls [] (zz_run 149 [a0, a1] h)) ∧ (∀ l1 x st h, zz_Y 148 (11, [some (.ref x), l1], st, h) = zz_Y 148 (12, [some (.ref x), l1], .ref x :: st, h)) ∧ (∀ ls a st h, zz_Y 148 (12, ls, .ref a :: st, h) = mo_gf (hp_g h a) 1 1 148 15 ls st h) ∧ (∀ l0 x st h, zz_Y 148 (15, [l0, some (.ref x)], st, h) = zz_Y 148 (16, [l0, some (.ref x)], .ref x :: st, h)) ∧ (∀ ls a st h, zz_Y 148 (16, ls, .ref a :: st, h) = mo_gf (hp_g h a) 1 1 148 19 ls st h) ∧ (∀ ls a0 a1 h, zz_Y 148 (19, ls, [a1, a0], h) = mo_k 148 22 ls [] (zz_run 57 [a0, a1] h)) ∧ (∀ l1 x st h, zz_Y 148 (22, [some (.ref x), l1], st, h) = zz_Y 148 (23, [some (.ref x), l1], .ref x :: st, h)) ∧ (∀ ls a st h, zz_Y 148 (23, ls, .ref a :: st, h) = mo_gf (hp_g h a) 1 2 148 26 ls st h) ∧ (∀ l0 x st h, zz_Y 148 (26, [l0, some (.ref x)], st, h) = zz_Y 148 (27, [l0, some (.ref x)], .ref x :: st, h)) ∧ (∀ ls a st h, zz_Y 148 (27, ls, .ref a :: st, h) = mo_gf (hp_g h a) 1 2 148 30 ls st h) ∧ (∀ ls a0 a1 h, zz_Y 148 (30, ls, [a1, a0], h) = mo_k 148 33 ls [] (zz_run 150 [a0, a1] h)) ∧ (∀ l1 x st h, zz_Y 148 (33, [some (.ref x), l1], st, h) = zz_Y 148 (34, [some (.ref x), l1], .ref x :: st, h)) ∧ (∀ l0 x st h, zz_Y 148 (34, [l0, some (.ref x)], st, h) = zz_Y 148 (35, [l0, some (.ref x)], .ref x :: st, h)) ∧ (∀ ls a st h, zz_Y 148 (35, ls, .ref a :: st, h) = mo_gf (hp_g h a) 1 3 148 38 ls st h) ∧ (∀ ls a v st h, zz_Y 148 (38, ls, v :: .ref a :: st, h) = mo_pf (hp_g h a) 1 3 .int v a 148 41 ls st h) ∧ (∀ l1 x st h, zz_Y 148 (41, [some (.ref x), l1], st, h) = zz_Y 148 (42, [some (.ref x), l1], .ref x :: st, h)) ∧ (∀ l0 x st h, zz_Y 148 (42, [l0, some (.ref x)], st, h) = zz_Y 148 (43, [l0, some (.ref x)], .ref x :: st, h)) ∧ (∀ ls a st h, zz_Y 148 (43, ls, .ref a :: st, h) = mo_gf (hp_g h a) 1 4 148 46 ls st h) ∧ (∀ ls a v st h, zz_Y 148 (46, ls, v :: .ref a :: st, h) = mo_pf (hp_g h a) 1 4 .int v a 148 49 ls st h) ∧ (∀ l1 x st h, zz_Y 148 (49, [some (.ref x), l1], st, h) = zz_Y 148 (50, [some (.ref x), l1], .ref x :: st, h)) ∧ (∀ l0 x st h, zz_Y 148 (50, [l0, some (.ref x)], st, h) = zz_Y 148 (51, [l0, some (.ref x)], .ref x :: st, h)) ∧ (∀ ls a st h, zz_Y 148 (51, ls, .ref a :: st, h) = mo_gf (hp_g h a) 1 5 148 54 ls st h) ∧ (∀ ls a v st h, zz_Y 148 (54, ls, v :: .ref a :: st, h) = mo_pf (hp_g h a) 1 5 .boolean v a 148 57 ls st h) ∧ (∀ l1 x st h, zz_Y 148 (57, [some (.ref x), l1], st, h) = zz_Y 148 (58, [some (.ref x), l1], .ref x :: st, h)) ∧ (∀ l0 x st h, zz_Y 148 (58, [l0, some (.ref x)], st, h) = zz_Y 148 (59, [l0, some (.ref x)], .ref x :: st, h)) ∧ (∀ ls a st h, zz_Y 148 (59, ls, .ref a :: st, h) = mo_gf (hp_g h a) 1 6 148 62 ls st h) ∧ (∀ ls a v st h, zz_Y 148 (62, ls, v :: .ref a :: st, h) = mo_pf (hp_g h a) 1 6 .int v a 148 65 ls st h) ∧ (∀ l1 x st h, zz_Y 148 (65, [some (.ref x), l1], st, h) = zz_Y 148 (66, [some (.ref x), l1], .ref x :: st, h)) ∧ (∀ ls a st h, zz_Y 148 (66, ls, .ref a :: st, h) = mo_gf (hp_g h a) 1 7 148 69 ls st h) ∧ (∀ l0 x st h, zz_Y 148 (69, [l0, some (.ref x)], st, h) = zz_Y 148 (70, [l0, some (.ref x)], .ref x :: st, h)) ∧ (∀ ls a st h, zz_Y 148 (70, ls, .ref a :: st, h) = mo_gf (hp_g h a) 1 7 148 73 ls st h) ∧ (∀ ls a0 a1 h, zz_Y 148 (73, ls, [a1, a0], h) = mo_k 148 76 ls [] (zz_run 59 [a0, a1] h)) ∧ (∀ l1 x st h, zz_Y 148 (76, [some (.ref x), l1], st, h) = zz_Y 148 (77, [some (.ref x), l1], .ref x :: st, h)) ∧ (∀ l0 x st h, zz_Y 148 (77, [l0, some (.ref x)], st, h) = zz_Y 148 (78, [l0, some (.ref x)], .ref x :: st, h)) ∧ (∀ ls a st h, zz_Y 148 (78, ls, .ref a :: st, h) = mo_gf (hp_g h a) 1 8 148 81 ls st h) ∧ (∀ ls a v st h, zz_Y 148 (81, ls, v :: .ref a :: st, h) = mo_pf (hp_g h a) 1 8 .int v a 148 84 ls st h) ∧ (∀ l1 x st h, zz_Y 148 (84, [some (.ref x), l1], st, h) = zz_Y 148 (85, [some (.ref x), l1], .ref x :: st, h)) ∧ (∀ l0 x st h, zz_Y 148 (85, [l0, some (.ref x)], st, h) = zz_Y 148 (86, [l0, some (.ref x)], .ref x :: st, h)) ∧ (∀ ls a st h, zz_Y 148 (86, ls, .ref a :: st, h) = mo_gf (hp_g h a) 1 9 148 89 ls st h) ∧ (∀ ls a v st h, zz_Y 148 (89, ls, v :: .ref a :: st, h) = mo_pf (hp_g h a) 1 9 .int v a 148 92 ls st h) ∧ (∀ ls h, zz_Y 148 (92, ls, [], h) = some (none, h)) :=
  ⟨fun _ _ _ _ => xl_aln d148_0 rfl,
   fun _ _ _ _ => xl_gf d148_1 xco148 xf_1_12,
   fun _ _ _ _ => xl_aln d148_4 rfl,
   fun _ _ _ _ => xl_gf d148_5 xco148 xf_1_12,
   fun ls a0 a1 h => xl_cv (As := [a0, a1]) (st := []) d148_8 xco148 xm_1_48 (congrArg Nat.succ xnp149) (by decide +kernel) rfl,
   fun _ _ _ _ => xl_aln d148_11 rfl,
   fun _ _ _ _ => xl_gf d148_12 xco148 xf_1_21,
   fun _ _ _ _ => xl_aln d148_15 rfl,
   fun _ _ _ _ => xl_gf d148_16 xco148 xf_1_21,
   fun ls a0 a1 h => xl_cv (As := [a0, a1]) (st := []) d148_19 xco148 xm_1_52 (congrArg Nat.succ xnp57) (by decide +kernel) rfl,
   fun _ _ _ _ => xl_aln d148_22 rfl,
   fun _ _ _ _ => xl_gf d148_23 xco148 xf_1_28,
   fun _ _ _ _ => xl_aln d148_26 rfl,
   fun _ _ _ _ => xl_gf d148_27 xco148 xf_1_28,
   fun ls a0 a1 h => xl_cv (As := [a0, a1]) (st := []) d148_30 xco148 xm_1_55 (congrArg Nat.succ xnp150) (by decide +kernel) rfl,
   fun _ _ _ _ => xl_aln d148_33 rfl,
   fun _ _ _ _ => xl_aln d148_34 rfl,
   fun _ _ _ _ => xl_gf d148_35 xco148 xf_1_58,
   fun _ _ _ _ _ => xl_pf d148_38 xco148 xf_1_58 (by decide +kernel) rfl,
   fun _ _ _ _ => xl_aln d148_41 rfl,
   fun _ _ _ _ => xl_aln d148_42 rfl,
   fun _ _ _ _ => xl_gf d148_43 xco148 xf_1_32,
   fun _ _ _ _ _ => xl_pf d148_46 xco148 xf_1_32 (by decide +kernel) rfl,
   fun _ _ _ _ => xl_aln d148_49 rfl,
   fun _ _ _ _ => xl_aln d148_50 rfl,
   fun _ _ _ _ => xl_gf d148_51 xco148 xf_1_61,
   fun _ _ _ _ _ => xl_pf d148_54 xco148 xf_1_61 (by decide +kernel) rfl,
   fun _ _ _ _ => xl_aln d148_57 rfl,
   fun _ _ _ _ => xl_aln d148_58 rfl,
   fun _ _ _ _ => xl_gf d148_59 xco148 xf_1_65,
   fun _ _ _ _ _ => xl_pf d148_62 xco148 xf_1_65 (by decide +kernel) rfl,
   fun _ _ _ _ => xl_aln d148_65 rfl,
   fun _ _ _ _ => xl_gf d148_66 xco148 xf_1_41,
   fun _ _ _ _ => xl_aln d148_69 rfl,
   fun _ _ _ _ => xl_gf d148_70 xco148 xf_1_41,
   fun ls a0 a1 h => xl_cv (As := [a0, a1]) (st := []) d148_73 xco148 xm_1_68 (congrArg Nat.succ xnp59) (by decide +kernel) rfl,
   fun _ _ _ _ => xl_aln d148_76 rfl,
   fun _ _ _ _ => xl_aln d148_77 rfl,
   fun _ _ _ _ => xl_gf d148_78 xco148 xf_1_71,
   fun _ _ _ _ _ => xl_pf d148_81 xco148 xf_1_71 (by decide +kernel) rfl,
   fun _ _ _ _ => xl_aln d148_84 rfl,
   fun _ _ _ _ => xl_aln d148_85 rfl,
   fun _ _ _ _ => xl_gf d148_86 xco148 xf_1_45,
   fun _ _ _ _ _ => xl_pf d148_89 xco148 xf_1_45 (by decide +kernel) rfl,
   fun _ _ => xl_r d148_92 xrt148⟩
/-! 149 FacetSieve$Tape.copyFrom(LFacetSieve$Tape;)V -/
theorem d149_0 : decode (zz_c 149) 0 = .ok (.aload_n 1, 1) := by decide +kernel
theorem d149_1 : decode (zz_c 149) 1 = .ok (.getfield 9, 3) := by decide +kernel
theorem d149_4 : decode (zz_c 149) 4 = .ok (.iconst 0, 1) := by decide +kernel
theorem d149_5 : decode (zz_c 149) 5 = .ok (.aload_n 0, 1) := by decide +kernel
theorem d149_6 : decode (zz_c 149) 6 = .ok (.getfield 9, 3) := by decide +kernel
theorem d149_9 : decode (zz_c 149) 9 = .ok (.iconst 0, 1) := by decide +kernel
theorem d149_10 : decode (zz_c 149) 10 = .ok (.sipush 600, 3) := by decide +kernel
theorem d149_13 : decode (zz_c 149) 13 = .ok (.invokestatic 23, 3) := by decide +kernel
theorem d149_16 : decode (zz_c 149) 16 = .ok (.aload_n 0, 1) := by decide +kernel
theorem d149_17 : decode (zz_c 149) 17 = .ok (.aload_n 1, 1) := by decide +kernel
theorem d149_18 : decode (zz_c 149) 18 = .ok (.getfield 15, 3) := by decide +kernel
theorem d149_21 : decode (zz_c 149) 21 = .ok (.putfield 15, 3) := by decide +kernel
theorem d149_24 : decode (zz_c 149) 24 = .ok (.return_, 1) := by decide +kernel
theorem x149 : (∀ l0 x st h, zz_Y 149 (0, [l0, some (.ref x)], st, h) = zz_Y 149 (1, [l0, some (.ref x)], .ref x :: st, h)) ∧ (∀ ls a st h, zz_Y 149 (1, ls, .ref a :: st, h) = mo_gf (hp_g h a) 8 0 149 4 ls st h) ∧ (∀ ls st h, zz_Y 149 (4, ls, st, h) = zz_Y 149 (5, ls, .int (nI 0) :: st, h)) ∧ (∀ l1 x st h, zz_Y 149 (5, [some (.ref x), l1], st, h) = zz_Y 149 (6, [some (.ref x), l1], .ref x :: st, h)) ∧ (∀ ls a st h, zz_Y 149 (6, ls, .ref a :: st, h) = mo_gf (hp_g h a) 8 0 149 9 ls st h) ∧ (∀ ls st h, zz_Y 149 (9, ls, st, h) = zz_Y 149 (10, ls, .int (nI 0) :: st, h)) ∧ (∀ ls st h, zz_Y 149 (10, ls, st, h) = zz_Y 149 (13, ls, .int (nI 600) :: st, h)) ∧ (∀ ls a a0 n dp sp h, zz_Y 149 (13, ls, [.int n, .int dp, .ref a, .int sp, .ref a0], h) = mo_ac (hp_g h a0) (hp_g h a) sp dp n a 149 16 ls [] h) ∧ (∀ l1 x st h, zz_Y 149 (16, [some (.ref x), l1], st, h) = zz_Y 149 (17, [some (.ref x), l1], .ref x :: st, h)) ∧ (∀ l0 x st h, zz_Y 149 (17, [l0, some (.ref x)], st, h) = zz_Y 149 (18, [l0, some (.ref x)], .ref x :: st, h)) ∧ (∀ ls a st h, zz_Y 149 (18, ls, .ref a :: st, h) = mo_gf (hp_g h a) 8 1 149 21 ls st h) ∧ (∀ ls a v st h, zz_Y 149 (21, ls, v :: .ref a :: st, h) = mo_pf (hp_g h a) 8 1 .int v a 149 24 ls st h) ∧ (∀ ls h, zz_Y 149 (24, ls, [], h) = some (none, h)) :=
  ⟨fun _ _ _ _ => xl_aln d149_0 rfl,
   fun _ _ _ _ => xl_gf d149_1 xco149 xf_8_9,
   fun _ _ _ => xl_ic d149_4 (by decide +kernel),
   fun _ _ _ _ => xl_aln d149_5 rfl,
   fun _ _ _ _ => xl_gf d149_6 xco149 xf_8_9,
   fun _ _ _ => xl_ic d149_9 (by decide +kernel),
   fun _ _ _ => xl_si d149_10 (by decide +kernel),
   fun _ _ _ _ _ _ _ => xl_cp d149_13 xco149 xm_8_23 (by decide +kernel) (by decide +kernel) rfl,
   fun _ _ _ _ => xl_aln d149_16 rfl,
   fun _ _ _ _ => xl_aln d149_17 rfl,
   fun _ _ _ _ => xl_gf d149_18 xco149 xf_8_15,
   fun _ _ _ _ _ => xl_pf d149_21 xco149 xf_8_15 (by decide +kernel) rfl,
   fun _ _ => xl_r d149_24 xrt149⟩
/-! 150 FacetSieve$Choice.copyFrom(LFacetSieve$Choice;)V -/
theorem d150_0 : decode (zz_c 150) 0 = .ok (.aload_n 1, 1) := by decide +kernel
theorem d150_1 : decode (zz_c 150) 1 = .ok (.getfield 9, 3) := by decide +kernel
theorem d150_4 : decode (zz_c 150) 4 = .ok (.iconst 0, 1) := by decide +kernel
theorem d150_5 : decode (zz_c 150) 5 = .ok (.aload_n 0, 1) := by decide +kernel
theorem d150_6 : decode (zz_c 150) 6 = .ok (.getfield 9, 3) := by decide +kernel
theorem d150_9 : decode (zz_c 150) 9 = .ok (.iconst 0, 1) := by decide +kernel
theorem d150_10 : decode (zz_c 150) 10 = .ok (.bipush 20, 2) := by decide +kernel
theorem d150_12 : decode (zz_c 150) 12 = .ok (.invokestatic 24, 3) := by decide +kernel
theorem d150_15 : decode (zz_c 150) 15 = .ok (.aload_n 1, 1) := by decide +kernel
theorem d150_16 : decode (zz_c 150) 16 = .ok (.getfield 15, 3) := by decide +kernel
theorem d150_19 : decode (zz_c 150) 19 = .ok (.iconst 0, 1) := by decide +kernel
theorem d150_20 : decode (zz_c 150) 20 = .ok (.aload_n 0, 1) := by decide +kernel
theorem d150_21 : decode (zz_c 150) 21 = .ok (.getfield 15, 3) := by decide +kernel
theorem d150_24 : decode (zz_c 150) 24 = .ok (.iconst 0, 1) := by decide +kernel
theorem d150_25 : decode (zz_c 150) 25 = .ok (.iconst 4, 1) := by decide +kernel
theorem d150_26 : decode (zz_c 150) 26 = .ok (.invokestatic 24, 3) := by decide +kernel
theorem d150_29 : decode (zz_c 150) 29 = .ok (.return_, 1) := by decide +kernel
theorem x150 : (∀ l0 x st h, zz_Y 150 (0, [l0, some (.ref x)], st, h) = zz_Y 150 (1, [l0, some (.ref x)], .ref x :: st, h)) ∧ (∀ ls a st h, zz_Y 150 (1, ls, .ref a :: st, h) = mo_gf (hp_g h a) 0 0 150 4 ls st h) ∧ (∀ ls st h, zz_Y 150 (4, ls, st, h) = zz_Y 150 (5, ls, .int (nI 0) :: st, h)) ∧ (∀ l1 x st h, zz_Y 150 (5, [some (.ref x), l1], st, h) = zz_Y 150 (6, [some (.ref x), l1], .ref x :: st, h)) ∧ (∀ ls a st h, zz_Y 150 (6, ls, .ref a :: st, h) = mo_gf (hp_g h a) 0 0 150 9 ls st h) ∧ (∀ ls st h, zz_Y 150 (9, ls, st, h) = zz_Y 150 (10, ls, .int (nI 0) :: st, h)) ∧ (∀ ls st h, zz_Y 150 (10, ls, st, h) = zz_Y 150 (12, ls, .int (nI 20) :: st, h)) ∧ (∀ ls a a0 n dp sp h, zz_Y 150 (12, ls, [.int n, .int dp, .ref a, .int sp, .ref a0], h) = mo_ac (hp_g h a0) (hp_g h a) sp dp n a 150 15 ls [] h) ∧ (∀ l0 x st h, zz_Y 150 (15, [l0, some (.ref x)], st, h) = zz_Y 150 (16, [l0, some (.ref x)], .ref x :: st, h)) ∧ (∀ ls a st h, zz_Y 150 (16, ls, .ref a :: st, h) = mo_gf (hp_g h a) 0 1 150 19 ls st h) ∧ (∀ ls st h, zz_Y 150 (19, ls, st, h) = zz_Y 150 (20, ls, .int (nI 0) :: st, h)) ∧ (∀ l1 x st h, zz_Y 150 (20, [some (.ref x), l1], st, h) = zz_Y 150 (21, [some (.ref x), l1], .ref x :: st, h)) ∧ (∀ ls a st h, zz_Y 150 (21, ls, .ref a :: st, h) = mo_gf (hp_g h a) 0 1 150 24 ls st h) ∧ (∀ ls st h, zz_Y 150 (24, ls, st, h) = zz_Y 150 (25, ls, .int (nI 0) :: st, h)) ∧ (∀ ls st h, zz_Y 150 (25, ls, st, h) = zz_Y 150 (26, ls, .int (nI 4) :: st, h)) ∧ (∀ ls a a0 n dp sp h, zz_Y 150 (26, ls, [.int n, .int dp, .ref a, .int sp, .ref a0], h) = mo_ac (hp_g h a0) (hp_g h a) sp dp n a 150 29 ls [] h) ∧ (∀ ls h, zz_Y 150 (29, ls, [], h) = some (none, h)) :=
  ⟨fun _ _ _ _ => xl_aln d150_0 rfl,
   fun _ _ _ _ => xl_gf d150_1 xco150 xf_0_9,
   fun _ _ _ => xl_ic d150_4 (by decide +kernel),
   fun _ _ _ _ => xl_aln d150_5 rfl,
   fun _ _ _ _ => xl_gf d150_6 xco150 xf_0_9,
   fun _ _ _ => xl_ic d150_9 (by decide +kernel),
   fun _ _ _ => xl_bi d150_10 (by decide +kernel),
   fun _ _ _ _ _ _ _ => xl_cp d150_12 xco150 xm_0_24 (by decide +kernel) (by decide +kernel) rfl,
   fun _ _ _ _ => xl_aln d150_15 rfl,
   fun _ _ _ _ => xl_gf d150_16 xco150 xf_0_15,
   fun _ _ _ => xl_ic d150_19 (by decide +kernel),
   fun _ _ _ _ => xl_aln d150_20 rfl,
   fun _ _ _ _ => xl_gf d150_21 xco150 xf_0_15,
   fun _ _ _ => xl_ic d150_24 (by decide +kernel),
   fun _ _ _ => xl_ic d150_25 (by decide +kernel),
   fun _ _ _ _ _ _ _ => xl_cp d150_26 xco150 xm_0_24 (by decide +kernel) (by decide +kernel) rfl,
   fun _ _ => xl_r d150_29 xrt150⟩
/-! 151 FacetSieve.again(I)Z -/
theorem d151_0 : decode (zz_c 151) 0 = .ok (.iload_n 1, 1) := by decide +kernel
theorem d151_1 : decode (zz_c 151) 1 = .ok (.ifCond .lt 17, 3) := by decide +kernel
theorem d151_4 : decode (zz_c 151) 4 = .ok (.iload_n 1, 1) := by decide +kernel
theorem d151_5 : decode (zz_c 151) 5 = .ok (.iconst 3, 1) := by decide +kernel
theorem d151_6 : decode (zz_c 151) 6 = .ok (.if_icmp .ge 12, 3) := by decide +kernel
theorem d151_9 : decode (zz_c 151) 9 = .ok (.aload_n 0, 1) := by decide +kernel
theorem d151_10 : decode (zz_c 151) 10 = .ok (.getfield 16, 3) := by decide +kernel
theorem d151_13 : decode (zz_c 151) 13 = .ok (.iload_n 1, 1) := by decide +kernel
theorem d151_14 : decode (zz_c 151) 14 = .ok (.aaload, 1) := by decide +kernel
theorem d151_15 : decode (zz_c 151) 15 = .ok (.ifnonnull 5, 3) := by decide +kernel
theorem d151_18 : decode (zz_c 151) 18 = .ok (.iconst 0, 1) := by decide +kernel
theorem d151_19 : decode (zz_c 151) 19 = .ok (.ireturn, 1) := by decide +kernel
theorem d151_20 : decode (zz_c 151) 20 = .ok (.aload_n 0, 1) := by decide +kernel
theorem d151_21 : decode (zz_c 151) 21 = .ok (.getfield 12, 3) := by decide +kernel
theorem d151_24 : decode (zz_c 151) 24 = .ok (.aload_n 0, 1) := by decide +kernel
theorem d151_25 : decode (zz_c 151) 25 = .ok (.getfield 16, 3) := by decide +kernel
theorem d151_28 : decode (zz_c 151) 28 = .ok (.iload_n 1, 1) := by decide +kernel
theorem d151_29 : decode (zz_c 151) 29 = .ok (.aaload, 1) := by decide +kernel
theorem d151_30 : decode (zz_c 151) 30 = .ok (.invokevirtual 336, 3) := by decide +kernel
theorem d151_33 : decode (zz_c 151) 33 = .ok (.aload_n 0, 1) := by decide +kernel
theorem d151_34 : decode (zz_c 151) 34 = .ok (.getfield 23, 3) := by decide +kernel
theorem d151_37 : decode (zz_c 151) 37 = .ok (.invokevirtual 101, 3) := by decide +kernel
theorem d151_40 : decode (zz_c 151) 40 = .ok (.iconst 1, 1) := by decide +kernel
theorem d151_41 : decode (zz_c 151) 41 = .ok (.ireturn, 1) := by decide +kernel
theorem x151 : (∀ l0 x st h, zz_Y 151 (0, [l0, some (.int x)], st, h) = zz_Y 151 (1, [l0, some (.int x)], .int x :: st, h)) ∧ (∀ ls a st h, zz_Y 151 (1, ls, .int a :: st, h) = if a < nI 0 then zz_Y 151 (18, ls, st, h) else zz_Y 151 (4, ls, st, h)) ∧ (∀ l0 x st h, zz_Y 151 (4, [l0, some (.int x)], st, h) = zz_Y 151 (5, [l0, some (.int x)], .int x :: st, h)) ∧ (∀ ls st h, zz_Y 151 (5, ls, st, h) = zz_Y 151 (6, ls, .int (nI 3) :: st, h)) ∧ (∀ ls a b st h, zz_Y 151 (6, ls, .int b :: .int a :: st, h) = if a < b then zz_Y 151 (9, ls, st, h) else zz_Y 151 (18, ls, st, h)) ∧ (∀ l1 x st h, zz_Y 151 (9, [some (.ref x), l1], st, h) = zz_Y 151 (10, [some (.ref x), l1], .ref x :: st, h)) ∧ (∀ ls a st h, zz_Y 151 (10, ls, .ref a :: st, h) = mo_gf (hp_g h a) 10 1 151 13 ls st h) ∧ (∀ l0 x st h, zz_Y 151 (13, [l0, some (.int x)], st, h) = zz_Y 151 (14, [l0, some (.int x)], .int x :: st, h)) ∧ (∀ ls a i st h, zz_Y 151 (14, ls, .int i :: .ref a :: st, h) = mo_aa (hp_g h a) i 151 15 ls st h) ∧ (∀ ls a st h, zz_Y 151 (15, ls, .ref a :: st, h) = zz_Y 151 (20, ls, st, h)) ∧ (∀ ls st h, zz_Y 151 (15, ls, .null :: st, h) = zz_Y 151 (18, ls, st, h)) ∧ (∀ ls st h, zz_Y 151 (18, ls, st, h) = zz_Y 151 (19, ls, .int (nI 0) :: st, h)) ∧ (∀ ls v h, v = nI 0 ∨ v = nI 1 → zz_Y 151 (19, ls, [.int v], h) = some (some (.int v), h)) ∧ (∀ l1 x st h, zz_Y 151 (20, [some (.ref x), l1], st, h) = zz_Y 151 (21, [some (.ref x), l1], .ref x :: st, h)) ∧ (∀ ls a st h, zz_Y 151 (21, ls, .ref a :: st, h) = mo_gf (hp_g h a) 10 0 151 24 ls st h) ∧ (∀ l1 x st h, zz_Y 151 (24, [some (.ref x), l1], st, h) = zz_Y 151 (25, [some (.ref x), l1], .ref x :: st, h)) ∧ (∀ ls a st h, zz_Y 151 (25, ls, .ref a :: st, h) = mo_gf (hp_g h a) 10 1 151 28 ls st h) ∧ (∀ l0 x st h, zz_Y 151 (28, [l0, some (.int x)], st, h) = zz_Y 151 (29, [l0, some (.int x)], .int x :: st, h)) ∧ (∀ ls a i st h, zz_Y 151 (29, ls, .int i :: .ref a :: st, h) = mo_aa (hp_g h a) i 151 30 ls st h) ∧ (∀ ls a0 a1 h, zz_Y 151 (30, ls, [a1, a0], h) = mo_k 151 33 ls [] (zz_run 148 [a0, a1] h)) ∧ (∀ l1 x st h, zz_Y 151 (33, [some (.ref x), l1], st, h) = zz_Y 151 (34, [some (.ref x), l1], .ref x :: st, h)) ∧ (∀ ls a st h, zz_Y 151 (34, ls, .ref a :: st, h) = mo_gf (hp_g h a) 10 2 151 37 ls st h) ∧ (∀ ls a0 h, zz_Y 151 (37, ls, [a0], h) = mo_k 151 40 ls [] (zz_run 61 [a0] h)) ∧ (∀ ls st h, zz_Y 151 (40, ls, st, h) = zz_Y 151 (41, ls, .int (nI 1) :: st, h)) ∧ (∀ ls v h, v = nI 0 ∨ v = nI 1 → zz_Y 151 (41, ls, [.int v], h) = some (some (.int v), h)) :=
  ⟨fun _ _ _ _ => xl_iln d151_0 rfl,
   fun _ _ _ _ => xl_iflt d151_1 rfl,
   fun _ _ _ _ => xl_iln d151_4 rfl,
   fun _ _ _ => xl_ic d151_5 (by decide +kernel),
   fun _ _ _ _ _ => xl_icge d151_6 rfl,
   fun _ _ _ _ => xl_aln d151_9 rfl,
   fun _ _ _ _ => xl_gf d151_10 xco151 xf_10_16,
   fun _ _ _ _ => xl_iln d151_13 rfl,
   fun _ _ _ _ _ => xl_aa d151_14,
   fun _ _ _ _ => xl_nnr d151_15 rfl,
   fun _ _ _ => xl_nnn d151_15,
   fun _ _ _ => xl_ic d151_18 (by decide +kernel),
   fun _ _ _ hc => xl_irz d151_19 xrt151 hc,
   fun _ _ _ _ => xl_aln d151_20 rfl,
   fun _ _ _ _ => xl_gf d151_21 xco151 xf_10_12,
   fun _ _ _ _ => xl_aln d151_24 rfl,
   fun _ _ _ _ => xl_gf d151_25 xco151 xf_10_16,
   fun _ _ _ _ => xl_iln d151_28 rfl,
   fun _ _ _ _ _ => xl_aa d151_29,
   fun ls a0 a1 h => xl_cv (As := [a0, a1]) (st := []) d151_30 xco151 xm_10_336 (congrArg Nat.succ xnp148) (by decide +kernel) rfl,
   fun _ _ _ _ => xl_aln d151_33 rfl,
   fun _ _ _ _ => xl_gf d151_34 xco151 xf_10_23,
   fun ls a0 h => xl_cv (As := [a0]) (st := []) d151_37 xco151 xm_10_101 (congrArg Nat.succ xnp61) (by decide +kernel) rfl,
   fun _ _ _ => xl_ic d151_40 (by decide +kernel),
   fun _ _ _ hc => xl_irz d151_41 xrt151 hc⟩
/-! 152 FacetSieveModel.<init>()V -/
theorem d152_0 : decode (zz_c 152) 0 = .ok (.aload_n 0, 1) := by decide +kernel
theorem d152_1 : decode (zz_c 152) 1 = .ok (.invokespecial 1, 3) := by decide +kernel
theorem d152_4 : decode (zz_c 152) 4 = .ok (.aload_n 0, 1) := by decide +kernel
theorem d152_5 : decode (zz_c 152) 5 = .ok (.sipush 12639, 3) := by decide +kernel
theorem d152_8 : decode (zz_c 152) 8 = .ok (.newarray .int, 2) := by decide +kernel
theorem d152_10 : decode (zz_c 152) 10 = .ok (.putfield 7, 3) := by decide +kernel
theorem d152_13 : decode (zz_c 152) 13 = .ok (.aload_n 0, 1) := by decide +kernel
theorem d152_14 : decode (zz_c 152) 14 = .ok (.sipush 600, 3) := by decide +kernel
theorem d152_17 : decode (zz_c 152) 17 = .ok (.newarray .int, 2) := by decide +kernel
theorem d152_19 : decode (zz_c 152) 19 = .ok (.putfield 13, 3) := by decide +kernel
theorem d152_22 : decode (zz_c 152) 22 = .ok (.aload_n 0, 1) := by decide +kernel
theorem d152_23 : decode (zz_c 152) 23 = .ok (.iconst 3, 1) := by decide +kernel
theorem d152_24 : decode (zz_c 152) 24 = .ok (.newarray .boolean, 2) := by decide +kernel
theorem d152_26 : decode (zz_c 152) 26 = .ok (.putfield 16, 3) := by decide +kernel
theorem d152_29 : decode (zz_c 152) 29 = .ok (.aload_n 0, 1) := by decide +kernel
theorem d152_30 : decode (zz_c 152) 30 = .ok (.iconst (-1), 1) := by decide +kernel
theorem d152_31 : decode (zz_c 152) 31 = .ok (.putfield 20, 3) := by decide +kernel
theorem d152_34 : decode (zz_c 152) 34 = .ok (.aload_n 0, 1) := by decide +kernel
theorem d152_35 : decode (zz_c 152) 35 = .ok (.bipush 8, 2) := by decide +kernel
theorem d152_37 : decode (zz_c 152) 37 = .ok (.newarray .int, 2) := by decide +kernel
theorem d152_39 : decode (zz_c 152) 39 = .ok (.putfield 24, 3) := by decide +kernel
theorem d152_42 : decode (zz_c 152) 42 = .ok (.aload_n 0, 1) := by decide +kernel
theorem d152_43 : decode (zz_c 152) 43 = .ok (.bipush 8, 2) := by decide +kernel
theorem d152_45 : decode (zz_c 152) 45 = .ok (.newarray .int, 2) := by decide +kernel
theorem d152_47 : decode (zz_c 152) 47 = .ok (.putfield 27, 3) := by decide +kernel
theorem d152_50 : decode (zz_c 152) 50 = .ok (.aload_n 0, 1) := by decide +kernel
theorem d152_51 : decode (zz_c 152) 51 = .ok (.bipush 8, 2) := by decide +kernel
theorem d152_53 : decode (zz_c 152) 53 = .ok (.newarray .int, 2) := by decide +kernel
theorem d152_55 : decode (zz_c 152) 55 = .ok (.putfield 30, 3) := by decide +kernel
theorem d152_58 : decode (zz_c 152) 58 = .ok (.aload_n 0, 1) := by decide +kernel
theorem d152_59 : decode (zz_c 152) 59 = .ok (.bipush 8, 2) := by decide +kernel
theorem d152_61 : decode (zz_c 152) 61 = .ok (.newarray .int, 2) := by decide +kernel
theorem d152_63 : decode (zz_c 152) 63 = .ok (.putfield 33, 3) := by decide +kernel
theorem d152_66 : decode (zz_c 152) 66 = .ok (.aload_n 0, 1) := by decide +kernel
theorem d152_67 : decode (zz_c 152) 67 = .ok (.iconst 3, 1) := by decide +kernel
theorem d152_68 : decode (zz_c 152) 68 = .ok (.newarray .int, 2) := by decide +kernel
theorem d152_70 : decode (zz_c 152) 70 = .ok (.putfield 36, 3) := by decide +kernel
theorem d152_73 : decode (zz_c 152) 73 = .ok (.aload_n 0, 1) := by decide +kernel
theorem d152_74 : decode (zz_c 152) 74 = .ok (.sipush 256, 3) := by decide +kernel
theorem d152_77 : decode (zz_c 152) 77 = .ok (.newarray .int, 2) := by decide +kernel
theorem d152_79 : decode (zz_c 152) 79 = .ok (.putfield 39, 3) := by decide +kernel
theorem d152_82 : decode (zz_c 152) 82 = .ok (.aload_n 0, 1) := by decide +kernel
theorem d152_83 : decode (zz_c 152) 83 = .ok (.bipush 56, 2) := by decide +kernel
theorem d152_85 : decode (zz_c 152) 85 = .ok (.newarray .int, 2) := by decide +kernel
theorem d152_87 : decode (zz_c 152) 87 = .ok (.putfield 42, 3) := by decide +kernel
theorem d152_90 : decode (zz_c 152) 90 = .ok (.aload_n 0, 1) := by decide +kernel
theorem d152_91 : decode (zz_c 152) 91 = .ok (.bipush 56, 2) := by decide +kernel
theorem d152_93 : decode (zz_c 152) 93 = .ok (.newarray .int, 2) := by decide +kernel
theorem d152_95 : decode (zz_c 152) 95 = .ok (.putfield 45, 3) := by decide +kernel
theorem d152_98 : decode (zz_c 152) 98 = .ok (.aload_n 0, 1) := by decide +kernel
theorem d152_99 : decode (zz_c 152) 99 = .ok (.bipush 7, 2) := by decide +kernel
theorem d152_101 : decode (zz_c 152) 101 = .ok (.newarray .int, 2) := by decide +kernel
theorem d152_103 : decode (zz_c 152) 103 = .ok (.putfield 48, 3) := by decide +kernel
theorem d152_106 : decode (zz_c 152) 106 = .ok (.aload_n 0, 1) := by decide +kernel
theorem d152_107 : decode (zz_c 152) 107 = .ok (.bipush 7, 2) := by decide +kernel
theorem d152_109 : decode (zz_c 152) 109 = .ok (.newarray .boolean, 2) := by decide +kernel
theorem d152_111 : decode (zz_c 152) 111 = .ok (.putfield 51, 3) := by decide +kernel
theorem d152_114 : decode (zz_c 152) 114 = .ok (.aload_n 0, 1) := by decide +kernel
theorem d152_115 : decode (zz_c 152) 115 = .ok (.bipush 7, 2) := by decide +kernel
theorem d152_117 : decode (zz_c 152) 117 = .ok (.newarray .boolean, 2) := by decide +kernel
theorem d152_119 : decode (zz_c 152) 119 = .ok (.putfield 54, 3) := by decide +kernel
theorem d152_122 : decode (zz_c 152) 122 = .ok (.return_, 1) := by decide +kernel
theorem x152_p0 : (∀ x st h, zz_Y 152 (0, [some (.ref x)], st, h) = zz_Y 152 (1, [some (.ref x)], .ref x :: st, h)) ∧ (∀ ls a h, zz_Y 152 (1, ls, [.ref a], h) = zz_Y 152 (4, ls, [], h)) ∧ (∀ x st h, zz_Y 152 (4, [some (.ref x)], st, h) = zz_Y 152 (5, [some (.ref x)], .ref x :: st, h)) ∧ (∀ ls st h, zz_Y 152 (5, ls, st, h) = zz_Y 152 (8, ls, .int (nI 12639) :: st, h)) ∧ (∀ ls n st h, zz_Y 152 (8, ls, .int n :: st, h) = mo_na .int (fun n => (n, .inl (fun _ => 0))) n 152 10 ls st h) ∧ (∀ ls a v st h, zz_Y 152 (10, ls, v :: .ref a :: st, h) = mo_pf (hp_g h a) 11 0 (.array .int) v a 152 13 ls st h) ∧ (∀ x st h, zz_Y 152 (13, [some (.ref x)], st, h) = zz_Y 152 (14, [some (.ref x)], .ref x :: st, h)) ∧ (∀ ls st h, zz_Y 152 (14, ls, st, h) = zz_Y 152 (17, ls, .int (nI 600) :: st, h)) ∧ (∀ ls n st h, zz_Y 152 (17, ls, .int n :: st, h) = mo_na .int (fun n => (n, .inl (fun _ => 0))) n 152 19 ls st h) ∧ (∀ ls a v st h, zz_Y 152 (19, ls, v :: .ref a :: st, h) = mo_pf (hp_g h a) 11 1 (.array .int) v a 152 22 ls st h) ∧ (∀ x st h, zz_Y 152 (22, [some (.ref x)], st, h) = zz_Y 152 (23, [some (.ref x)], .ref x :: st, h)) ∧ (∀ ls st h, zz_Y 152 (23, ls, st, h) = zz_Y 152 (24, ls, .int (nI 3) :: st, h)) ∧ (∀ ls n st h, zz_Y 152 (24, ls, .int n :: st, h) = mo_na .boolean (fun n => (n, .inl (fun _ => 0))) n 152 26 ls st h) ∧ (∀ ls a v st h, zz_Y 152 (26, ls, v :: .ref a :: st, h) = mo_pf (hp_g h a) 11 2 (.array .boolean) v a 152 29 ls st h) ∧ (∀ x st h, zz_Y 152 (29, [some (.ref x)], st, h) = zz_Y 152 (30, [some (.ref x)], .ref x :: st, h)) ∧ (∀ ls st h, zz_Y 152 (30, ls, st, h) = zz_Y 152 (31, ls, .int (-1) :: st, h)) ∧ (∀ ls a v st h, zz_Y 152 (31, ls, v :: .ref a :: st, h) = mo_pf (hp_g h a) 11 5 .int v a 152 34 ls st h) ∧ (∀ x st h, zz_Y 152 (34, [some (.ref x)], st, h) = zz_Y 152 (35, [some (.ref x)], .ref x :: st, h)) ∧ (∀ ls st h, zz_Y 152 (35, ls, st, h) = zz_Y 152 (37, ls, .int (nI 8) :: st, h)) ∧ (∀ ls n st h, zz_Y 152 (37, ls, .int n :: st, h) = mo_na .int (fun n => (n, .inl (fun _ => 0))) n 152 39 ls st h) ∧ (∀ ls a v st h, zz_Y 152 (39, ls, v :: .ref a :: st, h) = mo_pf (hp_g h a) 11 7 (.array .int) v a 152 42 ls st h) ∧ (∀ x st h, zz_Y 152 (42, [some (.ref x)], st, h) = zz_Y 152 (43, [some (.ref x)], .ref x :: st, h)) ∧ (∀ ls st h, zz_Y 152 (43, ls, st, h) = zz_Y 152 (45, ls, .int (nI 8) :: st, h)) ∧ (∀ ls n st h, zz_Y 152 (45, ls, .int n :: st, h) = mo_na .int (fun n => (n, .inl (fun _ => 0))) n 152 47 ls st h) ∧ (∀ ls a v st h, zz_Y 152 (47, ls, v :: .ref a :: st, h) = mo_pf (hp_g h a) 11 8 (.array .int) v a 152 50 ls st h) ∧ (∀ x st h, zz_Y 152 (50, [some (.ref x)], st, h) = zz_Y 152 (51, [some (.ref x)], .ref x :: st, h)) ∧ (∀ ls st h, zz_Y 152 (51, ls, st, h) = zz_Y 152 (53, ls, .int (nI 8) :: st, h)) ∧ (∀ ls n st h, zz_Y 152 (53, ls, .int n :: st, h) = mo_na .int (fun n => (n, .inl (fun _ => 0))) n 152 55 ls st h) ∧ (∀ ls a v st h, zz_Y 152 (55, ls, v :: .ref a :: st, h) = mo_pf (hp_g h a) 11 9 (.array .int) v a 152 58 ls st h) ∧ (∀ x st h, zz_Y 152 (58, [some (.ref x)], st, h) = zz_Y 152 (59, [some (.ref x)], .ref x :: st, h)) ∧ (∀ ls st h, zz_Y 152 (59, ls, st, h) = zz_Y 152 (61, ls, .int (nI 8) :: st, h)) ∧ (∀ ls n st h, zz_Y 152 (61, ls, .int n :: st, h) = mo_na .int (fun n => (n, .inl (fun _ => 0))) n 152 63 ls st h) ∧ (∀ ls a v st h, zz_Y 152 (63, ls, v :: .ref a :: st, h) = mo_pf (hp_g h a) 11 10 (.array .int) v a 152 66 ls st h) ∧ (∀ x st h, zz_Y 152 (66, [some (.ref x)], st, h) = zz_Y 152 (67, [some (.ref x)], .ref x :: st, h)) ∧ (∀ ls st h, zz_Y 152 (67, ls, st, h) = zz_Y 152 (68, ls, .int (nI 3) :: st, h)) ∧ (∀ ls n st h, zz_Y 152 (68, ls, .int n :: st, h) = mo_na .int (fun n => (n, .inl (fun _ => 0))) n 152 70 ls st h) ∧ (∀ ls a v st h, zz_Y 152 (70, ls, v :: .ref a :: st, h) = mo_pf (hp_g h a) 11 11 (.array .int) v a 152 73 ls st h) ∧ (∀ x st h, zz_Y 152 (73, [some (.ref x)], st, h) = zz_Y 152 (74, [some (.ref x)], .ref x :: st, h)) ∧ (∀ ls st h, zz_Y 152 (74, ls, st, h) = zz_Y 152 (77, ls, .int (nI 256) :: st, h)) ∧ (∀ ls n st h, zz_Y 152 (77, ls, .int n :: st, h) = mo_na .int (fun n => (n, .inl (fun _ => 0))) n 152 79 ls st h) ∧ (∀ ls a v st h, zz_Y 152 (79, ls, v :: .ref a :: st, h) = mo_pf (hp_g h a) 11 12 (.array .int) v a 152 82 ls st h) ∧ (∀ x st h, zz_Y 152 (82, [some (.ref x)], st, h) = zz_Y 152 (83, [some (.ref x)], .ref x :: st, h)) ∧ (∀ ls st h, zz_Y 152 (83, ls, st, h) = zz_Y 152 (85, ls, .int (nI 56) :: st, h)) ∧ (∀ ls n st h, zz_Y 152 (85, ls, .int n :: st, h) = mo_na .int (fun n => (n, .inl (fun _ => 0))) n 152 87 ls st h) ∧ (∀ ls a v st h, zz_Y 152 (87, ls, v :: .ref a :: st, h) = mo_pf (hp_g h a) 11 18 (.array .int) v a 152 90 ls st h) ∧ (∀ x st h, zz_Y 152 (90, [some (.ref x)], st, h) = zz_Y 152 (91, [some (.ref x)], .ref x :: st, h)) ∧ (∀ ls st h, zz_Y 152 (91, ls, st, h) = zz_Y 152 (93, ls, .int (nI 56) :: st, h)) ∧ (∀ ls n st h, zz_Y 152 (93, ls, .int n :: st, h) = mo_na .int (fun n => (n, .inl (fun _ => 0))) n 152 95 ls st h) ∧ (∀ ls a v st h, zz_Y 152 (95, ls, v :: .ref a :: st, h) = mo_pf (hp_g h a) 11 19 (.array .int) v a 152 98 ls st h) ∧ (∀ x st h, zz_Y 152 (98, [some (.ref x)], st, h) = zz_Y 152 (99, [some (.ref x)], .ref x :: st, h)) ∧ (∀ ls st h, zz_Y 152 (99, ls, st, h) = zz_Y 152 (101, ls, .int (nI 7) :: st, h)) ∧ (∀ ls n st h, zz_Y 152 (101, ls, .int n :: st, h) = mo_na .int (fun n => (n, .inl (fun _ => 0))) n 152 103 ls st h) ∧ (∀ ls a v st h, zz_Y 152 (103, ls, v :: .ref a :: st, h) = mo_pf (hp_g h a) 11 20 (.array .int) v a 152 106 ls st h) ∧ (∀ x st h, zz_Y 152 (106, [some (.ref x)], st, h) = zz_Y 152 (107, [some (.ref x)], .ref x :: st, h)) ∧ (∀ ls st h, zz_Y 152 (107, ls, st, h) = zz_Y 152 (109, ls, .int (nI 7) :: st, h)) ∧ (∀ ls n st h, zz_Y 152 (109, ls, .int n :: st, h) = mo_na .boolean (fun n => (n, .inl (fun _ => 0))) n 152 111 ls st h) ∧ (∀ ls a v st h, zz_Y 152 (111, ls, v :: .ref a :: st, h) = mo_pf (hp_g h a) 11 21 (.array .boolean) v a 152 114 ls st h) ∧ (∀ x st h, zz_Y 152 (114, [some (.ref x)], st, h) = zz_Y 152 (115, [some (.ref x)], .ref x :: st, h)) ∧ (∀ ls st h, zz_Y 152 (115, ls, st, h) = zz_Y 152 (117, ls, .int (nI 7) :: st, h)) ∧ (∀ ls n st h, zz_Y 152 (117, ls, .int n :: st, h) = mo_na .boolean (fun n => (n, .inl (fun _ => 0))) n 152 119 ls st h) :=
  ⟨fun _ _ _ => xl_aln d152_0 rfl,
   fun _ _ _ => xl_oi d152_1 xco152 xm_11_1 (by decide +kernel) (by decide +kernel) rfl,
   fun _ _ _ => xl_aln d152_4 rfl,
   fun _ _ _ => xl_si d152_5 (by decide +kernel),
   fun _ _ _ _ => xl_nai d152_8,
   fun _ _ _ _ _ => xl_pf d152_10 xco152 xf_11_7 (by decide +kernel) rfl,
   fun _ _ _ => xl_aln d152_13 rfl,
   fun _ _ _ => xl_si d152_14 (by decide +kernel),
   fun _ _ _ _ => xl_nai d152_17,
   fun _ _ _ _ _ => xl_pf d152_19 xco152 xf_11_13 (by decide +kernel) rfl,
   fun _ _ _ => xl_aln d152_22 rfl,
   fun _ _ _ => xl_ic d152_23 (by decide +kernel),
   fun _ _ _ _ => xl_naz d152_24,
   fun _ _ _ _ _ => xl_pf d152_26 xco152 xf_11_16 (by decide +kernel) rfl,
   fun _ _ _ => xl_aln d152_29 rfl,
   fun _ _ _ => xl_ic d152_30 (by decide +kernel),
   fun _ _ _ _ _ => xl_pf d152_31 xco152 xf_11_20 (by decide +kernel) rfl,
   fun _ _ _ => xl_aln d152_34 rfl,
   fun _ _ _ => xl_bi d152_35 (by decide +kernel),
   fun _ _ _ _ => xl_nai d152_37,
   fun _ _ _ _ _ => xl_pf d152_39 xco152 xf_11_24 (by decide +kernel) rfl,
   fun _ _ _ => xl_aln d152_42 rfl,
   fun _ _ _ => xl_bi d152_43 (by decide +kernel),
   fun _ _ _ _ => xl_nai d152_45,
   fun _ _ _ _ _ => xl_pf d152_47 xco152 xf_11_27 (by decide +kernel) rfl,
   fun _ _ _ => xl_aln d152_50 rfl,
   fun _ _ _ => xl_bi d152_51 (by decide +kernel),
   fun _ _ _ _ => xl_nai d152_53,
   fun _ _ _ _ _ => xl_pf d152_55 xco152 xf_11_30 (by decide +kernel) rfl,
   fun _ _ _ => xl_aln d152_58 rfl,
   fun _ _ _ => xl_bi d152_59 (by decide +kernel),
   fun _ _ _ _ => xl_nai d152_61,
   fun _ _ _ _ _ => xl_pf d152_63 xco152 xf_11_33 (by decide +kernel) rfl,
   fun _ _ _ => xl_aln d152_66 rfl,
   fun _ _ _ => xl_ic d152_67 (by decide +kernel),
   fun _ _ _ _ => xl_nai d152_68,
   fun _ _ _ _ _ => xl_pf d152_70 xco152 xf_11_36 (by decide +kernel) rfl,
   fun _ _ _ => xl_aln d152_73 rfl,
   fun _ _ _ => xl_si d152_74 (by decide +kernel),
   fun _ _ _ _ => xl_nai d152_77,
   fun _ _ _ _ _ => xl_pf d152_79 xco152 xf_11_39 (by decide +kernel) rfl,
   fun _ _ _ => xl_aln d152_82 rfl,
   fun _ _ _ => xl_bi d152_83 (by decide +kernel),
   fun _ _ _ _ => xl_nai d152_85,
   fun _ _ _ _ _ => xl_pf d152_87 xco152 xf_11_42 (by decide +kernel) rfl,
   fun _ _ _ => xl_aln d152_90 rfl,
   fun _ _ _ => xl_bi d152_91 (by decide +kernel),
   fun _ _ _ _ => xl_nai d152_93,
   fun _ _ _ _ _ => xl_pf d152_95 xco152 xf_11_45 (by decide +kernel) rfl,
   fun _ _ _ => xl_aln d152_98 rfl,
   fun _ _ _ => xl_bi d152_99 (by decide +kernel),
   fun _ _ _ _ => xl_nai d152_101,
   fun _ _ _ _ _ => xl_pf d152_103 xco152 xf_11_48 (by decide +kernel) rfl,
   fun _ _ _ => xl_aln d152_106 rfl,
   fun _ _ _ => xl_bi d152_107 (by decide +kernel),
   fun _ _ _ _ => xl_naz d152_109,
   fun _ _ _ _ _ => xl_pf d152_111 xco152 xf_11_51 (by decide +kernel) rfl,
   fun _ _ _ => xl_aln d152_114 rfl,
   fun _ _ _ => xl_bi d152_115 (by decide +kernel),
   fun _ _ _ _ => xl_naz d152_117⟩
theorem x152_p1 : (∀ ls a v st h, zz_Y 152 (119, ls, v :: .ref a :: st, h) = mo_pf (hp_g h a) 11 22 (.array .boolean) v a 152 122 ls st h) ∧ (∀ ls h, zz_Y 152 (122, ls, [], h) = some (none, h)) :=
  ⟨fun _ _ _ _ _ => xl_pf d152_119 xco152 xf_11_54 (by decide +kernel) rfl,
   fun _ _ => xl_r d152_122 xrt152⟩
/-! 153 FacetSieveModel.count(I)I -/
theorem d153_0 : decode (zz_c 153) 0 = .ok (.iload_n 1, 1) := by decide +kernel
theorem d153_1 : decode (zz_c 153) 1 = .ok (.iconst 4, 1) := by decide +kernel
theorem d153_2 : decode (zz_c 153) 2 = .ok (.bipush 9, 2) := by decide +kernel
theorem d153_4 : decode (zz_c 153) 4 = .ok (.invokestatic 57, 3) := by decide +kernel
theorem d153_7 : decode (zz_c 153) 7 = .ok (.ifCond .eq 9, 3) := by decide +kernel
theorem d153_10 : decode (zz_c 153) 10 = .ok (.aload_n 0, 1) := by decide +kernel
theorem d153_11 : decode (zz_c 153) 11 = .ok (.iload_n 1, 1) := by decide +kernel
theorem d153_12 : decode (zz_c 153) 12 = .ok (.invokevirtual 138, 3) := by decide +kernel
theorem d153_15 : decode (zz_c 153) 15 = .ok (.ireturn, 1) := by decide +kernel
theorem d153_16 : decode (zz_c 153) 16 = .ok (.iload_n 1, 1) := by decide +kernel
theorem d153_17 : decode (zz_c 153) 17 = .ok (.tableswitch 126 0 14 #[75, 82, 89, 94, 126, 126, 126, 126, 126, 126, 99, 104, 109, 115, 121], 75) := by decide +kernel
theorem d153_92 : decode (zz_c 153) 92 = .ok (.aload_n 0, 1) := by decide +kernel
theorem d153_93 : decode (zz_c 153) 93 = .ok (.getfield 7, 3) := by decide +kernel
theorem d153_96 : decode (zz_c 153) 96 = .ok (.iconst 0, 1) := by decide +kernel
theorem d153_97 : decode (zz_c 153) 97 = .ok (.iaload, 1) := by decide +kernel
theorem d153_98 : decode (zz_c 153) 98 = .ok (.ireturn, 1) := by decide +kernel
theorem d153_99 : decode (zz_c 153) 99 = .ok (.aload_n 0, 1) := by decide +kernel
theorem d153_100 : decode (zz_c 153) 100 = .ok (.getfield 7, 3) := by decide +kernel
theorem d153_103 : decode (zz_c 153) 103 = .ok (.iconst 1, 1) := by decide +kernel
theorem d153_104 : decode (zz_c 153) 104 = .ok (.iaload, 1) := by decide +kernel
theorem d153_105 : decode (zz_c 153) 105 = .ok (.ireturn, 1) := by decide +kernel
theorem d153_106 : decode (zz_c 153) 106 = .ok (.aload_n 0, 1) := by decide +kernel
theorem d153_107 : decode (zz_c 153) 107 = .ok (.invokevirtual 141, 3) := by decide +kernel
theorem d153_110 : decode (zz_c 153) 110 = .ok (.ireturn, 1) := by decide +kernel
theorem d153_111 : decode (zz_c 153) 111 = .ok (.aload_n 0, 1) := by decide +kernel
theorem d153_112 : decode (zz_c 153) 112 = .ok (.invokevirtual 116, 3) := by decide +kernel
theorem d153_115 : decode (zz_c 153) 115 = .ok (.ireturn, 1) := by decide +kernel
theorem d153_116 : decode (zz_c 153) 116 = .ok (.aload_n 0, 1) := by decide +kernel
theorem d153_117 : decode (zz_c 153) 117 = .ok (.getfield 144, 3) := by decide +kernel
theorem d153_120 : decode (zz_c 153) 120 = .ok (.ireturn, 1) := by decide +kernel
theorem d153_121 : decode (zz_c 153) 121 = .ok (.aload_n 0, 1) := by decide +kernel
theorem d153_122 : decode (zz_c 153) 122 = .ok (.getfield 147, 3) := by decide +kernel
theorem d153_125 : decode (zz_c 153) 125 = .ok (.ireturn, 1) := by decide +kernel
theorem d153_126 : decode (zz_c 153) 126 = .ok (.aload_n 0, 1) := by decide +kernel
theorem d153_127 : decode (zz_c 153) 127 = .ok (.iconst 0, 1) := by decide +kernel
theorem d153_128 : decode (zz_c 153) 128 = .ok (.invokevirtual 150, 3) := by decide +kernel
theorem d153_131 : decode (zz_c 153) 131 = .ok (.ireturn, 1) := by decide +kernel
theorem d153_132 : decode (zz_c 153) 132 = .ok (.aload_n 0, 1) := by decide +kernel
theorem d153_133 : decode (zz_c 153) 133 = .ok (.iconst 1, 1) := by decide +kernel
theorem d153_134 : decode (zz_c 153) 134 = .ok (.invokevirtual 150, 3) := by decide +kernel
theorem d153_137 : decode (zz_c 153) 137 = .ok (.ireturn, 1) := by decide +kernel
theorem d153_138 : decode (zz_c 153) 138 = .ok (.aload_n 0, 1) := by decide +kernel
theorem d153_139 : decode (zz_c 153) 139 = .ok (.invokevirtual 154, 3) := by decide +kernel
theorem d153_142 : decode (zz_c 153) 142 = .ok (.ireturn, 1) := by decide +kernel
theorem d153_143 : decode (zz_c 153) 143 = .ok (.iconst (-1), 1) := by decide +kernel
theorem d153_144 : decode (zz_c 153) 144 = .ok (.ireturn, 1) := by decide +kernel
theorem x153 : (∀ l0 x st h, zz_Y 153 (0, [l0, some (.int x)], st, h) = zz_Y 153 (1, [l0, some (.int x)], .int x :: st, h)) ∧ (∀ ls st h, zz_Y 153 (1, ls, st, h) = zz_Y 153 (2, ls, .int (nI 4) :: st, h)) ∧ (∀ ls st h, zz_Y 153 (2, ls, st, h) = zz_Y 153 (4, ls, .int (nI 9) :: st, h)) ∧ (∀ ls a0 a1 a2 h, zz_Y 153 (4, ls, [a2, a1, a0], h) = mo_k 153 7 ls [] (zz_run 154 [a0, a1, a2] h)) ∧ (∀ ls a st h, zz_Y 153 (7, ls, .int a :: st, h) = if a = nI 0 then zz_Y 153 (16, ls, st, h) else zz_Y 153 (10, ls, st, h)) ∧ (∀ l1 x st h, zz_Y 153 (10, [some (.ref x), l1], st, h) = zz_Y 153 (11, [some (.ref x), l1], .ref x :: st, h)) ∧ (∀ l0 x st h, zz_Y 153 (11, [l0, some (.int x)], st, h) = zz_Y 153 (12, [l0, some (.int x)], .int x :: st, h)) ∧ (∀ ls a0 a1 h, zz_Y 153 (12, ls, [a1, a0], h) = mo_k 153 15 ls [] (zz_run 155 [a0, a1] h)) ∧ (∀ ls v h, zz_Y 153 (15, ls, [.int v], h) = some (some (.int v), h)) ∧ (∀ l0 x st h, zz_Y 153 (16, [l0, some (.int x)], st, h) = zz_Y 153 (17, [l0, some (.int x)], .int x :: st, h)) ∧ (∀ ls x st h, zz_Y 153 (17, ls, .int x :: st, h) = zz_Y 153 (zz_sw [(nI 0, 92), (nI 1, 99), (nI 2, 106), (nI 3, 111), (nI 4, 143), (nI 5, 143), (nI 6, 143), (nI 7, 143), (nI 8, 143), (nI 9, 143), (nI 10, 116), (nI 11, 121), (nI 12, 126), (nI 13, 132), (nI 14, 138)] 143 x, ls, st, h)) ∧ (∀ l1 x st h, zz_Y 153 (92, [some (.ref x), l1], st, h) = zz_Y 153 (93, [some (.ref x), l1], .ref x :: st, h)) ∧ (∀ ls a st h, zz_Y 153 (93, ls, .ref a :: st, h) = mo_gf (hp_g h a) 11 0 153 96 ls st h) ∧ (∀ ls st h, zz_Y 153 (96, ls, st, h) = zz_Y 153 (97, ls, .int (nI 0) :: st, h)) ∧ (∀ ls a i st h, zz_Y 153 (97, ls, .int i :: .ref a :: st, h) = mo_ia (hp_g h a) i a 153 98 ls st h) ∧ (∀ ls v h, zz_Y 153 (98, ls, [.int v], h) = some (some (.int v), h)) ∧ (∀ l1 x st h, zz_Y 153 (99, [some (.ref x), l1], st, h) = zz_Y 153 (100, [some (.ref x), l1], .ref x :: st, h)) ∧ (∀ ls a st h, zz_Y 153 (100, ls, .ref a :: st, h) = mo_gf (hp_g h a) 11 0 153 103 ls st h) ∧ (∀ ls st h, zz_Y 153 (103, ls, st, h) = zz_Y 153 (104, ls, .int (nI 1) :: st, h)) ∧ (∀ ls a i st h, zz_Y 153 (104, ls, .int i :: .ref a :: st, h) = mo_ia (hp_g h a) i a 153 105 ls st h) ∧ (∀ ls v h, zz_Y 153 (105, ls, [.int v], h) = some (some (.int v), h)) ∧ (∀ l1 x st h, zz_Y 153 (106, [some (.ref x), l1], st, h) = zz_Y 153 (107, [some (.ref x), l1], .ref x :: st, h)) ∧ (∀ ls a0 h, zz_Y 153 (107, ls, [a0], h) = mo_k 153 110 ls [] (zz_run 165 [a0] h)) ∧ (∀ ls v h, zz_Y 153 (110, ls, [.int v], h) = some (some (.int v), h)) ∧ (∀ l1 x st h, zz_Y 153 (111, [some (.ref x), l1], st, h) = zz_Y 153 (112, [some (.ref x), l1], .ref x :: st, h)) ∧ (∀ ls a0 h, zz_Y 153 (112, ls, [a0], h) = mo_k 153 115 ls [] (zz_run 166 [a0] h)) ∧ (∀ ls v h, zz_Y 153 (115, ls, [.int v], h) = some (some (.int v), h)) ∧ (∀ l1 x st h, zz_Y 153 (116, [some (.ref x), l1], st, h) = zz_Y 153 (117, [some (.ref x), l1], .ref x :: st, h)) ∧ (∀ ls a st h, zz_Y 153 (117, ls, .ref a :: st, h) = mo_gf (hp_g h a) 11 6 153 120 ls st h) ∧ (∀ ls v h, zz_Y 153 (120, ls, [.int v], h) = some (some (.int v), h)) ∧ (∀ l1 x st h, zz_Y 153 (121, [some (.ref x), l1], st, h) = zz_Y 153 (122, [some (.ref x), l1], .ref x :: st, h)) ∧ (∀ ls a st h, zz_Y 153 (122, ls, .ref a :: st, h) = mo_gf (hp_g h a) 11 3 153 125 ls st h) ∧ (∀ ls v h, zz_Y 153 (125, ls, [.int v], h) = some (some (.int v), h)) ∧ (∀ l1 x st h, zz_Y 153 (126, [some (.ref x), l1], st, h) = zz_Y 153 (127, [some (.ref x), l1], .ref x :: st, h)) ∧ (∀ ls st h, zz_Y 153 (127, ls, st, h) = zz_Y 153 (128, ls, .int (nI 0) :: st, h)) ∧ (∀ ls a0 a1 h, zz_Y 153 (128, ls, [a1, a0], h) = mo_k 153 131 ls [] (zz_run 173 [a0, a1] h)) ∧ (∀ ls v h, zz_Y 153 (131, ls, [.int v], h) = some (some (.int v), h)) ∧ (∀ l1 x st h, zz_Y 153 (132, [some (.ref x), l1], st, h) = zz_Y 153 (133, [some (.ref x), l1], .ref x :: st, h)) ∧ (∀ ls st h, zz_Y 153 (133, ls, st, h) = zz_Y 153 (134, ls, .int (nI 1) :: st, h)) ∧ (∀ ls a0 a1 h, zz_Y 153 (134, ls, [a1, a0], h) = mo_k 153 137 ls [] (zz_run 173 [a0, a1] h)) ∧ (∀ ls v h, zz_Y 153 (137, ls, [.int v], h) = some (some (.int v), h)) ∧ (∀ l1 x st h, zz_Y 153 (138, [some (.ref x), l1], st, h) = zz_Y 153 (139, [some (.ref x), l1], .ref x :: st, h)) ∧ (∀ ls a0 h, zz_Y 153 (139, ls, [a0], h) = mo_k 153 142 ls [] (zz_run 178 [a0] h)) ∧ (∀ ls v h, zz_Y 153 (142, ls, [.int v], h) = some (some (.int v), h)) ∧ (∀ ls st h, zz_Y 153 (143, ls, st, h) = zz_Y 153 (144, ls, .int (-1) :: st, h)) ∧ (∀ ls v h, zz_Y 153 (144, ls, [.int v], h) = some (some (.int v), h)) :=
  ⟨fun _ _ _ _ => xl_iln d153_0 rfl,
   fun _ _ _ => xl_ic d153_1 (by decide +kernel),
   fun _ _ _ => xl_bi d153_2 (by decide +kernel),
   fun ls a0 a1 a2 h => xl_cs (As := [a0, a1, a2]) (st := []) d153_4 xco153 xm_11_57 xnp154 (by decide +kernel) rfl,
   fun _ _ _ _ => xl_ifeq d153_7 rfl,
   fun _ _ _ _ => xl_aln d153_10 rfl,
   fun _ _ _ _ => xl_iln d153_11 rfl,
   fun ls a0 a1 h => xl_cv (As := [a0, a1]) (st := []) d153_12 xco153 xm_11_138 (congrArg Nat.succ xnp155) (by decide +kernel) rfl,
   fun _ _ _ => xl_iri d153_15 xrt153,
   fun _ _ _ _ => xl_iln d153_16 rfl,
   fun _ _ _ _ => xl_tbs (qs := [(nI 0, 92), (nI 1, 99), (nI 2, 106), (nI 3, 111), (nI 4, 143), (nI 5, 143), (nI 6, 143), (nI 7, 143), (nI 8, 143), (nI 9, 143), (nI 10, 116), (nI 11, 121), (nI 12, 126), (nI 13, 132), (nI 14, 138)]) d153_17 rfl (by decide +kernel) (by decide +kernel) (by decide +kernel),
   fun _ _ _ _ => xl_aln d153_92 rfl,
   fun _ _ _ _ => xl_gf d153_93 xco153 xf_11_7,
   fun _ _ _ => xl_ic d153_96 (by decide +kernel),
   fun _ _ _ _ _ => xl_ia d153_97,
   fun _ _ _ => xl_iri d153_98 xrt153,
   fun _ _ _ _ => xl_aln d153_99 rfl,
   fun _ _ _ _ => xl_gf d153_100 xco153 xf_11_7,
   fun _ _ _ => xl_ic d153_103 (by decide +kernel),
   fun _ _ _ _ _ => xl_ia d153_104,
   fun _ _ _ => xl_iri d153_105 xrt153,
   fun _ _ _ _ => xl_aln d153_106 rfl,
   fun ls a0 h => xl_cv (As := [a0]) (st := []) d153_107 xco153 xm_11_141 (congrArg Nat.succ xnp165) (by decide +kernel) rfl,
   fun _ _ _ => xl_iri d153_110 xrt153,
   fun _ _ _ _ => xl_aln d153_111 rfl,
   fun ls a0 h => xl_cv (As := [a0]) (st := []) d153_112 xco153 xm_11_116 (congrArg Nat.succ xnp166) (by decide +kernel) rfl,
   fun _ _ _ => xl_iri d153_115 xrt153,
   fun _ _ _ _ => xl_aln d153_116 rfl,
   fun _ _ _ _ => xl_gf d153_117 xco153 xf_11_144,
   fun _ _ _ => xl_iri d153_120 xrt153,
   fun _ _ _ _ => xl_aln d153_121 rfl,
   fun _ _ _ _ => xl_gf d153_122 xco153 xf_11_147,
   fun _ _ _ => xl_iri d153_125 xrt153,
   fun _ _ _ _ => xl_aln d153_126 rfl,
   fun _ _ _ => xl_ic d153_127 (by decide +kernel),
   fun ls a0 a1 h => xl_cv (As := [a0, a1]) (st := []) d153_128 xco153 xm_11_150 (congrArg Nat.succ xnp173) (by decide +kernel) rfl,
   fun _ _ _ => xl_iri d153_131 xrt153,
   fun _ _ _ _ => xl_aln d153_132 rfl,
   fun _ _ _ => xl_ic d153_133 (by decide +kernel),
   fun ls a0 a1 h => xl_cv (As := [a0, a1]) (st := []) d153_134 xco153 xm_11_150 (congrArg Nat.succ xnp173) (by decide +kernel) rfl,
   fun _ _ _ => xl_iri d153_137 xrt153,
   fun _ _ _ _ => xl_aln d153_138 rfl,
   fun ls a0 h => xl_cv (As := [a0]) (st := []) d153_139 xco153 xm_11_154 (congrArg Nat.succ xnp178) (by decide +kernel) rfl,
   fun _ _ _ => xl_iri d153_142 xrt153,
   fun _ _ _ => xl_ic d153_143 (by decide +kernel),
   fun _ _ _ => xl_iri d153_144 xrt153⟩
/-! 154 FacetSieveModel.isIn(III)Z -/
theorem d154_0 : decode (zz_c 154) 0 = .ok (.iload_n 0, 1) := by decide +kernel
theorem d154_1 : decode (zz_c 154) 1 = .ok (.iload_n 1, 1) := by decide +kernel
theorem d154_2 : decode (zz_c 154) 2 = .ok (.if_icmp .lt 12, 3) := by decide +kernel
theorem d154_5 : decode (zz_c 154) 5 = .ok (.iload_n 0, 1) := by decide +kernel
theorem d154_6 : decode (zz_c 154) 6 = .ok (.iload_n 2, 1) := by decide +kernel
theorem d154_7 : decode (zz_c 154) 7 = .ok (.if_icmp .gt 7, 3) := by decide +kernel
theorem d154_10 : decode (zz_c 154) 10 = .ok (.iconst 1, 1) := by decide +kernel
theorem d154_11 : decode (zz_c 154) 11 = .ok (.goto 4, 3) := by decide +kernel
theorem d154_14 : decode (zz_c 154) 14 = .ok (.iconst 0, 1) := by decide +kernel
theorem d154_15 : decode (zz_c 154) 15 = .ok (.ireturn, 1) := by decide +kernel
theorem x154 : (∀ l1 l2 x st h, zz_Y 154 (0, [some (.int x), l1, l2], st, h) = zz_Y 154 (1, [some (.int x), l1, l2], .int x :: st, h)) ∧ (∀ l0 l2 x st h, zz_Y 154 (1, [l0, some (.int x), l2], st, h) = zz_Y 154 (2, [l0, some (.int x), l2], .int x :: st, h)) ∧ (∀ ls a b st h, zz_Y 154 (2, ls, .int b :: .int a :: st, h) = if a < b then zz_Y 154 (14, ls, st, h) else zz_Y 154 (5, ls, st, h)) ∧ (∀ l1 l2 x st h, zz_Y 154 (5, [some (.int x), l1, l2], st, h) = zz_Y 154 (6, [some (.int x), l1, l2], .int x :: st, h)) ∧ (∀ l0 l1 x st h, zz_Y 154 (6, [l0, l1, some (.int x)], st, h) = zz_Y 154 (7, [l0, l1, some (.int x)], .int x :: st, h)) ∧ (∀ ls a b st h, zz_Y 154 (7, ls, .int b :: .int a :: st, h) = if b < a then zz_Y 154 (14, ls, st, h) else zz_Y 154 (10, ls, st, h)) ∧ (∀ ls st h, zz_Y 154 (10, ls, st, h) = zz_Y 154 (11, ls, .int (nI 1) :: st, h)) ∧ (∀ ls st h, zz_Y 154 (11, ls, st, h) = zz_Y 154 (15, ls, st, h)) ∧ (∀ ls st h, zz_Y 154 (14, ls, st, h) = zz_Y 154 (15, ls, .int (nI 0) :: st, h)) ∧ (∀ ls v h, v = nI 0 ∨ v = nI 1 → zz_Y 154 (15, ls, [.int v], h) = some (some (.int v), h)) :=
  ⟨fun _ _ _ _ _ => xl_iln d154_0 rfl,
   fun _ _ _ _ _ => xl_iln d154_1 rfl,
   fun _ _ _ _ _ => xl_iclt d154_2 rfl,
   fun _ _ _ _ _ => xl_iln d154_5 rfl,
   fun _ _ _ _ _ => xl_iln d154_6 rfl,
   fun _ _ _ _ _ => xl_icgt d154_7 rfl,
   fun _ _ _ => xl_ic d154_10 (by decide +kernel),
   fun _ _ _ => xl_goto d154_11 rfl,
   fun _ _ _ => xl_ic d154_14 (by decide +kernel),
   fun _ _ _ hc => xl_irz d154_15 xrt154 hc⟩
/-! 155 FacetSieveModel.summed(I)I -/
theorem d155_0 : decode (zz_c 155) 0 = .ok (.iconst 0, 1) := by decide +kernel
theorem d155_1 : decode (zz_c 155) 1 = .ok (.istore_n 2, 1) := by decide +kernel
theorem d155_2 : decode (zz_c 155) 2 = .ok (.iconst 0, 1) := by decide +kernel
theorem d155_3 : decode (zz_c 155) 3 = .ok (.istore_n 3, 1) := by decide +kernel
theorem d155_4 : decode (zz_c 155) 4 = .ok (.iload_n 3, 1) := by decide +kernel
theorem d155_5 : decode (zz_c 155) 5 = .ok (.aload_n 0, 1) := by decide +kernel
theorem d155_6 : decode (zz_c 155) 6 = .ok (.getfield 7, 3) := by decide +kernel
theorem d155_9 : decode (zz_c 155) 9 = .ok (.iconst 1, 1) := by decide +kernel
theorem d155_10 : decode (zz_c 155) 10 = .ok (.iaload, 1) := by decide +kernel
theorem d155_11 : decode (zz_c 155) 11 = .ok (.if_icmp .ge 118, 3) := by decide +kernel
theorem d155_14 : decode (zz_c 155) 14 = .ok (.aload_n 0, 1) := by decide +kernel
theorem d155_15 : decode (zz_c 155) 15 = .ok (.aload_n 0, 1) := by decide +kernel
theorem d155_16 : decode (zz_c 155) 16 = .ok (.getfield 27, 3) := by decide +kernel
theorem d155_19 : decode (zz_c 155) 19 = .ok (.iload_n 3, 1) := by decide +kernel
theorem d155_20 : decode (zz_c 155) 20 = .ok (.invokevirtual 96, 3) := by decide +kernel
theorem d155_23 : decode (zz_c 155) 23 = .ok (.iload_n 2, 1) := by decide +kernel
theorem d155_24 : decode (zz_c 155) 24 = .ok (.iload_n 1, 1) := by decide +kernel
theorem d155_25 : decode (zz_c 155) 25 = .ok (.bipush 9, 2) := by decide +kernel
theorem d155_27 : decode (zz_c 155) 27 = .ok (.if_icmp .ne 11, 3) := by decide +kernel
theorem d155_30 : decode (zz_c 155) 30 = .ok (.aload_n 0, 1) := by decide +kernel
theorem d155_31 : decode (zz_c 155) 31 = .ok (.iload_n 3, 1) := by decide +kernel
theorem d155_32 : decode (zz_c 155) 32 = .ok (.invokevirtual 129, 3) := by decide +kernel
theorem d155_35 : decode (zz_c 155) 35 = .ok (.goto 19, 3) := by decide +kernel
theorem d155_38 : decode (zz_c 155) 38 = .ok (.iload_n 1, 1) := by decide +kernel
theorem d155_39 : decode (zz_c 155) 39 = .ok (.iconst 4, 1) := by decide +kernel
theorem d155_40 : decode (zz_c 155) 40 = .ok (.if_icmp .ne 13, 3) := by decide +kernel
theorem d155_43 : decode (zz_c 155) 43 = .ok (.aload_n 0, 1) := by decide +kernel
theorem d155_44 : decode (zz_c 155) 44 = .ok (.getfield 27, 3) := by decide +kernel
theorem d155_47 : decode (zz_c 155) 47 = .ok (.invokestatic 132, 3) := by decide +kernel
theorem d155_50 : decode (zz_c 155) 50 = .ok (.goto 4, 3) := by decide +kernel
theorem d155_53 : decode (zz_c 155) 53 = .ok (.iconst 0, 1) := by decide +kernel
theorem d155_54 : decode (zz_c 155) 54 = .ok (.iadd, 1) := by decide +kernel
theorem d155_55 : decode (zz_c 155) 55 = .ok (.istore_n 2, 1) := by decide +kernel
theorem d155_56 : decode (zz_c 155) 56 = .ok (.iconst 0, 1) := by decide +kernel
theorem d155_57 : decode (zz_c 155) 57 = .ok (.istore 4, 2) := by decide +kernel
theorem d155_59 : decode (zz_c 155) 59 = .ok (.iload 4, 2) := by decide +kernel
theorem d155_61 : decode (zz_c 155) 61 = .ok (.bipush 8, 2) := by decide +kernel
theorem d155_63 : decode (zz_c 155) 63 = .ok (.if_icmp .ge 60, 3) := by decide +kernel
theorem d155_66 : decode (zz_c 155) 66 = .ok (.iload_n 2, 1) := by decide +kernel
theorem d155_67 : decode (zz_c 155) 67 = .ok (.aload_n 0, 1) := by decide +kernel
theorem d155_68 : decode (zz_c 155) 68 = .ok (.getfield 27, 3) := by decide +kernel
theorem d155_71 : decode (zz_c 155) 71 = .ok (.iload 4, 2) := by decide +kernel
theorem d155_73 : decode (zz_c 155) 73 = .ok (.iaload, 1) := by decide +kernel
theorem d155_74 : decode (zz_c 155) 74 = .ok (.ifCond .eq 40, 3) := by decide +kernel
theorem d155_77 : decode (zz_c 155) 77 = .ok (.iload_n 1, 1) := by decide +kernel
theorem d155_78 : decode (zz_c 155) 78 = .ok (.iconst 5, 1) := by decide +kernel
theorem d155_79 : decode (zz_c 155) 79 = .ok (.if_icmp .eq 31, 3) := by decide +kernel
theorem d155_82 : decode (zz_c 155) 82 = .ok (.iload_n 1, 1) := by decide +kernel
theorem d155_83 : decode (zz_c 155) 83 = .ok (.iconst 5, 1) := by decide +kernel
theorem d155_84 : decode (zz_c 155) 84 = .ok (.if_icmp .le 30, 3) := by decide +kernel
theorem d155_87 : decode (zz_c 155) 87 = .ok (.iload_n 1, 1) := by decide +kernel
theorem d155_88 : decode (zz_c 155) 88 = .ok (.bipush 9, 2) := by decide +kernel
theorem d155_90 : decode (zz_c 155) 90 = .ok (.if_icmp .ge 24, 3) := by decide +kernel
theorem d155_93 : decode (zz_c 155) 93 = .ok (.aload_n 0, 1) := by decide +kernel
theorem d155_94 : decode (zz_c 155) 94 = .ok (.getfield 27, 3) := by decide +kernel
theorem d155_97 : decode (zz_c 155) 97 = .ok (.iload 4, 2) := by decide +kernel
theorem d155_99 : decode (zz_c 155) 99 = .ok (.iaload, 1) := by decide +kernel
theorem d155_100 : decode (zz_c 155) 100 = .ok (.invokestatic 135, 3) := by decide +kernel
theorem d155_103 : decode (zz_c 155) 103 = .ok (.iload_n 1, 1) := by decide +kernel
theorem d155_104 : decode (zz_c 155) 104 = .ok (.bipush 6, 2) := by decide +kernel
theorem d155_106 : decode (zz_c 155) 106 = .ok (.isub, 1) := by decide +kernel
theorem d155_107 : decode (zz_c 155) 107 = .ok (.if_icmp .ne 7, 3) := by decide +kernel
theorem d155_110 : decode (zz_c 155) 110 = .ok (.iconst 1, 1) := by decide +kernel
theorem d155_111 : decode (zz_c 155) 111 = .ok (.goto 4, 3) := by decide +kernel
theorem d155_114 : decode (zz_c 155) 114 = .ok (.iconst 0, 1) := by decide +kernel
theorem d155_115 : decode (zz_c 155) 115 = .ok (.iadd, 1) := by decide +kernel
theorem d155_116 : decode (zz_c 155) 116 = .ok (.istore_n 2, 1) := by decide +kernel
theorem d155_117 : decode (zz_c 155) 117 = .ok (.iinc 4 1, 3) := by decide +kernel
theorem d155_120 : decode (zz_c 155) 120 = .ok (.goto (-61), 3) := by decide +kernel
theorem d155_123 : decode (zz_c 155) 123 = .ok (.iinc 3 1, 3) := by decide +kernel
theorem d155_126 : decode (zz_c 155) 126 = .ok (.goto (-122), 3) := by decide +kernel
theorem d155_129 : decode (zz_c 155) 129 = .ok (.iload_n 2, 1) := by decide +kernel
theorem d155_130 : decode (zz_c 155) 130 = .ok (.ireturn, 1) := by decide +kernel
theorem x155_p0 : (∀ ls st h, zz_Y 155 (0, ls, st, h) = zz_Y 155 (1, ls, .int (nI 0) :: st, h)) ∧ (∀ l0 l1 l2 l3 l4 x st h, zz_nl l1 = true → zz_Y 155 (1, [l0, l1, l2, l3, l4], .int x :: st, h) = zz_Y 155 (2, [l0, l1, some (.int x), l3, l4], st, h)) ∧ (∀ ls st h, zz_Y 155 (2, ls, st, h) = zz_Y 155 (3, ls, .int (nI 0) :: st, h)) ∧ (∀ l0 l1 l2 l3 l4 x st h, zz_nl l2 = true → zz_Y 155 (3, [l0, l1, l2, l3, l4], .int x :: st, h) = zz_Y 155 (4, [l0, l1, l2, some (.int x), l4], st, h)) ∧ (∀ l1 l2 l3 l4 x st h, zz_Y 155 (5, [some (.ref x), l1, l2, l3, l4], st, h) = zz_Y 155 (6, [some (.ref x), l1, l2, l3, l4], .ref x :: st, h)) ∧ (∀ ls a st h, zz_Y 155 (6, ls, .ref a :: st, h) = mo_gf (hp_g h a) 11 0 155 9 ls st h) ∧ (∀ ls st h, zz_Y 155 (9, ls, st, h) = zz_Y 155 (10, ls, .int (nI 1) :: st, h)) ∧ (∀ ls a i st h, zz_Y 155 (10, ls, .int i :: .ref a :: st, h) = mo_ia (hp_g h a) i a 155 11 ls st h) ∧ (∀ ls a b st h, zz_Y 155 (11, ls, .int b :: .int a :: st, h) = if a < b then zz_Y 155 (14, ls, st, h) else zz_Y 155 (129, ls, st, h)) ∧ (∀ l1 l2 l3 l4 x st h, zz_Y 155 (14, [some (.ref x), l1, l2, l3, l4], st, h) = zz_Y 155 (15, [some (.ref x), l1, l2, l3, l4], .ref x :: st, h)) ∧ (∀ l1 l2 l3 l4 x st h, zz_Y 155 (15, [some (.ref x), l1, l2, l3, l4], st, h) = zz_Y 155 (16, [some (.ref x), l1, l2, l3, l4], .ref x :: st, h)) ∧ (∀ ls a st h, zz_Y 155 (16, ls, .ref a :: st, h) = mo_gf (hp_g h a) 11 8 155 19 ls st h) ∧ (∀ l0 l1 l2 l4 x st h, zz_Y 155 (19, [l0, l1, l2, some (.int x), l4], st, h) = zz_Y 155 (20, [l0, l1, l2, some (.int x), l4], .int x :: st, h)) ∧ (∀ ls a0 a1 a2 h, zz_Y 155 (20, ls, [a2, a1, a0], h) = mo_k 155 23 ls [] (zz_run 156 [a0, a1, a2] h)) ∧ (∀ l0 l1 l3 l4 x st h, zz_Y 155 (23, [l0, l1, some (.int x), l3, l4], st, h) = zz_Y 155 (24, [l0, l1, some (.int x), l3, l4], .int x :: st, h)) ∧ (∀ l0 l2 l3 l4 x st h, zz_Y 155 (24, [l0, some (.int x), l2, l3, l4], st, h) = zz_Y 155 (25, [l0, some (.int x), l2, l3, l4], .int x :: st, h)) ∧ (∀ ls st h, zz_Y 155 (25, ls, st, h) = zz_Y 155 (27, ls, .int (nI 9) :: st, h)) ∧ (∀ ls a b st h, zz_Y 155 (27, ls, .int b :: .int a :: st, h) = if a = b then zz_Y 155 (30, ls, st, h) else zz_Y 155 (38, ls, st, h)) ∧ (∀ l1 l2 l3 l4 x st h, zz_Y 155 (30, [some (.ref x), l1, l2, l3, l4], st, h) = zz_Y 155 (31, [some (.ref x), l1, l2, l3, l4], .ref x :: st, h)) ∧ (∀ l0 l1 l2 l4 x st h, zz_Y 155 (31, [l0, l1, l2, some (.int x), l4], st, h) = zz_Y 155 (32, [l0, l1, l2, some (.int x), l4], .int x :: st, h)) ∧ (∀ ls a0 a1 s0 h, zz_Y 155 (32, ls, [a1, a0, s0], h) = mo_k 155 35 ls [s0] (zz_run 159 [a0, a1] h)) ∧ (∀ ls st h, zz_Y 155 (35, ls, st, h) = zz_Y 155 (54, ls, st, h)) ∧ (∀ l0 l2 l3 l4 x st h, zz_Y 155 (38, [l0, some (.int x), l2, l3, l4], st, h) = zz_Y 155 (39, [l0, some (.int x), l2, l3, l4], .int x :: st, h)) ∧ (∀ ls st h, zz_Y 155 (39, ls, st, h) = zz_Y 155 (40, ls, .int (nI 4) :: st, h)) ∧ (∀ ls a b st h, zz_Y 155 (40, ls, .int b :: .int a :: st, h) = if a = b then zz_Y 155 (43, ls, st, h) else zz_Y 155 (53, ls, st, h)) ∧ (∀ l1 l2 l3 l4 x st h, zz_Y 155 (43, [some (.ref x), l1, l2, l3, l4], st, h) = zz_Y 155 (44, [some (.ref x), l1, l2, l3, l4], .ref x :: st, h)) ∧ (∀ ls a st h, zz_Y 155 (44, ls, .ref a :: st, h) = mo_gf (hp_g h a) 11 8 155 47 ls st h) ∧ (∀ ls a0 s0 h, zz_Y 155 (47, ls, [a0, s0], h) = mo_k 155 50 ls [s0] (zz_run 161 [a0] h)) ∧ (∀ ls st h, zz_Y 155 (50, ls, st, h) = zz_Y 155 (54, ls, st, h)) ∧ (∀ ls st h, zz_Y 155 (53, ls, st, h) = zz_Y 155 (54, ls, .int (nI 0) :: st, h)) ∧ (∀ ls a b st h, zz_Y 155 (54, ls, .int b :: .int a :: st, h) = zz_Y 155 (55, ls, .int (a + b) :: st, h)) ∧ (∀ l0 l1 l2 l3 l4 x st h, zz_nl l1 = true → zz_Y 155 (55, [l0, l1, l2, l3, l4], .int x :: st, h) = zz_Y 155 (56, [l0, l1, some (.int x), l3, l4], st, h)) ∧ (∀ ls st h, zz_Y 155 (56, ls, st, h) = zz_Y 155 (57, ls, .int (nI 0) :: st, h)) ∧ (∀ l0 l1 l2 l3 l4 x st h, zz_nl l3 = true → zz_Y 155 (57, [l0, l1, l2, l3, l4], .int x :: st, h) = zz_Y 155 (59, [l0, l1, l2, l3, some (.int x)], st, h)) ∧ (∀ ls st h, zz_Y 155 (61, ls, st, h) = zz_Y 155 (63, ls, .int (nI 8) :: st, h)) ∧ (∀ ls a b st h, zz_Y 155 (63, ls, .int b :: .int a :: st, h) = if a < b then zz_Y 155 (66, ls, st, h) else zz_Y 155 (123, ls, st, h)) ∧ (∀ l0 l1 l3 l4 x st h, zz_Y 155 (66, [l0, l1, some (.int x), l3, l4], st, h) = zz_Y 155 (67, [l0, l1, some (.int x), l3, l4], .int x :: st, h)) ∧ (∀ l1 l2 l3 l4 x st h, zz_Y 155 (67, [some (.ref x), l1, l2, l3, l4], st, h) = zz_Y 155 (68, [some (.ref x), l1, l2, l3, l4], .ref x :: st, h)) ∧ (∀ ls a st h, zz_Y 155 (68, ls, .ref a :: st, h) = mo_gf (hp_g h a) 11 8 155 71 ls st h) ∧ (∀ l0 l1 l2 l3 x st h, zz_Y 155 (71, [l0, l1, l2, l3, some (.int x)], st, h) = zz_Y 155 (73, [l0, l1, l2, l3, some (.int x)], .int x :: st, h)) ∧ (∀ ls a i st h, zz_Y 155 (73, ls, .int i :: .ref a :: st, h) = mo_ia (hp_g h a) i a 155 74 ls st h) ∧ (∀ ls a st h, zz_Y 155 (74, ls, .int a :: st, h) = if a = nI 0 then zz_Y 155 (114, ls, st, h) else zz_Y 155 (77, ls, st, h)) ∧ (∀ l0 l2 l3 l4 x st h, zz_Y 155 (77, [l0, some (.int x), l2, l3, l4], st, h) = zz_Y 155 (78, [l0, some (.int x), l2, l3, l4], .int x :: st, h)) ∧ (∀ ls st h, zz_Y 155 (78, ls, st, h) = zz_Y 155 (79, ls, .int (nI 5) :: st, h)) ∧ (∀ ls a b st h, zz_Y 155 (79, ls, .int b :: .int a :: st, h) = if a = b then zz_Y 155 (110, ls, st, h) else zz_Y 155 (82, ls, st, h)) ∧ (∀ l0 l2 l3 l4 x st h, zz_Y 155 (82, [l0, some (.int x), l2, l3, l4], st, h) = zz_Y 155 (83, [l0, some (.int x), l2, l3, l4], .int x :: st, h)) ∧ (∀ ls st h, zz_Y 155 (83, ls, st, h) = zz_Y 155 (84, ls, .int (nI 5) :: st, h)) ∧ (∀ ls a b st h, zz_Y 155 (84, ls, .int b :: .int a :: st, h) = if b < a then zz_Y 155 (87, ls, st, h) else zz_Y 155 (114, ls, st, h)) ∧ (∀ l0 l2 l3 l4 x st h, zz_Y 155 (87, [l0, some (.int x), l2, l3, l4], st, h) = zz_Y 155 (88, [l0, some (.int x), l2, l3, l4], .int x :: st, h)) ∧ (∀ ls st h, zz_Y 155 (88, ls, st, h) = zz_Y 155 (90, ls, .int (nI 9) :: st, h)) ∧ (∀ ls a b st h, zz_Y 155 (90, ls, .int b :: .int a :: st, h) = if a < b then zz_Y 155 (93, ls, st, h) else zz_Y 155 (114, ls, st, h)) ∧ (∀ l1 l2 l3 l4 x st h, zz_Y 155 (93, [some (.ref x), l1, l2, l3, l4], st, h) = zz_Y 155 (94, [some (.ref x), l1, l2, l3, l4], .ref x :: st, h)) ∧ (∀ ls a st h, zz_Y 155 (94, ls, .ref a :: st, h) = mo_gf (hp_g h a) 11 8 155 97 ls st h) ∧ (∀ l0 l1 l2 l3 x st h, zz_Y 155 (97, [l0, l1, l2, l3, some (.int x)], st, h) = zz_Y 155 (99, [l0, l1, l2, l3, some (.int x)], .int x :: st, h)) ∧ (∀ ls a i st h, zz_Y 155 (99, ls, .int i :: .ref a :: st, h) = mo_ia (hp_g h a) i a 155 100 ls st h) ∧ (∀ ls a0 s0 h, zz_Y 155 (100, ls, [a0, s0], h) = mo_k 155 103 ls [s0] (zz_run 164 [a0] h)) ∧ (∀ l0 l2 l3 l4 x st h, zz_Y 155 (103, [l0, some (.int x), l2, l3, l4], st, h) = zz_Y 155 (104, [l0, some (.int x), l2, l3, l4], .int x :: st, h)) ∧ (∀ ls st h, zz_Y 155 (104, ls, st, h) = zz_Y 155 (106, ls, .int (nI 6) :: st, h)) ∧ (∀ ls a b st h, zz_Y 155 (106, ls, .int b :: .int a :: st, h) = zz_Y 155 (107, ls, .int (a - b) :: st, h)) ∧ (∀ ls a b st h, zz_Y 155 (107, ls, .int b :: .int a :: st, h) = if a = b then zz_Y 155 (110, ls, st, h) else zz_Y 155 (114, ls, st, h)) :=
  ⟨fun _ _ _ => xl_ic d155_0 (by decide +kernel),
   fun _ _ _ _ _ _ _ _ hc => xl_isn d155_1 xml155 (by decide) (zz_nl_s1 hc),
   fun _ _ _ => xl_ic d155_2 (by decide +kernel),
   fun _ _ _ _ _ _ _ _ hc => xl_isn d155_3 xml155 (by decide) (zz_nl_s1 hc),
   fun _ _ _ _ _ _ _ => xl_aln d155_5 rfl,
   fun _ _ _ _ => xl_gf d155_6 xco155 xf_11_7,
   fun _ _ _ => xl_ic d155_9 (by decide +kernel),
   fun _ _ _ _ _ => xl_ia d155_10,
   fun _ _ _ _ _ => xl_icge d155_11 rfl,
   fun _ _ _ _ _ _ _ => xl_aln d155_14 rfl,
   fun _ _ _ _ _ _ _ => xl_aln d155_15 rfl,
   fun _ _ _ _ => xl_gf d155_16 xco155 xf_11_27,
   fun _ _ _ _ _ _ _ => xl_iln d155_19 rfl,
   fun ls a0 a1 a2 h => xl_cv (As := [a0, a1, a2]) (st := []) d155_20 xco155 xm_11_96 (congrArg Nat.succ xnp156) (by decide +kernel) rfl,
   fun _ _ _ _ _ _ _ => xl_iln d155_23 rfl,
   fun _ _ _ _ _ _ _ => xl_iln d155_24 rfl,
   fun _ _ _ => xl_bi d155_25 (by decide +kernel),
   fun _ _ _ _ _ => xl_icne d155_27 rfl,
   fun _ _ _ _ _ _ _ => xl_aln d155_30 rfl,
   fun _ _ _ _ _ _ _ => xl_iln d155_31 rfl,
   fun ls a0 a1 s0 h => xl_cv (As := [a0, a1]) (st := [s0]) d155_32 xco155 xm_11_129 (congrArg Nat.succ xnp159) (by decide +kernel) rfl,
   fun _ _ _ => xl_goto d155_35 rfl,
   fun _ _ _ _ _ _ _ => xl_iln d155_38 rfl,
   fun _ _ _ => xl_ic d155_39 (by decide +kernel),
   fun _ _ _ _ _ => xl_icne d155_40 rfl,
   fun _ _ _ _ _ _ _ => xl_aln d155_43 rfl,
   fun _ _ _ _ => xl_gf d155_44 xco155 xf_11_27,
   fun ls a0 s0 h => xl_cs (As := [a0]) (st := [s0]) d155_47 xco155 xm_11_132 xnp161 (by decide +kernel) rfl,
   fun _ _ _ => xl_goto d155_50 rfl,
   fun _ _ _ => xl_ic d155_53 (by decide +kernel),
   fun _ _ _ _ _ => xl_iadd d155_54,
   fun _ _ _ _ _ _ _ _ hc => xl_isn d155_55 xml155 (by decide) (zz_nl_s1 hc),
   fun _ _ _ => xl_ic d155_56 (by decide +kernel),
   fun _ _ _ _ _ _ _ _ hc => xl_is d155_57 xml155 (by decide) (zz_nl_s1 hc),
   fun _ _ _ => xl_bi d155_61 (by decide +kernel),
   fun _ _ _ _ _ => xl_icge d155_63 rfl,
   fun _ _ _ _ _ _ _ => xl_iln d155_66 rfl,
   fun _ _ _ _ _ _ _ => xl_aln d155_67 rfl,
   fun _ _ _ _ => xl_gf d155_68 xco155 xf_11_27,
   fun _ _ _ _ _ _ _ => xl_il d155_71 rfl,
   fun _ _ _ _ _ => xl_ia d155_73,
   fun _ _ _ _ => xl_ifeq d155_74 rfl,
   fun _ _ _ _ _ _ _ => xl_iln d155_77 rfl,
   fun _ _ _ => xl_ic d155_78 (by decide +kernel),
   fun _ _ _ _ _ => xl_iceq d155_79 rfl,
   fun _ _ _ _ _ _ _ => xl_iln d155_82 rfl,
   fun _ _ _ => xl_ic d155_83 (by decide +kernel),
   fun _ _ _ _ _ => xl_icle d155_84 rfl,
   fun _ _ _ _ _ _ _ => xl_iln d155_87 rfl,
   fun _ _ _ => xl_bi d155_88 (by decide +kernel),
   fun _ _ _ _ _ => xl_icge d155_90 rfl,
   fun _ _ _ _ _ _ _ => xl_aln d155_93 rfl,
   fun _ _ _ _ => xl_gf d155_94 xco155 xf_11_27,
   fun _ _ _ _ _ _ _ => xl_il d155_97 rfl,
   fun _ _ _ _ _ => xl_ia d155_99,
   fun ls a0 s0 h => xl_cs (As := [a0]) (st := [s0]) d155_100 xco155 xm_11_135 xnp164 (by decide +kernel) rfl,
   fun _ _ _ _ _ _ _ => xl_iln d155_103 rfl,
   fun _ _ _ => xl_bi d155_104 (by decide +kernel),
   fun _ _ _ _ _ => xl_isub d155_106,
   fun _ _ _ _ _ => xl_icne d155_107 rfl⟩
theorem x155_p1 : (∀ ls st h, zz_Y 155 (110, ls, st, h) = zz_Y 155 (111, ls, .int (nI 1) :: st, h)) ∧ (∀ ls st h, zz_Y 155 (111, ls, st, h) = zz_Y 155 (115, ls, st, h)) ∧ (∀ ls st h, zz_Y 155 (114, ls, st, h) = zz_Y 155 (115, ls, .int (nI 0) :: st, h)) ∧ (∀ ls a b st h, zz_Y 155 (115, ls, .int b :: .int a :: st, h) = zz_Y 155 (116, ls, .int (a + b) :: st, h)) ∧ (∀ l0 l1 l2 l3 l4 x st h, zz_nl l1 = true → zz_Y 155 (116, [l0, l1, l2, l3, l4], .int x :: st, h) = zz_Y 155 (117, [l0, l1, some (.int x), l3, l4], st, h)) ∧ (∀ l0 l1 l2 l3 x st h, zz_nl l3 = true → zz_Y 155 (117, [l0, l1, l2, l3, some (.int x)], st, h) = zz_Y 155 (120, [l0, l1, l2, l3, some (.int (x + nI 1))], st, h)) ∧ (∀ ls st h, zz_Y 155 (120, ls, st, h) = zz_Y 155 (59, ls, st, h)) ∧ (∀ l0 l1 l2 l4 x st h, zz_nl l2 = true → zz_Y 155 (123, [l0, l1, l2, some (.int x), l4], st, h) = zz_Y 155 (126, [l0, l1, l2, some (.int (x + nI 1)), l4], st, h)) ∧ (∀ ls st h, zz_Y 155 (126, ls, st, h) = zz_Y 155 (4, ls, st, h)) ∧ (∀ l0 l1 l3 l4 x st h, zz_Y 155 (129, [l0, l1, some (.int x), l3, l4], st, h) = zz_Y 155 (130, [l0, l1, some (.int x), l3, l4], .int x :: st, h)) ∧ (∀ ls v h, zz_Y 155 (130, ls, [.int v], h) = some (some (.int v), h)) :=
  ⟨fun _ _ _ => xl_ic d155_110 (by decide +kernel),
   fun _ _ _ => xl_goto d155_111 rfl,
   fun _ _ _ => xl_ic d155_114 (by decide +kernel),
   fun _ _ _ _ _ => xl_iadd d155_115,
   fun _ _ _ _ _ _ _ _ hc => xl_isn d155_116 xml155 (by decide) (zz_nl_s1 hc),
   fun _ _ _ _ _ _ _ hc => xl_inc d155_117 xml155 (by decide) rfl (by decide +kernel) (zz_nl_s1 hc),
   fun _ _ _ => xl_goto d155_120 rfl,
   fun _ _ _ _ _ _ _ hc => xl_inc d155_123 xml155 (by decide) rfl (by decide +kernel) (zz_nl_s1 hc),
   fun _ _ _ => xl_goto d155_126 rfl,
   fun _ _ _ _ _ _ _ => xl_iln d155_129 rfl,
   fun _ _ _ => xl_iri d155_130 xrt155⟩
theorem x155_c4 : ∀ l0 l1 l2 l4 x st h, zz_Y 155 (4, [l0, l1, l2, some (.int x), l4], st, h) = zz_Y 155 (5, [l0, l1, l2, some (.int x), l4], .int x :: st, h) := fun _ _ _ _ _ _ _ => xl_iln d155_4 rfl
theorem x155_c59 : ∀ l0 l1 l2 l3 x st h, zz_Y 155 (59, [l0, l1, l2, l3, some (.int x)], st, h) = zz_Y 155 (61, [l0, l1, l2, l3, some (.int x)], .int x :: st, h) := fun _ _ _ _ _ _ _ => xl_il d155_59 rfl
/-! 156 FacetSieveModel.laysSet([II)V -/
theorem d156_0 : decode (zz_c 156) 0 = .ok (.iconst 0, 1) := by decide +kernel
theorem d156_1 : decode (zz_c 156) 1 = .ok (.istore_n 3, 1) := by decide +kernel
theorem d156_2 : decode (zz_c 156) 2 = .ok (.iload_n 3, 1) := by decide +kernel
theorem d156_3 : decode (zz_c 156) 3 = .ok (.bipush 8, 2) := by decide +kernel
theorem d156_5 : decode (zz_c 156) 5 = .ok (.if_icmp .ge 13, 3) := by decide +kernel
theorem d156_8 : decode (zz_c 156) 8 = .ok (.aload_n 1, 1) := by decide +kernel
theorem d156_9 : decode (zz_c 156) 9 = .ok (.iload_n 3, 1) := by decide +kernel
theorem d156_10 : decode (zz_c 156) 10 = .ok (.iconst 0, 1) := by decide +kernel
theorem d156_11 : decode (zz_c 156) 11 = .ok (.iastore, 1) := by decide +kernel
theorem d156_12 : decode (zz_c 156) 12 = .ok (.iinc 3 1, 3) := by decide +kernel
theorem d156_15 : decode (zz_c 156) 15 = .ok (.goto (-13), 3) := by decide +kernel
theorem d156_18 : decode (zz_c 156) 18 = .ok (.iconst 0, 1) := by decide +kernel
theorem d156_19 : decode (zz_c 156) 19 = .ok (.istore_n 3, 1) := by decide +kernel
theorem d156_20 : decode (zz_c 156) 20 = .ok (.iload_n 3, 1) := by decide +kernel
theorem d156_21 : decode (zz_c 156) 21 = .ok (.aload_n 0, 1) := by decide +kernel
theorem d156_22 : decode (zz_c 156) 22 = .ok (.getfield 7, 3) := by decide +kernel
theorem d156_25 : decode (zz_c 156) 25 = .ok (.iconst 1, 1) := by decide +kernel
theorem d156_26 : decode (zz_c 156) 26 = .ok (.iaload, 1) := by decide +kernel
theorem d156_27 : decode (zz_c 156) 27 = .ok (.if_icmp .ge 60, 3) := by decide +kernel
theorem d156_30 : decode (zz_c 156) 30 = .ok (.aload_n 0, 1) := by decide +kernel
theorem d156_31 : decode (zz_c 156) 31 = .ok (.iload_n 3, 1) := by decide +kernel
theorem d156_32 : decode (zz_c 156) 32 = .ok (.iload_n 2, 1) := by decide +kernel
theorem d156_33 : decode (zz_c 156) 33 = .ok (.invokevirtual 80, 3) := by decide +kernel
theorem d156_36 : decode (zz_c 156) 36 = .ok (.ifCond .ne 6, 3) := by decide +kernel
theorem d156_39 : decode (zz_c 156) 39 = .ok (.goto 42, 3) := by decide +kernel
theorem d156_42 : decode (zz_c 156) 42 = .ok (.iconst 0, 1) := by decide +kernel
theorem d156_43 : decode (zz_c 156) 43 = .ok (.istore 4, 2) := by decide +kernel
theorem d156_45 : decode (zz_c 156) 45 = .ok (.iload 4, 2) := by decide +kernel
theorem d156_47 : decode (zz_c 156) 47 = .ok (.bipush 8, 2) := by decide +kernel
theorem d156_49 : decode (zz_c 156) 49 = .ok (.if_icmp .ge 32, 3) := by decide +kernel
theorem d156_52 : decode (zz_c 156) 52 = .ok (.aload_n 1, 1) := by decide +kernel
theorem d156_53 : decode (zz_c 156) 53 = .ok (.iload 4, 2) := by decide +kernel
theorem d156_55 : decode (zz_c 156) 55 = .ok (.dup2, 1) := by decide +kernel
theorem d156_56 : decode (zz_c 156) 56 = .ok (.iaload, 1) := by decide +kernel
theorem d156_57 : decode (zz_c 156) 57 = .ok (.aload_n 0, 1) := by decide +kernel
theorem d156_58 : decode (zz_c 156) 58 = .ok (.getfield 7, 3) := by decide +kernel
theorem d156_61 : decode (zz_c 156) 61 = .ok (.sipush 302, 3) := by decide +kernel
theorem d156_64 : decode (zz_c 156) 64 = .ok (.bipush 8, 2) := by decide +kernel
theorem d156_66 : decode (zz_c 156) 66 = .ok (.iload_n 3, 1) := by decide +kernel
theorem d156_67 : decode (zz_c 156) 67 = .ok (.imul, 1) := by decide +kernel
theorem d156_68 : decode (zz_c 156) 68 = .ok (.iadd, 1) := by decide +kernel
theorem d156_69 : decode (zz_c 156) 69 = .ok (.iload 4, 2) := by decide +kernel
theorem d156_71 : decode (zz_c 156) 71 = .ok (.iadd, 1) := by decide +kernel
theorem d156_72 : decode (zz_c 156) 72 = .ok (.iaload, 1) := by decide +kernel
theorem d156_73 : decode (zz_c 156) 73 = .ok (.ior, 1) := by decide +kernel
theorem d156_74 : decode (zz_c 156) 74 = .ok (.iastore, 1) := by decide +kernel
theorem d156_75 : decode (zz_c 156) 75 = .ok (.iinc 4 1, 3) := by decide +kernel
theorem d156_78 : decode (zz_c 156) 78 = .ok (.goto (-33), 3) := by decide +kernel
theorem d156_81 : decode (zz_c 156) 81 = .ok (.iinc 3 1, 3) := by decide +kernel
theorem d156_84 : decode (zz_c 156) 84 = .ok (.goto (-64), 3) := by decide +kernel
theorem d156_87 : decode (zz_c 156) 87 = .ok (.return_, 1) := by decide +kernel
theorem x156 : (∀ ls st h, zz_Y 156 (0, ls, st, h) = zz_Y 156 (1, ls, .int (nI 0) :: st, h)) ∧ (∀ l0 l1 l2 l3 l4 x st h, zz_nl l2 = true → zz_Y 156 (1, [l0, l1, l2, l3, l4], .int x :: st, h) = zz_Y 156 (2, [l0, l1, l2, some (.int x), l4], st, h)) ∧ (∀ ls st h, zz_Y 156 (3, ls, st, h) = zz_Y 156 (5, ls, .int (nI 8) :: st, h)) ∧ (∀ ls a b st h, zz_Y 156 (5, ls, .int b :: .int a :: st, h) = if a < b then zz_Y 156 (8, ls, st, h) else zz_Y 156 (18, ls, st, h)) ∧ (∀ l0 l2 l3 l4 x st h, zz_Y 156 (8, [l0, some (.ref x), l2, l3, l4], st, h) = zz_Y 156 (9, [l0, some (.ref x), l2, l3, l4], .ref x :: st, h)) ∧ (∀ l0 l1 l2 l4 x st h, zz_Y 156 (9, [l0, l1, l2, some (.int x), l4], st, h) = zz_Y 156 (10, [l0, l1, l2, some (.int x), l4], .int x :: st, h)) ∧ (∀ ls st h, zz_Y 156 (10, ls, st, h) = zz_Y 156 (11, ls, .int (nI 0) :: st, h)) ∧ (∀ ls a i x st h, zz_Y 156 (11, ls, .int x :: .int i :: .ref a :: st, h) = mo_is (hp_g h a) x i a 156 12 ls st h) ∧ (∀ l0 l1 l2 l4 x st h, zz_nl l2 = true → zz_Y 156 (12, [l0, l1, l2, some (.int x), l4], st, h) = zz_Y 156 (15, [l0, l1, l2, some (.int (x + nI 1)), l4], st, h)) ∧ (∀ ls st h, zz_Y 156 (15, ls, st, h) = zz_Y 156 (2, ls, st, h)) ∧ (∀ ls st h, zz_Y 156 (18, ls, st, h) = zz_Y 156 (19, ls, .int (nI 0) :: st, h)) ∧ (∀ l0 l1 l2 l3 l4 x st h, zz_nl l2 = true → zz_Y 156 (19, [l0, l1, l2, l3, l4], .int x :: st, h) = zz_Y 156 (20, [l0, l1, l2, some (.int x), l4], st, h)) ∧ (∀ l1 l2 l3 l4 x st h, zz_Y 156 (21, [some (.ref x), l1, l2, l3, l4], st, h) = zz_Y 156 (22, [some (.ref x), l1, l2, l3, l4], .ref x :: st, h)) ∧ (∀ ls a st h, zz_Y 156 (22, ls, .ref a :: st, h) = mo_gf (hp_g h a) 11 0 156 25 ls st h) ∧ (∀ ls st h, zz_Y 156 (25, ls, st, h) = zz_Y 156 (26, ls, .int (nI 1) :: st, h)) ∧ (∀ ls a i st h, zz_Y 156 (26, ls, .int i :: .ref a :: st, h) = mo_ia (hp_g h a) i a 156 27 ls st h) ∧ (∀ ls a b st h, zz_Y 156 (27, ls, .int b :: .int a :: st, h) = if a < b then zz_Y 156 (30, ls, st, h) else zz_Y 156 (87, ls, st, h)) ∧ (∀ l1 l2 l3 l4 x st h, zz_Y 156 (30, [some (.ref x), l1, l2, l3, l4], st, h) = zz_Y 156 (31, [some (.ref x), l1, l2, l3, l4], .ref x :: st, h)) ∧ (∀ l0 l1 l2 l4 x st h, zz_Y 156 (31, [l0, l1, l2, some (.int x), l4], st, h) = zz_Y 156 (32, [l0, l1, l2, some (.int x), l4], .int x :: st, h)) ∧ (∀ l0 l1 l3 l4 x st h, zz_Y 156 (32, [l0, l1, some (.int x), l3, l4], st, h) = zz_Y 156 (33, [l0, l1, some (.int x), l3, l4], .int x :: st, h)) ∧ (∀ ls a0 a1 a2 h, zz_Y 156 (33, ls, [a2, a1, a0], h) = mo_k 156 36 ls [] (zz_run 157 [a0, a1, a2] h)) ∧ (∀ ls a st h, zz_Y 156 (36, ls, .int a :: st, h) = if a = nI 0 then zz_Y 156 (39, ls, st, h) else zz_Y 156 (42, ls, st, h)) ∧ (∀ ls st h, zz_Y 156 (39, ls, st, h) = zz_Y 156 (81, ls, st, h)) ∧ (∀ ls st h, zz_Y 156 (42, ls, st, h) = zz_Y 156 (43, ls, .int (nI 0) :: st, h)) ∧ (∀ l0 l1 l2 l3 l4 x st h, zz_nl l3 = true → zz_Y 156 (43, [l0, l1, l2, l3, l4], .int x :: st, h) = zz_Y 156 (45, [l0, l1, l2, l3, some (.int x)], st, h)) ∧ (∀ ls st h, zz_Y 156 (47, ls, st, h) = zz_Y 156 (49, ls, .int (nI 8) :: st, h)) ∧ (∀ ls a b st h, zz_Y 156 (49, ls, .int b :: .int a :: st, h) = if a < b then zz_Y 156 (52, ls, st, h) else zz_Y 156 (81, ls, st, h)) ∧ (∀ l0 l2 l3 l4 x st h, zz_Y 156 (52, [l0, some (.ref x), l2, l3, l4], st, h) = zz_Y 156 (53, [l0, some (.ref x), l2, l3, l4], .ref x :: st, h)) ∧ (∀ l0 l1 l2 l3 x st h, zz_Y 156 (53, [l0, l1, l2, l3, some (.int x)], st, h) = zz_Y 156 (55, [l0, l1, l2, l3, some (.int x)], .int x :: st, h)) ∧ (∀ ls a b st h, zz_Y 156 (55, ls, .int b :: .ref a :: st, h) = zz_Y 156 (56, ls, .int b :: .ref a :: .int b :: .ref a :: st, h)) ∧ (∀ ls a i st h, zz_Y 156 (56, ls, .int i :: .ref a :: st, h) = mo_ia (hp_g h a) i a 156 57 ls st h) ∧ (∀ l1 l2 l3 l4 x st h, zz_Y 156 (57, [some (.ref x), l1, l2, l3, l4], st, h) = zz_Y 156 (58, [some (.ref x), l1, l2, l3, l4], .ref x :: st, h)) ∧ (∀ ls a st h, zz_Y 156 (58, ls, .ref a :: st, h) = mo_gf (hp_g h a) 11 0 156 61 ls st h) ∧ (∀ ls st h, zz_Y 156 (61, ls, st, h) = zz_Y 156 (64, ls, .int (nI 302) :: st, h)) ∧ (∀ ls st h, zz_Y 156 (64, ls, st, h) = zz_Y 156 (66, ls, .int (nI 8) :: st, h)) ∧ (∀ l0 l1 l2 l4 x st h, zz_Y 156 (66, [l0, l1, l2, some (.int x), l4], st, h) = zz_Y 156 (67, [l0, l1, l2, some (.int x), l4], .int x :: st, h)) ∧ (∀ ls a b st h, zz_Y 156 (67, ls, .int b :: .int a :: st, h) = zz_Y 156 (68, ls, .int (a * b) :: st, h)) ∧ (∀ ls a b st h, zz_Y 156 (68, ls, .int b :: .int a :: st, h) = zz_Y 156 (69, ls, .int (a + b) :: st, h)) ∧ (∀ l0 l1 l2 l3 x st h, zz_Y 156 (69, [l0, l1, l2, l3, some (.int x)], st, h) = zz_Y 156 (71, [l0, l1, l2, l3, some (.int x)], .int x :: st, h)) ∧ (∀ ls a b st h, zz_Y 156 (71, ls, .int b :: .int a :: st, h) = zz_Y 156 (72, ls, .int (a + b) :: st, h)) ∧ (∀ ls a i st h, zz_Y 156 (72, ls, .int i :: .ref a :: st, h) = mo_ia (hp_g h a) i a 156 73 ls st h) ∧ (∀ ls a b st h, zz_Y 156 (73, ls, .int b :: .int a :: st, h) = zz_Y 156 (74, ls, .int (a ||| b) :: st, h)) ∧ (∀ ls a i x st h, zz_Y 156 (74, ls, .int x :: .int i :: .ref a :: st, h) = mo_is (hp_g h a) x i a 156 75 ls st h) ∧ (∀ l0 l1 l2 l3 x st h, zz_nl l3 = true → zz_Y 156 (75, [l0, l1, l2, l3, some (.int x)], st, h) = zz_Y 156 (78, [l0, l1, l2, l3, some (.int (x + nI 1))], st, h)) ∧ (∀ ls st h, zz_Y 156 (78, ls, st, h) = zz_Y 156 (45, ls, st, h)) ∧ (∀ l0 l1 l2 l4 x st h, zz_nl l2 = true → zz_Y 156 (81, [l0, l1, l2, some (.int x), l4], st, h) = zz_Y 156 (84, [l0, l1, l2, some (.int (x + nI 1)), l4], st, h)) ∧ (∀ ls st h, zz_Y 156 (84, ls, st, h) = zz_Y 156 (20, ls, st, h)) ∧ (∀ ls h, zz_Y 156 (87, ls, [], h) = some (none, h)) :=
  ⟨fun _ _ _ => xl_ic d156_0 (by decide +kernel),
   fun _ _ _ _ _ _ _ _ hc => xl_isn d156_1 xml156 (by decide) (zz_nl_s1 hc),
   fun _ _ _ => xl_bi d156_3 (by decide +kernel),
   fun _ _ _ _ _ => xl_icge d156_5 rfl,
   fun _ _ _ _ _ _ _ => xl_aln d156_8 rfl,
   fun _ _ _ _ _ _ _ => xl_iln d156_9 rfl,
   fun _ _ _ => xl_ic d156_10 (by decide +kernel),
   fun _ _ _ _ _ _ => xl_ist d156_11,
   fun _ _ _ _ _ _ _ hc => xl_inc d156_12 xml156 (by decide) rfl (by decide +kernel) (zz_nl_s1 hc),
   fun _ _ _ => xl_goto d156_15 rfl,
   fun _ _ _ => xl_ic d156_18 (by decide +kernel),
   fun _ _ _ _ _ _ _ _ hc => xl_isn d156_19 xml156 (by decide) (zz_nl_s1 hc),
   fun _ _ _ _ _ _ _ => xl_aln d156_21 rfl,
   fun _ _ _ _ => xl_gf d156_22 xco156 xf_11_7,
   fun _ _ _ => xl_ic d156_25 (by decide +kernel),
   fun _ _ _ _ _ => xl_ia d156_26,
   fun _ _ _ _ _ => xl_icge d156_27 rfl,
   fun _ _ _ _ _ _ _ => xl_aln d156_30 rfl,
   fun _ _ _ _ _ _ _ => xl_iln d156_31 rfl,
   fun _ _ _ _ _ _ _ => xl_iln d156_32 rfl,
   fun ls a0 a1 a2 h => xl_cv (As := [a0, a1, a2]) (st := []) d156_33 xco156 xm_11_80 (congrArg Nat.succ xnp157) (by decide +kernel) rfl,
   fun _ _ _ _ => xl_ifne d156_36 rfl,
   fun _ _ _ => xl_goto d156_39 rfl,
   fun _ _ _ => xl_ic d156_42 (by decide +kernel),
   fun _ _ _ _ _ _ _ _ hc => xl_is d156_43 xml156 (by decide) (zz_nl_s1 hc),
   fun _ _ _ => xl_bi d156_47 (by decide +kernel),
   fun _ _ _ _ _ => xl_icge d156_49 rfl,
   fun _ _ _ _ _ _ _ => xl_aln d156_52 rfl,
   fun _ _ _ _ _ _ _ => xl_il d156_53 rfl,
   fun _ _ _ _ _ => xl_dup2 d156_55,
   fun _ _ _ _ _ => xl_ia d156_56,
   fun _ _ _ _ _ _ _ => xl_aln d156_57 rfl,
   fun _ _ _ _ => xl_gf d156_58 xco156 xf_11_7,
   fun _ _ _ => xl_si d156_61 (by decide +kernel),
   fun _ _ _ => xl_bi d156_64 (by decide +kernel),
   fun _ _ _ _ _ _ _ => xl_iln d156_66 rfl,
   fun _ _ _ _ _ => xl_imul d156_67,
   fun _ _ _ _ _ => xl_iadd d156_68,
   fun _ _ _ _ _ _ _ => xl_il d156_69 rfl,
   fun _ _ _ _ _ => xl_iadd d156_71,
   fun _ _ _ _ _ => xl_ia d156_72,
   fun _ _ _ _ _ => xl_ior d156_73,
   fun _ _ _ _ _ _ => xl_ist d156_74,
   fun _ _ _ _ _ _ _ hc => xl_inc d156_75 xml156 (by decide) rfl (by decide +kernel) (zz_nl_s1 hc),
   fun _ _ _ => xl_goto d156_78 rfl,
   fun _ _ _ _ _ _ _ hc => xl_inc d156_81 xml156 (by decide) rfl (by decide +kernel) (zz_nl_s1 hc),
   fun _ _ _ => xl_goto d156_84 rfl,
   fun _ _ => xl_r d156_87 xrt156⟩
theorem x156_c2 : ∀ l0 l1 l2 l4 x st h, zz_Y 156 (2, [l0, l1, l2, some (.int x), l4], st, h) = zz_Y 156 (3, [l0, l1, l2, some (.int x), l4], .int x :: st, h) := fun _ _ _ _ _ _ _ => xl_iln d156_2 rfl
theorem x156_c20 : ∀ l0 l1 l2 l4 x st h, zz_Y 156 (20, [l0, l1, l2, some (.int x), l4], st, h) = zz_Y 156 (21, [l0, l1, l2, some (.int x), l4], .int x :: st, h) := fun _ _ _ _ _ _ _ => xl_iln d156_20 rfl
theorem x156_c45 : ∀ l0 l1 l2 l3 x st h, zz_Y 156 (45, [l0, l1, l2, l3, some (.int x)], st, h) = zz_Y 156 (47, [l0, l1, l2, l3, some (.int x)], .int x :: st, h) := fun _ _ _ _ _ _ _ => xl_il d156_45 rfl
/-! 157 FacetSieveModel.isUnder(II)Z -/
theorem d157_0 : decode (zz_c 157) 0 = .ok (.iload_n 1, 1) := by decide +kernel
theorem d157_1 : decode (zz_c 157) 1 = .ok (.istore_n 3, 1) := by decide +kernel
theorem d157_2 : decode (zz_c 157) 2 = .ok (.iload_n 3, 1) := by decide +kernel
theorem d157_3 : decode (zz_c 157) 3 = .ok (.ifCond .lt 25, 3) := by decide +kernel
theorem d157_6 : decode (zz_c 157) 6 = .ok (.iload_n 3, 1) := by decide +kernel
theorem d157_7 : decode (zz_c 157) 7 = .ok (.iload_n 2, 1) := by decide +kernel
theorem d157_8 : decode (zz_c 157) 8 = .ok (.if_icmp .ne 5, 3) := by decide +kernel
theorem d157_11 : decode (zz_c 157) 11 = .ok (.iconst 1, 1) := by decide +kernel
theorem d157_12 : decode (zz_c 157) 12 = .ok (.ireturn, 1) := by decide +kernel
theorem d157_13 : decode (zz_c 157) 13 = .ok (.aload_n 0, 1) := by decide +kernel
theorem d157_14 : decode (zz_c 157) 14 = .ok (.getfield 7, 3) := by decide +kernel
theorem d157_17 : decode (zz_c 157) 17 = .ok (.iload_n 3, 1) := by decide +kernel
theorem d157_18 : decode (zz_c 157) 18 = .ok (.invokestatic 77, 3) := by decide +kernel
theorem d157_21 : decode (zz_c 157) 21 = .ok (.iconst 1, 1) := by decide +kernel
theorem d157_22 : decode (zz_c 157) 22 = .ok (.iadd, 1) := by decide +kernel
theorem d157_23 : decode (zz_c 157) 23 = .ok (.iaload, 1) := by decide +kernel
theorem d157_24 : decode (zz_c 157) 24 = .ok (.istore_n 3, 1) := by decide +kernel
theorem d157_25 : decode (zz_c 157) 25 = .ok (.goto (-23), 3) := by decide +kernel
theorem d157_28 : decode (zz_c 157) 28 = .ok (.iconst 0, 1) := by decide +kernel
theorem d157_29 : decode (zz_c 157) 29 = .ok (.ireturn, 1) := by decide +kernel
theorem x157 : (∀ l0 l2 l3 x st h, zz_Y 157 (0, [l0, some (.int x), l2, l3], st, h) = zz_Y 157 (1, [l0, some (.int x), l2, l3], .int x :: st, h)) ∧ (∀ l0 l1 l2 l3 x st h, zz_nl l2 = true → zz_Y 157 (1, [l0, l1, l2, l3], .int x :: st, h) = zz_Y 157 (2, [l0, l1, l2, some (.int x)], st, h)) ∧ (∀ ls a st h, zz_Y 157 (3, ls, .int a :: st, h) = if a < nI 0 then zz_Y 157 (28, ls, st, h) else zz_Y 157 (6, ls, st, h)) ∧ (∀ l0 l1 l2 x st h, zz_Y 157 (6, [l0, l1, l2, some (.int x)], st, h) = zz_Y 157 (7, [l0, l1, l2, some (.int x)], .int x :: st, h)) ∧ (∀ l0 l1 l3 x st h, zz_Y 157 (7, [l0, l1, some (.int x), l3], st, h) = zz_Y 157 (8, [l0, l1, some (.int x), l3], .int x :: st, h)) ∧ (∀ ls a b st h, zz_Y 157 (8, ls, .int b :: .int a :: st, h) = if a = b then zz_Y 157 (11, ls, st, h) else zz_Y 157 (13, ls, st, h)) ∧ (∀ ls st h, zz_Y 157 (11, ls, st, h) = zz_Y 157 (12, ls, .int (nI 1) :: st, h)) ∧ (∀ ls v h, v = nI 0 ∨ v = nI 1 → zz_Y 157 (12, ls, [.int v], h) = some (some (.int v), h)) ∧ (∀ l1 l2 l3 x st h, zz_Y 157 (13, [some (.ref x), l1, l2, l3], st, h) = zz_Y 157 (14, [some (.ref x), l1, l2, l3], .ref x :: st, h)) ∧ (∀ ls a st h, zz_Y 157 (14, ls, .ref a :: st, h) = mo_gf (hp_g h a) 11 0 157 17 ls st h) ∧ (∀ l0 l1 l2 x st h, zz_Y 157 (17, [l0, l1, l2, some (.int x)], st, h) = zz_Y 157 (18, [l0, l1, l2, some (.int x)], .int x :: st, h)) ∧ (∀ ls a0 s0 h, zz_Y 157 (18, ls, [a0, s0], h) = mo_k 157 21 ls [s0] (zz_run 158 [a0] h)) ∧ (∀ ls st h, zz_Y 157 (21, ls, st, h) = zz_Y 157 (22, ls, .int (nI 1) :: st, h)) ∧ (∀ ls a b st h, zz_Y 157 (22, ls, .int b :: .int a :: st, h) = zz_Y 157 (23, ls, .int (a + b) :: st, h)) ∧ (∀ ls a i st h, zz_Y 157 (23, ls, .int i :: .ref a :: st, h) = mo_ia (hp_g h a) i a 157 24 ls st h) ∧ (∀ l0 l1 l2 l3 x st h, zz_nl l2 = true → zz_Y 157 (24, [l0, l1, l2, l3], .int x :: st, h) = zz_Y 157 (25, [l0, l1, l2, some (.int x)], st, h)) ∧ (∀ ls st h, zz_Y 157 (25, ls, st, h) = zz_Y 157 (2, ls, st, h)) ∧ (∀ ls st h, zz_Y 157 (28, ls, st, h) = zz_Y 157 (29, ls, .int (nI 0) :: st, h)) ∧ (∀ ls v h, v = nI 0 ∨ v = nI 1 → zz_Y 157 (29, ls, [.int v], h) = some (some (.int v), h)) :=
  ⟨fun _ _ _ _ _ _ => xl_iln d157_0 rfl,
   fun _ _ _ _ _ _ _ hc => xl_isn d157_1 xml157 (by decide) (zz_nl_s1 hc),
   fun _ _ _ _ => xl_iflt d157_3 rfl,
   fun _ _ _ _ _ _ => xl_iln d157_6 rfl,
   fun _ _ _ _ _ _ => xl_iln d157_7 rfl,
   fun _ _ _ _ _ => xl_icne d157_8 rfl,
   fun _ _ _ => xl_ic d157_11 (by decide +kernel),
   fun _ _ _ hc => xl_irz d157_12 xrt157 hc,
   fun _ _ _ _ _ _ => xl_aln d157_13 rfl,
   fun _ _ _ _ => xl_gf d157_14 xco157 xf_11_7,
   fun _ _ _ _ _ _ => xl_iln d157_17 rfl,
   fun ls a0 s0 h => xl_cs (As := [a0]) (st := [s0]) d157_18 xco157 xm_11_77 xnp158 (by decide +kernel) rfl,
   fun _ _ _ => xl_ic d157_21 (by decide +kernel),
   fun _ _ _ _ _ => xl_iadd d157_22,
   fun _ _ _ _ _ => xl_ia d157_23,
   fun _ _ _ _ _ _ _ hc => xl_isn d157_24 xml157 (by decide) (zz_nl_s1 hc),
   fun _ _ _ => xl_goto d157_25 rfl,
   fun _ _ _ => xl_ic d157_28 (by decide +kernel),
   fun _ _ _ hc => xl_irz d157_29 xrt157 hc⟩
theorem x157_c2 : ∀ l0 l1 l2 x st h, zz_Y 157 (2, [l0, l1, l2, some (.int x)], st, h) = zz_Y 157 (3, [l0, l1, l2, some (.int x)], .int x :: st, h) := fun _ _ _ _ _ _ => xl_iln d157_2 rfl
/-! 158 FacetSieveModel.valueAt(I)I -/
theorem d158_0 : decode (zz_c 158) 0 = .ok (.bipush 54, 2) := by decide +kernel
theorem d158_2 : decode (zz_c 158) 2 = .ok (.bipush 12, 2) := by decide +kernel
theorem d158_4 : decode (zz_c 158) 4 = .ok (.iload_n 0, 1) := by decide +kernel
theorem d158_5 : decode (zz_c 158) 5 = .ok (.imul, 1) := by decide +kernel
theorem d158_6 : decode (zz_c 158) 6 = .ok (.iadd, 1) := by decide +kernel
theorem d158_7 : decode (zz_c 158) 7 = .ok (.ireturn, 1) := by decide +kernel
theorem x158 : (∀ ls st h, zz_Y 158 (0, ls, st, h) = zz_Y 158 (2, ls, .int (nI 54) :: st, h)) ∧ (∀ ls st h, zz_Y 158 (2, ls, st, h) = zz_Y 158 (4, ls, .int (nI 12) :: st, h)) ∧ (∀ x st h, zz_Y 158 (4, [some (.int x)], st, h) = zz_Y 158 (5, [some (.int x)], .int x :: st, h)) ∧ (∀ ls a b st h, zz_Y 158 (5, ls, .int b :: .int a :: st, h) = zz_Y 158 (6, ls, .int (a * b) :: st, h)) ∧ (∀ ls a b st h, zz_Y 158 (6, ls, .int b :: .int a :: st, h) = zz_Y 158 (7, ls, .int (a + b) :: st, h)) ∧ (∀ ls v h, zz_Y 158 (7, ls, [.int v], h) = some (some (.int v), h)) :=
  ⟨fun _ _ _ => xl_bi d158_0 (by decide +kernel),
   fun _ _ _ => xl_bi d158_2 (by decide +kernel),
   fun _ _ _ => xl_iln d158_4 rfl,
   fun _ _ _ _ _ => xl_imul d158_5,
   fun _ _ _ _ _ => xl_iadd d158_6,
   fun _ _ _ => xl_iri d158_7 xrt158⟩
/-! 159 FacetSieveModel.tagsOf(I)I -/
theorem d159_0 : decode (zz_c 159) 0 = .ok (.iconst 0, 1) := by decide +kernel
theorem d159_1 : decode (zz_c 159) 1 = .ok (.istore_n 2, 1) := by decide +kernel
theorem d159_2 : decode (zz_c 159) 2 = .ok (.iconst 0, 1) := by decide +kernel
theorem d159_3 : decode (zz_c 159) 3 = .ok (.istore_n 3, 1) := by decide +kernel
theorem d159_4 : decode (zz_c 159) 4 = .ok (.iload_n 3, 1) := by decide +kernel
theorem d159_5 : decode (zz_c 159) 5 = .ok (.bipush 8, 2) := by decide +kernel
theorem d159_7 : decode (zz_c 159) 7 = .ok (.if_icmp .ge 30, 3) := by decide +kernel
theorem d159_10 : decode (zz_c 159) 10 = .ok (.iload_n 2, 1) := by decide +kernel
theorem d159_11 : decode (zz_c 159) 11 = .ok (.aload_n 0, 1) := by decide +kernel
theorem d159_12 : decode (zz_c 159) 12 = .ok (.getfield 7, 3) := by decide +kernel
theorem d159_15 : decode (zz_c 159) 15 = .ok (.sipush 302, 3) := by decide +kernel
theorem d159_18 : decode (zz_c 159) 18 = .ok (.bipush 8, 2) := by decide +kernel
theorem d159_20 : decode (zz_c 159) 20 = .ok (.iload_n 1, 1) := by decide +kernel
theorem d159_21 : decode (zz_c 159) 21 = .ok (.imul, 1) := by decide +kernel
theorem d159_22 : decode (zz_c 159) 22 = .ok (.iadd, 1) := by decide +kernel
theorem d159_23 : decode (zz_c 159) 23 = .ok (.iload_n 3, 1) := by decide +kernel
theorem d159_24 : decode (zz_c 159) 24 = .ok (.iadd, 1) := by decide +kernel
theorem d159_25 : decode (zz_c 159) 25 = .ok (.iaload, 1) := by decide +kernel
theorem d159_26 : decode (zz_c 159) 26 = .ok (.invokestatic 69, 3) := by decide +kernel
theorem d159_29 : decode (zz_c 159) 29 = .ok (.iadd, 1) := by decide +kernel
theorem d159_30 : decode (zz_c 159) 30 = .ok (.istore_n 2, 1) := by decide +kernel
theorem d159_31 : decode (zz_c 159) 31 = .ok (.iinc 3 1, 3) := by decide +kernel
theorem d159_34 : decode (zz_c 159) 34 = .ok (.goto (-30), 3) := by decide +kernel
theorem d159_37 : decode (zz_c 159) 37 = .ok (.iload_n 2, 1) := by decide +kernel
theorem d159_38 : decode (zz_c 159) 38 = .ok (.ireturn, 1) := by decide +kernel
theorem x159 : (∀ ls st h, zz_Y 159 (0, ls, st, h) = zz_Y 159 (1, ls, .int (nI 0) :: st, h)) ∧ (∀ l0 l1 l2 l3 x st h, zz_nl l1 = true → zz_Y 159 (1, [l0, l1, l2, l3], .int x :: st, h) = zz_Y 159 (2, [l0, l1, some (.int x), l3], st, h)) ∧ (∀ ls st h, zz_Y 159 (2, ls, st, h) = zz_Y 159 (3, ls, .int (nI 0) :: st, h)) ∧ (∀ l0 l1 l2 l3 x st h, zz_nl l2 = true → zz_Y 159 (3, [l0, l1, l2, l3], .int x :: st, h) = zz_Y 159 (4, [l0, l1, l2, some (.int x)], st, h)) ∧ (∀ ls st h, zz_Y 159 (5, ls, st, h) = zz_Y 159 (7, ls, .int (nI 8) :: st, h)) ∧ (∀ ls a b st h, zz_Y 159 (7, ls, .int b :: .int a :: st, h) = if a < b then zz_Y 159 (10, ls, st, h) else zz_Y 159 (37, ls, st, h)) ∧ (∀ l0 l1 l3 x st h, zz_Y 159 (10, [l0, l1, some (.int x), l3], st, h) = zz_Y 159 (11, [l0, l1, some (.int x), l3], .int x :: st, h)) ∧ (∀ l1 l2 l3 x st h, zz_Y 159 (11, [some (.ref x), l1, l2, l3], st, h) = zz_Y 159 (12, [some (.ref x), l1, l2, l3], .ref x :: st, h)) ∧ (∀ ls a st h, zz_Y 159 (12, ls, .ref a :: st, h) = mo_gf (hp_g h a) 11 0 159 15 ls st h) ∧ (∀ ls st h, zz_Y 159 (15, ls, st, h) = zz_Y 159 (18, ls, .int (nI 302) :: st, h)) ∧ (∀ ls st h, zz_Y 159 (18, ls, st, h) = zz_Y 159 (20, ls, .int (nI 8) :: st, h)) ∧ (∀ l0 l2 l3 x st h, zz_Y 159 (20, [l0, some (.int x), l2, l3], st, h) = zz_Y 159 (21, [l0, some (.int x), l2, l3], .int x :: st, h)) ∧ (∀ ls a b st h, zz_Y 159 (21, ls, .int b :: .int a :: st, h) = zz_Y 159 (22, ls, .int (a * b) :: st, h)) ∧ (∀ ls a b st h, zz_Y 159 (22, ls, .int b :: .int a :: st, h) = zz_Y 159 (23, ls, .int (a + b) :: st, h)) ∧ (∀ l0 l1 l2 x st h, zz_Y 159 (23, [l0, l1, l2, some (.int x)], st, h) = zz_Y 159 (24, [l0, l1, l2, some (.int x)], .int x :: st, h)) ∧ (∀ ls a b st h, zz_Y 159 (24, ls, .int b :: .int a :: st, h) = zz_Y 159 (25, ls, .int (a + b) :: st, h)) ∧ (∀ ls a i st h, zz_Y 159 (25, ls, .int i :: .ref a :: st, h) = mo_ia (hp_g h a) i a 159 26 ls st h) ∧ (∀ ls a0 s0 h, zz_Y 159 (26, ls, [a0, s0], h) = mo_k 159 29 ls [s0] (zz_run 160 [a0] h)) ∧ (∀ ls a b st h, zz_Y 159 (29, ls, .int b :: .int a :: st, h) = zz_Y 159 (30, ls, .int (a + b) :: st, h)) ∧ (∀ l0 l1 l2 l3 x st h, zz_nl l1 = true → zz_Y 159 (30, [l0, l1, l2, l3], .int x :: st, h) = zz_Y 159 (31, [l0, l1, some (.int x), l3], st, h)) ∧ (∀ l0 l1 l2 x st h, zz_nl l2 = true → zz_Y 159 (31, [l0, l1, l2, some (.int x)], st, h) = zz_Y 159 (34, [l0, l1, l2, some (.int (x + nI 1))], st, h)) ∧ (∀ ls st h, zz_Y 159 (34, ls, st, h) = zz_Y 159 (4, ls, st, h)) ∧ (∀ l0 l1 l3 x st h, zz_Y 159 (37, [l0, l1, some (.int x), l3], st, h) = zz_Y 159 (38, [l0, l1, some (.int x), l3], .int x :: st, h)) ∧ (∀ ls v h, zz_Y 159 (38, ls, [.int v], h) = some (some (.int v), h)) :=
  ⟨fun _ _ _ => xl_ic d159_0 (by decide +kernel),
   fun _ _ _ _ _ _ _ hc => xl_isn d159_1 xml159 (by decide) (zz_nl_s1 hc),
   fun _ _ _ => xl_ic d159_2 (by decide +kernel),
   fun _ _ _ _ _ _ _ hc => xl_isn d159_3 xml159 (by decide) (zz_nl_s1 hc),
   fun _ _ _ => xl_bi d159_5 (by decide +kernel),
   fun _ _ _ _ _ => xl_icge d159_7 rfl,
   fun _ _ _ _ _ _ => xl_iln d159_10 rfl,
   fun _ _ _ _ _ _ => xl_aln d159_11 rfl,
   fun _ _ _ _ => xl_gf d159_12 xco159 xf_11_7,
   fun _ _ _ => xl_si d159_15 (by decide +kernel),
   fun _ _ _ => xl_bi d159_18 (by decide +kernel),
   fun _ _ _ _ _ _ => xl_iln d159_20 rfl,
   fun _ _ _ _ _ => xl_imul d159_21,
   fun _ _ _ _ _ => xl_iadd d159_22,
   fun _ _ _ _ _ _ => xl_iln d159_23 rfl,
   fun _ _ _ _ _ => xl_iadd d159_24,
   fun _ _ _ _ _ => xl_ia d159_25,
   fun ls a0 s0 h => xl_cs (As := [a0]) (st := [s0]) d159_26 xco159 xm_11_69 xnp160 (by decide +kernel) rfl,
   fun _ _ _ _ _ => xl_iadd d159_29,
   fun _ _ _ _ _ _ _ hc => xl_isn d159_30 xml159 (by decide) (zz_nl_s1 hc),
   fun _ _ _ _ _ _ hc => xl_inc d159_31 xml159 (by decide) rfl (by decide +kernel) (zz_nl_s1 hc),
   fun _ _ _ => xl_goto d159_34 rfl,
   fun _ _ _ _ _ _ => xl_iln d159_37 rfl,
   fun _ _ _ => xl_iri d159_38 xrt159⟩
theorem x159_c4 : ∀ l0 l1 l2 x st h, zz_Y 159 (4, [l0, l1, l2, some (.int x)], st, h) = zz_Y 159 (5, [l0, l1, l2, some (.int x)], .int x :: st, h) := fun _ _ _ _ _ _ => xl_iln d159_4 rfl
/-! 160 FacetSieveModel.bitsOf(I)I -/
theorem d160_0 : decode (zz_c 160) 0 = .ok (.iconst 0, 1) := by decide +kernel
theorem d160_1 : decode (zz_c 160) 1 = .ok (.istore_n 1, 1) := by decide +kernel
theorem d160_2 : decode (zz_c 160) 2 = .ok (.iload_n 0, 1) := by decide +kernel
theorem d160_3 : decode (zz_c 160) 3 = .ok (.istore_n 2, 1) := by decide +kernel
theorem d160_4 : decode (zz_c 160) 4 = .ok (.iload_n 2, 1) := by decide +kernel
theorem d160_5 : decode (zz_c 160) 5 = .ok (.ifCond .eq 15, 3) := by decide +kernel
theorem d160_8 : decode (zz_c 160) 8 = .ok (.iinc 1 1, 3) := by decide +kernel
theorem d160_11 : decode (zz_c 160) 11 = .ok (.iload_n 2, 1) := by decide +kernel
theorem d160_12 : decode (zz_c 160) 12 = .ok (.iload_n 2, 1) := by decide +kernel
theorem d160_13 : decode (zz_c 160) 13 = .ok (.iconst 1, 1) := by decide +kernel
theorem d160_14 : decode (zz_c 160) 14 = .ok (.isub, 1) := by decide +kernel
theorem d160_15 : decode (zz_c 160) 15 = .ok (.iand, 1) := by decide +kernel
theorem d160_16 : decode (zz_c 160) 16 = .ok (.istore_n 2, 1) := by decide +kernel
theorem d160_17 : decode (zz_c 160) 17 = .ok (.goto (-13), 3) := by decide +kernel
theorem d160_20 : decode (zz_c 160) 20 = .ok (.iload_n 1, 1) := by decide +kernel
theorem d160_21 : decode (zz_c 160) 21 = .ok (.ireturn, 1) := by decide +kernel
theorem x160 : (∀ ls st h, zz_Y 160 (0, ls, st, h) = zz_Y 160 (1, ls, .int (nI 0) :: st, h)) ∧ (∀ l0 l1 l2 x st h, zz_nl l0 = true → zz_Y 160 (1, [l0, l1, l2], .int x :: st, h) = zz_Y 160 (2, [l0, some (.int x), l2], st, h)) ∧ (∀ l1 l2 x st h, zz_Y 160 (2, [some (.int x), l1, l2], st, h) = zz_Y 160 (3, [some (.int x), l1, l2], .int x :: st, h)) ∧ (∀ l0 l1 l2 x st h, zz_nl l1 = true → zz_Y 160 (3, [l0, l1, l2], .int x :: st, h) = zz_Y 160 (4, [l0, l1, some (.int x)], st, h)) ∧ (∀ ls a st h, zz_Y 160 (5, ls, .int a :: st, h) = if a = nI 0 then zz_Y 160 (20, ls, st, h) else zz_Y 160 (8, ls, st, h)) ∧ (∀ l0 l2 x st h, zz_nl l0 = true → zz_Y 160 (8, [l0, some (.int x), l2], st, h) = zz_Y 160 (11, [l0, some (.int (x + nI 1)), l2], st, h)) ∧ (∀ l0 l1 x st h, zz_Y 160 (11, [l0, l1, some (.int x)], st, h) = zz_Y 160 (12, [l0, l1, some (.int x)], .int x :: st, h)) ∧ (∀ l0 l1 x st h, zz_Y 160 (12, [l0, l1, some (.int x)], st, h) = zz_Y 160 (13, [l0, l1, some (.int x)], .int x :: st, h)) ∧ (∀ ls st h, zz_Y 160 (13, ls, st, h) = zz_Y 160 (14, ls, .int (nI 1) :: st, h)) ∧ (∀ ls a b st h, zz_Y 160 (14, ls, .int b :: .int a :: st, h) = zz_Y 160 (15, ls, .int (a - b) :: st, h)) ∧ (∀ ls a b st h, zz_Y 160 (15, ls, .int b :: .int a :: st, h) = zz_Y 160 (16, ls, .int (a &&& b) :: st, h)) ∧ (∀ l0 l1 l2 x st h, zz_nl l1 = true → zz_Y 160 (16, [l0, l1, l2], .int x :: st, h) = zz_Y 160 (17, [l0, l1, some (.int x)], st, h)) ∧ (∀ ls st h, zz_Y 160 (17, ls, st, h) = zz_Y 160 (4, ls, st, h)) ∧ (∀ l0 l2 x st h, zz_Y 160 (20, [l0, some (.int x), l2], st, h) = zz_Y 160 (21, [l0, some (.int x), l2], .int x :: st, h)) ∧ (∀ ls v h, zz_Y 160 (21, ls, [.int v], h) = some (some (.int v), h)) :=
  ⟨fun _ _ _ => xl_ic d160_0 (by decide +kernel),
   fun _ _ _ _ _ _ hc => xl_isn d160_1 xml160 (by decide) (zz_nl_s1 hc),
   fun _ _ _ _ _ => xl_iln d160_2 rfl,
   fun _ _ _ _ _ _ hc => xl_isn d160_3 xml160 (by decide) (zz_nl_s1 hc),
   fun _ _ _ _ => xl_ifeq d160_5 rfl,
   fun _ _ _ _ _ hc => xl_inc d160_8 xml160 (by decide) rfl (by decide +kernel) (zz_nl_s1 hc),
   fun _ _ _ _ _ => xl_iln d160_11 rfl,
   fun _ _ _ _ _ => xl_iln d160_12 rfl,
   fun _ _ _ => xl_ic d160_13 (by decide +kernel),
   fun _ _ _ _ _ => xl_isub d160_14,
   fun _ _ _ _ _ => xl_iand d160_15,
   fun _ _ _ _ _ _ hc => xl_isn d160_16 xml160 (by decide) (zz_nl_s1 hc),
   fun _ _ _ => xl_goto d160_17 rfl,
   fun _ _ _ _ _ => xl_iln d160_20 rfl,
   fun _ _ _ => xl_iri d160_21 xrt160⟩
theorem x160_c4 : ∀ l0 l1 x st h, zz_Y 160 (4, [l0, l1, some (.int x)], st, h) = zz_Y 160 (5, [l0, l1, some (.int x)], .int x :: st, h) := fun _ _ _ _ _ => xl_iln d160_4 rfl
/-! 161 FacetSieveModel.size([I)I -/
theorem d161_0 : decode (zz_c 161) 0 = .ok (.iconst 0, 1) := by decide +kernel
theorem d161_1 : decode (zz_c 161) 1 = .ok (.istore_n 1, 1) := by decide +kernel
theorem d161_2 : decode (zz_c 161) 2 = .ok (.iconst 0, 1) := by decide +kernel
theorem d161_3 : decode (zz_c 161) 3 = .ok (.istore_n 2, 1) := by decide +kernel
theorem d161_4 : decode (zz_c 161) 4 = .ok (.iload_n 2, 1) := by decide +kernel
theorem d161_5 : decode (zz_c 161) 5 = .ok (.bipush 8, 2) := by decide +kernel
theorem d161_7 : decode (zz_c 161) 7 = .ok (.if_icmp .ge 18, 3) := by decide +kernel
theorem d161_10 : decode (zz_c 161) 10 = .ok (.iload_n 1, 1) := by decide +kernel
theorem d161_11 : decode (zz_c 161) 11 = .ok (.aload_n 0, 1) := by decide +kernel
theorem d161_12 : decode (zz_c 161) 12 = .ok (.iload_n 2, 1) := by decide +kernel
theorem d161_13 : decode (zz_c 161) 13 = .ok (.iaload, 1) := by decide +kernel
theorem d161_14 : decode (zz_c 161) 14 = .ok (.invokestatic 86, 3) := by decide +kernel
theorem d161_17 : decode (zz_c 161) 17 = .ok (.iadd, 1) := by decide +kernel
theorem d161_18 : decode (zz_c 161) 18 = .ok (.istore_n 1, 1) := by decide +kernel
theorem d161_19 : decode (zz_c 161) 19 = .ok (.iinc 2 1, 3) := by decide +kernel
theorem d161_22 : decode (zz_c 161) 22 = .ok (.goto (-18), 3) := by decide +kernel
theorem d161_25 : decode (zz_c 161) 25 = .ok (.iload_n 1, 1) := by decide +kernel
theorem d161_26 : decode (zz_c 161) 26 = .ok (.ireturn, 1) := by decide +kernel
theorem x161 : (∀ ls st h, zz_Y 161 (0, ls, st, h) = zz_Y 161 (1, ls, .int (nI 0) :: st, h)) ∧ (∀ l0 l1 l2 x st h, zz_nl l0 = true → zz_Y 161 (1, [l0, l1, l2], .int x :: st, h) = zz_Y 161 (2, [l0, some (.int x), l2], st, h)) ∧ (∀ ls st h, zz_Y 161 (2, ls, st, h) = zz_Y 161 (3, ls, .int (nI 0) :: st, h)) ∧ (∀ l0 l1 l2 x st h, zz_nl l1 = true → zz_Y 161 (3, [l0, l1, l2], .int x :: st, h) = zz_Y 161 (4, [l0, l1, some (.int x)], st, h)) ∧ (∀ ls st h, zz_Y 161 (5, ls, st, h) = zz_Y 161 (7, ls, .int (nI 8) :: st, h)) ∧ (∀ ls a b st h, zz_Y 161 (7, ls, .int b :: .int a :: st, h) = if a < b then zz_Y 161 (10, ls, st, h) else zz_Y 161 (25, ls, st, h)) ∧ (∀ l0 l2 x st h, zz_Y 161 (10, [l0, some (.int x), l2], st, h) = zz_Y 161 (11, [l0, some (.int x), l2], .int x :: st, h)) ∧ (∀ l1 l2 x st h, zz_Y 161 (11, [some (.ref x), l1, l2], st, h) = zz_Y 161 (12, [some (.ref x), l1, l2], .ref x :: st, h)) ∧ (∀ l0 l1 x st h, zz_Y 161 (12, [l0, l1, some (.int x)], st, h) = zz_Y 161 (13, [l0, l1, some (.int x)], .int x :: st, h)) ∧ (∀ ls a i st h, zz_Y 161 (13, ls, .int i :: .ref a :: st, h) = mo_ia (hp_g h a) i a 161 14 ls st h) ∧ (∀ ls a0 s0 h, zz_Y 161 (14, ls, [a0, s0], h) = mo_k 161 17 ls [s0] (zz_run 162 [a0] h)) ∧ (∀ ls a b st h, zz_Y 161 (17, ls, .int b :: .int a :: st, h) = zz_Y 161 (18, ls, .int (a + b) :: st, h)) ∧ (∀ l0 l1 l2 x st h, zz_nl l0 = true → zz_Y 161 (18, [l0, l1, l2], .int x :: st, h) = zz_Y 161 (19, [l0, some (.int x), l2], st, h)) ∧ (∀ l0 l1 x st h, zz_nl l1 = true → zz_Y 161 (19, [l0, l1, some (.int x)], st, h) = zz_Y 161 (22, [l0, l1, some (.int (x + nI 1))], st, h)) ∧ (∀ ls st h, zz_Y 161 (22, ls, st, h) = zz_Y 161 (4, ls, st, h)) ∧ (∀ l0 l2 x st h, zz_Y 161 (25, [l0, some (.int x), l2], st, h) = zz_Y 161 (26, [l0, some (.int x), l2], .int x :: st, h)) ∧ (∀ ls v h, zz_Y 161 (26, ls, [.int v], h) = some (some (.int v), h)) :=
  ⟨fun _ _ _ => xl_ic d161_0 (by decide +kernel),
   fun _ _ _ _ _ _ hc => xl_isn d161_1 xml161 (by decide) (zz_nl_s1 hc),
   fun _ _ _ => xl_ic d161_2 (by decide +kernel),
   fun _ _ _ _ _ _ hc => xl_isn d161_3 xml161 (by decide) (zz_nl_s1 hc),
   fun _ _ _ => xl_bi d161_5 (by decide +kernel),
   fun _ _ _ _ _ => xl_icge d161_7 rfl,
   fun _ _ _ _ _ => xl_iln d161_10 rfl,
   fun _ _ _ _ _ => xl_aln d161_11 rfl,
   fun _ _ _ _ _ => xl_iln d161_12 rfl,
   fun _ _ _ _ _ => xl_ia d161_13,
   fun ls a0 s0 h => xl_cs (As := [a0]) (st := [s0]) d161_14 xco161 xm_11_86 xnp162 (by decide +kernel) rfl,
   fun _ _ _ _ _ => xl_iadd d161_17,
   fun _ _ _ _ _ _ hc => xl_isn d161_18 xml161 (by decide) (zz_nl_s1 hc),
   fun _ _ _ _ _ hc => xl_inc d161_19 xml161 (by decide) rfl (by decide +kernel) (zz_nl_s1 hc),
   fun _ _ _ => xl_goto d161_22 rfl,
   fun _ _ _ _ _ => xl_iln d161_25 rfl,
   fun _ _ _ => xl_iri d161_26 xrt161⟩
theorem x161_c4 : ∀ l0 l1 x st h, zz_Y 161 (4, [l0, l1, some (.int x)], st, h) = zz_Y 161 (5, [l0, l1, some (.int x)], .int x :: st, h) := fun _ _ _ _ _ => xl_iln d161_4 rfl
