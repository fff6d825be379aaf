/-! 162 FacetSieveModel.sizeOf(I)I -/
theorem d162_0 : decode (zz_c 162) 0 = .ok (.iload_n 0, 1) := by decide +kernel
theorem d162_1 : decode (zz_c 162) 1 = .ok (.ifCond .ne 5, 3) := by decide +kernel
theorem d162_4 : decode (zz_c 162) 4 = .ok (.iconst 0, 1) := by decide +kernel
theorem d162_5 : decode (zz_c 162) 5 = .ok (.ireturn, 1) := by decide +kernel
theorem d162_6 : decode (zz_c 162) 6 = .ok (.iload_n 0, 1) := by decide +kernel
theorem d162_7 : decode (zz_c 162) 7 = .ok (.invokestatic 69, 3) := by decide +kernel
theorem d162_10 : decode (zz_c 162) 10 = .ok (.istore_n 1, 1) := by decide +kernel
theorem d162_11 : decode (zz_c 162) 11 = .ok (.iconst 2, 1) := by decide +kernel
theorem d162_12 : decode (zz_c 162) 12 = .ok (.iload_n 0, 1) := by decide +kernel
theorem d162_13 : decode (zz_c 162) 13 = .ok (.invokestatic 83, 3) := by decide +kernel
theorem d162_16 : decode (zz_c 162) 16 = .ok (.imul, 1) := by decide +kernel
theorem d162_17 : decode (zz_c 162) 17 = .ok (.istore_n 2, 1) := by decide +kernel
theorem d162_18 : decode (zz_c 162) 18 = .ok (.iload_n 1, 1) := by decide +kernel
theorem d162_19 : decode (zz_c 162) 19 = .ok (.iload_n 2, 1) := by decide +kernel
theorem d162_20 : decode (zz_c 162) 20 = .ok (.if_icmp .ge 7, 3) := by decide +kernel
theorem d162_23 : decode (zz_c 162) 23 = .ok (.iload_n 1, 1) := by decide +kernel
theorem d162_24 : decode (zz_c 162) 24 = .ok (.goto 4, 3) := by decide +kernel
theorem d162_27 : decode (zz_c 162) 27 = .ok (.iload_n 2, 1) := by decide +kernel
theorem d162_28 : decode (zz_c 162) 28 = .ok (.istore_n 3, 1) := by decide +kernel
theorem d162_29 : decode (zz_c 162) 29 = .ok (.iload_n 3, 1) := by decide +kernel
theorem d162_30 : decode (zz_c 162) 30 = .ok (.iconst 4, 1) := by decide +kernel
theorem d162_31 : decode (zz_c 162) 31 = .ok (.if_icmp .ge 7, 3) := by decide +kernel
theorem d162_34 : decode (zz_c 162) 34 = .ok (.iload_n 3, 1) := by decide +kernel
theorem d162_35 : decode (zz_c 162) 35 = .ok (.goto 4, 3) := by decide +kernel
theorem d162_38 : decode (zz_c 162) 38 = .ok (.iconst 4, 1) := by decide +kernel
theorem d162_39 : decode (zz_c 162) 39 = .ok (.ireturn, 1) := by decide +kernel
theorem x162 : (∀ l1 l2 l3 x st h, zz_Y 162 (0, [some (.int x), l1, l2, l3], st, h) = zz_Y 162 (1, [some (.int x), l1, l2, l3], .int x :: st, h)) ∧ (∀ ls a st h, zz_Y 162 (1, ls, .int a :: st, h) = if a = nI 0 then zz_Y 162 (4, ls, st, h) else zz_Y 162 (6, ls, st, h)) ∧ (∀ ls st h, zz_Y 162 (4, ls, st, h) = zz_Y 162 (5, ls, .int (nI 0) :: st, h)) ∧ (∀ ls v h, zz_Y 162 (5, ls, [.int v], h) = some (some (.int v), h)) ∧ (∀ l1 l2 l3 x st h, zz_Y 162 (6, [some (.int x), l1, l2, l3], st, h) = zz_Y 162 (7, [some (.int x), l1, l2, l3], .int x :: st, h)) ∧ (∀ ls a0 h, zz_Y 162 (7, ls, [a0], h) = mo_k 162 10 ls [] (zz_run 160 [a0] h)) ∧ (∀ l0 l1 l2 l3 x st h, zz_nl l0 = true → zz_Y 162 (10, [l0, l1, l2, l3], .int x :: st, h) = zz_Y 162 (11, [l0, some (.int x), l2, l3], st, h)) ∧ (∀ ls st h, zz_Y 162 (11, ls, st, h) = zz_Y 162 (12, ls, .int (nI 2) :: st, h)) ∧ (∀ l1 l2 l3 x st h, zz_Y 162 (12, [some (.int x), l1, l2, l3], st, h) = zz_Y 162 (13, [some (.int x), l1, l2, l3], .int x :: st, h)) ∧ (∀ ls a0 s0 h, zz_Y 162 (13, ls, [a0, s0], h) = mo_k 162 16 ls [s0] (zz_run 163 [a0] h)) ∧ (∀ ls a b st h, zz_Y 162 (16, ls, .int b :: .int a :: st, h) = zz_Y 162 (17, ls, .int (a * b) :: st, h)) ∧ (∀ l0 l1 l2 l3 x st h, zz_nl l1 = true → zz_Y 162 (17, [l0, l1, l2, l3], .int x :: st, h) = zz_Y 162 (18, [l0, l1, some (.int x), l3], st, h)) ∧ (∀ l0 l2 l3 x st h, zz_Y 162 (18, [l0, some (.int x), l2, l3], st, h) = zz_Y 162 (19, [l0, some (.int x), l2, l3], .int x :: st, h)) ∧ (∀ l0 l1 l3 x st h, zz_Y 162 (19, [l0, l1, some (.int x), l3], st, h) = zz_Y 162 (20, [l0, l1, some (.int x), l3], .int x :: st, h)) ∧ (∀ ls a b st h, zz_Y 162 (20, ls, .int b :: .int a :: st, h) = if a < b then zz_Y 162 (23, ls, st, h) else zz_Y 162 (27, ls, st, h)) ∧ (∀ l0 l2 l3 x st h, zz_Y 162 (23, [l0, some (.int x), l2, l3], st, h) = zz_Y 162 (24, [l0, some (.int x), l2, l3], .int x :: st, h)) ∧ (∀ ls st h, zz_Y 162 (24, ls, st, h) = zz_Y 162 (28, ls, st, h)) ∧ (∀ l0 l1 l3 x st h, zz_Y 162 (27, [l0, l1, some (.int x), l3], st, h) = zz_Y 162 (28, [l0, l1, some (.int x), l3], .int x :: st, h)) ∧ (∀ l0 l1 l2 l3 x st h, zz_nl l2 = true → zz_Y 162 (28, [l0, l1, l2, l3], .int x :: st, h) = zz_Y 162 (29, [l0, l1, l2, some (.int x)], st, h)) ∧ (∀ l0 l1 l2 x st h, zz_Y 162 (29, [l0, l1, l2, some (.int x)], st, h) = zz_Y 162 (30, [l0, l1, l2, some (.int x)], .int x :: st, h)) ∧ (∀ ls st h, zz_Y 162 (30, ls, st, h) = zz_Y 162 (31, ls, .int (nI 4) :: st, h)) ∧ (∀ ls a b st h, zz_Y 162 (31, ls, .int b :: .int a :: st, h) = if a < b then zz_Y 162 (34, ls, st, h) else zz_Y 162 (38, ls, st, h)) ∧ (∀ l0 l1 l2 x st h, zz_Y 162 (34, [l0, l1, l2, some (.int x)], st, h) = zz_Y 162 (35, [l0, l1, l2, some (.int x)], .int x :: st, h)) ∧ (∀ ls st h, zz_Y 162 (35, ls, st, h) = zz_Y 162 (39, ls, st, h)) ∧ (∀ ls st h, zz_Y 162 (38, ls, st, h) = zz_Y 162 (39, ls, .int (nI 4) :: st, h)) ∧ (∀ ls v h, zz_Y 162 (39, ls, [.int v], h) = some (some (.int v), h)) :=
  ⟨fun _ _ _ _ _ _ => xl_iln d162_0 rfl,
   fun _ _ _ _ => xl_ifne d162_1 rfl,
   fun _ _ _ => xl_ic d162_4 (by decide +kernel),
   fun _ _ _ => xl_iri d162_5 xrt162,
   fun _ _ _ _ _ _ => xl_iln d162_6 rfl,
   fun ls a0 h => xl_cs (As := [a0]) (st := []) d162_7 xco162 xm_11_69 xnp160 (by decide +kernel) rfl,
   fun _ _ _ _ _ _ _ hc => xl_isn d162_10 xml162 (by decide) (zz_nl_s1 hc),
   fun _ _ _ => xl_ic d162_11 (by decide +kernel),
   fun _ _ _ _ _ _ => xl_iln d162_12 rfl,
   fun ls a0 s0 h => xl_cs (As := [a0]) (st := [s0]) d162_13 xco162 xm_11_83 xnp163 (by decide +kernel) rfl,
   fun _ _ _ _ _ => xl_imul d162_16,
   fun _ _ _ _ _ _ _ hc => xl_isn d162_17 xml162 (by decide) (zz_nl_s1 hc),
   fun _ _ _ _ _ _ => xl_iln d162_18 rfl,
   fun _ _ _ _ _ _ => xl_iln d162_19 rfl,
   fun _ _ _ _ _ => xl_icge d162_20 rfl,
   fun _ _ _ _ _ _ => xl_iln d162_23 rfl,
   fun _ _ _ => xl_goto d162_24 rfl,
   fun _ _ _ _ _ _ => xl_iln d162_27 rfl,
   fun _ _ _ _ _ _ _ hc => xl_isn d162_28 xml162 (by decide) (zz_nl_s1 hc),
   fun _ _ _ _ _ _ => xl_iln d162_29 rfl,
   fun _ _ _ => xl_ic d162_30 (by decide +kernel),
   fun _ _ _ _ _ => xl_icge d162_31 rfl,
   fun _ _ _ _ _ _ => xl_iln d162_34 rfl,
   fun _ _ _ => xl_goto d162_35 rfl,
   fun _ _ _ => xl_ic d162_38 (by decide +kernel),
   fun _ _ _ => xl_iri d162_39 xrt162⟩
/-! 163 FacetSieveModel.rowsOf(I)I -/
theorem d163_0 : decode (zz_c 163) 0 = .ok (.iload_n 0, 1) := by decide +kernel
theorem d163_1 : decode (zz_c 163) 1 = .ok (.iload_n 0, 1) := by decide +kernel
theorem d163_2 : decode (zz_c 163) 2 = .ok (.iconst 1, 1) := by decide +kernel
theorem d163_3 : decode (zz_c 163) 3 = .ok (.ishl, 1) := by decide +kernel
theorem d163_4 : decode (zz_c 163) 4 = .ok (.iconst (-1), 1) := by decide +kernel
theorem d163_5 : decode (zz_c 163) 5 = .ok (.ixor, 1) := by decide +kernel
theorem d163_6 : decode (zz_c 163) 6 = .ok (.iand, 1) := by decide +kernel
theorem d163_7 : decode (zz_c 163) 7 = .ok (.invokestatic 69, 3) := by decide +kernel
theorem d163_10 : decode (zz_c 163) 10 = .ok (.ireturn, 1) := by decide +kernel
theorem x163 : (∀ x st h, zz_Y 163 (0, [some (.int x)], st, h) = zz_Y 163 (1, [some (.int x)], .int x :: st, h)) ∧ (∀ x st h, zz_Y 163 (1, [some (.int x)], st, h) = zz_Y 163 (2, [some (.int x)], .int x :: st, h)) ∧ (∀ ls st h, zz_Y 163 (2, ls, st, h) = zz_Y 163 (3, ls, .int (nI 1) :: st, h)) ∧ (∀ ls a b st h, zz_Y 163 (3, ls, .int b :: .int a :: st, h) = zz_Y 163 (4, ls, .int (a <<< (b &&& 31)) :: st, h)) ∧ (∀ ls st h, zz_Y 163 (4, ls, st, h) = zz_Y 163 (5, ls, .int (-1) :: st, h)) ∧ (∀ ls a b st h, zz_Y 163 (5, ls, .int b :: .int a :: st, h) = zz_Y 163 (6, ls, .int (a ^^^ b) :: st, h)) ∧ (∀ ls a b st h, zz_Y 163 (6, ls, .int b :: .int a :: st, h) = zz_Y 163 (7, ls, .int (a &&& b) :: st, h)) ∧ (∀ ls a0 h, zz_Y 163 (7, ls, [a0], h) = mo_k 163 10 ls [] (zz_run 160 [a0] h)) ∧ (∀ ls v h, zz_Y 163 (10, ls, [.int v], h) = some (some (.int v), h)) :=
  ⟨fun _ _ _ => xl_iln d163_0 rfl,
   fun _ _ _ => xl_iln d163_1 rfl,
   fun _ _ _ => xl_ic d163_2 (by decide +kernel),
   fun _ _ _ _ _ => xl_ishl d163_3,
   fun _ _ _ => xl_ic d163_4 (by decide +kernel),
   fun _ _ _ _ _ => xl_ixor d163_5,
   fun _ _ _ _ _ => xl_iand d163_6,
   fun ls a0 h => xl_cs (As := [a0]) (st := []) d163_7 xco163 xm_11_69 xnp160 (by decide +kernel) rfl,
   fun _ _ _ => xl_iri d163_10 xrt163⟩
/-! 164 FacetSieveModel.kindOf(I)I -/
theorem d164_0 : decode (zz_c 164) 0 = .ok (.iload_n 0, 1) := by decide +kernel
theorem d164_1 : decode (zz_c 164) 1 = .ok (.invokestatic 69, 3) := by decide +kernel
theorem d164_4 : decode (zz_c 164) 4 = .ok (.iload_n 0, 1) := by decide +kernel
theorem d164_5 : decode (zz_c 164) 5 = .ok (.invokestatic 86, 3) := by decide +kernel
theorem d164_8 : decode (zz_c 164) 8 = .ok (.if_icmp .ne 7, 3) := by decide +kernel
theorem d164_11 : decode (zz_c 164) 11 = .ok (.iconst 0, 1) := by decide +kernel
theorem d164_12 : decode (zz_c 164) 12 = .ok (.goto 21, 3) := by decide +kernel
theorem d164_15 : decode (zz_c 164) 15 = .ok (.iconst 2, 1) := by decide +kernel
theorem d164_16 : decode (zz_c 164) 16 = .ok (.iload_n 0, 1) := by decide +kernel
theorem d164_17 : decode (zz_c 164) 17 = .ok (.invokestatic 83, 3) := by decide +kernel
theorem d164_20 : decode (zz_c 164) 20 = .ok (.imul, 1) := by decide +kernel
theorem d164_21 : decode (zz_c 164) 21 = .ok (.iload_n 0, 1) := by decide +kernel
theorem d164_22 : decode (zz_c 164) 22 = .ok (.invokestatic 86, 3) := by decide +kernel
theorem d164_25 : decode (zz_c 164) 25 = .ok (.if_icmp .ne 7, 3) := by decide +kernel
theorem d164_28 : decode (zz_c 164) 28 = .ok (.iconst 1, 1) := by decide +kernel
theorem d164_29 : decode (zz_c 164) 29 = .ok (.goto 4, 3) := by decide +kernel
theorem d164_32 : decode (zz_c 164) 32 = .ok (.iconst 2, 1) := by decide +kernel
theorem d164_33 : decode (zz_c 164) 33 = .ok (.ireturn, 1) := by decide +kernel
theorem x164 : (∀ x st h, zz_Y 164 (0, [some (.int x)], st, h) = zz_Y 164 (1, [some (.int x)], .int x :: st, h)) ∧ (∀ ls a0 h, zz_Y 164 (1, ls, [a0], h) = mo_k 164 4 ls [] (zz_run 160 [a0] h)) ∧ (∀ x st h, zz_Y 164 (4, [some (.int x)], st, h) = zz_Y 164 (5, [some (.int x)], .int x :: st, h)) ∧ (∀ ls a0 s0 h, zz_Y 164 (5, ls, [a0, s0], h) = mo_k 164 8 ls [s0] (zz_run 162 [a0] h)) ∧ (∀ ls a b st h, zz_Y 164 (8, ls, .int b :: .int a :: st, h) = if a = b then zz_Y 164 (11, ls, st, h) else zz_Y 164 (15, ls, st, h)) ∧ (∀ ls st h, zz_Y 164 (11, ls, st, h) = zz_Y 164 (12, ls, .int (nI 0) :: st, h)) ∧ (∀ ls st h, zz_Y 164 (12, ls, st, h) = zz_Y 164 (33, ls, st, h)) ∧ (∀ ls st h, zz_Y 164 (15, ls, st, h) = zz_Y 164 (16, ls, .int (nI 2) :: st, h)) ∧ (∀ x st h, zz_Y 164 (16, [some (.int x)], st, h) = zz_Y 164 (17, [some (.int x)], .int x :: st, h)) ∧ (∀ ls a0 s0 h, zz_Y 164 (17, ls, [a0, s0], h) = mo_k 164 20 ls [s0] (zz_run 163 [a0] h)) ∧ (∀ ls a b st h, zz_Y 164 (20, ls, .int b :: .int a :: st, h) = zz_Y 164 (21, ls, .int (a * b) :: st, h)) ∧ (∀ x st h, zz_Y 164 (21, [some (.int x)], st, h) = zz_Y 164 (22, [some (.int x)], .int x :: st, h)) ∧ (∀ ls a0 s0 h, zz_Y 164 (22, ls, [a0, s0], h) = mo_k 164 25 ls [s0] (zz_run 162 [a0] h)) ∧ (∀ ls a b st h, zz_Y 164 (25, ls, .int b :: .int a :: st, h) = if a = b then zz_Y 164 (28, ls, st, h) else zz_Y 164 (32, ls, st, h)) ∧ (∀ ls st h, zz_Y 164 (28, ls, st, h) = zz_Y 164 (29, ls, .int (nI 1) :: st, h)) ∧ (∀ ls st h, zz_Y 164 (29, ls, st, h) = zz_Y 164 (33, ls, st, h)) ∧ (∀ ls st h, zz_Y 164 (32, ls, st, h) = zz_Y 164 (33, ls, .int (nI 2) :: st, h)) ∧ (∀ ls v h, zz_Y 164 (33, ls, [.int v], h) = some (some (.int v), h)) :=
  ⟨fun _ _ _ => xl_iln d164_0 rfl,
   fun ls a0 h => xl_cs (As := [a0]) (st := []) d164_1 xco164 xm_11_69 xnp160 (by decide +kernel) rfl,
   fun _ _ _ => xl_iln d164_4 rfl,
   fun ls a0 s0 h => xl_cs (As := [a0]) (st := [s0]) d164_5 xco164 xm_11_86 xnp162 (by decide +kernel) rfl,
   fun _ _ _ _ _ => xl_icne d164_8 rfl,
   fun _ _ _ => xl_ic d164_11 (by decide +kernel),
   fun _ _ _ => xl_goto d164_12 rfl,
   fun _ _ _ => xl_ic d164_15 (by decide +kernel),
   fun _ _ _ => xl_iln d164_16 rfl,
   fun ls a0 s0 h => xl_cs (As := [a0]) (st := [s0]) d164_17 xco164 xm_11_83 xnp163 (by decide +kernel) rfl,
   fun _ _ _ _ _ => xl_imul d164_20,
   fun _ _ _ => xl_iln d164_21 rfl,
   fun ls a0 s0 h => xl_cs (As := [a0]) (st := [s0]) d164_22 xco164 xm_11_86 xnp162 (by decide +kernel) rfl,
   fun _ _ _ _ _ => xl_icne d164_25 rfl,
   fun _ _ _ => xl_ic d164_28 (by decide +kernel),
   fun _ _ _ => xl_goto d164_29 rfl,
   fun _ _ _ => xl_ic d164_32 (by decide +kernel),
   fun _ _ _ => xl_iri d164_33 xrt164⟩
/-! 165 FacetSieveModel.thereMany()I -/
theorem d165_0 : decode (zz_c 165) 0 = .ok (.iconst 0, 1) := by decide +kernel
theorem d165_1 : decode (zz_c 165) 1 = .ok (.istore_n 1, 1) := by decide +kernel
theorem d165_2 : decode (zz_c 165) 2 = .ok (.iconst 0, 1) := by decide +kernel
theorem d165_3 : decode (zz_c 165) 3 = .ok (.istore_n 2, 1) := by decide +kernel
theorem d165_4 : decode (zz_c 165) 4 = .ok (.iload_n 2, 1) := by decide +kernel
theorem d165_5 : decode (zz_c 165) 5 = .ok (.bipush 8, 2) := by decide +kernel
theorem d165_7 : decode (zz_c 165) 7 = .ok (.if_icmp .ge 25, 3) := by decide +kernel
theorem d165_10 : decode (zz_c 165) 10 = .ok (.iload_n 1, 1) := by decide +kernel
theorem d165_11 : decode (zz_c 165) 11 = .ok (.aload_n 0, 1) := by decide +kernel
theorem d165_12 : decode (zz_c 165) 12 = .ok (.getfield 7, 3) := by decide +kernel
theorem d165_15 : decode (zz_c 165) 15 = .ok (.sipush 294, 3) := by decide +kernel
theorem d165_18 : decode (zz_c 165) 18 = .ok (.iload_n 2, 1) := by decide +kernel
theorem d165_19 : decode (zz_c 165) 19 = .ok (.iadd, 1) := by decide +kernel
theorem d165_20 : decode (zz_c 165) 20 = .ok (.iaload, 1) := by decide +kernel
theorem d165_21 : decode (zz_c 165) 21 = .ok (.invokestatic 69, 3) := by decide +kernel
theorem d165_24 : decode (zz_c 165) 24 = .ok (.iadd, 1) := by decide +kernel
theorem d165_25 : decode (zz_c 165) 25 = .ok (.istore_n 1, 1) := by decide +kernel
theorem d165_26 : decode (zz_c 165) 26 = .ok (.iinc 2 1, 3) := by decide +kernel
theorem d165_29 : decode (zz_c 165) 29 = .ok (.goto (-25), 3) := by decide +kernel
theorem d165_32 : decode (zz_c 165) 32 = .ok (.iload_n 1, 1) := by decide +kernel
theorem d165_33 : decode (zz_c 165) 33 = .ok (.ireturn, 1) := by decide +kernel
theorem x165 : (∀ ls st h, zz_Y 165 (0, ls, st, h) = zz_Y 165 (1, ls, .int (nI 0) :: st, h)) ∧ (∀ l0 l1 l2 x st h, zz_nl l0 = true → zz_Y 165 (1, [l0, l1, l2], .int x :: st, h) = zz_Y 165 (2, [l0, some (.int x), l2], st, h)) ∧ (∀ ls st h, zz_Y 165 (2, ls, st, h) = zz_Y 165 (3, ls, .int (nI 0) :: st, h)) ∧ (∀ l0 l1 l2 x st h, zz_nl l1 = true → zz_Y 165 (3, [l0, l1, l2], .int x :: st, h) = zz_Y 165 (4, [l0, l1, some (.int x)], st, h)) ∧ (∀ ls st h, zz_Y 165 (5, ls, st, h) = zz_Y 165 (7, ls, .int (nI 8) :: st, h)) ∧ (∀ ls a b st h, zz_Y 165 (7, ls, .int b :: .int a :: st, h) = if a < b then zz_Y 165 (10, ls, st, h) else zz_Y 165 (32, ls, st, h)) ∧ (∀ l0 l2 x st h, zz_Y 165 (10, [l0, some (.int x), l2], st, h) = zz_Y 165 (11, [l0, some (.int x), l2], .int x :: st, h)) ∧ (∀ l1 l2 x st h, zz_Y 165 (11, [some (.ref x), l1, l2], st, h) = zz_Y 165 (12, [some (.ref x), l1, l2], .ref x :: st, h)) ∧ (∀ ls a st h, zz_Y 165 (12, ls, .ref a :: st, h) = mo_gf (hp_g h a) 11 0 165 15 ls st h) ∧ (∀ ls st h, zz_Y 165 (15, ls, st, h) = zz_Y 165 (18, ls, .int (nI 294) :: st, h)) ∧ (∀ l0 l1 x st h, zz_Y 165 (18, [l0, l1, some (.int x)], st, h) = zz_Y 165 (19, [l0, l1, some (.int x)], .int x :: st, h)) ∧ (∀ ls a b st h, zz_Y 165 (19, ls, .int b :: .int a :: st, h) = zz_Y 165 (20, ls, .int (a + b) :: st, h)) ∧ (∀ ls a i st h, zz_Y 165 (20, ls, .int i :: .ref a :: st, h) = mo_ia (hp_g h a) i a 165 21 ls st h) ∧ (∀ ls a0 s0 h, zz_Y 165 (21, ls, [a0, s0], h) = mo_k 165 24 ls [s0] (zz_run 160 [a0] h)) ∧ (∀ ls a b st h, zz_Y 165 (24, ls, .int b :: .int a :: st, h) = zz_Y 165 (25, ls, .int (a + b) :: st, h)) ∧ (∀ l0 l1 l2 x st h, zz_nl l0 = true → zz_Y 165 (25, [l0, l1, l2], .int x :: st, h) = zz_Y 165 (26, [l0, some (.int x), l2], st, h)) ∧ (∀ l0 l1 x st h, zz_nl l1 = true → zz_Y 165 (26, [l0, l1, some (.int x)], st, h) = zz_Y 165 (29, [l0, l1, some (.int (x + nI 1))], st, h)) ∧ (∀ ls st h, zz_Y 165 (29, ls, st, h) = zz_Y 165 (4, ls, st, h)) ∧ (∀ l0 l2 x st h, zz_Y 165 (32, [l0, some (.int x), l2], st, h) = zz_Y 165 (33, [l0, some (.int x), l2], .int x :: st, h)) ∧ (∀ ls v h, zz_Y 165 (33, ls, [.int v], h) = some (some (.int v), h)) :=
  ⟨fun _ _ _ => xl_ic d165_0 (by decide +kernel),
   fun _ _ _ _ _ _ hc => xl_isn d165_1 xml165 (by decide) (zz_nl_s1 hc),
   fun _ _ _ => xl_ic d165_2 (by decide +kernel),
   fun _ _ _ _ _ _ hc => xl_isn d165_3 xml165 (by decide) (zz_nl_s1 hc),
   fun _ _ _ => xl_bi d165_5 (by decide +kernel),
   fun _ _ _ _ _ => xl_icge d165_7 rfl,
   fun _ _ _ _ _ => xl_iln d165_10 rfl,
   fun _ _ _ _ _ => xl_aln d165_11 rfl,
   fun _ _ _ _ => xl_gf d165_12 xco165 xf_11_7,
   fun _ _ _ => xl_si d165_15 (by decide +kernel),
   fun _ _ _ _ _ => xl_iln d165_18 rfl,
   fun _ _ _ _ _ => xl_iadd d165_19,
   fun _ _ _ _ _ => xl_ia d165_20,
   fun ls a0 s0 h => xl_cs (As := [a0]) (st := [s0]) d165_21 xco165 xm_11_69 xnp160 (by decide +kernel) rfl,
   fun _ _ _ _ _ => xl_iadd d165_24,
   fun _ _ _ _ _ _ hc => xl_isn d165_25 xml165 (by decide) (zz_nl_s1 hc),
   fun _ _ _ _ _ hc => xl_inc d165_26 xml165 (by decide) rfl (by decide +kernel) (zz_nl_s1 hc),
   fun _ _ _ => xl_goto d165_29 rfl,
   fun _ _ _ _ _ => xl_iln d165_32 rfl,
   fun _ _ _ => xl_iri d165_33 xrt165⟩
theorem x165_c4 : ∀ l0 l1 x st h, zz_Y 165 (4, [l0, l1, some (.int x)], st, h) = zz_Y 165 (5, [l0, l1, some (.int x)], .int x :: st, h) := fun _ _ _ _ _ => xl_iln d165_4 rfl
/-! 166 FacetSieveModel.leftMany()I -/
theorem d166_0 : decode (zz_c 166) 0 = .ok (.aload_n 0, 1) := by decide +kernel
theorem d166_1 : decode (zz_c 166) 1 = .ok (.iconst (-1), 1) := by decide +kernel
theorem d166_2 : decode (zz_c 166) 2 = .ok (.invokevirtual 106, 3) := by decide +kernel
theorem d166_5 : decode (zz_c 166) 5 = .ok (.aload_n 0, 1) := by decide +kernel
theorem d166_6 : decode (zz_c 166) 6 = .ok (.getfield 30, 3) := by decide +kernel
theorem d166_9 : decode (zz_c 166) 9 = .ok (.invokestatic 109, 3) := by decide +kernel
theorem d166_12 : decode (zz_c 166) 12 = .ok (.ireturn, 1) := by decide +kernel
theorem x166 : (∀ x st h, zz_Y 166 (0, [some (.ref x)], st, h) = zz_Y 166 (1, [some (.ref x)], .ref x :: st, h)) ∧ (∀ ls st h, zz_Y 166 (1, ls, st, h) = zz_Y 166 (2, ls, .int (-1) :: st, h)) ∧ (∀ ls a0 a1 h, zz_Y 166 (2, ls, [a1, a0], h) = mo_k 166 5 ls [] (zz_run 167 [a0, a1] h)) ∧ (∀ x st h, zz_Y 166 (5, [some (.ref x)], st, h) = zz_Y 166 (6, [some (.ref x)], .ref x :: st, h)) ∧ (∀ ls a st h, zz_Y 166 (6, ls, .ref a :: st, h) = mo_gf (hp_g h a) 11 9 166 9 ls st h) ∧ (∀ ls a0 h, zz_Y 166 (9, ls, [a0], h) = mo_k 166 12 ls [] (zz_run 172 [a0] h)) ∧ (∀ ls v h, zz_Y 166 (12, ls, [.int v], h) = some (some (.int v), h)) :=
  ⟨fun _ _ _ => xl_aln d166_0 rfl,
   fun _ _ _ => xl_ic d166_1 (by decide +kernel),
   fun ls a0 a1 h => xl_cv (As := [a0, a1]) (st := []) d166_2 xco166 xm_11_106 (congrArg Nat.succ xnp167) (by decide +kernel) rfl,
   fun _ _ _ => xl_aln d166_5 rfl,
   fun _ _ _ _ => xl_gf d166_6 xco166 xf_11_30,
   fun ls a0 h => xl_cs (As := [a0]) (st := []) d166_9 xco166 xm_11_109 xnp172 (by decide +kernel) rfl,
   fun _ _ _ => xl_iri d166_12 xrt166⟩
/-! 167 FacetSieveModel.laysLeft(I)V -/
theorem d167_0 : decode (zz_c 167) 0 = .ok (.iconst 0, 1) := by decide +kernel
theorem d167_1 : decode (zz_c 167) 1 = .ok (.istore_n 2, 1) := by decide +kernel
theorem d167_2 : decode (zz_c 167) 2 = .ok (.iload_n 2, 1) := by decide +kernel
theorem d167_3 : decode (zz_c 167) 3 = .ok (.bipush 8, 2) := by decide +kernel
theorem d167_5 : decode (zz_c 167) 5 = .ok (.if_icmp .ge 25, 3) := by decide +kernel
theorem d167_8 : decode (zz_c 167) 8 = .ok (.aload_n 0, 1) := by decide +kernel
theorem d167_9 : decode (zz_c 167) 9 = .ok (.getfield 30, 3) := by decide +kernel
theorem d167_12 : decode (zz_c 167) 12 = .ok (.iload_n 2, 1) := by decide +kernel
theorem d167_13 : decode (zz_c 167) 13 = .ok (.aload_n 0, 1) := by decide +kernel
theorem d167_14 : decode (zz_c 167) 14 = .ok (.getfield 7, 3) := by decide +kernel
theorem d167_17 : decode (zz_c 167) 17 = .ok (.sipush 294, 3) := by decide +kernel
theorem d167_20 : decode (zz_c 167) 20 = .ok (.iload_n 2, 1) := by decide +kernel
theorem d167_21 : decode (zz_c 167) 21 = .ok (.iadd, 1) := by decide +kernel
theorem d167_22 : decode (zz_c 167) 22 = .ok (.iaload, 1) := by decide +kernel
theorem d167_23 : decode (zz_c 167) 23 = .ok (.iastore, 1) := by decide +kernel
theorem d167_24 : decode (zz_c 167) 24 = .ok (.iinc 2 1, 3) := by decide +kernel
theorem d167_27 : decode (zz_c 167) 27 = .ok (.goto (-25), 3) := by decide +kernel
theorem d167_30 : decode (zz_c 167) 30 = .ok (.iconst 0, 1) := by decide +kernel
theorem d167_31 : decode (zz_c 167) 31 = .ok (.istore_n 2, 1) := by decide +kernel
theorem d167_32 : decode (zz_c 167) 32 = .ok (.iload_n 2, 1) := by decide +kernel
theorem d167_33 : decode (zz_c 167) 33 = .ok (.aload_n 0, 1) := by decide +kernel
theorem d167_34 : decode (zz_c 167) 34 = .ok (.getfield 7, 3) := by decide +kernel
theorem d167_37 : decode (zz_c 167) 37 = .ok (.iconst 0, 1) := by decide +kernel
theorem d167_38 : decode (zz_c 167) 38 = .ok (.iaload, 1) := by decide +kernel
theorem d167_39 : decode (zz_c 167) 39 = .ok (.if_icmp .ge 19, 3) := by decide +kernel
theorem d167_42 : decode (zz_c 167) 42 = .ok (.iload_n 2, 1) := by decide +kernel
theorem d167_43 : decode (zz_c 167) 43 = .ok (.iload_n 1, 1) := by decide +kernel
theorem d167_44 : decode (zz_c 167) 44 = .ok (.if_icmp .eq 8, 3) := by decide +kernel
theorem d167_47 : decode (zz_c 167) 47 = .ok (.aload_n 0, 1) := by decide +kernel
theorem d167_48 : decode (zz_c 167) 48 = .ok (.iload_n 2, 1) := by decide +kernel
theorem d167_49 : decode (zz_c 167) 49 = .ok (.invokevirtual 89, 3) := by decide +kernel
theorem d167_52 : decode (zz_c 167) 52 = .ok (.iinc 2 1, 3) := by decide +kernel
theorem d167_55 : decode (zz_c 167) 55 = .ok (.goto (-23), 3) := by decide +kernel
theorem d167_58 : decode (zz_c 167) 58 = .ok (.iconst 0, 1) := by decide +kernel
theorem d167_59 : decode (zz_c 167) 59 = .ok (.istore_n 2, 1) := by decide +kernel
theorem d167_60 : decode (zz_c 167) 60 = .ok (.iload_n 2, 1) := by decide +kernel
theorem d167_61 : decode (zz_c 167) 61 = .ok (.aload_n 0, 1) := by decide +kernel
theorem d167_62 : decode (zz_c 167) 62 = .ok (.getfield 7, 3) := by decide +kernel
theorem d167_65 : decode (zz_c 167) 65 = .ok (.iconst 1, 1) := by decide +kernel
theorem d167_66 : decode (zz_c 167) 66 = .ok (.iaload, 1) := by decide +kernel
theorem d167_67 : decode (zz_c 167) 67 = .ok (.if_icmp .ge 61, 3) := by decide +kernel
theorem d167_70 : decode (zz_c 167) 70 = .ok (.aload_n 0, 1) := by decide +kernel
theorem d167_71 : decode (zz_c 167) 71 = .ok (.iload_n 2, 1) := by decide +kernel
theorem d167_72 : decode (zz_c 167) 72 = .ok (.invokevirtual 93, 3) := by decide +kernel
theorem d167_75 : decode (zz_c 167) 75 = .ok (.iconst 2, 1) := by decide +kernel
theorem d167_76 : decode (zz_c 167) 76 = .ok (.if_icmp .eq 6, 3) := by decide +kernel
theorem d167_79 : decode (zz_c 167) 79 = .ok (.goto 43, 3) := by decide +kernel
theorem d167_82 : decode (zz_c 167) 82 = .ok (.aload_n 0, 1) := by decide +kernel
theorem d167_83 : decode (zz_c 167) 83 = .ok (.aload_n 0, 1) := by decide +kernel
theorem d167_84 : decode (zz_c 167) 84 = .ok (.getfield 27, 3) := by decide +kernel
theorem d167_87 : decode (zz_c 167) 87 = .ok (.iload_n 2, 1) := by decide +kernel
theorem d167_88 : decode (zz_c 167) 88 = .ok (.invokevirtual 96, 3) := by decide +kernel
theorem d167_91 : decode (zz_c 167) 91 = .ok (.iconst 0, 1) := by decide +kernel
theorem d167_92 : decode (zz_c 167) 92 = .ok (.istore_n 3, 1) := by decide +kernel
theorem d167_93 : decode (zz_c 167) 93 = .ok (.iload_n 3, 1) := by decide +kernel
theorem d167_94 : decode (zz_c 167) 94 = .ok (.bipush 8, 2) := by decide +kernel
theorem d167_96 : decode (zz_c 167) 96 = .ok (.if_icmp .ge 26, 3) := by decide +kernel
theorem d167_99 : decode (zz_c 167) 99 = .ok (.aload_n 0, 1) := by decide +kernel
theorem d167_100 : decode (zz_c 167) 100 = .ok (.getfield 30, 3) := by decide +kernel
theorem d167_103 : decode (zz_c 167) 103 = .ok (.iload_n 3, 1) := by decide +kernel
theorem d167_104 : decode (zz_c 167) 104 = .ok (.dup2, 1) := by decide +kernel
theorem d167_105 : decode (zz_c 167) 105 = .ok (.iaload, 1) := by decide +kernel
theorem d167_106 : decode (zz_c 167) 106 = .ok (.aload_n 0, 1) := by decide +kernel
theorem d167_107 : decode (zz_c 167) 107 = .ok (.getfield 27, 3) := by decide +kernel
theorem d167_110 : decode (zz_c 167) 110 = .ok (.iload_n 3, 1) := by decide +kernel
theorem d167_111 : decode (zz_c 167) 111 = .ok (.iaload, 1) := by decide +kernel
theorem d167_112 : decode (zz_c 167) 112 = .ok (.iconst (-1), 1) := by decide +kernel
theorem d167_113 : decode (zz_c 167) 113 = .ok (.ixor, 1) := by decide +kernel
theorem d167_114 : decode (zz_c 167) 114 = .ok (.iand, 1) := by decide +kernel
theorem d167_115 : decode (zz_c 167) 115 = .ok (.iastore, 1) := by decide +kernel
theorem d167_116 : decode (zz_c 167) 116 = .ok (.iinc 3 1, 3) := by decide +kernel
theorem d167_119 : decode (zz_c 167) 119 = .ok (.goto (-26), 3) := by decide +kernel
theorem d167_122 : decode (zz_c 167) 122 = .ok (.iinc 2 1, 3) := by decide +kernel
theorem d167_125 : decode (zz_c 167) 125 = .ok (.goto (-65), 3) := by decide +kernel
theorem d167_128 : decode (zz_c 167) 128 = .ok (.return_, 1) := by decide +kernel
theorem x167_p0 : (∀ ls st h, zz_Y 167 (0, ls, st, h) = zz_Y 167 (1, ls, .int (nI 0) :: st, h)) ∧ (∀ l0 l1 l2 l3 x st h, zz_nl l1 = true → zz_Y 167 (1, [l0, l1, l2, l3], .int x :: st, h) = zz_Y 167 (2, [l0, l1, some (.int x), l3], st, h)) ∧ (∀ ls st h, zz_Y 167 (3, ls, st, h) = zz_Y 167 (5, ls, .int (nI 8) :: st, h)) ∧ (∀ ls a b st h, zz_Y 167 (5, ls, .int b :: .int a :: st, h) = if a < b then zz_Y 167 (8, ls, st, h) else zz_Y 167 (30, ls, st, h)) ∧ (∀ l1 l2 l3 x st h, zz_Y 167 (8, [some (.ref x), l1, l2, l3], st, h) = zz_Y 167 (9, [some (.ref x), l1, l2, l3], .ref x :: st, h)) ∧ (∀ ls a st h, zz_Y 167 (9, ls, .ref a :: st, h) = mo_gf (hp_g h a) 11 9 167 12 ls st h) ∧ (∀ l0 l1 l3 x st h, zz_Y 167 (12, [l0, l1, some (.int x), l3], st, h) = zz_Y 167 (13, [l0, l1, some (.int x), l3], .int x :: st, h)) ∧ (∀ l1 l2 l3 x st h, zz_Y 167 (13, [some (.ref x), l1, l2, l3], st, h) = zz_Y 167 (14, [some (.ref x), l1, l2, l3], .ref x :: st, h)) ∧ (∀ ls a st h, zz_Y 167 (14, ls, .ref a :: st, h) = mo_gf (hp_g h a) 11 0 167 17 ls st h) ∧ (∀ ls st h, zz_Y 167 (17, ls, st, h) = zz_Y 167 (20, ls, .int (nI 294) :: st, h)) ∧ (∀ l0 l1 l3 x st h, zz_Y 167 (20, [l0, l1, some (.int x), l3], st, h) = zz_Y 167 (21, [l0, l1, some (.int x), l3], .int x :: st, h)) ∧ (∀ ls a b st h, zz_Y 167 (21, ls, .int b :: .int a :: st, h) = zz_Y 167 (22, ls, .int (a + b) :: st, h)) ∧ (∀ ls a i st h, zz_Y 167 (22, ls, .int i :: .ref a :: st, h) = mo_ia (hp_g h a) i a 167 23 ls st h) ∧ (∀ ls a i x st h, zz_Y 167 (23, ls, .int x :: .int i :: .ref a :: st, h) = mo_is (hp_g h a) x i a 167 24 ls st h) ∧ (∀ l0 l1 l3 x st h, zz_nl l1 = true → zz_Y 167 (24, [l0, l1, some (.int x), l3], st, h) = zz_Y 167 (27, [l0, l1, some (.int (x + nI 1)), l3], st, h)) ∧ (∀ ls st h, zz_Y 167 (27, ls, st, h) = zz_Y 167 (2, ls, st, h)) ∧ (∀ ls st h, zz_Y 167 (30, ls, st, h) = zz_Y 167 (31, ls, .int (nI 0) :: st, h)) ∧ (∀ l0 l1 l2 l3 x st h, zz_nl l1 = true → zz_Y 167 (31, [l0, l1, l2, l3], .int x :: st, h) = zz_Y 167 (32, [l0, l1, some (.int x), l3], st, h)) ∧ (∀ l1 l2 l3 x st h, zz_Y 167 (33, [some (.ref x), l1, l2, l3], st, h) = zz_Y 167 (34, [some (.ref x), l1, l2, l3], .ref x :: st, h)) ∧ (∀ ls a st h, zz_Y 167 (34, ls, .ref a :: st, h) = mo_gf (hp_g h a) 11 0 167 37 ls st h) ∧ (∀ ls st h, zz_Y 167 (37, ls, st, h) = zz_Y 167 (38, ls, .int (nI 0) :: st, h)) ∧ (∀ ls a i st h, zz_Y 167 (38, ls, .int i :: .ref a :: st, h) = mo_ia (hp_g h a) i a 167 39 ls st h) ∧ (∀ ls a b st h, zz_Y 167 (39, ls, .int b :: .int a :: st, h) = if a < b then zz_Y 167 (42, ls, st, h) else zz_Y 167 (58, ls, st, h)) ∧ (∀ l0 l1 l3 x st h, zz_Y 167 (42, [l0, l1, some (.int x), l3], st, h) = zz_Y 167 (43, [l0, l1, some (.int x), l3], .int x :: st, h)) ∧ (∀ l0 l2 l3 x st h, zz_Y 167 (43, [l0, some (.int x), l2, l3], st, h) = zz_Y 167 (44, [l0, some (.int x), l2, l3], .int x :: st, h)) ∧ (∀ ls a b st h, zz_Y 167 (44, ls, .int b :: .int a :: st, h) = if a = b then zz_Y 167 (52, ls, st, h) else zz_Y 167 (47, ls, st, h)) ∧ (∀ l1 l2 l3 x st h, zz_Y 167 (47, [some (.ref x), l1, l2, l3], st, h) = zz_Y 167 (48, [some (.ref x), l1, l2, l3], .ref x :: st, h)) ∧ (∀ l0 l1 l3 x st h, zz_Y 167 (48, [l0, l1, some (.int x), l3], st, h) = zz_Y 167 (49, [l0, l1, some (.int x), l3], .int x :: st, h)) ∧ (∀ ls a0 a1 h, zz_Y 167 (49, ls, [a1, a0], h) = mo_k 167 52 ls [] (zz_run 168 [a0, a1] h)) ∧ (∀ l0 l1 l3 x st h, zz_nl l1 = true → zz_Y 167 (52, [l0, l1, some (.int x), l3], st, h) = zz_Y 167 (55, [l0, l1, some (.int (x + nI 1)), l3], st, h)) ∧ (∀ ls st h, zz_Y 167 (55, ls, st, h) = zz_Y 167 (32, ls, st, h)) ∧ (∀ ls st h, zz_Y 167 (58, ls, st, h) = zz_Y 167 (59, ls, .int (nI 0) :: st, h)) ∧ (∀ l0 l1 l2 l3 x st h, zz_nl l1 = true → zz_Y 167 (59, [l0, l1, l2, l3], .int x :: st, h) = zz_Y 167 (60, [l0, l1, some (.int x), l3], st, h)) ∧ (∀ l1 l2 l3 x st h, zz_Y 167 (61, [some (.ref x), l1, l2, l3], st, h) = zz_Y 167 (62, [some (.ref x), l1, l2, l3], .ref x :: st, h)) ∧ (∀ ls a st h, zz_Y 167 (62, ls, .ref a :: st, h) = mo_gf (hp_g h a) 11 0 167 65 ls st h) ∧ (∀ ls st h, zz_Y 167 (65, ls, st, h) = zz_Y 167 (66, ls, .int (nI 1) :: st, h)) ∧ (∀ ls a i st h, zz_Y 167 (66, ls, .int i :: .ref a :: st, h) = mo_ia (hp_g h a) i a 167 67 ls st h) ∧ (∀ ls a b st h, zz_Y 167 (67, ls, .int b :: .int a :: st, h) = if a < b then zz_Y 167 (70, ls, st, h) else zz_Y 167 (128, ls, st, h)) ∧ (∀ l1 l2 l3 x st h, zz_Y 167 (70, [some (.ref x), l1, l2, l3], st, h) = zz_Y 167 (71, [some (.ref x), l1, l2, l3], .ref x :: st, h)) ∧ (∀ l0 l1 l3 x st h, zz_Y 167 (71, [l0, l1, some (.int x), l3], st, h) = zz_Y 167 (72, [l0, l1, some (.int x), l3], .int x :: st, h)) ∧ (∀ ls a0 a1 h, zz_Y 167 (72, ls, [a1, a0], h) = mo_k 167 75 ls [] (zz_run 171 [a0, a1] h)) ∧ (∀ ls st h, zz_Y 167 (75, ls, st, h) = zz_Y 167 (76, ls, .int (nI 2) :: st, h)) ∧ (∀ ls a b st h, zz_Y 167 (76, ls, .int b :: .int a :: st, h) = if a = b then zz_Y 167 (82, ls, st, h) else zz_Y 167 (79, ls, st, h)) ∧ (∀ ls st h, zz_Y 167 (79, ls, st, h) = zz_Y 167 (122, ls, st, h)) ∧ (∀ l1 l2 l3 x st h, zz_Y 167 (82, [some (.ref x), l1, l2, l3], st, h) = zz_Y 167 (83, [some (.ref x), l1, l2, l3], .ref x :: st, h)) ∧ (∀ l1 l2 l3 x st h, zz_Y 167 (83, [some (.ref x), l1, l2, l3], st, h) = zz_Y 167 (84, [some (.ref x), l1, l2, l3], .ref x :: st, h)) ∧ (∀ ls a st h, zz_Y 167 (84, ls, .ref a :: st, h) = mo_gf (hp_g h a) 11 8 167 87 ls st h) ∧ (∀ l0 l1 l3 x st h, zz_Y 167 (87, [l0, l1, some (.int x), l3], st, h) = zz_Y 167 (88, [l0, l1, some (.int x), l3], .int x :: st, h)) ∧ (∀ ls a0 a1 a2 h, zz_Y 167 (88, ls, [a2, a1, a0], h) = mo_k 167 91 ls [] (zz_run 156 [a0, a1, a2] h)) ∧ (∀ ls st h, zz_Y 167 (91, ls, st, h) = zz_Y 167 (92, ls, .int (nI 0) :: st, h)) ∧ (∀ l0 l1 l2 l3 x st h, zz_nl l2 = true → zz_Y 167 (92, [l0, l1, l2, l3], .int x :: st, h) = zz_Y 167 (93, [l0, l1, l2, some (.int x)], st, h)) ∧ (∀ ls st h, zz_Y 167 (94, ls, st, h) = zz_Y 167 (96, ls, .int (nI 8) :: st, h)) ∧ (∀ ls a b st h, zz_Y 167 (96, ls, .int b :: .int a :: st, h) = if a < b then zz_Y 167 (99, ls, st, h) else zz_Y 167 (122, ls, st, h)) ∧ (∀ l1 l2 l3 x st h, zz_Y 167 (99, [some (.ref x), l1, l2, l3], st, h) = zz_Y 167 (100, [some (.ref x), l1, l2, l3], .ref x :: st, h)) ∧ (∀ ls a st h, zz_Y 167 (100, ls, .ref a :: st, h) = mo_gf (hp_g h a) 11 9 167 103 ls st h) ∧ (∀ l0 l1 l2 x st h, zz_Y 167 (103, [l0, l1, l2, some (.int x)], st, h) = zz_Y 167 (104, [l0, l1, l2, some (.int x)], .int x :: st, h)) ∧ (∀ ls a b st h, zz_Y 167 (104, ls, .int b :: .ref a :: st, h) = zz_Y 167 (105, ls, .int b :: .ref a :: .int b :: .ref a :: st, h)) ∧ (∀ ls a i st h, zz_Y 167 (105, ls, .int i :: .ref a :: st, h) = mo_ia (hp_g h a) i a 167 106 ls st h) ∧ (∀ l1 l2 l3 x st h, zz_Y 167 (106, [some (.ref x), l1, l2, l3], st, h) = zz_Y 167 (107, [some (.ref x), l1, l2, l3], .ref x :: st, h)) ∧ (∀ ls a st h, zz_Y 167 (107, ls, .ref a :: st, h) = mo_gf (hp_g h a) 11 8 167 110 ls st h) :=
  ⟨fun _ _ _ => xl_ic d167_0 (by decide +kernel),
   fun _ _ _ _ _ _ _ hc => xl_isn d167_1 xml167 (by decide) (zz_nl_s1 hc),
   fun _ _ _ => xl_bi d167_3 (by decide +kernel),
   fun _ _ _ _ _ => xl_icge d167_5 rfl,
   fun _ _ _ _ _ _ => xl_aln d167_8 rfl,
   fun _ _ _ _ => xl_gf d167_9 xco167 xf_11_30,
   fun _ _ _ _ _ _ => xl_iln d167_12 rfl,
   fun _ _ _ _ _ _ => xl_aln d167_13 rfl,
   fun _ _ _ _ => xl_gf d167_14 xco167 xf_11_7,
   fun _ _ _ => xl_si d167_17 (by decide +kernel),
   fun _ _ _ _ _ _ => xl_iln d167_20 rfl,
   fun _ _ _ _ _ => xl_iadd d167_21,
   fun _ _ _ _ _ => xl_ia d167_22,
   fun _ _ _ _ _ _ => xl_ist d167_23,
   fun _ _ _ _ _ _ hc => xl_inc d167_24 xml167 (by decide) rfl (by decide +kernel) (zz_nl_s1 hc),
   fun _ _ _ => xl_goto d167_27 rfl,
   fun _ _ _ => xl_ic d167_30 (by decide +kernel),
   fun _ _ _ _ _ _ _ hc => xl_isn d167_31 xml167 (by decide) (zz_nl_s1 hc),
   fun _ _ _ _ _ _ => xl_aln d167_33 rfl,
   fun _ _ _ _ => xl_gf d167_34 xco167 xf_11_7,
   fun _ _ _ => xl_ic d167_37 (by decide +kernel),
   fun _ _ _ _ _ => xl_ia d167_38,
   fun _ _ _ _ _ => xl_icge d167_39 rfl,
   fun _ _ _ _ _ _ => xl_iln d167_42 rfl,
   fun _ _ _ _ _ _ => xl_iln d167_43 rfl,
   fun _ _ _ _ _ => xl_iceq d167_44 rfl,
   fun _ _ _ _ _ _ => xl_aln d167_47 rfl,
   fun _ _ _ _ _ _ => xl_iln d167_48 rfl,
   fun ls a0 a1 h => xl_cv (As := [a0, a1]) (st := []) d167_49 xco167 xm_11_89 (congrArg Nat.succ xnp168) (by decide +kernel) rfl,
   fun _ _ _ _ _ _ hc => xl_inc d167_52 xml167 (by decide) rfl (by decide +kernel) (zz_nl_s1 hc),
   fun _ _ _ => xl_goto d167_55 rfl,
   fun _ _ _ => xl_ic d167_58 (by decide +kernel),
   fun _ _ _ _ _ _ _ hc => xl_isn d167_59 xml167 (by decide) (zz_nl_s1 hc),
   fun _ _ _ _ _ _ => xl_aln d167_61 rfl,
   fun _ _ _ _ => xl_gf d167_62 xco167 xf_11_7,
   fun _ _ _ => xl_ic d167_65 (by decide +kernel),
   fun _ _ _ _ _ => xl_ia d167_66,
   fun _ _ _ _ _ => xl_icge d167_67 rfl,
   fun _ _ _ _ _ _ => xl_aln d167_70 rfl,
   fun _ _ _ _ _ _ => xl_iln d167_71 rfl,
   fun ls a0 a1 h => xl_cv (As := [a0, a1]) (st := []) d167_72 xco167 xm_11_93 (congrArg Nat.succ xnp171) (by decide +kernel) rfl,
   fun _ _ _ => xl_ic d167_75 (by decide +kernel),
   fun _ _ _ _ _ => xl_iceq d167_76 rfl,
   fun _ _ _ => xl_goto d167_79 rfl,
   fun _ _ _ _ _ _ => xl_aln d167_82 rfl,
   fun _ _ _ _ _ _ => xl_aln d167_83 rfl,
   fun _ _ _ _ => xl_gf d167_84 xco167 xf_11_27,
   fun _ _ _ _ _ _ => xl_iln d167_87 rfl,
   fun ls a0 a1 a2 h => xl_cv (As := [a0, a1, a2]) (st := []) d167_88 xco167 xm_11_96 (congrArg Nat.succ xnp156) (by decide +kernel) rfl,
   fun _ _ _ => xl_ic d167_91 (by decide +kernel),
   fun _ _ _ _ _ _ _ hc => xl_isn d167_92 xml167 (by decide) (zz_nl_s1 hc),
   fun _ _ _ => xl_bi d167_94 (by decide +kernel),
   fun _ _ _ _ _ => xl_icge d167_96 rfl,
   fun _ _ _ _ _ _ => xl_aln d167_99 rfl,
   fun _ _ _ _ => xl_gf d167_100 xco167 xf_11_30,
   fun _ _ _ _ _ _ => xl_iln d167_103 rfl,
   fun _ _ _ _ _ => xl_dup2 d167_104,
   fun _ _ _ _ _ => xl_ia d167_105,
   fun _ _ _ _ _ _ => xl_aln d167_106 rfl,
   fun _ _ _ _ => xl_gf d167_107 xco167 xf_11_27⟩
theorem x167_p1 : (∀ l0 l1 l2 x st h, zz_Y 167 (110, [l0, l1, l2, some (.int x)], st, h) = zz_Y 167 (111, [l0, l1, l2, some (.int x)], .int x :: st, h)) ∧ (∀ ls a i st h, zz_Y 167 (111, ls, .int i :: .ref a :: st, h) = mo_ia (hp_g h a) i a 167 112 ls st h) ∧ (∀ ls st h, zz_Y 167 (112, ls, st, h) = zz_Y 167 (113, ls, .int (-1) :: st, h)) ∧ (∀ ls a b st h, zz_Y 167 (113, ls, .int b :: .int a :: st, h) = zz_Y 167 (114, ls, .int (a ^^^ b) :: st, h)) ∧ (∀ ls a b st h, zz_Y 167 (114, ls, .int b :: .int a :: st, h) = zz_Y 167 (115, ls, .int (a &&& b) :: st, h)) ∧ (∀ ls a i x st h, zz_Y 167 (115, ls, .int x :: .int i :: .ref a :: st, h) = mo_is (hp_g h a) x i a 167 116 ls st h) ∧ (∀ l0 l1 l2 x st h, zz_nl l2 = true → zz_Y 167 (116, [l0, l1, l2, some (.int x)], st, h) = zz_Y 167 (119, [l0, l1, l2, some (.int (x + nI 1))], st, h)) ∧ (∀ ls st h, zz_Y 167 (119, ls, st, h) = zz_Y 167 (93, ls, st, h)) ∧ (∀ l0 l1 l3 x st h, zz_nl l1 = true → zz_Y 167 (122, [l0, l1, some (.int x), l3], st, h) = zz_Y 167 (125, [l0, l1, some (.int (x + nI 1)), l3], st, h)) ∧ (∀ ls st h, zz_Y 167 (125, ls, st, h) = zz_Y 167 (60, ls, st, h)) ∧ (∀ ls h, zz_Y 167 (128, ls, [], h) = some (none, h)) :=
  ⟨fun _ _ _ _ _ _ => xl_iln d167_110 rfl,
   fun _ _ _ _ _ => xl_ia d167_111,
   fun _ _ _ => xl_ic d167_112 (by decide +kernel),
   fun _ _ _ _ _ => xl_ixor d167_113,
   fun _ _ _ _ _ => xl_iand d167_114,
   fun _ _ _ _ _ _ => xl_ist d167_115,
   fun _ _ _ _ _ _ hc => xl_inc d167_116 xml167 (by decide) rfl (by decide +kernel) (zz_nl_s1 hc),
   fun _ _ _ => xl_goto d167_119 rfl,
   fun _ _ _ _ _ _ hc => xl_inc d167_122 xml167 (by decide) rfl (by decide +kernel) (zz_nl_s1 hc),
   fun _ _ _ => xl_goto d167_125 rfl,
   fun _ _ => xl_r d167_128 xrt167⟩
theorem x167_c2 : ∀ l0 l1 l3 x st h, zz_Y 167 (2, [l0, l1, some (.int x), l3], st, h) = zz_Y 167 (3, [l0, l1, some (.int x), l3], .int x :: st, h) := fun _ _ _ _ _ _ => xl_iln d167_2 rfl
theorem x167_c32 : ∀ l0 l1 l3 x st h, zz_Y 167 (32, [l0, l1, some (.int x), l3], st, h) = zz_Y 167 (33, [l0, l1, some (.int x), l3], .int x :: st, h) := fun _ _ _ _ _ _ => xl_iln d167_32 rfl
theorem x167_c60 : ∀ l0 l1 l3 x st h, zz_Y 167 (60, [l0, l1, some (.int x), l3], st, h) = zz_Y 167 (61, [l0, l1, some (.int x), l3], .int x :: st, h) := fun _ _ _ _ _ _ => xl_iln d167_60 rfl
theorem x167_c93 : ∀ l0 l1 l2 x st h, zz_Y 167 (93, [l0, l1, l2, some (.int x)], st, h) = zz_Y 167 (94, [l0, l1, l2, some (.int x)], .int x :: st, h) := fun _ _ _ _ _ _ => xl_iln d167_93 rfl
/-! 168 FacetSieveModel.goesBy(I)V -/
theorem d168_0 : decode (zz_c 168) 0 = .ok (.aload_n 0, 1) := by decide +kernel
theorem d168_1 : decode (zz_c 168) 1 = .ok (.getfield 7, 3) := by decide +kernel
theorem d168_4 : decode (zz_c 168) 4 = .ok (.iload_n 1, 1) := by decide +kernel
theorem d168_5 : decode (zz_c 168) 5 = .ok (.invokestatic 100, 3) := by decide +kernel
theorem d168_8 : decode (zz_c 168) 8 = .ok (.iconst 1, 1) := by decide +kernel
theorem d168_9 : decode (zz_c 168) 9 = .ok (.iadd, 1) := by decide +kernel
theorem d168_10 : decode (zz_c 168) 10 = .ok (.iaload, 1) := by decide +kernel
theorem d168_11 : decode (zz_c 168) 11 = .ok (.ifCond .ne 7, 3) := by decide +kernel
theorem d168_14 : decode (zz_c 168) 14 = .ok (.iconst 1, 1) := by decide +kernel
theorem d168_15 : decode (zz_c 168) 15 = .ok (.goto 4, 3) := by decide +kernel
theorem d168_18 : decode (zz_c 168) 18 = .ok (.iconst 0, 1) := by decide +kernel
theorem d168_19 : decode (zz_c 168) 19 = .ok (.istore_n 2, 1) := by decide +kernel
theorem d168_20 : decode (zz_c 168) 20 = .ok (.iconst 0, 1) := by decide +kernel
theorem d168_21 : decode (zz_c 168) 21 = .ok (.istore_n 3, 1) := by decide +kernel
theorem d168_22 : decode (zz_c 168) 22 = .ok (.iconst 0, 1) := by decide +kernel
theorem d168_23 : decode (zz_c 168) 23 = .ok (.istore 4, 2) := by decide +kernel
theorem d168_25 : decode (zz_c 168) 25 = .ok (.iload 4, 2) := by decide +kernel
theorem d168_27 : decode (zz_c 168) 27 = .ok (.bipush 8, 2) := by decide +kernel
theorem d168_29 : decode (zz_c 168) 29 = .ok (.if_icmp .ge 25, 3) := by decide +kernel
theorem d168_32 : decode (zz_c 168) 32 = .ok (.aload_n 0, 1) := by decide +kernel
theorem d168_33 : decode (zz_c 168) 33 = .ok (.getfield 24, 3) := by decide +kernel
theorem d168_36 : decode (zz_c 168) 36 = .ok (.iload 4, 2) := by decide +kernel
theorem d168_38 : decode (zz_c 168) 38 = .ok (.iload_n 2, 1) := by decide +kernel
theorem d168_39 : decode (zz_c 168) 39 = .ok (.ifCond .eq 7, 3) := by decide +kernel
theorem d168_42 : decode (zz_c 168) 42 = .ok (.iconst 0, 1) := by decide +kernel
theorem d168_43 : decode (zz_c 168) 43 = .ok (.goto 4, 3) := by decide +kernel
theorem d168_46 : decode (zz_c 168) 46 = .ok (.iconst (-1), 1) := by decide +kernel
theorem d168_47 : decode (zz_c 168) 47 = .ok (.iastore, 1) := by decide +kernel
theorem d168_48 : decode (zz_c 168) 48 = .ok (.iinc 4 1, 3) := by decide +kernel
theorem d168_51 : decode (zz_c 168) 51 = .ok (.goto (-26), 3) := by decide +kernel
theorem d168_54 : decode (zz_c 168) 54 = .ok (.iconst 0, 1) := by decide +kernel
theorem d168_55 : decode (zz_c 168) 55 = .ok (.istore 4, 2) := by decide +kernel
theorem d168_57 : decode (zz_c 168) 57 = .ok (.iload 4, 2) := by decide +kernel
theorem d168_59 : decode (zz_c 168) 59 = .ok (.aload_n 0, 1) := by decide +kernel
theorem d168_60 : decode (zz_c 168) 60 = .ok (.getfield 7, 3) := by decide +kernel
theorem d168_63 : decode (zz_c 168) 63 = .ok (.iconst 1, 1) := by decide +kernel
theorem d168_64 : decode (zz_c 168) 64 = .ok (.iaload, 1) := by decide +kernel
theorem d168_65 : decode (zz_c 168) 65 = .ok (.if_icmp .ge 104, 3) := by decide +kernel
theorem d168_68 : decode (zz_c 168) 68 = .ok (.aload_n 0, 1) := by decide +kernel
theorem d168_69 : decode (zz_c 168) 69 = .ok (.iload 4, 2) := by decide +kernel
theorem d168_71 : decode (zz_c 168) 71 = .ok (.invokevirtual 103, 3) := by decide +kernel
theorem d168_74 : decode (zz_c 168) 74 = .ok (.iload_n 1, 1) := by decide +kernel
theorem d168_75 : decode (zz_c 168) 75 = .ok (.if_icmp .ne 88, 3) := by decide +kernel
theorem d168_78 : decode (zz_c 168) 78 = .ok (.aload_n 0, 1) := by decide +kernel
theorem d168_79 : decode (zz_c 168) 79 = .ok (.iload 4, 2) := by decide +kernel
theorem d168_81 : decode (zz_c 168) 81 = .ok (.invokevirtual 93, 3) := by decide +kernel
theorem d168_84 : decode (zz_c 168) 84 = .ok (.iconst 1, 1) := by decide +kernel
theorem d168_85 : decode (zz_c 168) 85 = .ok (.if_icmp .eq 6, 3) := by decide +kernel
theorem d168_88 : decode (zz_c 168) 88 = .ok (.goto 75, 3) := by decide +kernel
theorem d168_91 : decode (zz_c 168) 91 = .ok (.iconst 1, 1) := by decide +kernel
theorem d168_92 : decode (zz_c 168) 92 = .ok (.istore_n 3, 1) := by decide +kernel
theorem d168_93 : decode (zz_c 168) 93 = .ok (.aload_n 0, 1) := by decide +kernel
theorem d168_94 : decode (zz_c 168) 94 = .ok (.aload_n 0, 1) := by decide +kernel
theorem d168_95 : decode (zz_c 168) 95 = .ok (.getfield 27, 3) := by decide +kernel
theorem d168_98 : decode (zz_c 168) 98 = .ok (.iload 4, 2) := by decide +kernel
theorem d168_100 : decode (zz_c 168) 100 = .ok (.invokevirtual 96, 3) := by decide +kernel
theorem d168_103 : decode (zz_c 168) 103 = .ok (.iconst 0, 1) := by decide +kernel
theorem d168_104 : decode (zz_c 168) 104 = .ok (.istore 5, 2) := by decide +kernel
theorem d168_106 : decode (zz_c 168) 106 = .ok (.iload 5, 2) := by decide +kernel
theorem d168_108 : decode (zz_c 168) 108 = .ok (.bipush 8, 2) := by decide +kernel
theorem d168_110 : decode (zz_c 168) 110 = .ok (.if_icmp .ge 53, 3) := by decide +kernel
theorem d168_113 : decode (zz_c 168) 113 = .ok (.aload_n 0, 1) := by decide +kernel
theorem d168_114 : decode (zz_c 168) 114 = .ok (.getfield 24, 3) := by decide +kernel
theorem d168_117 : decode (zz_c 168) 117 = .ok (.iload 5, 2) := by decide +kernel
theorem d168_119 : decode (zz_c 168) 119 = .ok (.iload_n 2, 1) := by decide +kernel
theorem d168_120 : decode (zz_c 168) 120 = .ok (.ifCond .eq 21, 3) := by decide +kernel
theorem d168_123 : decode (zz_c 168) 123 = .ok (.aload_n 0, 1) := by decide +kernel
theorem d168_124 : decode (zz_c 168) 124 = .ok (.getfield 24, 3) := by decide +kernel
theorem d168_127 : decode (zz_c 168) 127 = .ok (.iload 5, 2) := by decide +kernel
theorem d168_129 : decode (zz_c 168) 129 = .ok (.iaload, 1) := by decide +kernel
theorem d168_130 : decode (zz_c 168) 130 = .ok (.aload_n 0, 1) := by decide +kernel
theorem d168_131 : decode (zz_c 168) 131 = .ok (.getfield 27, 3) := by decide +kernel
theorem d168_134 : decode (zz_c 168) 134 = .ok (.iload 5, 2) := by decide +kernel
theorem d168_136 : decode (zz_c 168) 136 = .ok (.iaload, 1) := by decide +kernel
theorem d168_137 : decode (zz_c 168) 137 = .ok (.ior, 1) := by decide +kernel
theorem d168_138 : decode (zz_c 168) 138 = .ok (.goto 18, 3) := by decide +kernel
theorem d168_141 : decode (zz_c 168) 141 = .ok (.aload_n 0, 1) := by decide +kernel
theorem d168_142 : decode (zz_c 168) 142 = .ok (.getfield 24, 3) := by decide +kernel
theorem d168_145 : decode (zz_c 168) 145 = .ok (.iload 5, 2) := by decide +kernel
theorem d168_147 : decode (zz_c 168) 147 = .ok (.iaload, 1) := by decide +kernel
theorem d168_148 : decode (zz_c 168) 148 = .ok (.aload_n 0, 1) := by decide +kernel
theorem d168_149 : decode (zz_c 168) 149 = .ok (.getfield 27, 3) := by decide +kernel
theorem d168_152 : decode (zz_c 168) 152 = .ok (.iload 5, 2) := by decide +kernel
theorem d168_154 : decode (zz_c 168) 154 = .ok (.iaload, 1) := by decide +kernel
theorem d168_155 : decode (zz_c 168) 155 = .ok (.iand, 1) := by decide +kernel
theorem d168_156 : decode (zz_c 168) 156 = .ok (.iastore, 1) := by decide +kernel
theorem d168_157 : decode (zz_c 168) 157 = .ok (.iinc 5 1, 3) := by decide +kernel
theorem d168_160 : decode (zz_c 168) 160 = .ok (.goto (-54), 3) := by decide +kernel
theorem d168_163 : decode (zz_c 168) 163 = .ok (.iinc 4 1, 3) := by decide +kernel
theorem d168_166 : decode (zz_c 168) 166 = .ok (.goto (-109), 3) := by decide +kernel
theorem d168_169 : decode (zz_c 168) 169 = .ok (.iconst 0, 1) := by decide +kernel
theorem d168_170 : decode (zz_c 168) 170 = .ok (.istore 4, 2) := by decide +kernel
theorem d168_172 : decode (zz_c 168) 172 = .ok (.iload 4, 2) := by decide +kernel
theorem d168_174 : decode (zz_c 168) 174 = .ok (.bipush 8, 2) := by decide +kernel
theorem d168_176 : decode (zz_c 168) 176 = .ok (.if_icmp .ge 30, 3) := by decide +kernel
theorem d168_179 : decode (zz_c 168) 179 = .ok (.iload_n 3, 1) := by decide +kernel
theorem d168_180 : decode (zz_c 168) 180 = .ok (.ifCond .eq 26, 3) := by decide +kernel
theorem d168_183 : decode (zz_c 168) 183 = .ok (.aload_n 0, 1) := by decide +kernel
theorem d168_184 : decode (zz_c 168) 184 = .ok (.getfield 30, 3) := by decide +kernel
theorem d168_187 : decode (zz_c 168) 187 = .ok (.iload 4, 2) := by decide +kernel
theorem d168_189 : decode (zz_c 168) 189 = .ok (.dup2, 1) := by decide +kernel
theorem d168_190 : decode (zz_c 168) 190 = .ok (.iaload, 1) := by decide +kernel
theorem d168_191 : decode (zz_c 168) 191 = .ok (.aload_n 0, 1) := by decide +kernel
theorem d168_192 : decode (zz_c 168) 192 = .ok (.getfield 24, 3) := by decide +kernel
theorem d168_195 : decode (zz_c 168) 195 = .ok (.iload 4, 2) := by decide +kernel
theorem d168_197 : decode (zz_c 168) 197 = .ok (.iaload, 1) := by decide +kernel
theorem d168_198 : decode (zz_c 168) 198 = .ok (.iand, 1) := by decide +kernel
theorem d168_199 : decode (zz_c 168) 199 = .ok (.iastore, 1) := by decide +kernel
theorem d168_200 : decode (zz_c 168) 200 = .ok (.iinc 4 1, 3) := by decide +kernel
theorem d168_203 : decode (zz_c 168) 203 = .ok (.goto (-31), 3) := by decide +kernel
theorem d168_206 : decode (zz_c 168) 206 = .ok (.return_, 1) := by decide +kernel
theorem x168_p0 : (∀ l1 l2 l3 l4 l5 x st h, zz_Y 168 (0, [some (.ref x), l1, l2, l3, l4, l5], st, h) = zz_Y 168 (1, [some (.ref x), l1, l2, l3, l4, l5], .ref x :: st, h)) ∧ (∀ ls a st h, zz_Y 168 (1, ls, .ref a :: st, h) = mo_gf (hp_g h a) 11 0 168 4 ls st h) ∧ (∀ l0 l2 l3 l4 l5 x st h, zz_Y 168 (4, [l0, some (.int x), l2, l3, l4, l5], st, h) = zz_Y 168 (5, [l0, some (.int x), l2, l3, l4, l5], .int x :: st, h)) ∧ (∀ ls a0 s0 h, zz_Y 168 (5, ls, [a0, s0], h) = mo_k 168 8 ls [s0] (zz_run 169 [a0] h)) ∧ (∀ ls st h, zz_Y 168 (8, ls, st, h) = zz_Y 168 (9, ls, .int (nI 1) :: st, h)) ∧ (∀ ls a b st h, zz_Y 168 (9, ls, .int b :: .int a :: st, h) = zz_Y 168 (10, ls, .int (a + b) :: st, h)) ∧ (∀ ls a i st h, zz_Y 168 (10, ls, .int i :: .ref a :: st, h) = mo_ia (hp_g h a) i a 168 11 ls st h) ∧ (∀ ls a st h, zz_Y 168 (11, ls, .int a :: st, h) = if a = nI 0 then zz_Y 168 (14, ls, st, h) else zz_Y 168 (18, ls, st, h)) ∧ (∀ ls st h, zz_Y 168 (14, ls, st, h) = zz_Y 168 (15, ls, .int (nI 1) :: st, h)) ∧ (∀ ls st h, zz_Y 168 (15, ls, st, h) = zz_Y 168 (19, ls, st, h)) ∧ (∀ ls st h, zz_Y 168 (18, ls, st, h) = zz_Y 168 (19, ls, .int (nI 0) :: st, h)) ∧ (∀ l0 l1 l2 l3 l4 l5 x st h, zz_nl l1 = true → zz_Y 168 (19, [l0, l1, l2, l3, l4, l5], .int x :: st, h) = zz_Y 168 (20, [l0, l1, some (.int x), l3, l4, l5], st, h)) ∧ (∀ ls st h, zz_Y 168 (20, ls, st, h) = zz_Y 168 (21, ls, .int (nI 0) :: st, h)) ∧ (∀ l0 l1 l2 l3 l4 l5 x st h, zz_nl l2 = true → zz_Y 168 (21, [l0, l1, l2, l3, l4, l5], .int x :: st, h) = zz_Y 168 (22, [l0, l1, l2, some (.int x), l4, l5], st, h)) ∧ (∀ ls st h, zz_Y 168 (22, ls, st, h) = zz_Y 168 (23, ls, .int (nI 0) :: st, h)) ∧ (∀ l0 l1 l2 l3 l4 l5 x st h, zz_nl l3 = true → zz_Y 168 (23, [l0, l1, l2, l3, l4, l5], .int x :: st, h) = zz_Y 168 (25, [l0, l1, l2, l3, some (.int x), l5], st, h)) ∧ (∀ ls st h, zz_Y 168 (27, ls, st, h) = zz_Y 168 (29, ls, .int (nI 8) :: st, h)) ∧ (∀ ls a b st h, zz_Y 168 (29, ls, .int b :: .int a :: st, h) = if a < b then zz_Y 168 (32, ls, st, h) else zz_Y 168 (54, ls, st, h)) ∧ (∀ l1 l2 l3 l4 l5 x st h, zz_Y 168 (32, [some (.ref x), l1, l2, l3, l4, l5], st, h) = zz_Y 168 (33, [some (.ref x), l1, l2, l3, l4, l5], .ref x :: st, h)) ∧ (∀ ls a st h, zz_Y 168 (33, ls, .ref a :: st, h) = mo_gf (hp_g h a) 11 7 168 36 ls st h) ∧ (∀ l0 l1 l2 l3 l5 x st h, zz_Y 168 (36, [l0, l1, l2, l3, some (.int x), l5], st, h) = zz_Y 168 (38, [l0, l1, l2, l3, some (.int x), l5], .int x :: st, h)) ∧ (∀ l0 l1 l3 l4 l5 x st h, zz_Y 168 (38, [l0, l1, some (.int x), l3, l4, l5], st, h) = zz_Y 168 (39, [l0, l1, some (.int x), l3, l4, l5], .int x :: st, h)) ∧ (∀ ls a st h, zz_Y 168 (39, ls, .int a :: st, h) = if a = nI 0 then zz_Y 168 (46, ls, st, h) else zz_Y 168 (42, ls, st, h)) ∧ (∀ ls st h, zz_Y 168 (42, ls, st, h) = zz_Y 168 (43, ls, .int (nI 0) :: st, h)) ∧ (∀ ls st h, zz_Y 168 (43, ls, st, h) = zz_Y 168 (47, ls, st, h)) ∧ (∀ ls st h, zz_Y 168 (46, ls, st, h) = zz_Y 168 (47, ls, .int (-1) :: st, h)) ∧ (∀ ls a i x st h, zz_Y 168 (47, ls, .int x :: .int i :: .ref a :: st, h) = mo_is (hp_g h a) x i a 168 48 ls st h) ∧ (∀ l0 l1 l2 l3 l5 x st h, zz_nl l3 = true → zz_Y 168 (48, [l0, l1, l2, l3, some (.int x), l5], st, h) = zz_Y 168 (51, [l0, l1, l2, l3, some (.int (x + nI 1)), l5], st, h)) ∧ (∀ ls st h, zz_Y 168 (51, ls, st, h) = zz_Y 168 (25, ls, st, h)) ∧ (∀ ls st h, zz_Y 168 (54, ls, st, h) = zz_Y 168 (55, ls, .int (nI 0) :: st, h)) ∧ (∀ l0 l1 l2 l3 l4 l5 x st h, zz_nl l3 = true → zz_Y 168 (55, [l0, l1, l2, l3, l4, l5], .int x :: st, h) = zz_Y 168 (57, [l0, l1, l2, l3, some (.int x), l5], st, h)) ∧ (∀ l1 l2 l3 l4 l5 x st h, zz_Y 168 (59, [some (.ref x), l1, l2, l3, l4, l5], st, h) = zz_Y 168 (60, [some (.ref x), l1, l2, l3, l4, l5], .ref x :: st, h)) ∧ (∀ ls a st h, zz_Y 168 (60, ls, .ref a :: st, h) = mo_gf (hp_g h a) 11 0 168 63 ls st h) ∧ (∀ ls st h, zz_Y 168 (63, ls, st, h) = zz_Y 168 (64, ls, .int (nI 1) :: st, h)) ∧ (∀ ls a i st h, zz_Y 168 (64, ls, .int i :: .ref a :: st, h) = mo_ia (hp_g h a) i a 168 65 ls st h) ∧ (∀ ls a b st h, zz_Y 168 (65, ls, .int b :: .int a :: st, h) = if a < b then zz_Y 168 (68, ls, st, h) else zz_Y 168 (169, ls, st, h)) ∧ (∀ l1 l2 l3 l4 l5 x st h, zz_Y 168 (68, [some (.ref x), l1, l2, l3, l4, l5], st, h) = zz_Y 168 (69, [some (.ref x), l1, l2, l3, l4, l5], .ref x :: st, h)) ∧ (∀ l0 l1 l2 l3 l5 x st h, zz_Y 168 (69, [l0, l1, l2, l3, some (.int x), l5], st, h) = zz_Y 168 (71, [l0, l1, l2, l3, some (.int x), l5], .int x :: st, h)) ∧ (∀ ls a0 a1 h, zz_Y 168 (71, ls, [a1, a0], h) = mo_k 168 74 ls [] (zz_run 170 [a0, a1] h)) ∧ (∀ l0 l2 l3 l4 l5 x st h, zz_Y 168 (74, [l0, some (.int x), l2, l3, l4, l5], st, h) = zz_Y 168 (75, [l0, some (.int x), l2, l3, l4, l5], .int x :: st, h)) ∧ (∀ ls a b st h, zz_Y 168 (75, ls, .int b :: .int a :: st, h) = if a = b then zz_Y 168 (78, ls, st, h) else zz_Y 168 (163, ls, st, h)) ∧ (∀ l1 l2 l3 l4 l5 x st h, zz_Y 168 (78, [some (.ref x), l1, l2, l3, l4, l5], st, h) = zz_Y 168 (79, [some (.ref x), l1, l2, l3, l4, l5], .ref x :: st, h)) ∧ (∀ l0 l1 l2 l3 l5 x st h, zz_Y 168 (79, [l0, l1, l2, l3, some (.int x), l5], st, h) = zz_Y 168 (81, [l0, l1, l2, l3, some (.int x), l5], .int x :: st, h)) ∧ (∀ ls a0 a1 h, zz_Y 168 (81, ls, [a1, a0], h) = mo_k 168 84 ls [] (zz_run 171 [a0, a1] h)) ∧ (∀ ls st h, zz_Y 168 (84, ls, st, h) = zz_Y 168 (85, ls, .int (nI 1) :: st, h)) ∧ (∀ ls a b st h, zz_Y 168 (85, ls, .int b :: .int a :: st, h) = if a = b then zz_Y 168 (91, ls, st, h) else zz_Y 168 (88, ls, st, h)) ∧ (∀ ls st h, zz_Y 168 (88, ls, st, h) = zz_Y 168 (163, ls, st, h)) ∧ (∀ ls st h, zz_Y 168 (91, ls, st, h) = zz_Y 168 (92, ls, .int (nI 1) :: st, h)) ∧ (∀ l0 l1 l2 l3 l4 l5 x st h, zz_nl l2 = true → zz_Y 168 (92, [l0, l1, l2, l3, l4, l5], .int x :: st, h) = zz_Y 168 (93, [l0, l1, l2, some (.int x), l4, l5], st, h)) ∧ (∀ l1 l2 l3 l4 l5 x st h, zz_Y 168 (93, [some (.ref x), l1, l2, l3, l4, l5], st, h) = zz_Y 168 (94, [some (.ref x), l1, l2, l3, l4, l5], .ref x :: st, h)) ∧ (∀ l1 l2 l3 l4 l5 x st h, zz_Y 168 (94, [some (.ref x), l1, l2, l3, l4, l5], st, h) = zz_Y 168 (95, [some (.ref x), l1, l2, l3, l4, l5], .ref x :: st, h)) ∧ (∀ ls a st h, zz_Y 168 (95, ls, .ref a :: st, h) = mo_gf (hp_g h a) 11 8 168 98 ls st h) ∧ (∀ l0 l1 l2 l3 l5 x st h, zz_Y 168 (98, [l0, l1, l2, l3, some (.int x), l5], st, h) = zz_Y 168 (100, [l0, l1, l2, l3, some (.int x), l5], .int x :: st, h)) ∧ (∀ ls a0 a1 a2 h, zz_Y 168 (100, ls, [a2, a1, a0], h) = mo_k 168 103 ls [] (zz_run 156 [a0, a1, a2] h)) ∧ (∀ ls st h, zz_Y 168 (103, ls, st, h) = zz_Y 168 (104, ls, .int (nI 0) :: st, h)) ∧ (∀ l0 l1 l2 l3 l4 l5 x st h, zz_nl l4 = true → zz_Y 168 (104, [l0, l1, l2, l3, l4, l5], .int x :: st, h) = zz_Y 168 (106, [l0, l1, l2, l3, l4, some (.int x)], st, h)) ∧ (∀ ls st h, zz_Y 168 (108, ls, st, h) = zz_Y 168 (110, ls, .int (nI 8) :: st, h)) ∧ (∀ ls a b st h, zz_Y 168 (110, ls, .int b :: .int a :: st, h) = if a < b then zz_Y 168 (113, ls, st, h) else zz_Y 168 (163, ls, st, h)) ∧ (∀ l1 l2 l3 l4 l5 x st h, zz_Y 168 (113, [some (.ref x), l1, l2, l3, l4, l5], st, h) = zz_Y 168 (114, [some (.ref x), l1, l2, l3, l4, l5], .ref x :: st, h)) ∧ (∀ ls a st h, zz_Y 168 (114, ls, .ref a :: st, h) = mo_gf (hp_g h a) 11 7 168 117 ls st h) :=
  ⟨fun _ _ _ _ _ _ _ _ => xl_aln d168_0 rfl,
   fun _ _ _ _ => xl_gf d168_1 xco168 xf_11_7,
   fun _ _ _ _ _ _ _ _ => xl_iln d168_4 rfl,
   fun ls a0 s0 h => xl_cs (As := [a0]) (st := [s0]) d168_5 xco168 xm_11_100 xnp169 (by decide +kernel) rfl,
   fun _ _ _ => xl_ic d168_8 (by decide +kernel),
   fun _ _ _ _ _ => xl_iadd d168_9,
   fun _ _ _ _ _ => xl_ia d168_10,
   fun _ _ _ _ => xl_ifne d168_11 rfl,
   fun _ _ _ => xl_ic d168_14 (by decide +kernel),
   fun _ _ _ => xl_goto d168_15 rfl,
   fun _ _ _ => xl_ic d168_18 (by decide +kernel),
   fun _ _ _ _ _ _ _ _ _ hc => xl_isn d168_19 xml168 (by decide) (zz_nl_s1 hc),
   fun _ _ _ => xl_ic d168_20 (by decide +kernel),
   fun _ _ _ _ _ _ _ _ _ hc => xl_isn d168_21 xml168 (by decide) (zz_nl_s1 hc),
   fun _ _ _ => xl_ic d168_22 (by decide +kernel),
   fun _ _ _ _ _ _ _ _ _ hc => xl_is d168_23 xml168 (by decide) (zz_nl_s1 hc),
   fun _ _ _ => xl_bi d168_27 (by decide +kernel),
   fun _ _ _ _ _ => xl_icge d168_29 rfl,
   fun _ _ _ _ _ _ _ _ => xl_aln d168_32 rfl,
   fun _ _ _ _ => xl_gf d168_33 xco168 xf_11_24,
   fun _ _ _ _ _ _ _ _ => xl_il d168_36 rfl,
   fun _ _ _ _ _ _ _ _ => xl_iln d168_38 rfl,
   fun _ _ _ _ => xl_ifeq d168_39 rfl,
   fun _ _ _ => xl_ic d168_42 (by decide +kernel),
   fun _ _ _ => xl_goto d168_43 rfl,
   fun _ _ _ => xl_ic d168_46 (by decide +kernel),
   fun _ _ _ _ _ _ => xl_ist d168_47,
   fun _ _ _ _ _ _ _ _ hc => xl_inc d168_48 xml168 (by decide) rfl (by decide +kernel) (zz_nl_s1 hc),
   fun _ _ _ => xl_goto d168_51 rfl,
   fun _ _ _ => xl_ic d168_54 (by decide +kernel),
   fun _ _ _ _ _ _ _ _ _ hc => xl_is d168_55 xml168 (by decide) (zz_nl_s1 hc),
   fun _ _ _ _ _ _ _ _ => xl_aln d168_59 rfl,
   fun _ _ _ _ => xl_gf d168_60 xco168 xf_11_7,
   fun _ _ _ => xl_ic d168_63 (by decide +kernel),
   fun _ _ _ _ _ => xl_ia d168_64,
   fun _ _ _ _ _ => xl_icge d168_65 rfl,
   fun _ _ _ _ _ _ _ _ => xl_aln d168_68 rfl,
   fun _ _ _ _ _ _ _ _ => xl_il d168_69 rfl,
   fun ls a0 a1 h => xl_cv (As := [a0, a1]) (st := []) d168_71 xco168 xm_11_103 (congrArg Nat.succ xnp170) (by decide +kernel) rfl,
   fun _ _ _ _ _ _ _ _ => xl_iln d168_74 rfl,
   fun _ _ _ _ _ => xl_icne d168_75 rfl,
   fun _ _ _ _ _ _ _ _ => xl_aln d168_78 rfl,
   fun _ _ _ _ _ _ _ _ => xl_il d168_79 rfl,
   fun ls a0 a1 h => xl_cv (As := [a0, a1]) (st := []) d168_81 xco168 xm_11_93 (congrArg Nat.succ xnp171) (by decide +kernel) rfl,
   fun _ _ _ => xl_ic d168_84 (by decide +kernel),
   fun _ _ _ _ _ => xl_iceq d168_85 rfl,
   fun _ _ _ => xl_goto d168_88 rfl,
   fun _ _ _ => xl_ic d168_91 (by decide +kernel),
   fun _ _ _ _ _ _ _ _ _ hc => xl_isn d168_92 xml168 (by decide) (zz_nl_s1 hc),
   fun _ _ _ _ _ _ _ _ => xl_aln d168_93 rfl,
   fun _ _ _ _ _ _ _ _ => xl_aln d168_94 rfl,
   fun _ _ _ _ => xl_gf d168_95 xco168 xf_11_27,
   fun _ _ _ _ _ _ _ _ => xl_il d168_98 rfl,
   fun ls a0 a1 a2 h => xl_cv (As := [a0, a1, a2]) (st := []) d168_100 xco168 xm_11_96 (congrArg Nat.succ xnp156) (by decide +kernel) rfl,
   fun _ _ _ => xl_ic d168_103 (by decide +kernel),
   fun _ _ _ _ _ _ _ _ _ hc => xl_is d168_104 xml168 (by decide) (zz_nl_s1 hc),
   fun _ _ _ => xl_bi d168_108 (by decide +kernel),
   fun _ _ _ _ _ => xl_icge d168_110 rfl,
   fun _ _ _ _ _ _ _ _ => xl_aln d168_113 rfl,
   fun _ _ _ _ => xl_gf d168_114 xco168 xf_11_24⟩
theorem x168_p1 : (∀ l0 l1 l2 l3 l4 x st h, zz_Y 168 (117, [l0, l1, l2, l3, l4, some (.int x)], st, h) = zz_Y 168 (119, [l0, l1, l2, l3, l4, some (.int x)], .int x :: st, h)) ∧ (∀ l0 l1 l3 l4 l5 x st h, zz_Y 168 (119, [l0, l1, some (.int x), l3, l4, l5], st, h) = zz_Y 168 (120, [l0, l1, some (.int x), l3, l4, l5], .int x :: st, h)) ∧ (∀ ls a st h, zz_Y 168 (120, ls, .int a :: st, h) = if a = nI 0 then zz_Y 168 (141, ls, st, h) else zz_Y 168 (123, ls, st, h)) ∧ (∀ l1 l2 l3 l4 l5 x st h, zz_Y 168 (123, [some (.ref x), l1, l2, l3, l4, l5], st, h) = zz_Y 168 (124, [some (.ref x), l1, l2, l3, l4, l5], .ref x :: st, h)) ∧ (∀ ls a st h, zz_Y 168 (124, ls, .ref a :: st, h) = mo_gf (hp_g h a) 11 7 168 127 ls st h) ∧ (∀ l0 l1 l2 l3 l4 x st h, zz_Y 168 (127, [l0, l1, l2, l3, l4, some (.int x)], st, h) = zz_Y 168 (129, [l0, l1, l2, l3, l4, some (.int x)], .int x :: st, h)) ∧ (∀ ls a i st h, zz_Y 168 (129, ls, .int i :: .ref a :: st, h) = mo_ia (hp_g h a) i a 168 130 ls st h) ∧ (∀ l1 l2 l3 l4 l5 x st h, zz_Y 168 (130, [some (.ref x), l1, l2, l3, l4, l5], st, h) = zz_Y 168 (131, [some (.ref x), l1, l2, l3, l4, l5], .ref x :: st, h)) ∧ (∀ ls a st h, zz_Y 168 (131, ls, .ref a :: st, h) = mo_gf (hp_g h a) 11 8 168 134 ls st h) ∧ (∀ l0 l1 l2 l3 l4 x st h, zz_Y 168 (134, [l0, l1, l2, l3, l4, some (.int x)], st, h) = zz_Y 168 (136, [l0, l1, l2, l3, l4, some (.int x)], .int x :: st, h)) ∧ (∀ ls a i st h, zz_Y 168 (136, ls, .int i :: .ref a :: st, h) = mo_ia (hp_g h a) i a 168 137 ls st h) ∧ (∀ ls a b st h, zz_Y 168 (137, ls, .int b :: .int a :: st, h) = zz_Y 168 (138, ls, .int (a ||| b) :: st, h)) ∧ (∀ ls st h, zz_Y 168 (138, ls, st, h) = zz_Y 168 (156, ls, st, h)) ∧ (∀ l1 l2 l3 l4 l5 x st h, zz_Y 168 (141, [some (.ref x), l1, l2, l3, l4, l5], st, h) = zz_Y 168 (142, [some (.ref x), l1, l2, l3, l4, l5], .ref x :: st, h)) ∧ (∀ ls a st h, zz_Y 168 (142, ls, .ref a :: st, h) = mo_gf (hp_g h a) 11 7 168 145 ls st h) ∧ (∀ l0 l1 l2 l3 l4 x st h, zz_Y 168 (145, [l0, l1, l2, l3, l4, some (.int x)], st, h) = zz_Y 168 (147, [l0, l1, l2, l3, l4, some (.int x)], .int x :: st, h)) ∧ (∀ ls a i st h, zz_Y 168 (147, ls, .int i :: .ref a :: st, h) = mo_ia (hp_g h a) i a 168 148 ls st h) ∧ (∀ l1 l2 l3 l4 l5 x st h, zz_Y 168 (148, [some (.ref x), l1, l2, l3, l4, l5], st, h) = zz_Y 168 (149, [some (.ref x), l1, l2, l3, l4, l5], .ref x :: st, h)) ∧ (∀ ls a st h, zz_Y 168 (149, ls, .ref a :: st, h) = mo_gf (hp_g h a) 11 8 168 152 ls st h) ∧ (∀ l0 l1 l2 l3 l4 x st h, zz_Y 168 (152, [l0, l1, l2, l3, l4, some (.int x)], st, h) = zz_Y 168 (154, [l0, l1, l2, l3, l4, some (.int x)], .int x :: st, h)) ∧ (∀ ls a i st h, zz_Y 168 (154, ls, .int i :: .ref a :: st, h) = mo_ia (hp_g h a) i a 168 155 ls st h) ∧ (∀ ls a b st h, zz_Y 168 (155, ls, .int b :: .int a :: st, h) = zz_Y 168 (156, ls, .int (a &&& b) :: st, h)) ∧ (∀ ls a i x st h, zz_Y 168 (156, ls, .int x :: .int i :: .ref a :: st, h) = mo_is (hp_g h a) x i a 168 157 ls st h) ∧ (∀ l0 l1 l2 l3 l4 x st h, zz_nl l4 = true → zz_Y 168 (157, [l0, l1, l2, l3, l4, some (.int x)], st, h) = zz_Y 168 (160, [l0, l1, l2, l3, l4, some (.int (x + nI 1))], st, h)) ∧ (∀ ls st h, zz_Y 168 (160, ls, st, h) = zz_Y 168 (106, ls, st, h)) ∧ (∀ l0 l1 l2 l3 l5 x st h, zz_nl l3 = true → zz_Y 168 (163, [l0, l1, l2, l3, some (.int x), l5], st, h) = zz_Y 168 (166, [l0, l1, l2, l3, some (.int (x + nI 1)), l5], st, h)) ∧ (∀ ls st h, zz_Y 168 (166, ls, st, h) = zz_Y 168 (57, ls, st, h)) ∧ (∀ ls st h, zz_Y 168 (169, ls, st, h) = zz_Y 168 (170, ls, .int (nI 0) :: st, h)) ∧ (∀ l0 l1 l2 l3 l4 l5 x st h, zz_nl l3 = true → zz_Y 168 (170, [l0, l1, l2, l3, l4, l5], .int x :: st, h) = zz_Y 168 (172, [l0, l1, l2, l3, some (.int x), l5], st, h)) ∧ (∀ ls st h, zz_Y 168 (174, ls, st, h) = zz_Y 168 (176, ls, .int (nI 8) :: st, h)) ∧ (∀ ls a b st h, zz_Y 168 (176, ls, .int b :: .int a :: st, h) = if a < b then zz_Y 168 (179, ls, st, h) else zz_Y 168 (206, ls, st, h)) ∧ (∀ l0 l1 l2 l4 l5 x st h, zz_Y 168 (179, [l0, l1, l2, some (.int x), l4, l5], st, h) = zz_Y 168 (180, [l0, l1, l2, some (.int x), l4, l5], .int x :: st, h)) ∧ (∀ ls a st h, zz_Y 168 (180, ls, .int a :: st, h) = if a = nI 0 then zz_Y 168 (206, ls, st, h) else zz_Y 168 (183, ls, st, h)) ∧ (∀ l1 l2 l3 l4 l5 x st h, zz_Y 168 (183, [some (.ref x), l1, l2, l3, l4, l5], st, h) = zz_Y 168 (184, [some (.ref x), l1, l2, l3, l4, l5], .ref x :: st, h)) ∧ (∀ ls a st h, zz_Y 168 (184, ls, .ref a :: st, h) = mo_gf (hp_g h a) 11 9 168 187 ls st h) ∧ (∀ l0 l1 l2 l3 l5 x st h, zz_Y 168 (187, [l0, l1, l2, l3, some (.int x), l5], st, h) = zz_Y 168 (189, [l0, l1, l2, l3, some (.int x), l5], .int x :: st, h)) ∧ (∀ ls a b st h, zz_Y 168 (189, ls, .int b :: .ref a :: st, h) = zz_Y 168 (190, ls, .int b :: .ref a :: .int b :: .ref a :: st, h)) ∧ (∀ ls a i st h, zz_Y 168 (190, ls, .int i :: .ref a :: st, h) = mo_ia (hp_g h a) i a 168 191 ls st h) ∧ (∀ l1 l2 l3 l4 l5 x st h, zz_Y 168 (191, [some (.ref x), l1, l2, l3, l4, l5], st, h) = zz_Y 168 (192, [some (.ref x), l1, l2, l3, l4, l5], .ref x :: st, h)) ∧ (∀ ls a st h, zz_Y 168 (192, ls, .ref a :: st, h) = mo_gf (hp_g h a) 11 7 168 195 ls st h) ∧ (∀ l0 l1 l2 l3 l5 x st h, zz_Y 168 (195, [l0, l1, l2, l3, some (.int x), l5], st, h) = zz_Y 168 (197, [l0, l1, l2, l3, some (.int x), l5], .int x :: st, h)) ∧ (∀ ls a i st h, zz_Y 168 (197, ls, .int i :: .ref a :: st, h) = mo_ia (hp_g h a) i a 168 198 ls st h) ∧ (∀ ls a b st h, zz_Y 168 (198, ls, .int b :: .int a :: st, h) = zz_Y 168 (199, ls, .int (a &&& b) :: st, h)) ∧ (∀ ls a i x st h, zz_Y 168 (199, ls, .int x :: .int i :: .ref a :: st, h) = mo_is (hp_g h a) x i a 168 200 ls st h) ∧ (∀ l0 l1 l2 l3 l5 x st h, zz_nl l3 = true → zz_Y 168 (200, [l0, l1, l2, l3, some (.int x), l5], st, h) = zz_Y 168 (203, [l0, l1, l2, l3, some (.int (x + nI 1)), l5], st, h)) ∧ (∀ ls st h, zz_Y 168 (203, ls, st, h) = zz_Y 168 (172, ls, st, h)) ∧ (∀ ls h, zz_Y 168 (206, ls, [], h) = some (none, h)) :=
  ⟨fun _ _ _ _ _ _ _ _ => xl_il d168_117 rfl,
   fun _ _ _ _ _ _ _ _ => xl_iln d168_119 rfl,
   fun _ _ _ _ => xl_ifeq d168_120 rfl,
   fun _ _ _ _ _ _ _ _ => xl_aln d168_123 rfl,
   fun _ _ _ _ => xl_gf d168_124 xco168 xf_11_24,
   fun _ _ _ _ _ _ _ _ => xl_il d168_127 rfl,
   fun _ _ _ _ _ => xl_ia d168_129,
   fun _ _ _ _ _ _ _ _ => xl_aln d168_130 rfl,
   fun _ _ _ _ => xl_gf d168_131 xco168 xf_11_27,
   fun _ _ _ _ _ _ _ _ => xl_il d168_134 rfl,
   fun _ _ _ _ _ => xl_ia d168_136,
   fun _ _ _ _ _ => xl_ior d168_137,
   fun _ _ _ => xl_goto d168_138 rfl,
   fun _ _ _ _ _ _ _ _ => xl_aln d168_141 rfl,
   fun _ _ _ _ => xl_gf d168_142 xco168 xf_11_24,
   fun _ _ _ _ _ _ _ _ => xl_il d168_145 rfl,
   fun _ _ _ _ _ => xl_ia d168_147,
   fun _ _ _ _ _ _ _ _ => xl_aln d168_148 rfl,
   fun _ _ _ _ => xl_gf d168_149 xco168 xf_11_27,
   fun _ _ _ _ _ _ _ _ => xl_il d168_152 rfl,
   fun _ _ _ _ _ => xl_ia d168_154,
   fun _ _ _ _ _ => xl_iand d168_155,
   fun _ _ _ _ _ _ => xl_ist d168_156,
   fun _ _ _ _ _ _ _ _ hc => xl_inc d168_157 xml168 (by decide) rfl (by decide +kernel) (zz_nl_s1 hc),
   fun _ _ _ => xl_goto d168_160 rfl,
   fun _ _ _ _ _ _ _ _ hc => xl_inc d168_163 xml168 (by decide) rfl (by decide +kernel) (zz_nl_s1 hc),
   fun _ _ _ => xl_goto d168_166 rfl,
   fun _ _ _ => xl_ic d168_169 (by decide +kernel),
   fun _ _ _ _ _ _ _ _ _ hc => xl_is d168_170 xml168 (by decide) (zz_nl_s1 hc),
   fun _ _ _ => xl_bi d168_174 (by decide +kernel),
   fun _ _ _ _ _ => xl_icge d168_176 rfl,
   fun _ _ _ _ _ _ _ _ => xl_iln d168_179 rfl,
   fun _ _ _ _ => xl_ifeq d168_180 rfl,
   fun _ _ _ _ _ _ _ _ => xl_aln d168_183 rfl,
   fun _ _ _ _ => xl_gf d168_184 xco168 xf_11_30,
   fun _ _ _ _ _ _ _ _ => xl_il d168_187 rfl,
   fun _ _ _ _ _ => xl_dup2 d168_189,
   fun _ _ _ _ _ => xl_ia d168_190,
   fun _ _ _ _ _ _ _ _ => xl_aln d168_191 rfl,
   fun _ _ _ _ => xl_gf d168_192 xco168 xf_11_24,
   fun _ _ _ _ _ _ _ _ => xl_il d168_195 rfl,
   fun _ _ _ _ _ => xl_ia d168_197,
   fun _ _ _ _ _ => xl_iand d168_198,
   fun _ _ _ _ _ _ => xl_ist d168_199,
   fun _ _ _ _ _ _ _ _ hc => xl_inc d168_200 xml168 (by decide) rfl (by decide +kernel) (zz_nl_s1 hc),
   fun _ _ _ => xl_goto d168_203 rfl,
   fun _ _ => xl_r d168_206 xrt168⟩
theorem x168_c25 : ∀ l0 l1 l2 l3 l5 x st h, zz_Y 168 (25, [l0, l1, l2, l3, some (.int x), l5], st, h) = zz_Y 168 (27, [l0, l1, l2, l3, some (.int x), l5], .int x :: st, h) := fun _ _ _ _ _ _ _ _ => xl_il d168_25 rfl
theorem x168_c57 : ∀ l0 l1 l2 l3 l5 x st h, zz_Y 168 (57, [l0, l1, l2, l3, some (.int x), l5], st, h) = zz_Y 168 (59, [l0, l1, l2, l3, some (.int x), l5], .int x :: st, h) := fun _ _ _ _ _ _ _ _ => xl_il d168_57 rfl
theorem x168_c106 : ∀ l0 l1 l2 l3 l4 x st h, zz_Y 168 (106, [l0, l1, l2, l3, l4, some (.int x)], st, h) = zz_Y 168 (108, [l0, l1, l2, l3, l4, some (.int x)], .int x :: st, h) := fun _ _ _ _ _ _ _ _ => xl_il d168_106 rfl
theorem x168_c172 : ∀ l0 l1 l2 l3 l5 x st h, zz_Y 168 (172, [l0, l1, l2, l3, some (.int x), l5], st, h) = zz_Y 168 (174, [l0, l1, l2, l3, some (.int x), l5], .int x :: st, h) := fun _ _ _ _ _ _ _ _ => xl_il d168_172 rfl
/-! 169 FacetSieveModel.headAt(I)I -/
theorem d169_0 : decode (zz_c 169) 0 = .ok (.bipush 10, 2) := by decide +kernel
theorem d169_2 : decode (zz_c 169) 2 = .ok (.bipush 11, 2) := by decide +kernel
theorem d169_4 : decode (zz_c 169) 4 = .ok (.iload_n 0, 1) := by decide +kernel
theorem d169_5 : decode (zz_c 169) 5 = .ok (.imul, 1) := by decide +kernel
theorem d169_6 : decode (zz_c 169) 6 = .ok (.iadd, 1) := by decide +kernel
theorem d169_7 : decode (zz_c 169) 7 = .ok (.ireturn, 1) := by decide +kernel
theorem x169 : (∀ ls st h, zz_Y 169 (0, ls, st, h) = zz_Y 169 (2, ls, .int (nI 10) :: st, h)) ∧ (∀ ls st h, zz_Y 169 (2, ls, st, h) = zz_Y 169 (4, ls, .int (nI 11) :: st, h)) ∧ (∀ x st h, zz_Y 169 (4, [some (.int x)], st, h) = zz_Y 169 (5, [some (.int x)], .int x :: st, h)) ∧ (∀ ls a b st h, zz_Y 169 (5, ls, .int b :: .int a :: st, h) = zz_Y 169 (6, ls, .int (a * b) :: st, h)) ∧ (∀ ls a b st h, zz_Y 169 (6, ls, .int b :: .int a :: st, h) = zz_Y 169 (7, ls, .int (a + b) :: st, h)) ∧ (∀ ls v h, zz_Y 169 (7, ls, [.int v], h) = some (some (.int v), h)) :=
  ⟨fun _ _ _ => xl_bi d169_0 (by decide +kernel),
   fun _ _ _ => xl_bi d169_2 (by decide +kernel),
   fun _ _ _ => xl_iln d169_4 rfl,
   fun _ _ _ _ _ => xl_imul d169_5,
   fun _ _ _ _ _ => xl_iadd d169_6,
   fun _ _ _ => xl_iri d169_7 xrt169⟩
/-! 170 FacetSieveModel.ofHead(I)I -/
theorem d170_0 : decode (zz_c 170) 0 = .ok (.aload_n 0, 1) := by decide +kernel
theorem d170_1 : decode (zz_c 170) 1 = .ok (.getfield 7, 3) := by decide +kernel
theorem d170_4 : decode (zz_c 170) 4 = .ok (.iload_n 1, 1) := by decide +kernel
theorem d170_5 : decode (zz_c 170) 5 = .ok (.invokestatic 77, 3) := by decide +kernel
theorem d170_8 : decode (zz_c 170) 8 = .ok (.iconst 0, 1) := by decide +kernel
theorem d170_9 : decode (zz_c 170) 9 = .ok (.iadd, 1) := by decide +kernel
theorem d170_10 : decode (zz_c 170) 10 = .ok (.iaload, 1) := by decide +kernel
theorem d170_11 : decode (zz_c 170) 11 = .ok (.ireturn, 1) := by decide +kernel
theorem x170 : (∀ l1 x st h, zz_Y 170 (0, [some (.ref x), l1], st, h) = zz_Y 170 (1, [some (.ref x), l1], .ref x :: st, h)) ∧ (∀ ls a st h, zz_Y 170 (1, ls, .ref a :: st, h) = mo_gf (hp_g h a) 11 0 170 4 ls st h) ∧ (∀ l0 x st h, zz_Y 170 (4, [l0, some (.int x)], st, h) = zz_Y 170 (5, [l0, some (.int x)], .int x :: st, h)) ∧ (∀ ls a0 s0 h, zz_Y 170 (5, ls, [a0, s0], h) = mo_k 170 8 ls [s0] (zz_run 158 [a0] h)) ∧ (∀ ls st h, zz_Y 170 (8, ls, st, h) = zz_Y 170 (9, ls, .int (nI 0) :: st, h)) ∧ (∀ ls a b st h, zz_Y 170 (9, ls, .int b :: .int a :: st, h) = zz_Y 170 (10, ls, .int (a + b) :: st, h)) ∧ (∀ ls a i st h, zz_Y 170 (10, ls, .int i :: .ref a :: st, h) = mo_ia (hp_g h a) i a 170 11 ls st h) ∧ (∀ ls v h, zz_Y 170 (11, ls, [.int v], h) = some (some (.int v), h)) :=
  ⟨fun _ _ _ _ => xl_aln d170_0 rfl,
   fun _ _ _ _ => xl_gf d170_1 xco170 xf_11_7,
   fun _ _ _ _ => xl_iln d170_4 rfl,
   fun ls a0 s0 h => xl_cs (As := [a0]) (st := [s0]) d170_5 xco170 xm_11_77 xnp158 (by decide +kernel) rfl,
   fun _ _ _ => xl_ic d170_8 (by decide +kernel),
   fun _ _ _ _ _ => xl_iadd d170_9,
   fun _ _ _ _ _ => xl_ia d170_10,
   fun _ _ _ => xl_iri d170_11 xrt170⟩
/-! 171 FacetSieveModel.chosen(I)I -/
theorem d171_0 : decode (zz_c 171) 0 = .ok (.aload_n 0, 1) := by decide +kernel
theorem d171_1 : decode (zz_c 171) 1 = .ok (.getfield 7, 3) := by decide +kernel
theorem d171_4 : decode (zz_c 171) 4 = .ok (.iload_n 1, 1) := by decide +kernel
theorem d171_5 : decode (zz_c 171) 5 = .ok (.invokestatic 77, 3) := by decide +kernel
theorem d171_8 : decode (zz_c 171) 8 = .ok (.iconst 2, 1) := by decide +kernel
theorem d171_9 : decode (zz_c 171) 9 = .ok (.iadd, 1) := by decide +kernel
theorem d171_10 : decode (zz_c 171) 10 = .ok (.iaload, 1) := by decide +kernel
theorem d171_11 : decode (zz_c 171) 11 = .ok (.ireturn, 1) := by decide +kernel
theorem x171 : (∀ l1 x st h, zz_Y 171 (0, [some (.ref x), l1], st, h) = zz_Y 171 (1, [some (.ref x), l1], .ref x :: st, h)) ∧ (∀ ls a st h, zz_Y 171 (1, ls, .ref a :: st, h) = mo_gf (hp_g h a) 11 0 171 4 ls st h) ∧ (∀ l0 x st h, zz_Y 171 (4, [l0, some (.int x)], st, h) = zz_Y 171 (5, [l0, some (.int x)], .int x :: st, h)) ∧ (∀ ls a0 s0 h, zz_Y 171 (5, ls, [a0, s0], h) = mo_k 171 8 ls [s0] (zz_run 158 [a0] h)) ∧ (∀ ls st h, zz_Y 171 (8, ls, st, h) = zz_Y 171 (9, ls, .int (nI 2) :: st, h)) ∧ (∀ ls a b st h, zz_Y 171 (9, ls, .int b :: .int a :: st, h) = zz_Y 171 (10, ls, .int (a + b) :: st, h)) ∧ (∀ ls a i st h, zz_Y 171 (10, ls, .int i :: .ref a :: st, h) = mo_ia (hp_g h a) i a 171 11 ls st h) ∧ (∀ ls v h, zz_Y 171 (11, ls, [.int v], h) = some (some (.int v), h)) :=
  ⟨fun _ _ _ _ => xl_aln d171_0 rfl,
   fun _ _ _ _ => xl_gf d171_1 xco171 xf_11_7,
   fun _ _ _ _ => xl_iln d171_4 rfl,
   fun ls a0 s0 h => xl_cs (As := [a0]) (st := [s0]) d171_5 xco171 xm_11_77 xnp158 (by decide +kernel) rfl,
   fun _ _ _ => xl_ic d171_8 (by decide +kernel),
   fun _ _ _ _ _ => xl_iadd d171_9,
   fun _ _ _ _ _ => xl_ia d171_10,
   fun _ _ _ => xl_iri d171_11 xrt171⟩
/-! 172 FacetSieveModel.many([I)I -/
theorem d172_0 : decode (zz_c 172) 0 = .ok (.iconst 0, 1) := by decide +kernel
theorem d172_1 : decode (zz_c 172) 1 = .ok (.istore_n 1, 1) := by decide +kernel
theorem d172_2 : decode (zz_c 172) 2 = .ok (.iconst 0, 1) := by decide +kernel
theorem d172_3 : decode (zz_c 172) 3 = .ok (.istore_n 2, 1) := by decide +kernel
theorem d172_4 : decode (zz_c 172) 4 = .ok (.iload_n 2, 1) := by decide +kernel
theorem d172_5 : decode (zz_c 172) 5 = .ok (.bipush 8, 2) := by decide +kernel
theorem d172_7 : decode (zz_c 172) 7 = .ok (.if_icmp .ge 18, 3) := by decide +kernel
theorem d172_10 : decode (zz_c 172) 10 = .ok (.iload_n 1, 1) := by decide +kernel
theorem d172_11 : decode (zz_c 172) 11 = .ok (.aload_n 0, 1) := by decide +kernel
theorem d172_12 : decode (zz_c 172) 12 = .ok (.iload_n 2, 1) := by decide +kernel
theorem d172_13 : decode (zz_c 172) 13 = .ok (.iaload, 1) := by decide +kernel
theorem d172_14 : decode (zz_c 172) 14 = .ok (.invokestatic 69, 3) := by decide +kernel
theorem d172_17 : decode (zz_c 172) 17 = .ok (.iadd, 1) := by decide +kernel
theorem d172_18 : decode (zz_c 172) 18 = .ok (.istore_n 1, 1) := by decide +kernel
theorem d172_19 : decode (zz_c 172) 19 = .ok (.iinc 2 1, 3) := by decide +kernel
theorem d172_22 : decode (zz_c 172) 22 = .ok (.goto (-18), 3) := by decide +kernel
theorem d172_25 : decode (zz_c 172) 25 = .ok (.iload_n 1, 1) := by decide +kernel
theorem d172_26 : decode (zz_c 172) 26 = .ok (.ireturn, 1) := by decide +kernel
theorem x172 : (∀ ls st h, zz_Y 172 (0, ls, st, h) = zz_Y 172 (1, ls, .int (nI 0) :: st, h)) ∧ (∀ l0 l1 l2 x st h, zz_nl l0 = true → zz_Y 172 (1, [l0, l1, l2], .int x :: st, h) = zz_Y 172 (2, [l0, some (.int x), l2], st, h)) ∧ (∀ ls st h, zz_Y 172 (2, ls, st, h) = zz_Y 172 (3, ls, .int (nI 0) :: st, h)) ∧ (∀ l0 l1 l2 x st h, zz_nl l1 = true → zz_Y 172 (3, [l0, l1, l2], .int x :: st, h) = zz_Y 172 (4, [l0, l1, some (.int x)], st, h)) ∧ (∀ ls st h, zz_Y 172 (5, ls, st, h) = zz_Y 172 (7, ls, .int (nI 8) :: st, h)) ∧ (∀ ls a b st h, zz_Y 172 (7, ls, .int b :: .int a :: st, h) = if a < b then zz_Y 172 (10, ls, st, h) else zz_Y 172 (25, ls, st, h)) ∧ (∀ l0 l2 x st h, zz_Y 172 (10, [l0, some (.int x), l2], st, h) = zz_Y 172 (11, [l0, some (.int x), l2], .int x :: st, h)) ∧ (∀ l1 l2 x st h, zz_Y 172 (11, [some (.ref x), l1, l2], st, h) = zz_Y 172 (12, [some (.ref x), l1, l2], .ref x :: st, h)) ∧ (∀ l0 l1 x st h, zz_Y 172 (12, [l0, l1, some (.int x)], st, h) = zz_Y 172 (13, [l0, l1, some (.int x)], .int x :: st, h)) ∧ (∀ ls a i st h, zz_Y 172 (13, ls, .int i :: .ref a :: st, h) = mo_ia (hp_g h a) i a 172 14 ls st h) ∧ (∀ ls a0 s0 h, zz_Y 172 (14, ls, [a0, s0], h) = mo_k 172 17 ls [s0] (zz_run 160 [a0] h)) ∧ (∀ ls a b st h, zz_Y 172 (17, ls, .int b :: .int a :: st, h) = zz_Y 172 (18, ls, .int (a + b) :: st, h)) ∧ (∀ l0 l1 l2 x st h, zz_nl l0 = true → zz_Y 172 (18, [l0, l1, l2], .int x :: st, h) = zz_Y 172 (19, [l0, some (.int x), l2], st, h)) ∧ (∀ l0 l1 x st h, zz_nl l1 = true → zz_Y 172 (19, [l0, l1, some (.int x)], st, h) = zz_Y 172 (22, [l0, l1, some (.int (x + nI 1))], st, h)) ∧ (∀ ls st h, zz_Y 172 (22, ls, st, h) = zz_Y 172 (4, ls, st, h)) ∧ (∀ l0 l2 x st h, zz_Y 172 (25, [l0, some (.int x), l2], st, h) = zz_Y 172 (26, [l0, some (.int x), l2], .int x :: st, h)) ∧ (∀ ls v h, zz_Y 172 (26, ls, [.int v], h) = some (some (.int v), h)) :=
  ⟨fun _ _ _ => xl_ic d172_0 (by decide +kernel),
   fun _ _ _ _ _ _ hc => xl_isn d172_1 xml172 (by decide) (zz_nl_s1 hc),
   fun _ _ _ => xl_ic d172_2 (by decide +kernel),
   fun _ _ _ _ _ _ hc => xl_isn d172_3 xml172 (by decide) (zz_nl_s1 hc),
   fun _ _ _ => xl_bi d172_5 (by decide +kernel),
   fun _ _ _ _ _ => xl_icge d172_7 rfl,
   fun _ _ _ _ _ => xl_iln d172_10 rfl,
   fun _ _ _ _ _ => xl_aln d172_11 rfl,
   fun _ _ _ _ _ => xl_iln d172_12 rfl,
   fun _ _ _ _ _ => xl_ia d172_13,
   fun ls a0 s0 h => xl_cs (As := [a0]) (st := [s0]) d172_14 xco172 xm_11_69 xnp160 (by decide +kernel) rfl,
   fun _ _ _ _ _ => xl_iadd d172_17,
   fun _ _ _ _ _ _ hc => xl_isn d172_18 xml172 (by decide) (zz_nl_s1 hc),
   fun _ _ _ _ _ hc => xl_inc d172_19 xml172 (by decide) rfl (by decide +kernel) (zz_nl_s1 hc),
   fun _ _ _ => xl_goto d172_22 rfl,
   fun _ _ _ _ _ => xl_iln d172_25 rfl,
   fun _ _ _ => xl_iri d172_26 xrt172⟩
theorem x172_c4 : ∀ l0 l1 x st h, zz_Y 172 (4, [l0, l1, some (.int x)], st, h) = zz_Y 172 (5, [l0, l1, some (.int x)], .int x :: st, h) := fun _ _ _ _ _ => xl_iln d172_4 rfl
/-! 173 FacetSieveModel.toldMany(Z)I -/
theorem d173_0 : decode (zz_c 173) 0 = .ok (.iconst 0, 1) := by decide +kernel
theorem d173_1 : decode (zz_c 173) 1 = .ok (.istore_n 2, 1) := by decide +kernel
theorem d173_2 : decode (zz_c 173) 2 = .ok (.iconst 0, 1) := by decide +kernel
theorem d173_3 : decode (zz_c 173) 3 = .ok (.istore_n 3, 1) := by decide +kernel
theorem d173_4 : decode (zz_c 173) 4 = .ok (.iload_n 3, 1) := by decide +kernel
theorem d173_5 : decode (zz_c 173) 5 = .ok (.aload_n 0, 1) := by decide +kernel
theorem d173_6 : decode (zz_c 173) 6 = .ok (.getfield 7, 3) := by decide +kernel
theorem d173_9 : decode (zz_c 173) 9 = .ok (.iconst 1, 1) := by decide +kernel
theorem d173_10 : decode (zz_c 173) 10 = .ok (.iaload, 1) := by decide +kernel
theorem d173_11 : decode (zz_c 173) 11 = .ok (.if_icmp .ge 40, 3) := by decide +kernel
theorem d173_14 : decode (zz_c 173) 14 = .ok (.iload_n 2, 1) := by decide +kernel
theorem d173_15 : decode (zz_c 173) 15 = .ok (.iload_n 1, 1) := by decide +kernel
theorem d173_16 : decode (zz_c 173) 16 = .ok (.ifCond .eq 14, 3) := by decide +kernel
theorem d173_19 : decode (zz_c 173) 19 = .ok (.aload_n 0, 1) := by decide +kernel
theorem d173_20 : decode (zz_c 173) 20 = .ok (.iload_n 3, 1) := by decide +kernel
theorem d173_21 : decode (zz_c 173) 21 = .ok (.invokevirtual 123, 3) := by decide +kernel
theorem d173_24 : decode (zz_c 173) 24 = .ok (.ifCond .eq 18, 3) := by decide +kernel
theorem d173_27 : decode (zz_c 173) 27 = .ok (.goto 11, 3) := by decide +kernel
theorem d173_30 : decode (zz_c 173) 30 = .ok (.aload_n 0, 1) := by decide +kernel
theorem d173_31 : decode (zz_c 173) 31 = .ok (.iload_n 3, 1) := by decide +kernel
theorem d173_32 : decode (zz_c 173) 32 = .ok (.invokevirtual 126, 3) := by decide +kernel
theorem d173_35 : decode (zz_c 173) 35 = .ok (.ifCond .eq 7, 3) := by decide +kernel
theorem d173_38 : decode (zz_c 173) 38 = .ok (.iconst 1, 1) := by decide +kernel
theorem d173_39 : decode (zz_c 173) 39 = .ok (.goto 4, 3) := by decide +kernel
theorem d173_42 : decode (zz_c 173) 42 = .ok (.iconst 0, 1) := by decide +kernel
theorem d173_43 : decode (zz_c 173) 43 = .ok (.iadd, 1) := by decide +kernel
theorem d173_44 : decode (zz_c 173) 44 = .ok (.istore_n 2, 1) := by decide +kernel
theorem d173_45 : decode (zz_c 173) 45 = .ok (.iinc 3 1, 3) := by decide +kernel
theorem d173_48 : decode (zz_c 173) 48 = .ok (.goto (-44), 3) := by decide +kernel
theorem d173_51 : decode (zz_c 173) 51 = .ok (.iload_n 2, 1) := by decide +kernel
theorem d173_52 : decode (zz_c 173) 52 = .ok (.ireturn, 1) := by decide +kernel
theorem x173 : (∀ ls st h, zz_Y 173 (0, ls, st, h) = zz_Y 173 (1, ls, .int (nI 0) :: st, h)) ∧ (∀ l0 l1 l2 l3 x st h, zz_nl l1 = true → zz_Y 173 (1, [l0, l1, l2, l3], .int x :: st, h) = zz_Y 173 (2, [l0, l1, some (.int x), l3], st, h)) ∧ (∀ ls st h, zz_Y 173 (2, ls, st, h) = zz_Y 173 (3, ls, .int (nI 0) :: st, h)) ∧ (∀ l0 l1 l2 l3 x st h, zz_nl l2 = true → zz_Y 173 (3, [l0, l1, l2, l3], .int x :: st, h) = zz_Y 173 (4, [l0, l1, l2, some (.int x)], st, h)) ∧ (∀ l1 l2 l3 x st h, zz_Y 173 (5, [some (.ref x), l1, l2, l3], st, h) = zz_Y 173 (6, [some (.ref x), l1, l2, l3], .ref x :: st, h)) ∧ (∀ ls a st h, zz_Y 173 (6, ls, .ref a :: st, h) = mo_gf (hp_g h a) 11 0 173 9 ls st h) ∧ (∀ ls st h, zz_Y 173 (9, ls, st, h) = zz_Y 173 (10, ls, .int (nI 1) :: st, h)) ∧ (∀ ls a i st h, zz_Y 173 (10, ls, .int i :: .ref a :: st, h) = mo_ia (hp_g h a) i a 173 11 ls st h) ∧ (∀ ls a b st h, zz_Y 173 (11, ls, .int b :: .int a :: st, h) = if a < b then zz_Y 173 (14, ls, st, h) else zz_Y 173 (51, ls, st, h)) ∧ (∀ l0 l1 l3 x st h, zz_Y 173 (14, [l0, l1, some (.int x), l3], st, h) = zz_Y 173 (15, [l0, l1, some (.int x), l3], .int x :: st, h)) ∧ (∀ l0 l2 l3 x st h, zz_Y 173 (15, [l0, some (.int x), l2, l3], st, h) = zz_Y 173 (16, [l0, some (.int x), l2, l3], .int x :: st, h)) ∧ (∀ ls a st h, zz_Y 173 (16, ls, .int a :: st, h) = if a = nI 0 then zz_Y 173 (30, ls, st, h) else zz_Y 173 (19, ls, st, h)) ∧ (∀ l1 l2 l3 x st h, zz_Y 173 (19, [some (.ref x), l1, l2, l3], st, h) = zz_Y 173 (20, [some (.ref x), l1, l2, l3], .ref x :: st, h)) ∧ (∀ l0 l1 l2 x st h, zz_Y 173 (20, [l0, l1, l2, some (.int x)], st, h) = zz_Y 173 (21, [l0, l1, l2, some (.int x)], .int x :: st, h)) ∧ (∀ ls a0 a1 s0 h, zz_Y 173 (21, ls, [a1, a0, s0], h) = mo_k 173 24 ls [s0] (zz_run 174 [a0, a1] h)) ∧ (∀ ls a st h, zz_Y 173 (24, ls, .int a :: st, h) = if a = nI 0 then zz_Y 173 (42, ls, st, h) else zz_Y 173 (27, ls, st, h)) ∧ (∀ ls st h, zz_Y 173 (27, ls, st, h) = zz_Y 173 (38, ls, st, h)) ∧ (∀ l1 l2 l3 x st h, zz_Y 173 (30, [some (.ref x), l1, l2, l3], st, h) = zz_Y 173 (31, [some (.ref x), l1, l2, l3], .ref x :: st, h)) ∧ (∀ l0 l1 l2 x st h, zz_Y 173 (31, [l0, l1, l2, some (.int x)], st, h) = zz_Y 173 (32, [l0, l1, l2, some (.int x)], .int x :: st, h)) ∧ (∀ ls a0 a1 s0 h, zz_Y 173 (32, ls, [a1, a0, s0], h) = mo_k 173 35 ls [s0] (zz_run 176 [a0, a1] h)) ∧ (∀ ls a st h, zz_Y 173 (35, ls, .int a :: st, h) = if a = nI 0 then zz_Y 173 (42, ls, st, h) else zz_Y 173 (38, ls, st, h)) ∧ (∀ ls st h, zz_Y 173 (38, ls, st, h) = zz_Y 173 (39, ls, .int (nI 1) :: st, h)) ∧ (∀ ls st h, zz_Y 173 (39, ls, st, h) = zz_Y 173 (43, ls, st, h)) ∧ (∀ ls st h, zz_Y 173 (42, ls, st, h) = zz_Y 173 (43, ls, .int (nI 0) :: st, h)) ∧ (∀ ls a b st h, zz_Y 173 (43, ls, .int b :: .int a :: st, h) = zz_Y 173 (44, ls, .int (a + b) :: st, h)) ∧ (∀ l0 l1 l2 l3 x st h, zz_nl l1 = true → zz_Y 173 (44, [l0, l1, l2, l3], .int x :: st, h) = zz_Y 173 (45, [l0, l1, some (.int x), l3], st, h)) ∧ (∀ l0 l1 l2 x st h, zz_nl l2 = true → zz_Y 173 (45, [l0, l1, l2, some (.int x)], st, h) = zz_Y 173 (48, [l0, l1, l2, some (.int (x + nI 1))], st, h)) ∧ (∀ ls st h, zz_Y 173 (48, ls, st, h) = zz_Y 173 (4, ls, st, h)) ∧ (∀ l0 l1 l3 x st h, zz_Y 173 (51, [l0, l1, some (.int x), l3], st, h) = zz_Y 173 (52, [l0, l1, some (.int x), l3], .int x :: st, h)) ∧ (∀ ls v h, zz_Y 173 (52, ls, [.int v], h) = some (some (.int v), h)) :=
  ⟨fun _ _ _ => xl_ic d173_0 (by decide +kernel),
   fun _ _ _ _ _ _ _ hc => xl_isn d173_1 xml173 (by decide) (zz_nl_s1 hc),
   fun _ _ _ => xl_ic d173_2 (by decide +kernel),
   fun _ _ _ _ _ _ _ hc => xl_isn d173_3 xml173 (by decide) (zz_nl_s1 hc),
   fun _ _ _ _ _ _ => xl_aln d173_5 rfl,
   fun _ _ _ _ => xl_gf d173_6 xco173 xf_11_7,
   fun _ _ _ => xl_ic d173_9 (by decide +kernel),
   fun _ _ _ _ _ => xl_ia d173_10,
   fun _ _ _ _ _ => xl_icge d173_11 rfl,
   fun _ _ _ _ _ _ => xl_iln d173_14 rfl,
   fun _ _ _ _ _ _ => xl_iln d173_15 rfl,
   fun _ _ _ _ => xl_ifeq d173_16 rfl,
   fun _ _ _ _ _ _ => xl_aln d173_19 rfl,
   fun _ _ _ _ _ _ => xl_iln d173_20 rfl,
   fun ls a0 a1 s0 h => xl_cv (As := [a0, a1]) (st := [s0]) d173_21 xco173 xm_11_123 (congrArg Nat.succ xnp174) (by decide +kernel) rfl,
   fun _ _ _ _ => xl_ifeq d173_24 rfl,
   fun _ _ _ => xl_goto d173_27 rfl,
   fun _ _ _ _ _ _ => xl_aln d173_30 rfl,
   fun _ _ _ _ _ _ => xl_iln d173_31 rfl,
   fun ls a0 a1 s0 h => xl_cv (As := [a0, a1]) (st := [s0]) d173_32 xco173 xm_11_126 (congrArg Nat.succ xnp176) (by decide +kernel) rfl,
   fun _ _ _ _ => xl_ifeq d173_35 rfl,
   fun _ _ _ => xl_ic d173_38 (by decide +kernel),
   fun _ _ _ => xl_goto d173_39 rfl,
   fun _ _ _ => xl_ic d173_42 (by decide +kernel),
   fun _ _ _ _ _ => xl_iadd d173_43,
   fun _ _ _ _ _ _ _ hc => xl_isn d173_44 xml173 (by decide) (zz_nl_s1 hc),
   fun _ _ _ _ _ _ hc => xl_inc d173_45 xml173 (by decide) rfl (by decide +kernel) (zz_nl_s1 hc),
   fun _ _ _ => xl_goto d173_48 rfl,
   fun _ _ _ _ _ _ => xl_iln d173_51 rfl,
   fun _ _ _ => xl_iri d173_52 xrt173⟩
theorem x173_c4 : ∀ l0 l1 l2 x st h, zz_Y 173 (4, [l0, l1, l2, some (.int x)], st, h) = zz_Y 173 (5, [l0, l1, l2, some (.int x)], .int x :: st, h) := fun _ _ _ _ _ _ => xl_iln d173_4 rfl
/-! 174 FacetSieveModel.isIdle(I)Z -/
theorem d174_0 : decode (zz_c 174) 0 = .ok (.aload_n 0, 1) := by decide +kernel
theorem d174_1 : decode (zz_c 174) 1 = .ok (.iload_n 1, 1) := by decide +kernel
theorem d174_2 : decode (zz_c 174) 2 = .ok (.invokevirtual 93, 3) := by decide +kernel
theorem d174_5 : decode (zz_c 174) 5 = .ok (.ifCond .ne 15, 3) := by decide +kernel
theorem d174_8 : decode (zz_c 174) 8 = .ok (.aload_n 0, 1) := by decide +kernel
theorem d174_9 : decode (zz_c 174) 9 = .ok (.iload_n 1, 1) := by decide +kernel
theorem d174_10 : decode (zz_c 174) 10 = .ok (.invokevirtual 120, 3) := by decide +kernel
theorem d174_13 : decode (zz_c 174) 13 = .ok (.ifCond .ne 7, 3) := by decide +kernel
theorem d174_16 : decode (zz_c 174) 16 = .ok (.iconst 1, 1) := by decide +kernel
theorem d174_17 : decode (zz_c 174) 17 = .ok (.goto 4, 3) := by decide +kernel
theorem d174_20 : decode (zz_c 174) 20 = .ok (.iconst 0, 1) := by decide +kernel
theorem d174_21 : decode (zz_c 174) 21 = .ok (.ireturn, 1) := by decide +kernel
theorem x174 : (∀ l1 x st h, zz_Y 174 (0, [some (.ref x), l1], st, h) = zz_Y 174 (1, [some (.ref x), l1], .ref x :: st, h)) ∧ (∀ l0 x st h, zz_Y 174 (1, [l0, some (.int x)], st, h) = zz_Y 174 (2, [l0, some (.int x)], .int x :: st, h)) ∧ (∀ ls a0 a1 h, zz_Y 174 (2, ls, [a1, a0], h) = mo_k 174 5 ls [] (zz_run 171 [a0, a1] h)) ∧ (∀ ls a st h, zz_Y 174 (5, ls, .int a :: st, h) = if a = nI 0 then zz_Y 174 (8, ls, st, h) else zz_Y 174 (20, ls, st, h)) ∧ (∀ l1 x st h, zz_Y 174 (8, [some (.ref x), l1], st, h) = zz_Y 174 (9, [some (.ref x), l1], .ref x :: st, h)) ∧ (∀ l0 x st h, zz_Y 174 (9, [l0, some (.int x)], st, h) = zz_Y 174 (10, [l0, some (.int x)], .int x :: st, h)) ∧ (∀ ls a0 a1 h, zz_Y 174 (10, ls, [a1, a0], h) = mo_k 174 13 ls [] (zz_run 175 [a0, a1] h)) ∧ (∀ ls a st h, zz_Y 174 (13, ls, .int a :: st, h) = if a = nI 0 then zz_Y 174 (16, ls, st, h) else zz_Y 174 (20, ls, st, h)) ∧ (∀ ls st h, zz_Y 174 (16, ls, st, h) = zz_Y 174 (17, ls, .int (nI 1) :: st, h)) ∧ (∀ ls st h, zz_Y 174 (17, ls, st, h) = zz_Y 174 (21, ls, st, h)) ∧ (∀ ls st h, zz_Y 174 (20, ls, st, h) = zz_Y 174 (21, ls, .int (nI 0) :: st, h)) ∧ (∀ ls v h, v = nI 0 ∨ v = nI 1 → zz_Y 174 (21, ls, [.int v], h) = some (some (.int v), h)) :=
  ⟨fun _ _ _ _ => xl_aln d174_0 rfl,
   fun _ _ _ _ => xl_iln d174_1 rfl,
   fun ls a0 a1 h => xl_cv (As := [a0, a1]) (st := []) d174_2 xco174 xm_11_93 (congrArg Nat.succ xnp171) (by decide +kernel) rfl,
   fun _ _ _ _ => xl_ifne d174_5 rfl,
   fun _ _ _ _ => xl_aln d174_8 rfl,
   fun _ _ _ _ => xl_iln d174_9 rfl,
   fun ls a0 a1 h => xl_cv (As := [a0, a1]) (st := []) d174_10 xco174 xm_11_120 (congrArg Nat.succ xnp175) (by decide +kernel) rfl,
   fun _ _ _ _ => xl_ifne d174_13 rfl,
   fun _ _ _ => xl_ic d174_16 (by decide +kernel),
   fun _ _ _ => xl_goto d174_17 rfl,
   fun _ _ _ => xl_ic d174_20 (by decide +kernel),
   fun _ _ _ hc => xl_irz d174_21 xrt174 hc⟩
/-! 175 FacetSieveModel.aheadOf(I)I -/
theorem d175_0 : decode (zz_c 175) 0 = .ok (.aload_n 0, 1) := by decide +kernel
theorem d175_1 : decode (zz_c 175) 1 = .ok (.iload_n 1, 1) := by decide +kernel
theorem d175_2 : decode (zz_c 175) 2 = .ok (.invokevirtual 93, 3) := by decide +kernel
theorem d175_5 : decode (zz_c 175) 5 = .ok (.istore_n 2, 1) := by decide +kernel
theorem d175_6 : decode (zz_c 175) 6 = .ok (.aload_n 0, 1) := by decide +kernel
theorem d175_7 : decode (zz_c 175) 7 = .ok (.getfield 7, 3) := by decide +kernel
theorem d175_10 : decode (zz_c 175) 10 = .ok (.iload_n 1, 1) := by decide +kernel
theorem d175_11 : decode (zz_c 175) 11 = .ok (.invokestatic 77, 3) := by decide +kernel
theorem d175_14 : decode (zz_c 175) 14 = .ok (.iconst 2, 1) := by decide +kernel
theorem d175_15 : decode (zz_c 175) 15 = .ok (.iadd, 1) := by decide +kernel
theorem d175_16 : decode (zz_c 175) 16 = .ok (.iconst 1, 1) := by decide +kernel
theorem d175_17 : decode (zz_c 175) 17 = .ok (.iastore, 1) := by decide +kernel
theorem d175_18 : decode (zz_c 175) 18 = .ok (.aload_n 0, 1) := by decide +kernel
theorem d175_19 : decode (zz_c 175) 19 = .ok (.invokevirtual 116, 3) := by decide +kernel
theorem d175_22 : decode (zz_c 175) 22 = .ok (.istore_n 3, 1) := by decide +kernel
theorem d175_23 : decode (zz_c 175) 23 = .ok (.aload_n 0, 1) := by decide +kernel
theorem d175_24 : decode (zz_c 175) 24 = .ok (.getfield 7, 3) := by decide +kernel
theorem d175_27 : decode (zz_c 175) 27 = .ok (.iload_n 1, 1) := by decide +kernel
theorem d175_28 : decode (zz_c 175) 28 = .ok (.invokestatic 77, 3) := by decide +kernel
theorem d175_31 : decode (zz_c 175) 31 = .ok (.iconst 2, 1) := by decide +kernel
theorem d175_32 : decode (zz_c 175) 32 = .ok (.iadd, 1) := by decide +kernel
theorem d175_33 : decode (zz_c 175) 33 = .ok (.iload_n 2, 1) := by decide +kernel
theorem d175_34 : decode (zz_c 175) 34 = .ok (.iastore, 1) := by decide +kernel
theorem d175_35 : decode (zz_c 175) 35 = .ok (.iload_n 3, 1) := by decide +kernel
theorem d175_36 : decode (zz_c 175) 36 = .ok (.ireturn, 1) := by decide +kernel
theorem x175 : (∀ l1 l2 l3 x st h, zz_Y 175 (0, [some (.ref x), l1, l2, l3], st, h) = zz_Y 175 (1, [some (.ref x), l1, l2, l3], .ref x :: st, h)) ∧ (∀ l0 l2 l3 x st h, zz_Y 175 (1, [l0, some (.int x), l2, l3], st, h) = zz_Y 175 (2, [l0, some (.int x), l2, l3], .int x :: st, h)) ∧ (∀ ls a0 a1 h, zz_Y 175 (2, ls, [a1, a0], h) = mo_k 175 5 ls [] (zz_run 171 [a0, a1] h)) ∧ (∀ l0 l1 l2 l3 x st h, zz_nl l1 = true → zz_Y 175 (5, [l0, l1, l2, l3], .int x :: st, h) = zz_Y 175 (6, [l0, l1, some (.int x), l3], st, h)) ∧ (∀ l1 l2 l3 x st h, zz_Y 175 (6, [some (.ref x), l1, l2, l3], st, h) = zz_Y 175 (7, [some (.ref x), l1, l2, l3], .ref x :: st, h)) ∧ (∀ ls a st h, zz_Y 175 (7, ls, .ref a :: st, h) = mo_gf (hp_g h a) 11 0 175 10 ls st h) ∧ (∀ l0 l2 l3 x st h, zz_Y 175 (10, [l0, some (.int x), l2, l3], st, h) = zz_Y 175 (11, [l0, some (.int x), l2, l3], .int x :: st, h)) ∧ (∀ ls a0 s0 h, zz_Y 175 (11, ls, [a0, s0], h) = mo_k 175 14 ls [s0] (zz_run 158 [a0] h)) ∧ (∀ ls st h, zz_Y 175 (14, ls, st, h) = zz_Y 175 (15, ls, .int (nI 2) :: st, h)) ∧ (∀ ls a b st h, zz_Y 175 (15, ls, .int b :: .int a :: st, h) = zz_Y 175 (16, ls, .int (a + b) :: st, h)) ∧ (∀ ls st h, zz_Y 175 (16, ls, st, h) = zz_Y 175 (17, ls, .int (nI 1) :: st, h)) ∧ (∀ ls a i x st h, zz_Y 175 (17, ls, .int x :: .int i :: .ref a :: st, h) = mo_is (hp_g h a) x i a 175 18 ls st h) ∧ (∀ l1 l2 l3 x st h, zz_Y 175 (18, [some (.ref x), l1, l2, l3], st, h) = zz_Y 175 (19, [some (.ref x), l1, l2, l3], .ref x :: st, h)) ∧ (∀ ls a0 h, zz_Y 175 (19, ls, [a0], h) = mo_k 175 22 ls [] (zz_run 166 [a0] h)) ∧ (∀ l0 l1 l2 l3 x st h, zz_nl l2 = true → zz_Y 175 (22, [l0, l1, l2, l3], .int x :: st, h) = zz_Y 175 (23, [l0, l1, l2, some (.int x)], st, h)) ∧ (∀ l1 l2 l3 x st h, zz_Y 175 (23, [some (.ref x), l1, l2, l3], st, h) = zz_Y 175 (24, [some (.ref x), l1, l2, l3], .ref x :: st, h)) ∧ (∀ ls a st h, zz_Y 175 (24, ls, .ref a :: st, h) = mo_gf (hp_g h a) 11 0 175 27 ls st h) ∧ (∀ l0 l2 l3 x st h, zz_Y 175 (27, [l0, some (.int x), l2, l3], st, h) = zz_Y 175 (28, [l0, some (.int x), l2, l3], .int x :: st, h)) ∧ (∀ ls a0 s0 h, zz_Y 175 (28, ls, [a0, s0], h) = mo_k 175 31 ls [s0] (zz_run 158 [a0] h)) ∧ (∀ ls st h, zz_Y 175 (31, ls, st, h) = zz_Y 175 (32, ls, .int (nI 2) :: st, h)) ∧ (∀ ls a b st h, zz_Y 175 (32, ls, .int b :: .int a :: st, h) = zz_Y 175 (33, ls, .int (a + b) :: st, h)) ∧ (∀ l0 l1 l3 x st h, zz_Y 175 (33, [l0, l1, some (.int x), l3], st, h) = zz_Y 175 (34, [l0, l1, some (.int x), l3], .int x :: st, h)) ∧ (∀ ls a i x st h, zz_Y 175 (34, ls, .int x :: .int i :: .ref a :: st, h) = mo_is (hp_g h a) x i a 175 35 ls st h) ∧ (∀ l0 l1 l2 x st h, zz_Y 175 (35, [l0, l1, l2, some (.int x)], st, h) = zz_Y 175 (36, [l0, l1, l2, some (.int x)], .int x :: st, h)) ∧ (∀ ls v h, zz_Y 175 (36, ls, [.int v], h) = some (some (.int v), h)) :=
  ⟨fun _ _ _ _ _ _ => xl_aln d175_0 rfl,
   fun _ _ _ _ _ _ => xl_iln d175_1 rfl,
   fun ls a0 a1 h => xl_cv (As := [a0, a1]) (st := []) d175_2 xco175 xm_11_93 (congrArg Nat.succ xnp171) (by decide +kernel) rfl,
   fun _ _ _ _ _ _ _ hc => xl_isn d175_5 xml175 (by decide) (zz_nl_s1 hc),
   fun _ _ _ _ _ _ => xl_aln d175_6 rfl,
   fun _ _ _ _ => xl_gf d175_7 xco175 xf_11_7,
   fun _ _ _ _ _ _ => xl_iln d175_10 rfl,
   fun ls a0 s0 h => xl_cs (As := [a0]) (st := [s0]) d175_11 xco175 xm_11_77 xnp158 (by decide +kernel) rfl,
   fun _ _ _ => xl_ic d175_14 (by decide +kernel),
   fun _ _ _ _ _ => xl_iadd d175_15,
   fun _ _ _ => xl_ic d175_16 (by decide +kernel),
   fun _ _ _ _ _ _ => xl_ist d175_17,
   fun _ _ _ _ _ _ => xl_aln d175_18 rfl,
   fun ls a0 h => xl_cv (As := [a0]) (st := []) d175_19 xco175 xm_11_116 (congrArg Nat.succ xnp166) (by decide +kernel) rfl,
   fun _ _ _ _ _ _ _ hc => xl_isn d175_22 xml175 (by decide) (zz_nl_s1 hc),
   fun _ _ _ _ _ _ => xl_aln d175_23 rfl,
   fun _ _ _ _ => xl_gf d175_24 xco175 xf_11_7,
   fun _ _ _ _ _ _ => xl_iln d175_27 rfl,
   fun ls a0 s0 h => xl_cs (As := [a0]) (st := [s0]) d175_28 xco175 xm_11_77 xnp158 (by decide +kernel) rfl,
   fun _ _ _ => xl_ic d175_31 (by decide +kernel),
   fun _ _ _ _ _ => xl_iadd d175_32,
   fun _ _ _ _ _ _ => xl_iln d175_33 rfl,
   fun _ _ _ _ _ _ => xl_ist d175_34,
   fun _ _ _ _ _ _ => xl_iln d175_35 rfl,
   fun _ _ _ => xl_iri d175_36 xrt175⟩
/-! 176 FacetSieveModel.isSure(I)Z -/
theorem d176_0 : decode (zz_c 176) 0 = .ok (.aload_n 0, 1) := by decide +kernel
theorem d176_1 : decode (zz_c 176) 1 = .ok (.iload_n 1, 1) := by decide +kernel
theorem d176_2 : decode (zz_c 176) 2 = .ok (.invokevirtual 93, 3) := by decide +kernel
theorem d176_5 : decode (zz_c 176) 5 = .ok (.ifCond .eq 5, 3) := by decide +kernel
theorem d176_8 : decode (zz_c 176) 8 = .ok (.iconst 0, 1) := by decide +kernel
theorem d176_9 : decode (zz_c 176) 9 = .ok (.ireturn, 1) := by decide +kernel
theorem d176_10 : decode (zz_c 176) 10 = .ok (.aload_n 0, 1) := by decide +kernel
theorem d176_11 : decode (zz_c 176) 11 = .ok (.invokevirtual 116, 3) := by decide +kernel
theorem d176_14 : decode (zz_c 176) 14 = .ok (.istore_n 2, 1) := by decide +kernel
theorem d176_15 : decode (zz_c 176) 15 = .ok (.iload_n 2, 1) := by decide +kernel
theorem d176_16 : decode (zz_c 176) 16 = .ok (.ifCond .le 16, 3) := by decide +kernel
theorem d176_19 : decode (zz_c 176) 19 = .ok (.aload_n 0, 1) := by decide +kernel
theorem d176_20 : decode (zz_c 176) 20 = .ok (.iload_n 1, 1) := by decide +kernel
theorem d176_21 : decode (zz_c 176) 21 = .ok (.invokevirtual 113, 3) := by decide +kernel
theorem d176_24 : decode (zz_c 176) 24 = .ok (.iload_n 2, 1) := by decide +kernel
theorem d176_25 : decode (zz_c 176) 25 = .ok (.if_icmp .ne 7, 3) := by decide +kernel
theorem d176_28 : decode (zz_c 176) 28 = .ok (.iconst 1, 1) := by decide +kernel
theorem d176_29 : decode (zz_c 176) 29 = .ok (.goto 4, 3) := by decide +kernel
theorem d176_32 : decode (zz_c 176) 32 = .ok (.iconst 0, 1) := by decide +kernel
theorem d176_33 : decode (zz_c 176) 33 = .ok (.ireturn, 1) := by decide +kernel
theorem x176 : (∀ l1 l2 x st h, zz_Y 176 (0, [some (.ref x), l1, l2], st, h) = zz_Y 176 (1, [some (.ref x), l1, l2], .ref x :: st, h)) ∧ (∀ l0 l2 x st h, zz_Y 176 (1, [l0, some (.int x), l2], st, h) = zz_Y 176 (2, [l0, some (.int x), l2], .int x :: st, h)) ∧ (∀ ls a0 a1 h, zz_Y 176 (2, ls, [a1, a0], h) = mo_k 176 5 ls [] (zz_run 171 [a0, a1] h)) ∧ (∀ ls a st h, zz_Y 176 (5, ls, .int a :: st, h) = if a = nI 0 then zz_Y 176 (10, ls, st, h) else zz_Y 176 (8, ls, st, h)) ∧ (∀ ls st h, zz_Y 176 (8, ls, st, h) = zz_Y 176 (9, ls, .int (nI 0) :: st, h)) ∧ (∀ ls v h, v = nI 0 ∨ v = nI 1 → zz_Y 176 (9, ls, [.int v], h) = some (some (.int v), h)) ∧ (∀ l1 l2 x st h, zz_Y 176 (10, [some (.ref x), l1, l2], st, h) = zz_Y 176 (11, [some (.ref x), l1, l2], .ref x :: st, h)) ∧ (∀ ls a0 h, zz_Y 176 (11, ls, [a0], h) = mo_k 176 14 ls [] (zz_run 166 [a0] h)) ∧ (∀ l0 l1 l2 x st h, zz_nl l1 = true → zz_Y 176 (14, [l0, l1, l2], .int x :: st, h) = zz_Y 176 (15, [l0, l1, some (.int x)], st, h)) ∧ (∀ l0 l1 x st h, zz_Y 176 (15, [l0, l1, some (.int x)], st, h) = zz_Y 176 (16, [l0, l1, some (.int x)], .int x :: st, h)) ∧ (∀ ls a st h, zz_Y 176 (16, ls, .int a :: st, h) = if nI 0 < a then zz_Y 176 (19, ls, st, h) else zz_Y 176 (32, ls, st, h)) ∧ (∀ l1 l2 x st h, zz_Y 176 (19, [some (.ref x), l1, l2], st, h) = zz_Y 176 (20, [some (.ref x), l1, l2], .ref x :: st, h)) ∧ (∀ l0 l2 x st h, zz_Y 176 (20, [l0, some (.int x), l2], st, h) = zz_Y 176 (21, [l0, some (.int x), l2], .int x :: st, h)) ∧ (∀ ls a0 a1 h, zz_Y 176 (21, ls, [a1, a0], h) = mo_k 176 24 ls [] (zz_run 177 [a0, a1] h)) ∧ (∀ l0 l1 x st h, zz_Y 176 (24, [l0, l1, some (.int x)], st, h) = zz_Y 176 (25, [l0, l1, some (.int x)], .int x :: st, h)) ∧ (∀ ls a b st h, zz_Y 176 (25, ls, .int b :: .int a :: st, h) = if a = b then zz_Y 176 (28, ls, st, h) else zz_Y 176 (32, ls, st, h)) ∧ (∀ ls st h, zz_Y 176 (28, ls, st, h) = zz_Y 176 (29, ls, .int (nI 1) :: st, h)) ∧ (∀ ls st h, zz_Y 176 (29, ls, st, h) = zz_Y 176 (33, ls, st, h)) ∧ (∀ ls st h, zz_Y 176 (32, ls, st, h) = zz_Y 176 (33, ls, .int (nI 0) :: st, h)) ∧ (∀ ls v h, v = nI 0 ∨ v = nI 1 → zz_Y 176 (33, ls, [.int v], h) = some (some (.int v), h)) :=
  ⟨fun _ _ _ _ _ => xl_aln d176_0 rfl,
   fun _ _ _ _ _ => xl_iln d176_1 rfl,
   fun ls a0 a1 h => xl_cv (As := [a0, a1]) (st := []) d176_2 xco176 xm_11_93 (congrArg Nat.succ xnp171) (by decide +kernel) rfl,
   fun _ _ _ _ => xl_ifeq d176_5 rfl,
   fun _ _ _ => xl_ic d176_8 (by decide +kernel),
   fun _ _ _ hc => xl_irz d176_9 xrt176 hc,
   fun _ _ _ _ _ => xl_aln d176_10 rfl,
   fun ls a0 h => xl_cv (As := [a0]) (st := []) d176_11 xco176 xm_11_116 (congrArg Nat.succ xnp166) (by decide +kernel) rfl,
   fun _ _ _ _ _ _ hc => xl_isn d176_14 xml176 (by decide) (zz_nl_s1 hc),
   fun _ _ _ _ _ => xl_iln d176_15 rfl,
   fun _ _ _ _ => xl_ifle d176_16 rfl,
   fun _ _ _ _ _ => xl_aln d176_19 rfl,
   fun _ _ _ _ _ => xl_iln d176_20 rfl,
   fun ls a0 a1 h => xl_cv (As := [a0, a1]) (st := []) d176_21 xco176 xm_11_113 (congrArg Nat.succ xnp177) (by decide +kernel) rfl,
   fun _ _ _ _ _ => xl_iln d176_24 rfl,
   fun _ _ _ _ _ => xl_icne d176_25 rfl,
   fun _ _ _ => xl_ic d176_28 (by decide +kernel),
   fun _ _ _ => xl_goto d176_29 rfl,
   fun _ _ _ => xl_ic d176_32 (by decide +kernel),
   fun _ _ _ hc => xl_irz d176_33 xrt176 hc⟩
/-! 177 FacetSieveModel.inSet(I)I -/
theorem d177_0 : decode (zz_c 177) 0 = .ok (.aload_n 0, 1) := by decide +kernel
theorem d177_1 : decode (zz_c 177) 1 = .ok (.aload_n 0, 1) := by decide +kernel
theorem d177_2 : decode (zz_c 177) 2 = .ok (.getfield 27, 3) := by decide +kernel
theorem d177_5 : decode (zz_c 177) 5 = .ok (.iload_n 1, 1) := by decide +kernel
theorem d177_6 : decode (zz_c 177) 6 = .ok (.invokevirtual 96, 3) := by decide +kernel
theorem d177_9 : decode (zz_c 177) 9 = .ok (.iconst 0, 1) := by decide +kernel
theorem d177_10 : decode (zz_c 177) 10 = .ok (.istore_n 2, 1) := by decide +kernel
theorem d177_11 : decode (zz_c 177) 11 = .ok (.iload_n 2, 1) := by decide +kernel
theorem d177_12 : decode (zz_c 177) 12 = .ok (.bipush 8, 2) := by decide +kernel
theorem d177_14 : decode (zz_c 177) 14 = .ok (.if_icmp .ge 24, 3) := by decide +kernel
theorem d177_17 : decode (zz_c 177) 17 = .ok (.aload_n 0, 1) := by decide +kernel
theorem d177_18 : decode (zz_c 177) 18 = .ok (.getfield 27, 3) := by decide +kernel
theorem d177_21 : decode (zz_c 177) 21 = .ok (.iload_n 2, 1) := by decide +kernel
theorem d177_22 : decode (zz_c 177) 22 = .ok (.dup2, 1) := by decide +kernel
theorem d177_23 : decode (zz_c 177) 23 = .ok (.iaload, 1) := by decide +kernel
theorem d177_24 : decode (zz_c 177) 24 = .ok (.aload_n 0, 1) := by decide +kernel
theorem d177_25 : decode (zz_c 177) 25 = .ok (.getfield 30, 3) := by decide +kernel
theorem d177_28 : decode (zz_c 177) 28 = .ok (.iload_n 2, 1) := by decide +kernel
theorem d177_29 : decode (zz_c 177) 29 = .ok (.iaload, 1) := by decide +kernel
theorem d177_30 : decode (zz_c 177) 30 = .ok (.iand, 1) := by decide +kernel
theorem d177_31 : decode (zz_c 177) 31 = .ok (.iastore, 1) := by decide +kernel
theorem d177_32 : decode (zz_c 177) 32 = .ok (.iinc 2 1, 3) := by decide +kernel
theorem d177_35 : decode (zz_c 177) 35 = .ok (.goto (-24), 3) := by decide +kernel
theorem d177_38 : decode (zz_c 177) 38 = .ok (.aload_n 0, 1) := by decide +kernel
theorem d177_39 : decode (zz_c 177) 39 = .ok (.getfield 27, 3) := by decide +kernel
theorem d177_42 : decode (zz_c 177) 42 = .ok (.invokestatic 109, 3) := by decide +kernel
theorem d177_45 : decode (zz_c 177) 45 = .ok (.ireturn, 1) := by decide +kernel
theorem x177 : (∀ l1 l2 x st h, zz_Y 177 (0, [some (.ref x), l1, l2], st, h) = zz_Y 177 (1, [some (.ref x), l1, l2], .ref x :: st, h)) ∧ (∀ l1 l2 x st h, zz_Y 177 (1, [some (.ref x), l1, l2], st, h) = zz_Y 177 (2, [some (.ref x), l1, l2], .ref x :: st, h)) ∧ (∀ ls a st h, zz_Y 177 (2, ls, .ref a :: st, h) = mo_gf (hp_g h a) 11 8 177 5 ls st h) ∧ (∀ l0 l2 x st h, zz_Y 177 (5, [l0, some (.int x), l2], st, h) = zz_Y 177 (6, [l0, some (.int x), l2], .int x :: st, h)) ∧ (∀ ls a0 a1 a2 h, zz_Y 177 (6, ls, [a2, a1, a0], h) = mo_k 177 9 ls [] (zz_run 156 [a0, a1, a2] h)) ∧ (∀ ls st h, zz_Y 177 (9, ls, st, h) = zz_Y 177 (10, ls, .int (nI 0) :: st, h)) ∧ (∀ l0 l1 l2 x st h, zz_nl l1 = true → zz_Y 177 (10, [l0, l1, l2], .int x :: st, h) = zz_Y 177 (11, [l0, l1, some (.int x)], st, h)) ∧ (∀ ls st h, zz_Y 177 (12, ls, st, h) = zz_Y 177 (14, ls, .int (nI 8) :: st, h)) ∧ (∀ ls a b st h, zz_Y 177 (14, ls, .int b :: .int a :: st, h) = if a < b then zz_Y 177 (17, ls, st, h) else zz_Y 177 (38, ls, st, h)) ∧ (∀ l1 l2 x st h, zz_Y 177 (17, [some (.ref x), l1, l2], st, h) = zz_Y 177 (18, [some (.ref x), l1, l2], .ref x :: st, h)) ∧ (∀ ls a st h, zz_Y 177 (18, ls, .ref a :: st, h) = mo_gf (hp_g h a) 11 8 177 21 ls st h) ∧ (∀ l0 l1 x st h, zz_Y 177 (21, [l0, l1, some (.int x)], st, h) = zz_Y 177 (22, [l0, l1, some (.int x)], .int x :: st, h)) ∧ (∀ ls a b st h, zz_Y 177 (22, ls, .int b :: .ref a :: st, h) = zz_Y 177 (23, ls, .int b :: .ref a :: .int b :: .ref a :: st, h)) ∧ (∀ ls a i st h, zz_Y 177 (23, ls, .int i :: .ref a :: st, h) = mo_ia (hp_g h a) i a 177 24 ls st h) ∧ (∀ l1 l2 x st h, zz_Y 177 (24, [some (.ref x), l1, l2], st, h) = zz_Y 177 (25, [some (.ref x), l1, l2], .ref x :: st, h)) ∧ (∀ ls a st h, zz_Y 177 (25, ls, .ref a :: st, h) = mo_gf (hp_g h a) 11 9 177 28 ls st h) ∧ (∀ l0 l1 x st h, zz_Y 177 (28, [l0, l1, some (.int x)], st, h) = zz_Y 177 (29, [l0, l1, some (.int x)], .int x :: st, h)) ∧ (∀ ls a i st h, zz_Y 177 (29, ls, .int i :: .ref a :: st, h) = mo_ia (hp_g h a) i a 177 30 ls st h) ∧ (∀ ls a b st h, zz_Y 177 (30, ls, .int b :: .int a :: st, h) = zz_Y 177 (31, ls, .int (a &&& b) :: st, h)) ∧ (∀ ls a i x st h, zz_Y 177 (31, ls, .int x :: .int i :: .ref a :: st, h) = mo_is (hp_g h a) x i a 177 32 ls st h) ∧ (∀ l0 l1 x st h, zz_nl l1 = true → zz_Y 177 (32, [l0, l1, some (.int x)], st, h) = zz_Y 177 (35, [l0, l1, some (.int (x + nI 1))], st, h)) ∧ (∀ ls st h, zz_Y 177 (35, ls, st, h) = zz_Y 177 (11, ls, st, h)) ∧ (∀ l1 l2 x st h, zz_Y 177 (38, [some (.ref x), l1, l2], st, h) = zz_Y 177 (39, [some (.ref x), l1, l2], .ref x :: st, h)) ∧ (∀ ls a st h, zz_Y 177 (39, ls, .ref a :: st, h) = mo_gf (hp_g h a) 11 8 177 42 ls st h) ∧ (∀ ls a0 h, zz_Y 177 (42, ls, [a0], h) = mo_k 177 45 ls [] (zz_run 172 [a0] h)) ∧ (∀ ls v h, zz_Y 177 (45, ls, [.int v], h) = some (some (.int v), h)) :=
  ⟨fun _ _ _ _ _ => xl_aln d177_0 rfl,
   fun _ _ _ _ _ => xl_aln d177_1 rfl,
   fun _ _ _ _ => xl_gf d177_2 xco177 xf_11_27,
   fun _ _ _ _ _ => xl_iln d177_5 rfl,
   fun ls a0 a1 a2 h => xl_cv (As := [a0, a1, a2]) (st := []) d177_6 xco177 xm_11_96 (congrArg Nat.succ xnp156) (by decide +kernel) rfl,
   fun _ _ _ => xl_ic d177_9 (by decide +kernel),
   fun _ _ _ _ _ _ hc => xl_isn d177_10 xml177 (by decide) (zz_nl_s1 hc),
   fun _ _ _ => xl_bi d177_12 (by decide +kernel),
   fun _ _ _ _ _ => xl_icge d177_14 rfl,
   fun _ _ _ _ _ => xl_aln d177_17 rfl,
   fun _ _ _ _ => xl_gf d177_18 xco177 xf_11_27,
   fun _ _ _ _ _ => xl_iln d177_21 rfl,
   fun _ _ _ _ _ => xl_dup2 d177_22,
   fun _ _ _ _ _ => xl_ia d177_23,
   fun _ _ _ _ _ => xl_aln d177_24 rfl,
   fun _ _ _ _ => xl_gf d177_25 xco177 xf_11_30,
   fun _ _ _ _ _ => xl_iln d177_28 rfl,
   fun _ _ _ _ _ => xl_ia d177_29,
   fun _ _ _ _ _ => xl_iand d177_30,
   fun _ _ _ _ _ _ => xl_ist d177_31,
   fun _ _ _ _ _ hc => xl_inc d177_32 xml177 (by decide) rfl (by decide +kernel) (zz_nl_s1 hc),
   fun _ _ _ => xl_goto d177_35 rfl,
   fun _ _ _ _ _ => xl_aln d177_38 rfl,
   fun _ _ _ _ => xl_gf d177_39 xco177 xf_11_27,
   fun ls a0 h => xl_cs (As := [a0]) (st := []) d177_42 xco177 xm_11_109 xnp172 (by decide +kernel) rfl,
   fun _ _ _ => xl_iri d177_45 xrt177⟩
theorem x177_c11 : ∀ l0 l1 x st h, zz_Y 177 (11, [l0, l1, some (.int x)], st, h) = zz_Y 177 (12, [l0, l1, some (.int x)], .int x :: st, h) := fun _ _ _ _ _ => xl_iln d177_11 rfl
/-! 178 FacetSieveModel.parting()I -/
theorem d178_0 : decode (zz_c 178) 0 = .ok (.iconst (-1), 1) := by decide +kernel
theorem d178_1 : decode (zz_c 178) 1 = .ok (.istore_n 1, 1) := by decide +kernel
theorem d178_2 : decode (zz_c 178) 2 = .ok (.sipush 257, 3) := by decide +kernel
theorem d178_5 : decode (zz_c 178) 5 = .ok (.istore_n 2, 1) := by decide +kernel
theorem d178_6 : decode (zz_c 178) 6 = .ok (.aload_n 0, 1) := by decide +kernel
theorem d178_7 : decode (zz_c 178) 7 = .ok (.invokevirtual 116, 3) := by decide +kernel
theorem d178_10 : decode (zz_c 178) 10 = .ok (.istore_n 3, 1) := by decide +kernel
theorem d178_11 : decode (zz_c 178) 11 = .ok (.iconst 0, 1) := by decide +kernel
theorem d178_12 : decode (zz_c 178) 12 = .ok (.istore 4, 2) := by decide +kernel
theorem d178_14 : decode (zz_c 178) 14 = .ok (.iload 4, 2) := by decide +kernel
theorem d178_16 : decode (zz_c 178) 16 = .ok (.aload_n 0, 1) := by decide +kernel
theorem d178_17 : decode (zz_c 178) 17 = .ok (.getfield 7, 3) := by decide +kernel
theorem d178_20 : decode (zz_c 178) 20 = .ok (.iconst 1, 1) := by decide +kernel
theorem d178_21 : decode (zz_c 178) 21 = .ok (.iaload, 1) := by decide +kernel
theorem d178_22 : decode (zz_c 178) 22 = .ok (.if_icmp .ge 65, 3) := by decide +kernel
theorem d178_25 : decode (zz_c 178) 25 = .ok (.iload_n 3, 1) := by decide +kernel
theorem d178_26 : decode (zz_c 178) 26 = .ok (.ifCond .le 61, 3) := by decide +kernel
theorem d178_29 : decode (zz_c 178) 29 = .ok (.aload_n 0, 1) := by decide +kernel
theorem d178_30 : decode (zz_c 178) 30 = .ok (.iload 4, 2) := by decide +kernel
theorem d178_32 : decode (zz_c 178) 32 = .ok (.invokevirtual 113, 3) := by decide +kernel
theorem d178_35 : decode (zz_c 178) 35 = .ok (.istore 5, 2) := by decide +kernel
theorem d178_37 : decode (zz_c 178) 37 = .ok (.iload 5, 2) := by decide +kernel
theorem d178_39 : decode (zz_c 178) 39 = .ok (.iload_n 3, 1) := by decide +kernel
theorem d178_40 : decode (zz_c 178) 40 = .ok (.iload 5, 2) := by decide +kernel
theorem d178_42 : decode (zz_c 178) 42 = .ok (.isub, 1) := by decide +kernel
theorem d178_43 : decode (zz_c 178) 43 = .ok (.if_icmp .le 8, 3) := by decide +kernel
theorem d178_46 : decode (zz_c 178) 46 = .ok (.iload 5, 2) := by decide +kernel
theorem d178_48 : decode (zz_c 178) 48 = .ok (.goto 7, 3) := by decide +kernel
theorem d178_51 : decode (zz_c 178) 51 = .ok (.iload_n 3, 1) := by decide +kernel
theorem d178_52 : decode (zz_c 178) 52 = .ok (.iload 5, 2) := by decide +kernel
theorem d178_54 : decode (zz_c 178) 54 = .ok (.isub, 1) := by decide +kernel
theorem d178_55 : decode (zz_c 178) 55 = .ok (.istore 6, 2) := by decide +kernel
theorem d178_57 : decode (zz_c 178) 57 = .ok (.aload_n 0, 1) := by decide +kernel
theorem d178_58 : decode (zz_c 178) 58 = .ok (.iload 4, 2) := by decide +kernel
theorem d178_60 : decode (zz_c 178) 60 = .ok (.invokevirtual 93, 3) := by decide +kernel
theorem d178_63 : decode (zz_c 178) 63 = .ok (.ifCond .ne 18, 3) := by decide +kernel
theorem d178_66 : decode (zz_c 178) 66 = .ok (.iload 6, 2) := by decide +kernel
theorem d178_68 : decode (zz_c 178) 68 = .ok (.iload_n 2, 1) := by decide +kernel
theorem d178_69 : decode (zz_c 178) 69 = .ok (.if_icmp .lt 6, 3) := by decide +kernel
theorem d178_72 : decode (zz_c 178) 72 = .ok (.goto 9, 3) := by decide +kernel
theorem d178_75 : decode (zz_c 178) 75 = .ok (.iload 4, 2) := by decide +kernel
theorem d178_77 : decode (zz_c 178) 77 = .ok (.istore_n 1, 1) := by decide +kernel
theorem d178_78 : decode (zz_c 178) 78 = .ok (.iload 6, 2) := by decide +kernel
theorem d178_80 : decode (zz_c 178) 80 = .ok (.istore_n 2, 1) := by decide +kernel
theorem d178_81 : decode (zz_c 178) 81 = .ok (.iinc 4 1, 3) := by decide +kernel
theorem d178_84 : decode (zz_c 178) 84 = .ok (.goto (-70), 3) := by decide +kernel
theorem d178_87 : decode (zz_c 178) 87 = .ok (.iload_n 1, 1) := by decide +kernel
theorem d178_88 : decode (zz_c 178) 88 = .ok (.ireturn, 1) := by decide +kernel
theorem x178 : (∀ ls st h, zz_Y 178 (0, ls, st, h) = zz_Y 178 (1, ls, .int (-1) :: st, h)) ∧ (∀ l0 l1 l2 l3 l4 l5 l6 x st h, zz_nl l0 = true → zz_Y 178 (1, [l0, l1, l2, l3, l4, l5, l6], .int x :: st, h) = zz_Y 178 (2, [l0, some (.int x), l2, l3, l4, l5, l6], st, h)) ∧ (∀ ls st h, zz_Y 178 (2, ls, st, h) = zz_Y 178 (5, ls, .int (nI 257) :: st, h)) ∧ (∀ l0 l1 l2 l3 l4 l5 l6 x st h, zz_nl l1 = true → zz_Y 178 (5, [l0, l1, l2, l3, l4, l5, l6], .int x :: st, h) = zz_Y 178 (6, [l0, l1, some (.int x), l3, l4, l5, l6], st, h)) ∧ (∀ l1 l2 l3 l4 l5 l6 x st h, zz_Y 178 (6, [some (.ref x), l1, l2, l3, l4, l5, l6], st, h) = zz_Y 178 (7, [some (.ref x), l1, l2, l3, l4, l5, l6], .ref x :: st, h)) ∧ (∀ ls a0 h, zz_Y 178 (7, ls, [a0], h) = mo_k 178 10 ls [] (zz_run 166 [a0] h)) ∧ (∀ l0 l1 l2 l3 l4 l5 l6 x st h, zz_nl l2 = true → zz_Y 178 (10, [l0, l1, l2, l3, l4, l5, l6], .int x :: st, h) = zz_Y 178 (11, [l0, l1, l2, some (.int x), l4, l5, l6], st, h)) ∧ (∀ ls st h, zz_Y 178 (11, ls, st, h) = zz_Y 178 (12, ls, .int (nI 0) :: st, h)) ∧ (∀ l0 l1 l2 l3 l4 l5 l6 x st h, zz_nl l3 = true → zz_Y 178 (12, [l0, l1, l2, l3, l4, l5, l6], .int x :: st, h) = zz_Y 178 (14, [l0, l1, l2, l3, some (.int x), l5, l6], st, h)) ∧ (∀ l1 l2 l3 l4 l5 l6 x st h, zz_Y 178 (16, [some (.ref x), l1, l2, l3, l4, l5, l6], st, h) = zz_Y 178 (17, [some (.ref x), l1, l2, l3, l4, l5, l6], .ref x :: st, h)) ∧ (∀ ls a st h, zz_Y 178 (17, ls, .ref a :: st, h) = mo_gf (hp_g h a) 11 0 178 20 ls st h) ∧ (∀ ls st h, zz_Y 178 (20, ls, st, h) = zz_Y 178 (21, ls, .int (nI 1) :: st, h)) ∧ (∀ ls a i st h, zz_Y 178 (21, ls, .int i :: .ref a :: st, h) = mo_ia (hp_g h a) i a 178 22 ls st h) ∧ (∀ ls a b st h, zz_Y 178 (22, ls, .int b :: .int a :: st, h) = if a < b then zz_Y 178 (25, ls, st, h) else zz_Y 178 (87, ls, st, h)) ∧ (∀ l0 l1 l2 l4 l5 l6 x st h, zz_Y 178 (25, [l0, l1, l2, some (.int x), l4, l5, l6], st, h) = zz_Y 178 (26, [l0, l1, l2, some (.int x), l4, l5, l6], .int x :: st, h)) ∧ (∀ ls a st h, zz_Y 178 (26, ls, .int a :: st, h) = if nI 0 < a then zz_Y 178 (29, ls, st, h) else zz_Y 178 (87, ls, st, h)) ∧ (∀ l1 l2 l3 l4 l5 l6 x st h, zz_Y 178 (29, [some (.ref x), l1, l2, l3, l4, l5, l6], st, h) = zz_Y 178 (30, [some (.ref x), l1, l2, l3, l4, l5, l6], .ref x :: st, h)) ∧ (∀ l0 l1 l2 l3 l5 l6 x st h, zz_Y 178 (30, [l0, l1, l2, l3, some (.int x), l5, l6], st, h) = zz_Y 178 (32, [l0, l1, l2, l3, some (.int x), l5, l6], .int x :: st, h)) ∧ (∀ ls a0 a1 h, zz_Y 178 (32, ls, [a1, a0], h) = mo_k 178 35 ls [] (zz_run 177 [a0, a1] h)) ∧ (∀ l0 l1 l2 l3 l4 l5 l6 x st h, zz_nl l4 = true → zz_Y 178 (35, [l0, l1, l2, l3, l4, l5, l6], .int x :: st, h) = zz_Y 178 (37, [l0, l1, l2, l3, l4, some (.int x), l6], st, h)) ∧ (∀ l0 l1 l2 l3 l4 l6 x st h, zz_Y 178 (37, [l0, l1, l2, l3, l4, some (.int x), l6], st, h) = zz_Y 178 (39, [l0, l1, l2, l3, l4, some (.int x), l6], .int x :: st, h)) ∧ (∀ l0 l1 l2 l4 l5 l6 x st h, zz_Y 178 (39, [l0, l1, l2, some (.int x), l4, l5, l6], st, h) = zz_Y 178 (40, [l0, l1, l2, some (.int x), l4, l5, l6], .int x :: st, h)) ∧ (∀ l0 l1 l2 l3 l4 l6 x st h, zz_Y 178 (40, [l0, l1, l2, l3, l4, some (.int x), l6], st, h) = zz_Y 178 (42, [l0, l1, l2, l3, l4, some (.int x), l6], .int x :: st, h)) ∧ (∀ ls a b st h, zz_Y 178 (42, ls, .int b :: .int a :: st, h) = zz_Y 178 (43, ls, .int (a - b) :: st, h)) ∧ (∀ ls a b st h, zz_Y 178 (43, ls, .int b :: .int a :: st, h) = if b < a then zz_Y 178 (46, ls, st, h) else zz_Y 178 (51, ls, st, h)) ∧ (∀ l0 l1 l2 l3 l4 l6 x st h, zz_Y 178 (46, [l0, l1, l2, l3, l4, some (.int x), l6], st, h) = zz_Y 178 (48, [l0, l1, l2, l3, l4, some (.int x), l6], .int x :: st, h)) ∧ (∀ ls st h, zz_Y 178 (48, ls, st, h) = zz_Y 178 (55, ls, st, h)) ∧ (∀ l0 l1 l2 l4 l5 l6 x st h, zz_Y 178 (51, [l0, l1, l2, some (.int x), l4, l5, l6], st, h) = zz_Y 178 (52, [l0, l1, l2, some (.int x), l4, l5, l6], .int x :: st, h)) ∧ (∀ l0 l1 l2 l3 l4 l6 x st h, zz_Y 178 (52, [l0, l1, l2, l3, l4, some (.int x), l6], st, h) = zz_Y 178 (54, [l0, l1, l2, l3, l4, some (.int x), l6], .int x :: st, h)) ∧ (∀ ls a b st h, zz_Y 178 (54, ls, .int b :: .int a :: st, h) = zz_Y 178 (55, ls, .int (a - b) :: st, h)) ∧ (∀ l0 l1 l2 l3 l4 l5 l6 x st h, zz_nl l5 = true → zz_Y 178 (55, [l0, l1, l2, l3, l4, l5, l6], .int x :: st, h) = zz_Y 178 (57, [l0, l1, l2, l3, l4, l5, some (.int x)], st, h)) ∧ (∀ l1 l2 l3 l4 l5 l6 x st h, zz_Y 178 (57, [some (.ref x), l1, l2, l3, l4, l5, l6], st, h) = zz_Y 178 (58, [some (.ref x), l1, l2, l3, l4, l5, l6], .ref x :: st, h)) ∧ (∀ l0 l1 l2 l3 l5 l6 x st h, zz_Y 178 (58, [l0, l1, l2, l3, some (.int x), l5, l6], st, h) = zz_Y 178 (60, [l0, l1, l2, l3, some (.int x), l5, l6], .int x :: st, h)) ∧ (∀ ls a0 a1 h, zz_Y 178 (60, ls, [a1, a0], h) = mo_k 178 63 ls [] (zz_run 171 [a0, a1] h)) ∧ (∀ ls a st h, zz_Y 178 (63, ls, .int a :: st, h) = if a = nI 0 then zz_Y 178 (66, ls, st, h) else zz_Y 178 (81, ls, st, h)) ∧ (∀ l0 l1 l2 l3 l4 l5 x st h, zz_Y 178 (66, [l0, l1, l2, l3, l4, l5, some (.int x)], st, h) = zz_Y 178 (68, [l0, l1, l2, l3, l4, l5, some (.int x)], .int x :: st, h)) ∧ (∀ l0 l1 l3 l4 l5 l6 x st h, zz_Y 178 (68, [l0, l1, some (.int x), l3, l4, l5, l6], st, h) = zz_Y 178 (69, [l0, l1, some (.int x), l3, l4, l5, l6], .int x :: st, h)) ∧ (∀ ls a b st h, zz_Y 178 (69, ls, .int b :: .int a :: st, h) = if a < b then zz_Y 178 (75, ls, st, h) else zz_Y 178 (72, ls, st, h)) ∧ (∀ ls st h, zz_Y 178 (72, ls, st, h) = zz_Y 178 (81, ls, st, h)) ∧ (∀ l0 l1 l2 l3 l5 l6 x st h, zz_Y 178 (75, [l0, l1, l2, l3, some (.int x), l5, l6], st, h) = zz_Y 178 (77, [l0, l1, l2, l3, some (.int x), l5, l6], .int x :: st, h)) ∧ (∀ l0 l1 l2 l3 l4 l5 l6 x st h, zz_nl l0 = true → zz_Y 178 (77, [l0, l1, l2, l3, l4, l5, l6], .int x :: st, h) = zz_Y 178 (78, [l0, some (.int x), l2, l3, l4, l5, l6], st, h)) ∧ (∀ l0 l1 l2 l3 l4 l5 x st h, zz_Y 178 (78, [l0, l1, l2, l3, l4, l5, some (.int x)], st, h) = zz_Y 178 (80, [l0, l1, l2, l3, l4, l5, some (.int x)], .int x :: st, h)) ∧ (∀ l0 l1 l2 l3 l4 l5 l6 x st h, zz_nl l1 = true → zz_Y 178 (80, [l0, l1, l2, l3, l4, l5, l6], .int x :: st, h) = zz_Y 178 (81, [l0, l1, some (.int x), l3, l4, l5, l6], st, h)) ∧ (∀ l0 l1 l2 l3 l5 l6 x st h, zz_nl l3 = true → zz_Y 178 (81, [l0, l1, l2, l3, some (.int x), l5, l6], st, h) = zz_Y 178 (84, [l0, l1, l2, l3, some (.int (x + nI 1)), l5, l6], st, h)) ∧ (∀ ls st h, zz_Y 178 (84, ls, st, h) = zz_Y 178 (14, ls, st, h)) ∧ (∀ l0 l2 l3 l4 l5 l6 x st h, zz_Y 178 (87, [l0, some (.int x), l2, l3, l4, l5, l6], st, h) = zz_Y 178 (88, [l0, some (.int x), l2, l3, l4, l5, l6], .int x :: st, h)) ∧ (∀ ls v h, zz_Y 178 (88, ls, [.int v], h) = some (some (.int v), h)) :=
  ⟨fun _ _ _ => xl_ic d178_0 (by decide +kernel),
   fun _ _ _ _ _ _ _ _ _ _ hc => xl_isn d178_1 xml178 (by decide) (zz_nl_s1 hc),
   fun _ _ _ => xl_si d178_2 (by decide +kernel),
   fun _ _ _ _ _ _ _ _ _ _ hc => xl_isn d178_5 xml178 (by decide) (zz_nl_s1 hc),
   fun _ _ _ _ _ _ _ _ _ => xl_aln d178_6 rfl,
   fun ls a0 h => xl_cv (As := [a0]) (st := []) d178_7 xco178 xm_11_116 (congrArg Nat.succ xnp166) (by decide +kernel) rfl,
   fun _ _ _ _ _ _ _ _ _ _ hc => xl_isn d178_10 xml178 (by decide) (zz_nl_s1 hc),
   fun _ _ _ => xl_ic d178_11 (by decide +kernel),
   fun _ _ _ _ _ _ _ _ _ _ hc => xl_is d178_12 xml178 (by decide) (zz_nl_s1 hc),
   fun _ _ _ _ _ _ _ _ _ => xl_aln d178_16 rfl,
   fun _ _ _ _ => xl_gf d178_17 xco178 xf_11_7,
   fun _ _ _ => xl_ic d178_20 (by decide +kernel),
   fun _ _ _ _ _ => xl_ia d178_21,
   fun _ _ _ _ _ => xl_icge d178_22 rfl,
   fun _ _ _ _ _ _ _ _ _ => xl_iln d178_25 rfl,
   fun _ _ _ _ => xl_ifle d178_26 rfl,
   fun _ _ _ _ _ _ _ _ _ => xl_aln d178_29 rfl,
   fun _ _ _ _ _ _ _ _ _ => xl_il d178_30 rfl,
   fun ls a0 a1 h => xl_cv (As := [a0, a1]) (st := []) d178_32 xco178 xm_11_113 (congrArg Nat.succ xnp177) (by decide +kernel) rfl,
   fun _ _ _ _ _ _ _ _ _ _ hc => xl_is d178_35 xml178 (by decide) (zz_nl_s1 hc),
   fun _ _ _ _ _ _ _ _ _ => xl_il d178_37 rfl,
   fun _ _ _ _ _ _ _ _ _ => xl_iln d178_39 rfl,
   fun _ _ _ _ _ _ _ _ _ => xl_il d178_40 rfl,
   fun _ _ _ _ _ => xl_isub d178_42,
   fun _ _ _ _ _ => xl_icle d178_43 rfl,
   fun _ _ _ _ _ _ _ _ _ => xl_il d178_46 rfl,
   fun _ _ _ => xl_goto d178_48 rfl,
   fun _ _ _ _ _ _ _ _ _ => xl_iln d178_51 rfl,
   fun _ _ _ _ _ _ _ _ _ => xl_il d178_52 rfl,
   fun _ _ _ _ _ => xl_isub d178_54,
   fun _ _ _ _ _ _ _ _ _ _ hc => xl_is d178_55 xml178 (by decide) (zz_nl_s1 hc),
   fun _ _ _ _ _ _ _ _ _ => xl_aln d178_57 rfl,
   fun _ _ _ _ _ _ _ _ _ => xl_il d178_58 rfl,
   fun ls a0 a1 h => xl_cv (As := [a0, a1]) (st := []) d178_60 xco178 xm_11_93 (congrArg Nat.succ xnp171) (by decide +kernel) rfl,
   fun _ _ _ _ => xl_ifne d178_63 rfl,
   fun _ _ _ _ _ _ _ _ _ => xl_il d178_66 rfl,
   fun _ _ _ _ _ _ _ _ _ => xl_iln d178_68 rfl,
   fun _ _ _ _ _ => xl_iclt d178_69 rfl,
   fun _ _ _ => xl_goto d178_72 rfl,
   fun _ _ _ _ _ _ _ _ _ => xl_il d178_75 rfl,
   fun _ _ _ _ _ _ _ _ _ _ hc => xl_isn d178_77 xml178 (by decide) (zz_nl_s1 hc),
   fun _ _ _ _ _ _ _ _ _ => xl_il d178_78 rfl,
   fun _ _ _ _ _ _ _ _ _ _ hc => xl_isn d178_80 xml178 (by decide) (zz_nl_s1 hc),
   fun _ _ _ _ _ _ _ _ _ hc => xl_inc d178_81 xml178 (by decide) rfl (by decide +kernel) (zz_nl_s1 hc),
   fun _ _ _ => xl_goto d178_84 rfl,
   fun _ _ _ _ _ _ _ _ _ => xl_iln d178_87 rfl,
   fun _ _ _ => xl_iri d178_88 xrt178⟩
theorem x178_c14 : ∀ l0 l1 l2 l3 l5 l6 x st h, zz_Y 178 (14, [l0, l1, l2, l3, some (.int x), l5, l6], st, h) = zz_Y 178 (16, [l0, l1, l2, l3, some (.int x), l5, l6], .int x :: st, h) := fun _ _ _ _ _ _ _ _ _ => xl_il d178_14 rfl
/-! 179 FacetSieveModel.head(II)I -/
theorem d179_0 : decode (zz_c 179) 0 = .ok (.aload_n 0, 1) := by decide +kernel
theorem d179_1 : decode (zz_c 179) 1 = .ok (.iload_n 1, 1) := by decide +kernel
theorem d179_2 : decode (zz_c 179) 2 = .ok (.invokevirtual 157, 3) := by decide +kernel
theorem d179_5 : decode (zz_c 179) 5 = .ok (.ifCond .ne 5, 3) := by decide +kernel
theorem d179_8 : decode (zz_c 179) 8 = .ok (.iconst (-1), 1) := by decide +kernel
theorem d179_9 : decode (zz_c 179) 9 = .ok (.ireturn, 1) := by decide +kernel
theorem d179_10 : decode (zz_c 179) 10 = .ok (.iload_n 1, 1) := by decide +kernel
theorem d179_11 : decode (zz_c 179) 11 = .ok (.invokestatic 100, 3) := by decide +kernel
theorem d179_14 : decode (zz_c 179) 14 = .ok (.istore_n 3, 1) := by decide +kernel
theorem d179_15 : decode (zz_c 179) 15 = .ok (.iload_n 2, 1) := by decide +kernel
theorem d179_16 : decode (zz_c 179) 16 = .ok (.bipush 10, 2) := by decide +kernel
theorem d179_18 : decode (zz_c 179) 18 = .ok (.if_icmp .lt 15, 3) := by decide +kernel
theorem d179_21 : decode (zz_c 179) 21 = .ok (.aload_n 0, 1) := by decide +kernel
theorem d179_22 : decode (zz_c 179) 22 = .ok (.iload_n 3, 1) := by decide +kernel
theorem d179_23 : decode (zz_c 179) 23 = .ok (.iconst 2, 1) := by decide +kernel
theorem d179_24 : decode (zz_c 179) 24 = .ok (.iadd, 1) := by decide +kernel
theorem d179_25 : decode (zz_c 179) 25 = .ok (.iload_n 2, 1) := by decide +kernel
theorem d179_26 : decode (zz_c 179) 26 = .ok (.bipush 10, 2) := by decide +kernel
theorem d179_28 : decode (zz_c 179) 28 = .ok (.isub, 1) := by decide +kernel
theorem d179_29 : decode (zz_c 179) 29 = .ok (.invokevirtual 160, 3) := by decide +kernel
theorem d179_32 : decode (zz_c 179) 32 = .ok (.ireturn, 1) := by decide +kernel
theorem d179_33 : decode (zz_c 179) 33 = .ok (.iconst 0, 1) := by decide +kernel
theorem d179_34 : decode (zz_c 179) 34 = .ok (.istore 4, 2) := by decide +kernel
theorem d179_36 : decode (zz_c 179) 36 = .ok (.iconst 0, 1) := by decide +kernel
theorem d179_37 : decode (zz_c 179) 37 = .ok (.istore 5, 2) := by decide +kernel
theorem d179_39 : decode (zz_c 179) 39 = .ok (.iload 5, 2) := by decide +kernel
theorem d179_41 : decode (zz_c 179) 41 = .ok (.aload_n 0, 1) := by decide +kernel
theorem d179_42 : decode (zz_c 179) 42 = .ok (.getfield 7, 3) := by decide +kernel
theorem d179_45 : decode (zz_c 179) 45 = .ok (.iconst 1, 1) := by decide +kernel
theorem d179_46 : decode (zz_c 179) 46 = .ok (.iaload, 1) := by decide +kernel
theorem d179_47 : decode (zz_c 179) 47 = .ok (.if_icmp .ge 44, 3) := by decide +kernel
theorem d179_50 : decode (zz_c 179) 50 = .ok (.iload 4, 2) := by decide +kernel
theorem d179_52 : decode (zz_c 179) 52 = .ok (.aload_n 0, 1) := by decide +kernel
theorem d179_53 : decode (zz_c 179) 53 = .ok (.iload 5, 2) := by decide +kernel
theorem d179_55 : decode (zz_c 179) 55 = .ok (.invokevirtual 103, 3) := by decide +kernel
theorem d179_58 : decode (zz_c 179) 58 = .ok (.iload_n 1, 1) := by decide +kernel
theorem d179_59 : decode (zz_c 179) 59 = .ok (.if_icmp .ne 22, 3) := by decide +kernel
theorem d179_62 : decode (zz_c 179) 62 = .ok (.iload_n 2, 1) := by decide +kernel
theorem d179_63 : decode (zz_c 179) 63 = .ok (.iconst 1, 1) := by decide +kernel
theorem d179_64 : decode (zz_c 179) 64 = .ok (.if_icmp .eq 13, 3) := by decide +kernel
theorem d179_67 : decode (zz_c 179) 67 = .ok (.aload_n 0, 1) := by decide +kernel
theorem d179_68 : decode (zz_c 179) 68 = .ok (.iload 5, 2) := by decide +kernel
theorem d179_70 : decode (zz_c 179) 70 = .ok (.invokevirtual 93, 3) := by decide +kernel
theorem d179_73 : decode (zz_c 179) 73 = .ok (.iconst 1, 1) := by decide +kernel
theorem d179_74 : decode (zz_c 179) 74 = .ok (.if_icmp .ne 7, 3) := by decide +kernel
theorem d179_77 : decode (zz_c 179) 77 = .ok (.iconst 1, 1) := by decide +kernel
theorem d179_78 : decode (zz_c 179) 78 = .ok (.goto 4, 3) := by decide +kernel
theorem d179_81 : decode (zz_c 179) 81 = .ok (.iconst 0, 1) := by decide +kernel
theorem d179_82 : decode (zz_c 179) 82 = .ok (.iadd, 1) := by decide +kernel
theorem d179_83 : decode (zz_c 179) 83 = .ok (.istore 4, 2) := by decide +kernel
theorem d179_85 : decode (zz_c 179) 85 = .ok (.iinc 5 1, 3) := by decide +kernel
theorem d179_88 : decode (zz_c 179) 88 = .ok (.goto (-49), 3) := by decide +kernel
theorem d179_91 : decode (zz_c 179) 91 = .ok (.iload_n 2, 1) := by decide +kernel
theorem d179_92 : decode (zz_c 179) 92 = .ok (.ifCond .ne 14, 3) := by decide +kernel
theorem d179_95 : decode (zz_c 179) 95 = .ok (.aload_n 0, 1) := by decide +kernel
theorem d179_96 : decode (zz_c 179) 96 = .ok (.getfield 7, 3) := by decide +kernel
theorem d179_99 : decode (zz_c 179) 99 = .ok (.iload_n 3, 1) := by decide +kernel
theorem d179_100 : decode (zz_c 179) 100 = .ok (.iconst 0, 1) := by decide +kernel
theorem d179_101 : decode (zz_c 179) 101 = .ok (.iadd, 1) := by decide +kernel
theorem d179_102 : decode (zz_c 179) 102 = .ok (.iaload, 1) := by decide +kernel
theorem d179_103 : decode (zz_c 179) 103 = .ok (.goto 35, 3) := by decide +kernel
theorem d179_106 : decode (zz_c 179) 106 = .ok (.iload_n 2, 1) := by decide +kernel
theorem d179_107 : decode (zz_c 179) 107 = .ok (.iconst 2, 1) := by decide +kernel
theorem d179_108 : decode (zz_c 179) 108 = .ok (.if_icmp .ne 14, 3) := by decide +kernel
theorem d179_111 : decode (zz_c 179) 111 = .ok (.aload_n 0, 1) := by decide +kernel
theorem d179_112 : decode (zz_c 179) 112 = .ok (.getfield 7, 3) := by decide +kernel
theorem d179_115 : decode (zz_c 179) 115 = .ok (.iload_n 3, 1) := by decide +kernel
theorem d179_116 : decode (zz_c 179) 116 = .ok (.iconst 1, 1) := by decide +kernel
theorem d179_117 : decode (zz_c 179) 117 = .ok (.iadd, 1) := by decide +kernel
theorem d179_118 : decode (zz_c 179) 118 = .ok (.iaload, 1) := by decide +kernel
theorem d179_119 : decode (zz_c 179) 119 = .ok (.goto 19, 3) := by decide +kernel
theorem d179_122 : decode (zz_c 179) 122 = .ok (.iload_n 2, 1) := by decide +kernel
theorem d179_123 : decode (zz_c 179) 123 = .ok (.iconst 1, 1) := by decide +kernel
theorem d179_124 : decode (zz_c 179) 124 = .ok (.if_icmp .eq 8, 3) := by decide +kernel
theorem d179_127 : decode (zz_c 179) 127 = .ok (.iload_n 2, 1) := by decide +kernel
theorem d179_128 : decode (zz_c 179) 128 = .ok (.iconst 3, 1) := by decide +kernel
theorem d179_129 : decode (zz_c 179) 129 = .ok (.if_icmp .ne 8, 3) := by decide +kernel
theorem d179_132 : decode (zz_c 179) 132 = .ok (.iload 4, 2) := by decide +kernel
theorem d179_134 : decode (zz_c 179) 134 = .ok (.goto 4, 3) := by decide +kernel
theorem d179_137 : decode (zz_c 179) 137 = .ok (.iconst (-1), 1) := by decide +kernel
theorem d179_138 : decode (zz_c 179) 138 = .ok (.ireturn, 1) := by decide +kernel
theorem x179_p0 : (∀ l1 l2 l3 l4 l5 x st h, zz_Y 179 (0, [some (.ref x), l1, l2, l3, l4, l5], st, h) = zz_Y 179 (1, [some (.ref x), l1, l2, l3, l4, l5], .ref x :: st, h)) ∧ (∀ l0 l2 l3 l4 l5 x st h, zz_Y 179 (1, [l0, some (.int x), l2, l3, l4, l5], st, h) = zz_Y 179 (2, [l0, some (.int x), l2, l3, l4, l5], .int x :: st, h)) ∧ (∀ ls a0 a1 h, zz_Y 179 (2, ls, [a1, a0], h) = mo_k 179 5 ls [] (zz_run 180 [a0, a1] h)) ∧ (∀ ls a st h, zz_Y 179 (5, ls, .int a :: st, h) = if a = nI 0 then zz_Y 179 (8, ls, st, h) else zz_Y 179 (10, ls, st, h)) ∧ (∀ ls st h, zz_Y 179 (8, ls, st, h) = zz_Y 179 (9, ls, .int (-1) :: st, h)) ∧ (∀ ls v h, zz_Y 179 (9, ls, [.int v], h) = some (some (.int v), h)) ∧ (∀ l0 l2 l3 l4 l5 x st h, zz_Y 179 (10, [l0, some (.int x), l2, l3, l4, l5], st, h) = zz_Y 179 (11, [l0, some (.int x), l2, l3, l4, l5], .int x :: st, h)) ∧ (∀ ls a0 h, zz_Y 179 (11, ls, [a0], h) = mo_k 179 14 ls [] (zz_run 169 [a0] h)) ∧ (∀ l0 l1 l2 l3 l4 l5 x st h, zz_nl l2 = true → zz_Y 179 (14, [l0, l1, l2, l3, l4, l5], .int x :: st, h) = zz_Y 179 (15, [l0, l1, l2, some (.int x), l4, l5], st, h)) ∧ (∀ l0 l1 l3 l4 l5 x st h, zz_Y 179 (15, [l0, l1, some (.int x), l3, l4, l5], st, h) = zz_Y 179 (16, [l0, l1, some (.int x), l3, l4, l5], .int x :: st, h)) ∧ (∀ ls st h, zz_Y 179 (16, ls, st, h) = zz_Y 179 (18, ls, .int (nI 10) :: st, h)) ∧ (∀ ls a b st h, zz_Y 179 (18, ls, .int b :: .int a :: st, h) = if a < b then zz_Y 179 (33, ls, st, h) else zz_Y 179 (21, ls, st, h)) ∧ (∀ l1 l2 l3 l4 l5 x st h, zz_Y 179 (21, [some (.ref x), l1, l2, l3, l4, l5], st, h) = zz_Y 179 (22, [some (.ref x), l1, l2, l3, l4, l5], .ref x :: st, h)) ∧ (∀ l0 l1 l2 l4 l5 x st h, zz_Y 179 (22, [l0, l1, l2, some (.int x), l4, l5], st, h) = zz_Y 179 (23, [l0, l1, l2, some (.int x), l4, l5], .int x :: st, h)) ∧ (∀ ls st h, zz_Y 179 (23, ls, st, h) = zz_Y 179 (24, ls, .int (nI 2) :: st, h)) ∧ (∀ ls a b st h, zz_Y 179 (24, ls, .int b :: .int a :: st, h) = zz_Y 179 (25, ls, .int (a + b) :: st, h)) ∧ (∀ l0 l1 l3 l4 l5 x st h, zz_Y 179 (25, [l0, l1, some (.int x), l3, l4, l5], st, h) = zz_Y 179 (26, [l0, l1, some (.int x), l3, l4, l5], .int x :: st, h)) ∧ (∀ ls st h, zz_Y 179 (26, ls, st, h) = zz_Y 179 (28, ls, .int (nI 10) :: st, h)) ∧ (∀ ls a b st h, zz_Y 179 (28, ls, .int b :: .int a :: st, h) = zz_Y 179 (29, ls, .int (a - b) :: st, h)) ∧ (∀ ls a0 a1 a2 h, zz_Y 179 (29, ls, [a2, a1, a0], h) = mo_k 179 32 ls [] (zz_run 181 [a0, a1, a2] h)) ∧ (∀ ls v h, zz_Y 179 (32, ls, [.int v], h) = some (some (.int v), h)) ∧ (∀ ls st h, zz_Y 179 (33, ls, st, h) = zz_Y 179 (34, ls, .int (nI 0) :: st, h)) ∧ (∀ l0 l1 l2 l3 l4 l5 x st h, zz_nl l3 = true → zz_Y 179 (34, [l0, l1, l2, l3, l4, l5], .int x :: st, h) = zz_Y 179 (36, [l0, l1, l2, l3, some (.int x), l5], st, h)) ∧ (∀ ls st h, zz_Y 179 (36, ls, st, h) = zz_Y 179 (37, ls, .int (nI 0) :: st, h)) ∧ (∀ l0 l1 l2 l3 l4 l5 x st h, zz_nl l4 = true → zz_Y 179 (37, [l0, l1, l2, l3, l4, l5], .int x :: st, h) = zz_Y 179 (39, [l0, l1, l2, l3, l4, some (.int x)], st, h)) ∧ (∀ l1 l2 l3 l4 l5 x st h, zz_Y 179 (41, [some (.ref x), l1, l2, l3, l4, l5], st, h) = zz_Y 179 (42, [some (.ref x), l1, l2, l3, l4, l5], .ref x :: st, h)) ∧ (∀ ls a st h, zz_Y 179 (42, ls, .ref a :: st, h) = mo_gf (hp_g h a) 11 0 179 45 ls st h) ∧ (∀ ls st h, zz_Y 179 (45, ls, st, h) = zz_Y 179 (46, ls, .int (nI 1) :: st, h)) ∧ (∀ ls a i st h, zz_Y 179 (46, ls, .int i :: .ref a :: st, h) = mo_ia (hp_g h a) i a 179 47 ls st h) ∧ (∀ ls a b st h, zz_Y 179 (47, ls, .int b :: .int a :: st, h) = if a < b then zz_Y 179 (50, ls, st, h) else zz_Y 179 (91, ls, st, h)) ∧ (∀ l0 l1 l2 l3 l5 x st h, zz_Y 179 (50, [l0, l1, l2, l3, some (.int x), l5], st, h) = zz_Y 179 (52, [l0, l1, l2, l3, some (.int x), l5], .int x :: st, h)) ∧ (∀ l1 l2 l3 l4 l5 x st h, zz_Y 179 (52, [some (.ref x), l1, l2, l3, l4, l5], st, h) = zz_Y 179 (53, [some (.ref x), l1, l2, l3, l4, l5], .ref x :: st, h)) ∧ (∀ l0 l1 l2 l3 l4 x st h, zz_Y 179 (53, [l0, l1, l2, l3, l4, some (.int x)], st, h) = zz_Y 179 (55, [l0, l1, l2, l3, l4, some (.int x)], .int x :: st, h)) ∧ (∀ ls a0 a1 s0 h, zz_Y 179 (55, ls, [a1, a0, s0], h) = mo_k 179 58 ls [s0] (zz_run 170 [a0, a1] h)) ∧ (∀ l0 l2 l3 l4 l5 x st h, zz_Y 179 (58, [l0, some (.int x), l2, l3, l4, l5], st, h) = zz_Y 179 (59, [l0, some (.int x), l2, l3, l4, l5], .int x :: st, h)) ∧ (∀ ls a b st h, zz_Y 179 (59, ls, .int b :: .int a :: st, h) = if a = b then zz_Y 179 (62, ls, st, h) else zz_Y 179 (81, ls, st, h)) ∧ (∀ l0 l1 l3 l4 l5 x st h, zz_Y 179 (62, [l0, l1, some (.int x), l3, l4, l5], st, h) = zz_Y 179 (63, [l0, l1, some (.int x), l3, l4, l5], .int x :: st, h)) ∧ (∀ ls st h, zz_Y 179 (63, ls, st, h) = zz_Y 179 (64, ls, .int (nI 1) :: st, h)) ∧ (∀ ls a b st h, zz_Y 179 (64, ls, .int b :: .int a :: st, h) = if a = b then zz_Y 179 (77, ls, st, h) else zz_Y 179 (67, ls, st, h)) ∧ (∀ l1 l2 l3 l4 l5 x st h, zz_Y 179 (67, [some (.ref x), l1, l2, l3, l4, l5], st, h) = zz_Y 179 (68, [some (.ref x), l1, l2, l3, l4, l5], .ref x :: st, h)) ∧ (∀ l0 l1 l2 l3 l4 x st h, zz_Y 179 (68, [l0, l1, l2, l3, l4, some (.int x)], st, h) = zz_Y 179 (70, [l0, l1, l2, l3, l4, some (.int x)], .int x :: st, h)) ∧ (∀ ls a0 a1 s0 h, zz_Y 179 (70, ls, [a1, a0, s0], h) = mo_k 179 73 ls [s0] (zz_run 171 [a0, a1] h)) ∧ (∀ ls st h, zz_Y 179 (73, ls, st, h) = zz_Y 179 (74, ls, .int (nI 1) :: st, h)) ∧ (∀ ls a b st h, zz_Y 179 (74, ls, .int b :: .int a :: st, h) = if a = b then zz_Y 179 (77, ls, st, h) else zz_Y 179 (81, ls, st, h)) ∧ (∀ ls st h, zz_Y 179 (77, ls, st, h) = zz_Y 179 (78, ls, .int (nI 1) :: st, h)) ∧ (∀ ls st h, zz_Y 179 (78, ls, st, h) = zz_Y 179 (82, ls, st, h)) ∧ (∀ ls st h, zz_Y 179 (81, ls, st, h) = zz_Y 179 (82, ls, .int (nI 0) :: st, h)) ∧ (∀ ls a b st h, zz_Y 179 (82, ls, .int b :: .int a :: st, h) = zz_Y 179 (83, ls, .int (a + b) :: st, h)) ∧ (∀ l0 l1 l2 l3 l4 l5 x st h, zz_nl l3 = true → zz_Y 179 (83, [l0, l1, l2, l3, l4, l5], .int x :: st, h) = zz_Y 179 (85, [l0, l1, l2, l3, some (.int x), l5], st, h)) ∧ (∀ l0 l1 l2 l3 l4 x st h, zz_nl l4 = true → zz_Y 179 (85, [l0, l1, l2, l3, l4, some (.int x)], st, h) = zz_Y 179 (88, [l0, l1, l2, l3, l4, some (.int (x + nI 1))], st, h)) ∧ (∀ ls st h, zz_Y 179 (88, ls, st, h) = zz_Y 179 (39, ls, st, h)) ∧ (∀ l0 l1 l3 l4 l5 x st h, zz_Y 179 (91, [l0, l1, some (.int x), l3, l4, l5], st, h) = zz_Y 179 (92, [l0, l1, some (.int x), l3, l4, l5], .int x :: st, h)) ∧ (∀ ls a st h, zz_Y 179 (92, ls, .int a :: st, h) = if a = nI 0 then zz_Y 179 (95, ls, st, h) else zz_Y 179 (106, ls, st, h)) ∧ (∀ l1 l2 l3 l4 l5 x st h, zz_Y 179 (95, [some (.ref x), l1, l2, l3, l4, l5], st, h) = zz_Y 179 (96, [some (.ref x), l1, l2, l3, l4, l5], .ref x :: st, h)) ∧ (∀ ls a st h, zz_Y 179 (96, ls, .ref a :: st, h) = mo_gf (hp_g h a) 11 0 179 99 ls st h) ∧ (∀ l0 l1 l2 l4 l5 x st h, zz_Y 179 (99, [l0, l1, l2, some (.int x), l4, l5], st, h) = zz_Y 179 (100, [l0, l1, l2, some (.int x), l4, l5], .int x :: st, h)) ∧ (∀ ls st h, zz_Y 179 (100, ls, st, h) = zz_Y 179 (101, ls, .int (nI 0) :: st, h)) ∧ (∀ ls a b st h, zz_Y 179 (101, ls, .int b :: .int a :: st, h) = zz_Y 179 (102, ls, .int (a + b) :: st, h)) ∧ (∀ ls a i st h, zz_Y 179 (102, ls, .int i :: .ref a :: st, h) = mo_ia (hp_g h a) i a 179 103 ls st h) ∧ (∀ ls st h, zz_Y 179 (103, ls, st, h) = zz_Y 179 (138, ls, st, h)) :=
  ⟨fun _ _ _ _ _ _ _ _ => xl_aln d179_0 rfl,
   fun _ _ _ _ _ _ _ _ => xl_iln d179_1 rfl,
   fun ls a0 a1 h => xl_cv (As := [a0, a1]) (st := []) d179_2 xco179 xm_11_157 (congrArg Nat.succ xnp180) (by decide +kernel) rfl,
   fun _ _ _ _ => xl_ifne d179_5 rfl,
   fun _ _ _ => xl_ic d179_8 (by decide +kernel),
   fun _ _ _ => xl_iri d179_9 xrt179,
   fun _ _ _ _ _ _ _ _ => xl_iln d179_10 rfl,
   fun ls a0 h => xl_cs (As := [a0]) (st := []) d179_11 xco179 xm_11_100 xnp169 (by decide +kernel) rfl,
   fun _ _ _ _ _ _ _ _ _ hc => xl_isn d179_14 xml179 (by decide) (zz_nl_s1 hc),
   fun _ _ _ _ _ _ _ _ => xl_iln d179_15 rfl,
   fun _ _ _ => xl_bi d179_16 (by decide +kernel),
   fun _ _ _ _ _ => xl_iclt d179_18 rfl,
   fun _ _ _ _ _ _ _ _ => xl_aln d179_21 rfl,
   fun _ _ _ _ _ _ _ _ => xl_iln d179_22 rfl,
   fun _ _ _ => xl_ic d179_23 (by decide +kernel),
   fun _ _ _ _ _ => xl_iadd d179_24,
   fun _ _ _ _ _ _ _ _ => xl_iln d179_25 rfl,
   fun _ _ _ => xl_bi d179_26 (by decide +kernel),
   fun _ _ _ _ _ => xl_isub d179_28,
   fun ls a0 a1 a2 h => xl_cv (As := [a0, a1, a2]) (st := []) d179_29 xco179 xm_11_160 (congrArg Nat.succ xnp181) (by decide +kernel) rfl,
   fun _ _ _ => xl_iri d179_32 xrt179,
   fun _ _ _ => xl_ic d179_33 (by decide +kernel),
   fun _ _ _ _ _ _ _ _ _ hc => xl_is d179_34 xml179 (by decide) (zz_nl_s1 hc),
   fun _ _ _ => xl_ic d179_36 (by decide +kernel),
   fun _ _ _ _ _ _ _ _ _ hc => xl_is d179_37 xml179 (by decide) (zz_nl_s1 hc),
   fun _ _ _ _ _ _ _ _ => xl_aln d179_41 rfl,
   fun _ _ _ _ => xl_gf d179_42 xco179 xf_11_7,
   fun _ _ _ => xl_ic d179_45 (by decide +kernel),
   fun _ _ _ _ _ => xl_ia d179_46,
   fun _ _ _ _ _ => xl_icge d179_47 rfl,
   fun _ _ _ _ _ _ _ _ => xl_il d179_50 rfl,
   fun _ _ _ _ _ _ _ _ => xl_aln d179_52 rfl,
   fun _ _ _ _ _ _ _ _ => xl_il d179_53 rfl,
   fun ls a0 a1 s0 h => xl_cv (As := [a0, a1]) (st := [s0]) d179_55 xco179 xm_11_103 (congrArg Nat.succ xnp170) (by decide +kernel) rfl,
   fun _ _ _ _ _ _ _ _ => xl_iln d179_58 rfl,
   fun _ _ _ _ _ => xl_icne d179_59 rfl,
   fun _ _ _ _ _ _ _ _ => xl_iln d179_62 rfl,
   fun _ _ _ => xl_ic d179_63 (by decide +kernel),
   fun _ _ _ _ _ => xl_iceq d179_64 rfl,
   fun _ _ _ _ _ _ _ _ => xl_aln d179_67 rfl,
   fun _ _ _ _ _ _ _ _ => xl_il d179_68 rfl,
   fun ls a0 a1 s0 h => xl_cv (As := [a0, a1]) (st := [s0]) d179_70 xco179 xm_11_93 (congrArg Nat.succ xnp171) (by decide +kernel) rfl,
   fun _ _ _ => xl_ic d179_73 (by decide +kernel),
   fun _ _ _ _ _ => xl_icne d179_74 rfl,
   fun _ _ _ => xl_ic d179_77 (by decide +kernel),
   fun _ _ _ => xl_goto d179_78 rfl,
   fun _ _ _ => xl_ic d179_81 (by decide +kernel),
   fun _ _ _ _ _ => xl_iadd d179_82,
   fun _ _ _ _ _ _ _ _ _ hc => xl_is d179_83 xml179 (by decide) (zz_nl_s1 hc),
   fun _ _ _ _ _ _ _ _ hc => xl_inc d179_85 xml179 (by decide) rfl (by decide +kernel) (zz_nl_s1 hc),
   fun _ _ _ => xl_goto d179_88 rfl,
   fun _ _ _ _ _ _ _ _ => xl_iln d179_91 rfl,
   fun _ _ _ _ => xl_ifne d179_92 rfl,
   fun _ _ _ _ _ _ _ _ => xl_aln d179_95 rfl,
   fun _ _ _ _ => xl_gf d179_96 xco179 xf_11_7,
   fun _ _ _ _ _ _ _ _ => xl_iln d179_99 rfl,
   fun _ _ _ => xl_ic d179_100 (by decide +kernel),
   fun _ _ _ _ _ => xl_iadd d179_101,
   fun _ _ _ _ _ => xl_ia d179_102,
   fun _ _ _ => xl_goto d179_103 rfl⟩
theorem x179_p1 : (∀ l0 l1 l3 l4 l5 x st h, zz_Y 179 (106, [l0, l1, some (.int x), l3, l4, l5], st, h) = zz_Y 179 (107, [l0, l1, some (.int x), l3, l4, l5], .int x :: st, h)) ∧ (∀ ls st h, zz_Y 179 (107, ls, st, h) = zz_Y 179 (108, ls, .int (nI 2) :: st, h)) ∧ (∀ ls a b st h, zz_Y 179 (108, ls, .int b :: .int a :: st, h) = if a = b then zz_Y 179 (111, ls, st, h) else zz_Y 179 (122, ls, st, h)) ∧ (∀ l1 l2 l3 l4 l5 x st h, zz_Y 179 (111, [some (.ref x), l1, l2, l3, l4, l5], st, h) = zz_Y 179 (112, [some (.ref x), l1, l2, l3, l4, l5], .ref x :: st, h)) ∧ (∀ ls a st h, zz_Y 179 (112, ls, .ref a :: st, h) = mo_gf (hp_g h a) 11 0 179 115 ls st h) ∧ (∀ l0 l1 l2 l4 l5 x st h, zz_Y 179 (115, [l0, l1, l2, some (.int x), l4, l5], st, h) = zz_Y 179 (116, [l0, l1, l2, some (.int x), l4, l5], .int x :: st, h)) ∧ (∀ ls st h, zz_Y 179 (116, ls, st, h) = zz_Y 179 (117, ls, .int (nI 1) :: st, h)) ∧ (∀ ls a b st h, zz_Y 179 (117, ls, .int b :: .int a :: st, h) = zz_Y 179 (118, ls, .int (a + b) :: st, h)) ∧ (∀ ls a i st h, zz_Y 179 (118, ls, .int i :: .ref a :: st, h) = mo_ia (hp_g h a) i a 179 119 ls st h) ∧ (∀ ls st h, zz_Y 179 (119, ls, st, h) = zz_Y 179 (138, ls, st, h)) ∧ (∀ l0 l1 l3 l4 l5 x st h, zz_Y 179 (122, [l0, l1, some (.int x), l3, l4, l5], st, h) = zz_Y 179 (123, [l0, l1, some (.int x), l3, l4, l5], .int x :: st, h)) ∧ (∀ ls st h, zz_Y 179 (123, ls, st, h) = zz_Y 179 (124, ls, .int (nI 1) :: st, h)) ∧ (∀ ls a b st h, zz_Y 179 (124, ls, .int b :: .int a :: st, h) = if a = b then zz_Y 179 (132, ls, st, h) else zz_Y 179 (127, ls, st, h)) ∧ (∀ l0 l1 l3 l4 l5 x st h, zz_Y 179 (127, [l0, l1, some (.int x), l3, l4, l5], st, h) = zz_Y 179 (128, [l0, l1, some (.int x), l3, l4, l5], .int x :: st, h)) ∧ (∀ ls st h, zz_Y 179 (128, ls, st, h) = zz_Y 179 (129, ls, .int (nI 3) :: st, h)) ∧ (∀ ls a b st h, zz_Y 179 (129, ls, .int b :: .int a :: st, h) = if a = b then zz_Y 179 (132, ls, st, h) else zz_Y 179 (137, ls, st, h)) ∧ (∀ l0 l1 l2 l3 l5 x st h, zz_Y 179 (132, [l0, l1, l2, l3, some (.int x), l5], st, h) = zz_Y 179 (134, [l0, l1, l2, l3, some (.int x), l5], .int x :: st, h)) ∧ (∀ ls st h, zz_Y 179 (134, ls, st, h) = zz_Y 179 (138, ls, st, h)) ∧ (∀ ls st h, zz_Y 179 (137, ls, st, h) = zz_Y 179 (138, ls, .int (-1) :: st, h)) ∧ (∀ ls v h, zz_Y 179 (138, ls, [.int v], h) = some (some (.int v), h)) :=
  ⟨fun _ _ _ _ _ _ _ _ => xl_iln d179_106 rfl,
   fun _ _ _ => xl_ic d179_107 (by decide +kernel),
   fun _ _ _ _ _ => xl_icne d179_108 rfl,
   fun _ _ _ _ _ _ _ _ => xl_aln d179_111 rfl,
   fun _ _ _ _ => xl_gf d179_112 xco179 xf_11_7,
   fun _ _ _ _ _ _ _ _ => xl_iln d179_115 rfl,
   fun _ _ _ => xl_ic d179_116 (by decide +kernel),
   fun _ _ _ _ _ => xl_iadd d179_117,
   fun _ _ _ _ _ => xl_ia d179_118,
   fun _ _ _ => xl_goto d179_119 rfl,
   fun _ _ _ _ _ _ _ _ => xl_iln d179_122 rfl,
   fun _ _ _ => xl_ic d179_123 (by decide +kernel),
   fun _ _ _ _ _ => xl_iceq d179_124 rfl,
   fun _ _ _ _ _ _ _ _ => xl_iln d179_127 rfl,
   fun _ _ _ => xl_ic d179_128 (by decide +kernel),
   fun _ _ _ _ _ => xl_icne d179_129 rfl,
   fun _ _ _ _ _ _ _ _ => xl_il d179_132 rfl,
   fun _ _ _ => xl_goto d179_134 rfl,
   fun _ _ _ => xl_ic d179_137 (by decide +kernel),
   fun _ _ _ => xl_iri d179_138 xrt179⟩
theorem x179_c39 : ∀ l0 l1 l2 l3 l4 x st h, zz_Y 179 (39, [l0, l1, l2, l3, l4, some (.int x)], st, h) = zz_Y 179 (41, [l0, l1, l2, l3, l4, some (.int x)], .int x :: st, h) := fun _ _ _ _ _ _ _ _ => xl_il d179_39 rfl
/-! 180 FacetSieveModel.isHead(I)Z -/
theorem d180_0 : decode (zz_c 180) 0 = .ok (.iload_n 1, 1) := by decide +kernel
theorem d180_1 : decode (zz_c 180) 1 = .ok (.iconst 0, 1) := by decide +kernel
theorem d180_2 : decode (zz_c 180) 2 = .ok (.aload_n 0, 1) := by decide +kernel
theorem d180_3 : decode (zz_c 180) 3 = .ok (.getfield 7, 3) := by decide +kernel
theorem d180_6 : decode (zz_c 180) 6 = .ok (.iconst 0, 1) := by decide +kernel
theorem d180_7 : decode (zz_c 180) 7 = .ok (.iaload, 1) := by decide +kernel
theorem d180_8 : decode (zz_c 180) 8 = .ok (.iconst 1, 1) := by decide +kernel
theorem d180_9 : decode (zz_c 180) 9 = .ok (.isub, 1) := by decide +kernel
theorem d180_10 : decode (zz_c 180) 10 = .ok (.invokestatic 57, 3) := by decide +kernel
theorem d180_13 : decode (zz_c 180) 13 = .ok (.ireturn, 1) := by decide +kernel
theorem x180 : (∀ l0 x st h, zz_Y 180 (0, [l0, some (.int x)], st, h) = zz_Y 180 (1, [l0, some (.int x)], .int x :: st, h)) ∧ (∀ ls st h, zz_Y 180 (1, ls, st, h) = zz_Y 180 (2, ls, .int (nI 0) :: st, h)) ∧ (∀ l1 x st h, zz_Y 180 (2, [some (.ref x), l1], st, h) = zz_Y 180 (3, [some (.ref x), l1], .ref x :: st, h)) ∧ (∀ ls a st h, zz_Y 180 (3, ls, .ref a :: st, h) = mo_gf (hp_g h a) 11 0 180 6 ls st h) ∧ (∀ ls st h, zz_Y 180 (6, ls, st, h) = zz_Y 180 (7, ls, .int (nI 0) :: st, h)) ∧ (∀ ls a i st h, zz_Y 180 (7, ls, .int i :: .ref a :: st, h) = mo_ia (hp_g h a) i a 180 8 ls st h) ∧ (∀ ls st h, zz_Y 180 (8, ls, st, h) = zz_Y 180 (9, ls, .int (nI 1) :: st, h)) ∧ (∀ ls a b st h, zz_Y 180 (9, ls, .int b :: .int a :: st, h) = zz_Y 180 (10, ls, .int (a - b) :: st, h)) ∧ (∀ ls a0 a1 a2 h, zz_Y 180 (10, ls, [a2, a1, a0], h) = mo_k 180 13 ls [] (zz_run 154 [a0, a1, a2] h)) ∧ (∀ ls v h, v = nI 0 ∨ v = nI 1 → zz_Y 180 (13, ls, [.int v], h) = some (some (.int v), h)) :=
  ⟨fun _ _ _ _ => xl_iln d180_0 rfl,
   fun _ _ _ => xl_ic d180_1 (by decide +kernel),
   fun _ _ _ _ => xl_aln d180_2 rfl,
   fun _ _ _ _ => xl_gf d180_3 xco180 xf_11_7,
   fun _ _ _ => xl_ic d180_6 (by decide +kernel),
   fun _ _ _ _ _ => xl_ia d180_7,
   fun _ _ _ => xl_ic d180_8 (by decide +kernel),
   fun _ _ _ _ _ => xl_isub d180_9,
   fun ls a0 a1 a2 h => xl_cs (As := [a0, a1, a2]) (st := []) d180_10 xco180 xm_11_57 xnp154 (by decide +kernel) rfl,
   fun _ _ _ hc => xl_irz d180_13 xrt180 hc⟩
/-! 181 FacetSieveModel.letter(II)I -/
theorem d181_0 : decode (zz_c 181) 0 = .ok (.iload_n 2, 1) := by decide +kernel
theorem d181_1 : decode (zz_c 181) 1 = .ok (.iconst 0, 1) := by decide +kernel
theorem d181_2 : decode (zz_c 181) 2 = .ok (.aload_n 0, 1) := by decide +kernel
theorem d181_3 : decode (zz_c 181) 3 = .ok (.getfield 7, 3) := by decide +kernel
theorem d181_6 : decode (zz_c 181) 6 = .ok (.iload_n 1, 1) := by decide +kernel
theorem d181_7 : decode (zz_c 181) 7 = .ok (.iaload, 1) := by decide +kernel
theorem d181_8 : decode (zz_c 181) 8 = .ok (.iconst 1, 1) := by decide +kernel
theorem d181_9 : decode (zz_c 181) 9 = .ok (.isub, 1) := by decide +kernel
theorem d181_10 : decode (zz_c 181) 10 = .ok (.invokestatic 57, 3) := by decide +kernel
theorem d181_13 : decode (zz_c 181) 13 = .ok (.ifCond .eq 16, 3) := by decide +kernel
theorem d181_16 : decode (zz_c 181) 16 = .ok (.aload_n 0, 1) := by decide +kernel
theorem d181_17 : decode (zz_c 181) 17 = .ok (.getfield 7, 3) := by decide +kernel
theorem d181_20 : decode (zz_c 181) 20 = .ok (.iload_n 1, 1) := by decide +kernel
theorem d181_21 : decode (zz_c 181) 21 = .ok (.iconst 1, 1) := by decide +kernel
theorem d181_22 : decode (zz_c 181) 22 = .ok (.iadd, 1) := by decide +kernel
theorem d181_23 : decode (zz_c 181) 23 = .ok (.iload_n 2, 1) := by decide +kernel
theorem d181_24 : decode (zz_c 181) 24 = .ok (.iadd, 1) := by decide +kernel
theorem d181_25 : decode (zz_c 181) 25 = .ok (.iaload, 1) := by decide +kernel
theorem d181_26 : decode (zz_c 181) 26 = .ok (.goto 4, 3) := by decide +kernel
theorem d181_29 : decode (zz_c 181) 29 = .ok (.iconst (-1), 1) := by decide +kernel
theorem d181_30 : decode (zz_c 181) 30 = .ok (.ireturn, 1) := by decide +kernel
theorem x181 : (∀ l0 l1 x st h, zz_Y 181 (0, [l0, l1, some (.int x)], st, h) = zz_Y 181 (1, [l0, l1, some (.int x)], .int x :: st, h)) ∧ (∀ ls st h, zz_Y 181 (1, ls, st, h) = zz_Y 181 (2, ls, .int (nI 0) :: st, h)) ∧ (∀ l1 l2 x st h, zz_Y 181 (2, [some (.ref x), l1, l2], st, h) = zz_Y 181 (3, [some (.ref x), l1, l2], .ref x :: st, h)) ∧ (∀ ls a st h, zz_Y 181 (3, ls, .ref a :: st, h) = mo_gf (hp_g h a) 11 0 181 6 ls st h) ∧ (∀ l0 l2 x st h, zz_Y 181 (6, [l0, some (.int x), l2], st, h) = zz_Y 181 (7, [l0, some (.int x), l2], .int x :: st, h)) ∧ (∀ ls a i st h, zz_Y 181 (7, ls, .int i :: .ref a :: st, h) = mo_ia (hp_g h a) i a 181 8 ls st h) ∧ (∀ ls st h, zz_Y 181 (8, ls, st, h) = zz_Y 181 (9, ls, .int (nI 1) :: st, h)) ∧ (∀ ls a b st h, zz_Y 181 (9, ls, .int b :: .int a :: st, h) = zz_Y 181 (10, ls, .int (a - b) :: st, h)) ∧ (∀ ls a0 a1 a2 h, zz_Y 181 (10, ls, [a2, a1, a0], h) = mo_k 181 13 ls [] (zz_run 154 [a0, a1, a2] h)) ∧ (∀ ls a st h, zz_Y 181 (13, ls, .int a :: st, h) = if a = nI 0 then zz_Y 181 (29, ls, st, h) else zz_Y 181 (16, ls, st, h)) ∧ (∀ l1 l2 x st h, zz_Y 181 (16, [some (.ref x), l1, l2], st, h) = zz_Y 181 (17, [some (.ref x), l1, l2], .ref x :: st, h)) ∧ (∀ ls a st h, zz_Y 181 (17, ls, .ref a :: st, h) = mo_gf (hp_g h a) 11 0 181 20 ls st h) ∧ (∀ l0 l2 x st h, zz_Y 181 (20, [l0, some (.int x), l2], st, h) = zz_Y 181 (21, [l0, some (.int x), l2], .int x :: st, h)) ∧ (∀ ls st h, zz_Y 181 (21, ls, st, h) = zz_Y 181 (22, ls, .int (nI 1) :: st, h)) ∧ (∀ ls a b st h, zz_Y 181 (22, ls, .int b :: .int a :: st, h) = zz_Y 181 (23, ls, .int (a + b) :: st, h)) ∧ (∀ l0 l1 x st h, zz_Y 181 (23, [l0, l1, some (.int x)], st, h) = zz_Y 181 (24, [l0, l1, some (.int x)], .int x :: st, h)) ∧ (∀ ls a b st h, zz_Y 181 (24, ls, .int b :: .int a :: st, h) = zz_Y 181 (25, ls, .int (a + b) :: st, h)) ∧ (∀ ls a i st h, zz_Y 181 (25, ls, .int i :: .ref a :: st, h) = mo_ia (hp_g h a) i a 181 26 ls st h) ∧ (∀ ls st h, zz_Y 181 (26, ls, st, h) = zz_Y 181 (30, ls, st, h)) ∧ (∀ ls st h, zz_Y 181 (29, ls, st, h) = zz_Y 181 (30, ls, .int (-1) :: st, h)) ∧ (∀ ls v h, zz_Y 181 (30, ls, [.int v], h) = some (some (.int v), h)) :=
  ⟨fun _ _ _ _ _ => xl_iln d181_0 rfl,
   fun _ _ _ => xl_ic d181_1 (by decide +kernel),
   fun _ _ _ _ _ => xl_aln d181_2 rfl,
   fun _ _ _ _ => xl_gf d181_3 xco181 xf_11_7,
   fun _ _ _ _ _ => xl_iln d181_6 rfl,
   fun _ _ _ _ _ => xl_ia d181_7,
   fun _ _ _ => xl_ic d181_8 (by decide +kernel),
   fun _ _ _ _ _ => xl_isub d181_9,
   fun ls a0 a1 a2 h => xl_cs (As := [a0, a1, a2]) (st := []) d181_10 xco181 xm_11_57 xnp154 (by decide +kernel) rfl,
   fun _ _ _ _ => xl_ifeq d181_13 rfl,
   fun _ _ _ _ _ => xl_aln d181_16 rfl,
   fun _ _ _ _ => xl_gf d181_17 xco181 xf_11_7,
   fun _ _ _ _ _ => xl_iln d181_20 rfl,
   fun _ _ _ => xl_ic d181_21 (by decide +kernel),
   fun _ _ _ _ _ => xl_iadd d181_22,
   fun _ _ _ _ _ => xl_iln d181_23 rfl,
   fun _ _ _ _ _ => xl_iadd d181_24,
   fun _ _ _ _ _ => xl_ia d181_25,
   fun _ _ _ => xl_goto d181_26 rfl,
   fun _ _ _ => xl_ic d181_29 (by decide +kernel),
   fun _ _ _ => xl_iri d181_30 xrt181⟩
/-! 182 FacetSieveModel.value(II)I -/
theorem d182_0 : decode (zz_c 182) 0 = .ok (.aload_n 0, 1) := by decide +kernel
theorem d182_1 : decode (zz_c 182) 1 = .ok (.iload_n 1, 1) := by decide +kernel
theorem d182_2 : decode (zz_c 182) 2 = .ok (.invokevirtual 164, 3) := by decide +kernel
theorem d182_5 : decode (zz_c 182) 5 = .ok (.ifCond .ne 5, 3) := by decide +kernel
theorem d182_8 : decode (zz_c 182) 8 = .ok (.iconst (-1), 1) := by decide +kernel
theorem d182_9 : decode (zz_c 182) 9 = .ok (.ireturn, 1) := by decide +kernel
theorem d182_10 : decode (zz_c 182) 10 = .ok (.iload_n 1, 1) := by decide +kernel
theorem d182_11 : decode (zz_c 182) 11 = .ok (.invokestatic 77, 3) := by decide +kernel
theorem d182_14 : decode (zz_c 182) 14 = .ok (.istore_n 3, 1) := by decide +kernel
theorem d182_15 : decode (zz_c 182) 15 = .ok (.iload_n 2, 1) := by decide +kernel
theorem d182_16 : decode (zz_c 182) 16 = .ok (.bipush 10, 2) := by decide +kernel
theorem d182_18 : decode (zz_c 182) 18 = .ok (.if_icmp .lt 15, 3) := by decide +kernel
theorem d182_21 : decode (zz_c 182) 21 = .ok (.aload_n 0, 1) := by decide +kernel
theorem d182_22 : decode (zz_c 182) 22 = .ok (.iload_n 3, 1) := by decide +kernel
theorem d182_23 : decode (zz_c 182) 23 = .ok (.iconst 3, 1) := by decide +kernel
theorem d182_24 : decode (zz_c 182) 24 = .ok (.iadd, 1) := by decide +kernel
theorem d182_25 : decode (zz_c 182) 25 = .ok (.iload_n 2, 1) := by decide +kernel
theorem d182_26 : decode (zz_c 182) 26 = .ok (.bipush 10, 2) := by decide +kernel
theorem d182_28 : decode (zz_c 182) 28 = .ok (.isub, 1) := by decide +kernel
theorem d182_29 : decode (zz_c 182) 29 = .ok (.invokevirtual 160, 3) := by decide +kernel
theorem d182_32 : decode (zz_c 182) 32 = .ok (.ireturn, 1) := by decide +kernel
theorem d182_33 : decode (zz_c 182) 33 = .ok (.iload_n 2, 1) := by decide +kernel
theorem d182_34 : decode (zz_c 182) 34 = .ok (.bipush 7, 2) := by decide +kernel
theorem d182_36 : decode (zz_c 182) 36 = .ok (.if_icmp .ne 9, 3) := by decide +kernel
theorem d182_39 : decode (zz_c 182) 39 = .ok (.aload_n 0, 1) := by decide +kernel
theorem d182_40 : decode (zz_c 182) 40 = .ok (.iload_n 1, 1) := by decide +kernel
theorem d182_41 : decode (zz_c 182) 41 = .ok (.invokevirtual 167, 3) := by decide +kernel
theorem d182_44 : decode (zz_c 182) 44 = .ok (.ireturn, 1) := by decide +kernel
theorem d182_45 : decode (zz_c 182) 45 = .ok (.iload_n 2, 1) := by decide +kernel
theorem d182_46 : decode (zz_c 182) 46 = .ok (.bipush 8, 2) := by decide +kernel
theorem d182_48 : decode (zz_c 182) 48 = .ok (.if_icmp .ne 9, 3) := by decide +kernel
theorem d182_51 : decode (zz_c 182) 51 = .ok (.aload_n 0, 1) := by decide +kernel
theorem d182_52 : decode (zz_c 182) 52 = .ok (.iload_n 1, 1) := by decide +kernel
theorem d182_53 : decode (zz_c 182) 53 = .ok (.invokevirtual 120, 3) := by decide +kernel
theorem d182_56 : decode (zz_c 182) 56 = .ok (.ireturn, 1) := by decide +kernel
theorem d182_57 : decode (zz_c 182) 57 = .ok (.aload_n 0, 1) := by decide +kernel
theorem d182_58 : decode (zz_c 182) 58 = .ok (.aload_n 0, 1) := by decide +kernel
theorem d182_59 : decode (zz_c 182) 59 = .ok (.getfield 24, 3) := by decide +kernel
theorem d182_62 : decode (zz_c 182) 62 = .ok (.iload_n 1, 1) := by decide +kernel
theorem d182_63 : decode (zz_c 182) 63 = .ok (.invokevirtual 96, 3) := by decide +kernel
theorem d182_66 : decode (zz_c 182) 66 = .ok (.iconst 0, 1) := by decide +kernel
theorem d182_67 : decode (zz_c 182) 67 = .ok (.istore 4, 2) := by decide +kernel
theorem d182_69 : decode (zz_c 182) 69 = .ok (.iload_n 2, 1) := by decide +kernel
theorem d182_70 : decode (zz_c 182) 70 = .ok (.tableswitch 180 0 9 #[54, 63, 72, 110, 118, 124, 132, 180, 180, 171], 54) := by decide +kernel
theorem d182_124 : decode (zz_c 182) 124 = .ok (.aload_n 0, 1) := by decide +kernel
theorem d182_125 : decode (zz_c 182) 125 = .ok (.getfield 7, 3) := by decide +kernel
theorem d182_128 : decode (zz_c 182) 128 = .ok (.iload_n 3, 1) := by decide +kernel
theorem d182_129 : decode (zz_c 182) 129 = .ok (.iconst 0, 1) := by decide +kernel
theorem d182_130 : decode (zz_c 182) 130 = .ok (.iadd, 1) := by decide +kernel
theorem d182_131 : decode (zz_c 182) 131 = .ok (.iaload, 1) := by decide +kernel
theorem d182_132 : decode (zz_c 182) 132 = .ok (.ireturn, 1) := by decide +kernel
theorem d182_133 : decode (zz_c 182) 133 = .ok (.aload_n 0, 1) := by decide +kernel
theorem d182_134 : decode (zz_c 182) 134 = .ok (.getfield 7, 3) := by decide +kernel
theorem d182_137 : decode (zz_c 182) 137 = .ok (.iload_n 3, 1) := by decide +kernel
theorem d182_138 : decode (zz_c 182) 138 = .ok (.iconst 1, 1) := by decide +kernel
theorem d182_139 : decode (zz_c 182) 139 = .ok (.iadd, 1) := by decide +kernel
theorem d182_140 : decode (zz_c 182) 140 = .ok (.iaload, 1) := by decide +kernel
theorem d182_141 : decode (zz_c 182) 141 = .ok (.ireturn, 1) := by decide +kernel
theorem d182_142 : decode (zz_c 182) 142 = .ok (.aload_n 0, 1) := by decide +kernel
theorem d182_143 : decode (zz_c 182) 143 = .ok (.getfield 7, 3) := by decide +kernel
theorem d182_146 : decode (zz_c 182) 146 = .ok (.iload_n 3, 1) := by decide +kernel
theorem d182_147 : decode (zz_c 182) 147 = .ok (.iconst 1, 1) := by decide +kernel
theorem d182_148 : decode (zz_c 182) 148 = .ok (.iadd, 1) := by decide +kernel
theorem d182_149 : decode (zz_c 182) 149 = .ok (.iaload, 1) := by decide +kernel
theorem d182_150 : decode (zz_c 182) 150 = .ok (.istore 5, 2) := by decide +kernel
theorem d182_152 : decode (zz_c 182) 152 = .ok (.iload 5, 2) := by decide +kernel
theorem d182_154 : decode (zz_c 182) 154 = .ok (.ifCond .lt 23, 3) := by decide +kernel
theorem d182_157 : decode (zz_c 182) 157 = .ok (.iinc 4 1, 3) := by decide +kernel
theorem d182_160 : decode (zz_c 182) 160 = .ok (.aload_n 0, 1) := by decide +kernel
theorem d182_161 : decode (zz_c 182) 161 = .ok (.getfield 7, 3) := by decide +kernel
theorem d182_164 : decode (zz_c 182) 164 = .ok (.iload 5, 2) := by decide +kernel
theorem d182_166 : decode (zz_c 182) 166 = .ok (.invokestatic 77, 3) := by decide +kernel
theorem d182_169 : decode (zz_c 182) 169 = .ok (.iconst 1, 1) := by decide +kernel
theorem d182_170 : decode (zz_c 182) 170 = .ok (.iadd, 1) := by decide +kernel
theorem d182_171 : decode (zz_c 182) 171 = .ok (.iaload, 1) := by decide +kernel
theorem d182_172 : decode (zz_c 182) 172 = .ok (.istore 5, 2) := by decide +kernel
theorem d182_174 : decode (zz_c 182) 174 = .ok (.goto (-22), 3) := by decide +kernel
theorem d182_177 : decode (zz_c 182) 177 = .ok (.iload 4, 2) := by decide +kernel
theorem d182_179 : decode (zz_c 182) 179 = .ok (.ireturn, 1) := by decide +kernel
theorem d182_180 : decode (zz_c 182) 180 = .ok (.aload_n 0, 1) := by decide +kernel
theorem d182_181 : decode (zz_c 182) 181 = .ok (.getfield 24, 3) := by decide +kernel
theorem d182_184 : decode (zz_c 182) 184 = .ok (.invokestatic 109, 3) := by decide +kernel
theorem d182_187 : decode (zz_c 182) 187 = .ok (.ireturn, 1) := by decide +kernel
theorem d182_188 : decode (zz_c 182) 188 = .ok (.aload_n 0, 1) := by decide +kernel
theorem d182_189 : decode (zz_c 182) 189 = .ok (.iload_n 1, 1) := by decide +kernel
theorem d182_190 : decode (zz_c 182) 190 = .ok (.invokevirtual 129, 3) := by decide +kernel
theorem d182_193 : decode (zz_c 182) 193 = .ok (.ireturn, 1) := by decide +kernel
theorem d182_194 : decode (zz_c 182) 194 = .ok (.aload_n 0, 1) := by decide +kernel
theorem d182_195 : decode (zz_c 182) 195 = .ok (.getfield 24, 3) := by decide +kernel
theorem d182_198 : decode (zz_c 182) 198 = .ok (.invokestatic 132, 3) := by decide +kernel
theorem d182_201 : decode (zz_c 182) 201 = .ok (.ireturn, 1) := by decide +kernel
theorem d182_202 : decode (zz_c 182) 202 = .ok (.iconst 0, 1) := by decide +kernel
theorem d182_203 : decode (zz_c 182) 203 = .ok (.istore 5, 2) := by decide +kernel
theorem d182_205 : decode (zz_c 182) 205 = .ok (.iload 5, 2) := by decide +kernel
theorem d182_207 : decode (zz_c 182) 207 = .ok (.bipush 8, 2) := by decide +kernel
theorem d182_209 : decode (zz_c 182) 209 = .ok (.if_icmp .ge 29, 3) := by decide +kernel
theorem d182_212 : decode (zz_c 182) 212 = .ok (.iload 4, 2) := by decide +kernel
theorem d182_214 : decode (zz_c 182) 214 = .ok (.aload_n 0, 1) := by decide +kernel
theorem d182_215 : decode (zz_c 182) 215 = .ok (.getfield 24, 3) := by decide +kernel
theorem d182_218 : decode (zz_c 182) 218 = .ok (.iload 5, 2) := by decide +kernel
theorem d182_220 : decode (zz_c 182) 220 = .ok (.iaload, 1) := by decide +kernel
theorem d182_221 : decode (zz_c 182) 221 = .ok (.ifCond .eq 7, 3) := by decide +kernel
theorem d182_224 : decode (zz_c 182) 224 = .ok (.iconst 1, 1) := by decide +kernel
theorem d182_225 : decode (zz_c 182) 225 = .ok (.goto 4, 3) := by decide +kernel
theorem d182_228 : decode (zz_c 182) 228 = .ok (.iconst 0, 1) := by decide +kernel
theorem d182_229 : decode (zz_c 182) 229 = .ok (.iadd, 1) := by decide +kernel
theorem d182_230 : decode (zz_c 182) 230 = .ok (.istore 4, 2) := by decide +kernel
theorem d182_232 : decode (zz_c 182) 232 = .ok (.iinc 5 1, 3) := by decide +kernel
theorem d182_235 : decode (zz_c 182) 235 = .ok (.goto (-30), 3) := by decide +kernel
theorem d182_238 : decode (zz_c 182) 238 = .ok (.iload 4, 2) := by decide +kernel
theorem d182_240 : decode (zz_c 182) 240 = .ok (.ireturn, 1) := by decide +kernel
theorem d182_241 : decode (zz_c 182) 241 = .ok (.aload_n 0, 1) := by decide +kernel
theorem d182_242 : decode (zz_c 182) 242 = .ok (.getfield 7, 3) := by decide +kernel
theorem d182_245 : decode (zz_c 182) 245 = .ok (.iload_n 3, 1) := by decide +kernel
theorem d182_246 : decode (zz_c 182) 246 = .ok (.iconst 2, 1) := by decide +kernel
theorem d182_247 : decode (zz_c 182) 247 = .ok (.iadd, 1) := by decide +kernel
theorem d182_248 : decode (zz_c 182) 248 = .ok (.iaload, 1) := by decide +kernel
theorem d182_249 : decode (zz_c 182) 249 = .ok (.ireturn, 1) := by decide +kernel
theorem d182_250 : decode (zz_c 182) 250 = .ok (.iconst (-1), 1) := by decide +kernel
theorem d182_251 : decode (zz_c 182) 251 = .ok (.ireturn, 1) := by decide +kernel
theorem x182_p0 : (∀ l1 l2 l3 l4 l5 x st h, zz_Y 182 (0, [some (.ref x), l1, l2, l3, l4, l5], st, h) = zz_Y 182 (1, [some (.ref x), l1, l2, l3, l4, l5], .ref x :: st, h)) ∧ (∀ l0 l2 l3 l4 l5 x st h, zz_Y 182 (1, [l0, some (.int x), l2, l3, l4, l5], st, h) = zz_Y 182 (2, [l0, some (.int x), l2, l3, l4, l5], .int x :: st, h)) ∧ (∀ ls a0 a1 h, zz_Y 182 (2, ls, [a1, a0], h) = mo_k 182 5 ls [] (zz_run 183 [a0, a1] h)) ∧ (∀ ls a st h, zz_Y 182 (5, ls, .int a :: st, h) = if a = nI 0 then zz_Y 182 (8, ls, st, h) else zz_Y 182 (10, ls, st, h)) ∧ (∀ ls st h, zz_Y 182 (8, ls, st, h) = zz_Y 182 (9, ls, .int (-1) :: st, h)) ∧ (∀ ls v h, zz_Y 182 (9, ls, [.int v], h) = some (some (.int v), h)) ∧ (∀ l0 l2 l3 l4 l5 x st h, zz_Y 182 (10, [l0, some (.int x), l2, l3, l4, l5], st, h) = zz_Y 182 (11, [l0, some (.int x), l2, l3, l4, l5], .int x :: st, h)) ∧ (∀ ls a0 h, zz_Y 182 (11, ls, [a0], h) = mo_k 182 14 ls [] (zz_run 158 [a0] h)) ∧ (∀ l0 l1 l2 l3 l4 l5 x st h, zz_nl l2 = true → zz_Y 182 (14, [l0, l1, l2, l3, l4, l5], .int x :: st, h) = zz_Y 182 (15, [l0, l1, l2, some (.int x), l4, l5], st, h)) ∧ (∀ l0 l1 l3 l4 l5 x st h, zz_Y 182 (15, [l0, l1, some (.int x), l3, l4, l5], st, h) = zz_Y 182 (16, [l0, l1, some (.int x), l3, l4, l5], .int x :: st, h)) ∧ (∀ ls st h, zz_Y 182 (16, ls, st, h) = zz_Y 182 (18, ls, .int (nI 10) :: st, h)) ∧ (∀ ls a b st h, zz_Y 182 (18, ls, .int b :: .int a :: st, h) = if a < b then zz_Y 182 (33, ls, st, h) else zz_Y 182 (21, ls, st, h)) ∧ (∀ l1 l2 l3 l4 l5 x st h, zz_Y 182 (21, [some (.ref x), l1, l2, l3, l4, l5], st, h) = zz_Y 182 (22, [some (.ref x), l1, l2, l3, l4, l5], .ref x :: st, h)) ∧ (∀ l0 l1 l2 l4 l5 x st h, zz_Y 182 (22, [l0, l1, l2, some (.int x), l4, l5], st, h) = zz_Y 182 (23, [l0, l1, l2, some (.int x), l4, l5], .int x :: st, h)) ∧ (∀ ls st h, zz_Y 182 (23, ls, st, h) = zz_Y 182 (24, ls, .int (nI 3) :: st, h)) ∧ (∀ ls a b st h, zz_Y 182 (24, ls, .int b :: .int a :: st, h) = zz_Y 182 (25, ls, .int (a + b) :: st, h)) ∧ (∀ l0 l1 l3 l4 l5 x st h, zz_Y 182 (25, [l0, l1, some (.int x), l3, l4, l5], st, h) = zz_Y 182 (26, [l0, l1, some (.int x), l3, l4, l5], .int x :: st, h)) ∧ (∀ ls st h, zz_Y 182 (26, ls, st, h) = zz_Y 182 (28, ls, .int (nI 10) :: st, h)) ∧ (∀ ls a b st h, zz_Y 182 (28, ls, .int b :: .int a :: st, h) = zz_Y 182 (29, ls, .int (a - b) :: st, h)) ∧ (∀ ls a0 a1 a2 h, zz_Y 182 (29, ls, [a2, a1, a0], h) = mo_k 182 32 ls [] (zz_run 181 [a0, a1, a2] h)) ∧ (∀ ls v h, zz_Y 182 (32, ls, [.int v], h) = some (some (.int v), h)) ∧ (∀ l0 l1 l3 l4 l5 x st h, zz_Y 182 (33, [l0, l1, some (.int x), l3, l4, l5], st, h) = zz_Y 182 (34, [l0, l1, some (.int x), l3, l4, l5], .int x :: st, h)) ∧ (∀ ls st h, zz_Y 182 (34, ls, st, h) = zz_Y 182 (36, ls, .int (nI 7) :: st, h)) ∧ (∀ ls a b st h, zz_Y 182 (36, ls, .int b :: .int a :: st, h) = if a = b then zz_Y 182 (39, ls, st, h) else zz_Y 182 (45, ls, st, h)) ∧ (∀ l1 l2 l3 l4 l5 x st h, zz_Y 182 (39, [some (.ref x), l1, l2, l3, l4, l5], st, h) = zz_Y 182 (40, [some (.ref x), l1, l2, l3, l4, l5], .ref x :: st, h)) ∧ (∀ l0 l2 l3 l4 l5 x st h, zz_Y 182 (40, [l0, some (.int x), l2, l3, l4, l5], st, h) = zz_Y 182 (41, [l0, some (.int x), l2, l3, l4, l5], .int x :: st, h)) ∧ (∀ ls a0 a1 h, zz_Y 182 (41, ls, [a1, a0], h) = mo_k 182 44 ls [] (zz_run 184 [a0, a1] h)) ∧ (∀ ls v h, zz_Y 182 (44, ls, [.int v], h) = some (some (.int v), h)) ∧ (∀ l0 l1 l3 l4 l5 x st h, zz_Y 182 (45, [l0, l1, some (.int x), l3, l4, l5], st, h) = zz_Y 182 (46, [l0, l1, some (.int x), l3, l4, l5], .int x :: st, h)) ∧ (∀ ls st h, zz_Y 182 (46, ls, st, h) = zz_Y 182 (48, ls, .int (nI 8) :: st, h)) ∧ (∀ ls a b st h, zz_Y 182 (48, ls, .int b :: .int a :: st, h) = if a = b then zz_Y 182 (51, ls, st, h) else zz_Y 182 (57, ls, st, h)) ∧ (∀ l1 l2 l3 l4 l5 x st h, zz_Y 182 (51, [some (.ref x), l1, l2, l3, l4, l5], st, h) = zz_Y 182 (52, [some (.ref x), l1, l2, l3, l4, l5], .ref x :: st, h)) ∧ (∀ l0 l2 l3 l4 l5 x st h, zz_Y 182 (52, [l0, some (.int x), l2, l3, l4, l5], st, h) = zz_Y 182 (53, [l0, some (.int x), l2, l3, l4, l5], .int x :: st, h)) ∧ (∀ ls a0 a1 h, zz_Y 182 (53, ls, [a1, a0], h) = mo_k 182 56 ls [] (zz_run 175 [a0, a1] h)) ∧ (∀ ls v h, zz_Y 182 (56, ls, [.int v], h) = some (some (.int v), h)) ∧ (∀ l1 l2 l3 l4 l5 x st h, zz_Y 182 (57, [some (.ref x), l1, l2, l3, l4, l5], st, h) = zz_Y 182 (58, [some (.ref x), l1, l2, l3, l4, l5], .ref x :: st, h)) ∧ (∀ l1 l2 l3 l4 l5 x st h, zz_Y 182 (58, [some (.ref x), l1, l2, l3, l4, l5], st, h) = zz_Y 182 (59, [some (.ref x), l1, l2, l3, l4, l5], .ref x :: st, h)) ∧ (∀ ls a st h, zz_Y 182 (59, ls, .ref a :: st, h) = mo_gf (hp_g h a) 11 7 182 62 ls st h) ∧ (∀ l0 l2 l3 l4 l5 x st h, zz_Y 182 (62, [l0, some (.int x), l2, l3, l4, l5], st, h) = zz_Y 182 (63, [l0, some (.int x), l2, l3, l4, l5], .int x :: st, h)) ∧ (∀ ls a0 a1 a2 h, zz_Y 182 (63, ls, [a2, a1, a0], h) = mo_k 182 66 ls [] (zz_run 156 [a0, a1, a2] h)) ∧ (∀ ls st h, zz_Y 182 (66, ls, st, h) = zz_Y 182 (67, ls, .int (nI 0) :: st, h)) ∧ (∀ l0 l1 l2 l3 l4 l5 x st h, zz_nl l3 = true → zz_Y 182 (67, [l0, l1, l2, l3, l4, l5], .int x :: st, h) = zz_Y 182 (69, [l0, l1, l2, l3, some (.int x), l5], st, h)) ∧ (∀ l0 l1 l3 l4 l5 x st h, zz_Y 182 (69, [l0, l1, some (.int x), l3, l4, l5], st, h) = zz_Y 182 (70, [l0, l1, some (.int x), l3, l4, l5], .int x :: st, h)) ∧ (∀ ls x st h, zz_Y 182 (70, ls, .int x :: st, h) = zz_Y 182 (zz_sw [(nI 0, 124), (nI 1, 133), (nI 2, 142), (nI 3, 180), (nI 4, 188), (nI 5, 194), (nI 6, 202), (nI 7, 250), (nI 8, 250), (nI 9, 241)] 250 x, ls, st, h)) ∧ (∀ l1 l2 l3 l4 l5 x st h, zz_Y 182 (124, [some (.ref x), l1, l2, l3, l4, l5], st, h) = zz_Y 182 (125, [some (.ref x), l1, l2, l3, l4, l5], .ref x :: st, h)) ∧ (∀ ls a st h, zz_Y 182 (125, ls, .ref a :: st, h) = mo_gf (hp_g h a) 11 0 182 128 ls st h) ∧ (∀ l0 l1 l2 l4 l5 x st h, zz_Y 182 (128, [l0, l1, l2, some (.int x), l4, l5], st, h) = zz_Y 182 (129, [l0, l1, l2, some (.int x), l4, l5], .int x :: st, h)) ∧ (∀ ls st h, zz_Y 182 (129, ls, st, h) = zz_Y 182 (130, ls, .int (nI 0) :: st, h)) ∧ (∀ ls a b st h, zz_Y 182 (130, ls, .int b :: .int a :: st, h) = zz_Y 182 (131, ls, .int (a + b) :: st, h)) ∧ (∀ ls a i st h, zz_Y 182 (131, ls, .int i :: .ref a :: st, h) = mo_ia (hp_g h a) i a 182 132 ls st h) ∧ (∀ ls v h, zz_Y 182 (132, ls, [.int v], h) = some (some (.int v), h)) ∧ (∀ l1 l2 l3 l4 l5 x st h, zz_Y 182 (133, [some (.ref x), l1, l2, l3, l4, l5], st, h) = zz_Y 182 (134, [some (.ref x), l1, l2, l3, l4, l5], .ref x :: st, h)) ∧ (∀ ls a st h, zz_Y 182 (134, ls, .ref a :: st, h) = mo_gf (hp_g h a) 11 0 182 137 ls st h) ∧ (∀ l0 l1 l2 l4 l5 x st h, zz_Y 182 (137, [l0, l1, l2, some (.int x), l4, l5], st, h) = zz_Y 182 (138, [l0, l1, l2, some (.int x), l4, l5], .int x :: st, h)) ∧ (∀ ls st h, zz_Y 182 (138, ls, st, h) = zz_Y 182 (139, ls, .int (nI 1) :: st, h)) ∧ (∀ ls a b st h, zz_Y 182 (139, ls, .int b :: .int a :: st, h) = zz_Y 182 (140, ls, .int (a + b) :: st, h)) ∧ (∀ ls a i st h, zz_Y 182 (140, ls, .int i :: .ref a :: st, h) = mo_ia (hp_g h a) i a 182 141 ls st h) ∧ (∀ ls v h, zz_Y 182 (141, ls, [.int v], h) = some (some (.int v), h)) ∧ (∀ l1 l2 l3 l4 l5 x st h, zz_Y 182 (142, [some (.ref x), l1, l2, l3, l4, l5], st, h) = zz_Y 182 (143, [some (.ref x), l1, l2, l3, l4, l5], .ref x :: st, h)) ∧ (∀ ls a st h, zz_Y 182 (143, ls, .ref a :: st, h) = mo_gf (hp_g h a) 11 0 182 146 ls st h) :=
  ⟨fun _ _ _ _ _ _ _ _ => xl_aln d182_0 rfl,
   fun _ _ _ _ _ _ _ _ => xl_iln d182_1 rfl,
   fun ls a0 a1 h => xl_cv (As := [a0, a1]) (st := []) d182_2 xco182 xm_11_164 (congrArg Nat.succ xnp183) (by decide +kernel) rfl,
   fun _ _ _ _ => xl_ifne d182_5 rfl,
   fun _ _ _ => xl_ic d182_8 (by decide +kernel),
   fun _ _ _ => xl_iri d182_9 xrt182,
   fun _ _ _ _ _ _ _ _ => xl_iln d182_10 rfl,
   fun ls a0 h => xl_cs (As := [a0]) (st := []) d182_11 xco182 xm_11_77 xnp158 (by decide +kernel) rfl,
   fun _ _ _ _ _ _ _ _ _ hc => xl_isn d182_14 xml182 (by decide) (zz_nl_s1 hc),
   fun _ _ _ _ _ _ _ _ => xl_iln d182_15 rfl,
   fun _ _ _ => xl_bi d182_16 (by decide +kernel),
   fun _ _ _ _ _ => xl_iclt d182_18 rfl,
   fun _ _ _ _ _ _ _ _ => xl_aln d182_21 rfl,
   fun _ _ _ _ _ _ _ _ => xl_iln d182_22 rfl,
   fun _ _ _ => xl_ic d182_23 (by decide +kernel),
   fun _ _ _ _ _ => xl_iadd d182_24,
   fun _ _ _ _ _ _ _ _ => xl_iln d182_25 rfl,
   fun _ _ _ => xl_bi d182_26 (by decide +kernel),
   fun _ _ _ _ _ => xl_isub d182_28,
   fun ls a0 a1 a2 h => xl_cv (As := [a0, a1, a2]) (st := []) d182_29 xco182 xm_11_160 (congrArg Nat.succ xnp181) (by decide +kernel) rfl,
   fun _ _ _ => xl_iri d182_32 xrt182,
   fun _ _ _ _ _ _ _ _ => xl_iln d182_33 rfl,
   fun _ _ _ => xl_bi d182_34 (by decide +kernel),
   fun _ _ _ _ _ => xl_icne d182_36 rfl,
   fun _ _ _ _ _ _ _ _ => xl_aln d182_39 rfl,
   fun _ _ _ _ _ _ _ _ => xl_iln d182_40 rfl,
   fun ls a0 a1 h => xl_cv (As := [a0, a1]) (st := []) d182_41 xco182 xm_11_167 (congrArg Nat.succ xnp184) (by decide +kernel) rfl,
   fun _ _ _ => xl_iri d182_44 xrt182,
   fun _ _ _ _ _ _ _ _ => xl_iln d182_45 rfl,
   fun _ _ _ => xl_bi d182_46 (by decide +kernel),
   fun _ _ _ _ _ => xl_icne d182_48 rfl,
   fun _ _ _ _ _ _ _ _ => xl_aln d182_51 rfl,
   fun _ _ _ _ _ _ _ _ => xl_iln d182_52 rfl,
   fun ls a0 a1 h => xl_cv (As := [a0, a1]) (st := []) d182_53 xco182 xm_11_120 (congrArg Nat.succ xnp175) (by decide +kernel) rfl,
   fun _ _ _ => xl_iri d182_56 xrt182,
   fun _ _ _ _ _ _ _ _ => xl_aln d182_57 rfl,
   fun _ _ _ _ _ _ _ _ => xl_aln d182_58 rfl,
   fun _ _ _ _ => xl_gf d182_59 xco182 xf_11_24,
   fun _ _ _ _ _ _ _ _ => xl_iln d182_62 rfl,
   fun ls a0 a1 a2 h => xl_cv (As := [a0, a1, a2]) (st := []) d182_63 xco182 xm_11_96 (congrArg Nat.succ xnp156) (by decide +kernel) rfl,
   fun _ _ _ => xl_ic d182_66 (by decide +kernel),
   fun _ _ _ _ _ _ _ _ _ hc => xl_is d182_67 xml182 (by decide) (zz_nl_s1 hc),
   fun _ _ _ _ _ _ _ _ => xl_iln d182_69 rfl,
   fun _ _ _ _ => xl_tbs (qs := [(nI 0, 124), (nI 1, 133), (nI 2, 142), (nI 3, 180), (nI 4, 188), (nI 5, 194), (nI 6, 202), (nI 7, 250), (nI 8, 250), (nI 9, 241)]) d182_70 rfl (by decide +kernel) (by decide +kernel) (by decide +kernel),
   fun _ _ _ _ _ _ _ _ => xl_aln d182_124 rfl,
   fun _ _ _ _ => xl_gf d182_125 xco182 xf_11_7,
   fun _ _ _ _ _ _ _ _ => xl_iln d182_128 rfl,
   fun _ _ _ => xl_ic d182_129 (by decide +kernel),
   fun _ _ _ _ _ => xl_iadd d182_130,
   fun _ _ _ _ _ => xl_ia d182_131,
   fun _ _ _ => xl_iri d182_132 xrt182,
   fun _ _ _ _ _ _ _ _ => xl_aln d182_133 rfl,
   fun _ _ _ _ => xl_gf d182_134 xco182 xf_11_7,
   fun _ _ _ _ _ _ _ _ => xl_iln d182_137 rfl,
   fun _ _ _ => xl_ic d182_138 (by decide +kernel),
   fun _ _ _ _ _ => xl_iadd d182_139,
   fun _ _ _ _ _ => xl_ia d182_140,
   fun _ _ _ => xl_iri d182_141 xrt182,
   fun _ _ _ _ _ _ _ _ => xl_aln d182_142 rfl,
   fun _ _ _ _ => xl_gf d182_143 xco182 xf_11_7⟩
theorem x182_p1 : (∀ l0 l1 l2 l4 l5 x st h, zz_Y 182 (146, [l0, l1, l2, some (.int x), l4, l5], st, h) = zz_Y 182 (147, [l0, l1, l2, some (.int x), l4, l5], .int x :: st, h)) ∧ (∀ ls st h, zz_Y 182 (147, ls, st, h) = zz_Y 182 (148, ls, .int (nI 1) :: st, h)) ∧ (∀ ls a b st h, zz_Y 182 (148, ls, .int b :: .int a :: st, h) = zz_Y 182 (149, ls, .int (a + b) :: st, h)) ∧ (∀ ls a i st h, zz_Y 182 (149, ls, .int i :: .ref a :: st, h) = mo_ia (hp_g h a) i a 182 150 ls st h) ∧ (∀ l0 l1 l2 l3 l4 l5 x st h, zz_nl l4 = true → zz_Y 182 (150, [l0, l1, l2, l3, l4, l5], .int x :: st, h) = zz_Y 182 (152, [l0, l1, l2, l3, l4, some (.int x)], st, h)) ∧ (∀ ls a st h, zz_Y 182 (154, ls, .int a :: st, h) = if a < nI 0 then zz_Y 182 (177, ls, st, h) else zz_Y 182 (157, ls, st, h)) ∧ (∀ l0 l1 l2 l3 l5 x st h, zz_nl l3 = true → zz_Y 182 (157, [l0, l1, l2, l3, some (.int x), l5], st, h) = zz_Y 182 (160, [l0, l1, l2, l3, some (.int (x + nI 1)), l5], st, h)) ∧ (∀ l1 l2 l3 l4 l5 x st h, zz_Y 182 (160, [some (.ref x), l1, l2, l3, l4, l5], st, h) = zz_Y 182 (161, [some (.ref x), l1, l2, l3, l4, l5], .ref x :: st, h)) ∧ (∀ ls a st h, zz_Y 182 (161, ls, .ref a :: st, h) = mo_gf (hp_g h a) 11 0 182 164 ls st h) ∧ (∀ l0 l1 l2 l3 l4 x st h, zz_Y 182 (164, [l0, l1, l2, l3, l4, some (.int x)], st, h) = zz_Y 182 (166, [l0, l1, l2, l3, l4, some (.int x)], .int x :: st, h)) ∧ (∀ ls a0 s0 h, zz_Y 182 (166, ls, [a0, s0], h) = mo_k 182 169 ls [s0] (zz_run 158 [a0] h)) ∧ (∀ ls st h, zz_Y 182 (169, ls, st, h) = zz_Y 182 (170, ls, .int (nI 1) :: st, h)) ∧ (∀ ls a b st h, zz_Y 182 (170, ls, .int b :: .int a :: st, h) = zz_Y 182 (171, ls, .int (a + b) :: st, h)) ∧ (∀ ls a i st h, zz_Y 182 (171, ls, .int i :: .ref a :: st, h) = mo_ia (hp_g h a) i a 182 172 ls st h) ∧ (∀ l0 l1 l2 l3 l4 l5 x st h, zz_nl l4 = true → zz_Y 182 (172, [l0, l1, l2, l3, l4, l5], .int x :: st, h) = zz_Y 182 (174, [l0, l1, l2, l3, l4, some (.int x)], st, h)) ∧ (∀ ls st h, zz_Y 182 (174, ls, st, h) = zz_Y 182 (152, ls, st, h)) ∧ (∀ l0 l1 l2 l3 l5 x st h, zz_Y 182 (177, [l0, l1, l2, l3, some (.int x), l5], st, h) = zz_Y 182 (179, [l0, l1, l2, l3, some (.int x), l5], .int x :: st, h)) ∧ (∀ ls v h, zz_Y 182 (179, ls, [.int v], h) = some (some (.int v), h)) ∧ (∀ l1 l2 l3 l4 l5 x st h, zz_Y 182 (180, [some (.ref x), l1, l2, l3, l4, l5], st, h) = zz_Y 182 (181, [some (.ref x), l1, l2, l3, l4, l5], .ref x :: st, h)) ∧ (∀ ls a st h, zz_Y 182 (181, ls, .ref a :: st, h) = mo_gf (hp_g h a) 11 7 182 184 ls st h) ∧ (∀ ls a0 h, zz_Y 182 (184, ls, [a0], h) = mo_k 182 187 ls [] (zz_run 172 [a0] h)) ∧ (∀ ls v h, zz_Y 182 (187, ls, [.int v], h) = some (some (.int v), h)) ∧ (∀ l1 l2 l3 l4 l5 x st h, zz_Y 182 (188, [some (.ref x), l1, l2, l3, l4, l5], st, h) = zz_Y 182 (189, [some (.ref x), l1, l2, l3, l4, l5], .ref x :: st, h)) ∧ (∀ l0 l2 l3 l4 l5 x st h, zz_Y 182 (189, [l0, some (.int x), l2, l3, l4, l5], st, h) = zz_Y 182 (190, [l0, some (.int x), l2, l3, l4, l5], .int x :: st, h)) ∧ (∀ ls a0 a1 h, zz_Y 182 (190, ls, [a1, a0], h) = mo_k 182 193 ls [] (zz_run 159 [a0, a1] h)) ∧ (∀ ls v h, zz_Y 182 (193, ls, [.int v], h) = some (some (.int v), h)) ∧ (∀ l1 l2 l3 l4 l5 x st h, zz_Y 182 (194, [some (.ref x), l1, l2, l3, l4, l5], st, h) = zz_Y 182 (195, [some (.ref x), l1, l2, l3, l4, l5], .ref x :: st, h)) ∧ (∀ ls a st h, zz_Y 182 (195, ls, .ref a :: st, h) = mo_gf (hp_g h a) 11 7 182 198 ls st h) ∧ (∀ ls a0 h, zz_Y 182 (198, ls, [a0], h) = mo_k 182 201 ls [] (zz_run 161 [a0] h)) ∧ (∀ ls v h, zz_Y 182 (201, ls, [.int v], h) = some (some (.int v), h)) ∧ (∀ ls st h, zz_Y 182 (202, ls, st, h) = zz_Y 182 (203, ls, .int (nI 0) :: st, h)) ∧ (∀ l0 l1 l2 l3 l4 l5 x st h, zz_nl l4 = true → zz_Y 182 (203, [l0, l1, l2, l3, l4, l5], .int x :: st, h) = zz_Y 182 (205, [l0, l1, l2, l3, l4, some (.int x)], st, h)) ∧ (∀ ls st h, zz_Y 182 (207, ls, st, h) = zz_Y 182 (209, ls, .int (nI 8) :: st, h)) ∧ (∀ ls a b st h, zz_Y 182 (209, ls, .int b :: .int a :: st, h) = if a < b then zz_Y 182 (212, ls, st, h) else zz_Y 182 (238, ls, st, h)) ∧ (∀ l0 l1 l2 l3 l5 x st h, zz_Y 182 (212, [l0, l1, l2, l3, some (.int x), l5], st, h) = zz_Y 182 (214, [l0, l1, l2, l3, some (.int x), l5], .int x :: st, h)) ∧ (∀ l1 l2 l3 l4 l5 x st h, zz_Y 182 (214, [some (.ref x), l1, l2, l3, l4, l5], st, h) = zz_Y 182 (215, [some (.ref x), l1, l2, l3, l4, l5], .ref x :: st, h)) ∧ (∀ ls a st h, zz_Y 182 (215, ls, .ref a :: st, h) = mo_gf (hp_g h a) 11 7 182 218 ls st h) ∧ (∀ l0 l1 l2 l3 l4 x st h, zz_Y 182 (218, [l0, l1, l2, l3, l4, some (.int x)], st, h) = zz_Y 182 (220, [l0, l1, l2, l3, l4, some (.int x)], .int x :: st, h)) ∧ (∀ ls a i st h, zz_Y 182 (220, ls, .int i :: .ref a :: st, h) = mo_ia (hp_g h a) i a 182 221 ls st h) ∧ (∀ ls a st h, zz_Y 182 (221, ls, .int a :: st, h) = if a = nI 0 then zz_Y 182 (228, ls, st, h) else zz_Y 182 (224, ls, st, h)) ∧ (∀ ls st h, zz_Y 182 (224, ls, st, h) = zz_Y 182 (225, ls, .int (nI 1) :: st, h)) ∧ (∀ ls st h, zz_Y 182 (225, ls, st, h) = zz_Y 182 (229, ls, st, h)) ∧ (∀ ls st h, zz_Y 182 (228, ls, st, h) = zz_Y 182 (229, ls, .int (nI 0) :: st, h)) ∧ (∀ ls a b st h, zz_Y 182 (229, ls, .int b :: .int a :: st, h) = zz_Y 182 (230, ls, .int (a + b) :: st, h)) ∧ (∀ l0 l1 l2 l3 l4 l5 x st h, zz_nl l3 = true → zz_Y 182 (230, [l0, l1, l2, l3, l4, l5], .int x :: st, h) = zz_Y 182 (232, [l0, l1, l2, l3, some (.int x), l5], st, h)) ∧ (∀ l0 l1 l2 l3 l4 x st h, zz_nl l4 = true → zz_Y 182 (232, [l0, l1, l2, l3, l4, some (.int x)], st, h) = zz_Y 182 (235, [l0, l1, l2, l3, l4, some (.int (x + nI 1))], st, h)) ∧ (∀ ls st h, zz_Y 182 (235, ls, st, h) = zz_Y 182 (205, ls, st, h)) ∧ (∀ l0 l1 l2 l3 l5 x st h, zz_Y 182 (238, [l0, l1, l2, l3, some (.int x), l5], st, h) = zz_Y 182 (240, [l0, l1, l2, l3, some (.int x), l5], .int x :: st, h)) ∧ (∀ ls v h, zz_Y 182 (240, ls, [.int v], h) = some (some (.int v), h)) ∧ (∀ l1 l2 l3 l4 l5 x st h, zz_Y 182 (241, [some (.ref x), l1, l2, l3, l4, l5], st, h) = zz_Y 182 (242, [some (.ref x), l1, l2, l3, l4, l5], .ref x :: st, h)) ∧ (∀ ls a st h, zz_Y 182 (242, ls, .ref a :: st, h) = mo_gf (hp_g h a) 11 0 182 245 ls st h) ∧ (∀ l0 l1 l2 l4 l5 x st h, zz_Y 182 (245, [l0, l1, l2, some (.int x), l4, l5], st, h) = zz_Y 182 (246, [l0, l1, l2, some (.int x), l4, l5], .int x :: st, h)) ∧ (∀ ls st h, zz_Y 182 (246, ls, st, h) = zz_Y 182 (247, ls, .int (nI 2) :: st, h)) ∧ (∀ ls a b st h, zz_Y 182 (247, ls, .int b :: .int a :: st, h) = zz_Y 182 (248, ls, .int (a + b) :: st, h)) ∧ (∀ ls a i st h, zz_Y 182 (248, ls, .int i :: .ref a :: st, h) = mo_ia (hp_g h a) i a 182 249 ls st h) ∧ (∀ ls v h, zz_Y 182 (249, ls, [.int v], h) = some (some (.int v), h)) ∧ (∀ ls st h, zz_Y 182 (250, ls, st, h) = zz_Y 182 (251, ls, .int (-1) :: st, h)) ∧ (∀ ls v h, zz_Y 182 (251, ls, [.int v], h) = some (some (.int v), h)) :=
  ⟨fun _ _ _ _ _ _ _ _ => xl_iln d182_146 rfl,
   fun _ _ _ => xl_ic d182_147 (by decide +kernel),
   fun _ _ _ _ _ => xl_iadd d182_148,
   fun _ _ _ _ _ => xl_ia d182_149,
   fun _ _ _ _ _ _ _ _ _ hc => xl_is d182_150 xml182 (by decide) (zz_nl_s1 hc),
   fun _ _ _ _ => xl_iflt d182_154 rfl,
   fun _ _ _ _ _ _ _ _ hc => xl_inc d182_157 xml182 (by decide) rfl (by decide +kernel) (zz_nl_s1 hc),
   fun _ _ _ _ _ _ _ _ => xl_aln d182_160 rfl,
   fun _ _ _ _ => xl_gf d182_161 xco182 xf_11_7,
   fun _ _ _ _ _ _ _ _ => xl_il d182_164 rfl,
   fun ls a0 s0 h => xl_cs (As := [a0]) (st := [s0]) d182_166 xco182 xm_11_77 xnp158 (by decide +kernel) rfl,
   fun _ _ _ => xl_ic d182_169 (by decide +kernel),
   fun _ _ _ _ _ => xl_iadd d182_170,
   fun _ _ _ _ _ => xl_ia d182_171,
   fun _ _ _ _ _ _ _ _ _ hc => xl_is d182_172 xml182 (by decide) (zz_nl_s1 hc),
   fun _ _ _ => xl_goto d182_174 rfl,
   fun _ _ _ _ _ _ _ _ => xl_il d182_177 rfl,
   fun _ _ _ => xl_iri d182_179 xrt182,
   fun _ _ _ _ _ _ _ _ => xl_aln d182_180 rfl,
   fun _ _ _ _ => xl_gf d182_181 xco182 xf_11_24,
   fun ls a0 h => xl_cs (As := [a0]) (st := []) d182_184 xco182 xm_11_109 xnp172 (by decide +kernel) rfl,
   fun _ _ _ => xl_iri d182_187 xrt182,
   fun _ _ _ _ _ _ _ _ => xl_aln d182_188 rfl,
   fun _ _ _ _ _ _ _ _ => xl_iln d182_189 rfl,
   fun ls a0 a1 h => xl_cv (As := [a0, a1]) (st := []) d182_190 xco182 xm_11_129 (congrArg Nat.succ xnp159) (by decide +kernel) rfl,
   fun _ _ _ => xl_iri d182_193 xrt182,
   fun _ _ _ _ _ _ _ _ => xl_aln d182_194 rfl,
   fun _ _ _ _ => xl_gf d182_195 xco182 xf_11_24,
   fun ls a0 h => xl_cs (As := [a0]) (st := []) d182_198 xco182 xm_11_132 xnp161 (by decide +kernel) rfl,
   fun _ _ _ => xl_iri d182_201 xrt182,
   fun _ _ _ => xl_ic d182_202 (by decide +kernel),
   fun _ _ _ _ _ _ _ _ _ hc => xl_is d182_203 xml182 (by decide) (zz_nl_s1 hc),
   fun _ _ _ => xl_bi d182_207 (by decide +kernel),
   fun _ _ _ _ _ => xl_icge d182_209 rfl,
   fun _ _ _ _ _ _ _ _ => xl_il d182_212 rfl,
   fun _ _ _ _ _ _ _ _ => xl_aln d182_214 rfl,
   fun _ _ _ _ => xl_gf d182_215 xco182 xf_11_24,
   fun _ _ _ _ _ _ _ _ => xl_il d182_218 rfl,
   fun _ _ _ _ _ => xl_ia d182_220,
   fun _ _ _ _ => xl_ifeq d182_221 rfl,
   fun _ _ _ => xl_ic d182_224 (by decide +kernel),
   fun _ _ _ => xl_goto d182_225 rfl,
   fun _ _ _ => xl_ic d182_228 (by decide +kernel),
   fun _ _ _ _ _ => xl_iadd d182_229,
   fun _ _ _ _ _ _ _ _ _ hc => xl_is d182_230 xml182 (by decide) (zz_nl_s1 hc),
   fun _ _ _ _ _ _ _ _ hc => xl_inc d182_232 xml182 (by decide) rfl (by decide +kernel) (zz_nl_s1 hc),
   fun _ _ _ => xl_goto d182_235 rfl,
   fun _ _ _ _ _ _ _ _ => xl_il d182_238 rfl,
   fun _ _ _ => xl_iri d182_240 xrt182,
   fun _ _ _ _ _ _ _ _ => xl_aln d182_241 rfl,
   fun _ _ _ _ => xl_gf d182_242 xco182 xf_11_7,
   fun _ _ _ _ _ _ _ _ => xl_iln d182_245 rfl,
   fun _ _ _ => xl_ic d182_246 (by decide +kernel),
   fun _ _ _ _ _ => xl_iadd d182_247,
   fun _ _ _ _ _ => xl_ia d182_248,
   fun _ _ _ => xl_iri d182_249 xrt182,
   fun _ _ _ => xl_ic d182_250 (by decide +kernel),
   fun _ _ _ => xl_iri d182_251 xrt182⟩
theorem x182_c152 : ∀ l0 l1 l2 l3 l4 x st h, zz_Y 182 (152, [l0, l1, l2, l3, l4, some (.int x)], st, h) = zz_Y 182 (154, [l0, l1, l2, l3, l4, some (.int x)], .int x :: st, h) := fun _ _ _ _ _ _ _ _ => xl_il d182_152 rfl
theorem x182_c205 : ∀ l0 l1 l2 l3 l4 x st h, zz_Y 182 (205, [l0, l1, l2, l3, l4, some (.int x)], st, h) = zz_Y 182 (207, [l0, l1, l2, l3, l4, some (.int x)], .int x :: st, h) := fun _ _ _ _ _ _ _ _ => xl_il d182_205 rfl
/-! 183 FacetSieveModel.isValue(I)Z -/
theorem d183_0 : decode (zz_c 183) 0 = .ok (.iload_n 1, 1) := by decide +kernel
theorem d183_1 : decode (zz_c 183) 1 = .ok (.iconst 0, 1) := by decide +kernel
theorem d183_2 : decode (zz_c 183) 2 = .ok (.aload_n 0, 1) := by decide +kernel
theorem d183_3 : decode (zz_c 183) 3 = .ok (.getfield 7, 3) := by decide +kernel
theorem d183_6 : decode (zz_c 183) 6 = .ok (.iconst 1, 1) := by decide +kernel
theorem d183_7 : decode (zz_c 183) 7 = .ok (.iaload, 1) := by decide +kernel
theorem d183_8 : decode (zz_c 183) 8 = .ok (.iconst 1, 1) := by decide +kernel
theorem d183_9 : decode (zz_c 183) 9 = .ok (.isub, 1) := by decide +kernel
theorem d183_10 : decode (zz_c 183) 10 = .ok (.invokestatic 57, 3) := by decide +kernel
theorem d183_13 : decode (zz_c 183) 13 = .ok (.ireturn, 1) := by decide +kernel
theorem x183 : (∀ l0 x st h, zz_Y 183 (0, [l0, some (.int x)], st, h) = zz_Y 183 (1, [l0, some (.int x)], .int x :: st, h)) ∧ (∀ ls st h, zz_Y 183 (1, ls, st, h) = zz_Y 183 (2, ls, .int (nI 0) :: st, h)) ∧ (∀ l1 x st h, zz_Y 183 (2, [some (.ref x), l1], st, h) = zz_Y 183 (3, [some (.ref x), l1], .ref x :: st, h)) ∧ (∀ ls a st h, zz_Y 183 (3, ls, .ref a :: st, h) = mo_gf (hp_g h a) 11 0 183 6 ls st h) ∧ (∀ ls st h, zz_Y 183 (6, ls, st, h) = zz_Y 183 (7, ls, .int (nI 1) :: st, h)) ∧ (∀ ls a i st h, zz_Y 183 (7, ls, .int i :: .ref a :: st, h) = mo_ia (hp_g h a) i a 183 8 ls st h) ∧ (∀ ls st h, zz_Y 183 (8, ls, st, h) = zz_Y 183 (9, ls, .int (nI 1) :: st, h)) ∧ (∀ ls a b st h, zz_Y 183 (9, ls, .int b :: .int a :: st, h) = zz_Y 183 (10, ls, .int (a - b) :: st, h)) ∧ (∀ ls a0 a1 a2 h, zz_Y 183 (10, ls, [a2, a1, a0], h) = mo_k 183 13 ls [] (zz_run 154 [a0, a1, a2] h)) ∧ (∀ ls v h, v = nI 0 ∨ v = nI 1 → zz_Y 183 (13, ls, [.int v], h) = some (some (.int v), h)) :=
  ⟨fun _ _ _ _ => xl_iln d183_0 rfl,
   fun _ _ _ => xl_ic d183_1 (by decide +kernel),
   fun _ _ _ _ => xl_aln d183_2 rfl,
   fun _ _ _ _ => xl_gf d183_3 xco183 xf_11_7,
   fun _ _ _ => xl_ic d183_6 (by decide +kernel),
   fun _ _ _ _ _ => xl_ia d183_7,
   fun _ _ _ => xl_ic d183_8 (by decide +kernel),
   fun _ _ _ _ _ => xl_isub d183_9,
   fun ls a0 a1 a2 h => xl_cs (As := [a0, a1, a2]) (st := []) d183_10 xco183 xm_11_57 xnp154 (by decide +kernel) rfl,
   fun _ _ _ hc => xl_irz d183_13 xrt183 hc⟩
/-! 184 FacetSieveModel.countOf(I)I -/
theorem d184_0 : decode (zz_c 184) 0 = .ok (.aload_n 0, 1) := by decide +kernel
theorem d184_1 : decode (zz_c 184) 1 = .ok (.aload_n 0, 1) := by decide +kernel
theorem d184_2 : decode (zz_c 184) 2 = .ok (.getfield 7, 3) := by decide +kernel
theorem d184_5 : decode (zz_c 184) 5 = .ok (.aload_n 0, 1) := by decide +kernel
theorem d184_6 : decode (zz_c 184) 6 = .ok (.iload_n 1, 1) := by decide +kernel
theorem d184_7 : decode (zz_c 184) 7 = .ok (.invokevirtual 103, 3) := by decide +kernel
theorem d184_10 : decode (zz_c 184) 10 = .ok (.invokestatic 100, 3) := by decide +kernel
theorem d184_13 : decode (zz_c 184) 13 = .ok (.iconst 1, 1) := by decide +kernel
theorem d184_14 : decode (zz_c 184) 14 = .ok (.iadd, 1) := by decide +kernel
theorem d184_15 : decode (zz_c 184) 15 = .ok (.iaload, 1) := by decide +kernel
theorem d184_16 : decode (zz_c 184) 16 = .ok (.ifCond .ne 11, 3) := by decide +kernel
theorem d184_19 : decode (zz_c 184) 19 = .ok (.aload_n 0, 1) := by decide +kernel
theorem d184_20 : decode (zz_c 184) 20 = .ok (.iload_n 1, 1) := by decide +kernel
theorem d184_21 : decode (zz_c 184) 21 = .ok (.invokevirtual 103, 3) := by decide +kernel
theorem d184_24 : decode (zz_c 184) 24 = .ok (.goto 4, 3) := by decide +kernel
theorem d184_27 : decode (zz_c 184) 27 = .ok (.iconst (-1), 1) := by decide +kernel
theorem d184_28 : decode (zz_c 184) 28 = .ok (.invokevirtual 106, 3) := by decide +kernel
theorem d184_31 : decode (zz_c 184) 31 = .ok (.aload_n 0, 1) := by decide +kernel
theorem d184_32 : decode (zz_c 184) 32 = .ok (.iload_n 1, 1) := by decide +kernel
theorem d184_33 : decode (zz_c 184) 33 = .ok (.invokevirtual 113, 3) := by decide +kernel
theorem d184_36 : decode (zz_c 184) 36 = .ok (.ireturn, 1) := by decide +kernel
theorem x184 : (∀ l1 x st h, zz_Y 184 (0, [some (.ref x), l1], st, h) = zz_Y 184 (1, [some (.ref x), l1], .ref x :: st, h)) ∧ (∀ l1 x st h, zz_Y 184 (1, [some (.ref x), l1], st, h) = zz_Y 184 (2, [some (.ref x), l1], .ref x :: st, h)) ∧ (∀ ls a st h, zz_Y 184 (2, ls, .ref a :: st, h) = mo_gf (hp_g h a) 11 0 184 5 ls st h) ∧ (∀ l1 x st h, zz_Y 184 (5, [some (.ref x), l1], st, h) = zz_Y 184 (6, [some (.ref x), l1], .ref x :: st, h)) ∧ (∀ l0 x st h, zz_Y 184 (6, [l0, some (.int x)], st, h) = zz_Y 184 (7, [l0, some (.int x)], .int x :: st, h)) ∧ (∀ ls a0 a1 s0 s1 h, zz_Y 184 (7, ls, [a1, a0, s0, s1], h) = mo_k 184 10 ls [s0, s1] (zz_run 170 [a0, a1] h)) ∧ (∀ ls a0 s0 s1 h, zz_Y 184 (10, ls, [a0, s0, s1], h) = mo_k 184 13 ls [s0, s1] (zz_run 169 [a0] h)) ∧ (∀ ls st h, zz_Y 184 (13, ls, st, h) = zz_Y 184 (14, ls, .int (nI 1) :: st, h)) ∧ (∀ ls a b st h, zz_Y 184 (14, ls, .int b :: .int a :: st, h) = zz_Y 184 (15, ls, .int (a + b) :: st, h)) ∧ (∀ ls a i st h, zz_Y 184 (15, ls, .int i :: .ref a :: st, h) = mo_ia (hp_g h a) i a 184 16 ls st h) ∧ (∀ ls a st h, zz_Y 184 (16, ls, .int a :: st, h) = if a = nI 0 then zz_Y 184 (19, ls, st, h) else zz_Y 184 (27, ls, st, h)) ∧ (∀ l1 x st h, zz_Y 184 (19, [some (.ref x), l1], st, h) = zz_Y 184 (20, [some (.ref x), l1], .ref x :: st, h)) ∧ (∀ l0 x st h, zz_Y 184 (20, [l0, some (.int x)], st, h) = zz_Y 184 (21, [l0, some (.int x)], .int x :: st, h)) ∧ (∀ ls a0 a1 s0 h, zz_Y 184 (21, ls, [a1, a0, s0], h) = mo_k 184 24 ls [s0] (zz_run 170 [a0, a1] h)) ∧ (∀ ls st h, zz_Y 184 (24, ls, st, h) = zz_Y 184 (28, ls, st, h)) ∧ (∀ ls st h, zz_Y 184 (27, ls, st, h) = zz_Y 184 (28, ls, .int (-1) :: st, h)) ∧ (∀ ls a0 a1 h, zz_Y 184 (28, ls, [a1, a0], h) = mo_k 184 31 ls [] (zz_run 167 [a0, a1] h)) ∧ (∀ l1 x st h, zz_Y 184 (31, [some (.ref x), l1], st, h) = zz_Y 184 (32, [some (.ref x), l1], .ref x :: st, h)) ∧ (∀ l0 x st h, zz_Y 184 (32, [l0, some (.int x)], st, h) = zz_Y 184 (33, [l0, some (.int x)], .int x :: st, h)) ∧ (∀ ls a0 a1 h, zz_Y 184 (33, ls, [a1, a0], h) = mo_k 184 36 ls [] (zz_run 177 [a0, a1] h)) ∧ (∀ ls v h, zz_Y 184 (36, ls, [.int v], h) = some (some (.int v), h)) :=
  ⟨fun _ _ _ _ => xl_aln d184_0 rfl,
   fun _ _ _ _ => xl_aln d184_1 rfl,
   fun _ _ _ _ => xl_gf d184_2 xco184 xf_11_7,
   fun _ _ _ _ => xl_aln d184_5 rfl,
   fun _ _ _ _ => xl_iln d184_6 rfl,
   fun ls a0 a1 s0 s1 h => xl_cv (As := [a0, a1]) (st := [s0, s1]) d184_7 xco184 xm_11_103 (congrArg Nat.succ xnp170) (by decide +kernel) rfl,
   fun ls a0 s0 s1 h => xl_cs (As := [a0]) (st := [s0, s1]) d184_10 xco184 xm_11_100 xnp169 (by decide +kernel) rfl,
   fun _ _ _ => xl_ic d184_13 (by decide +kernel),
   fun _ _ _ _ _ => xl_iadd d184_14,
   fun _ _ _ _ _ => xl_ia d184_15,
   fun _ _ _ _ => xl_ifne d184_16 rfl,
   fun _ _ _ _ => xl_aln d184_19 rfl,
   fun _ _ _ _ => xl_iln d184_20 rfl,
   fun ls a0 a1 s0 h => xl_cv (As := [a0, a1]) (st := [s0]) d184_21 xco184 xm_11_103 (congrArg Nat.succ xnp170) (by decide +kernel) rfl,
   fun _ _ _ => xl_goto d184_24 rfl,
   fun _ _ _ => xl_ic d184_27 (by decide +kernel),
   fun ls a0 a1 h => xl_cv (As := [a0, a1]) (st := []) d184_28 xco184 xm_11_106 (congrArg Nat.succ xnp167) (by decide +kernel) rfl,
   fun _ _ _ _ => xl_aln d184_31 rfl,
   fun _ _ _ _ => xl_iln d184_32 rfl,
   fun ls a0 a1 h => xl_cv (As := [a0, a1]) (st := []) d184_33 xco184 xm_11_113 (congrArg Nat.succ xnp177) (by decide +kernel) rfl,
   fun _ _ _ => xl_iri d184_36 xrt184⟩
/-! 185 FacetSieveModel.box(III)I -/
theorem d185_0 : decode (zz_c 185) 0 = .ok (.aload_n 0, 1) := by decide +kernel
theorem d185_1 : decode (zz_c 185) 1 = .ok (.iload_n 1, 1) := by decide +kernel
theorem d185_2 : decode (zz_c 185) 2 = .ok (.invokevirtual 164, 3) := by decide +kernel
theorem d185_5 : decode (zz_c 185) 5 = .ok (.ifCond .eq 22, 3) := by decide +kernel
theorem d185_8 : decode (zz_c 185) 8 = .ok (.iload_n 2, 1) := by decide +kernel
theorem d185_9 : decode (zz_c 185) 9 = .ok (.iconst 0, 1) := by decide +kernel
theorem d185_10 : decode (zz_c 185) 10 = .ok (.bipush 7, 2) := by decide +kernel
theorem d185_12 : decode (zz_c 185) 12 = .ok (.invokestatic 57, 3) := by decide +kernel
theorem d185_15 : decode (zz_c 185) 15 = .ok (.ifCond .eq 12, 3) := by decide +kernel
theorem d185_18 : decode (zz_c 185) 18 = .ok (.iload_n 3, 1) := by decide +kernel
theorem d185_19 : decode (zz_c 185) 19 = .ok (.iconst 0, 1) := by decide +kernel
theorem d185_20 : decode (zz_c 185) 20 = .ok (.iconst 3, 1) := by decide +kernel
theorem d185_21 : decode (zz_c 185) 21 = .ok (.invokestatic 57, 3) := by decide +kernel
theorem d185_24 : decode (zz_c 185) 24 = .ok (.ifCond .ne 5, 3) := by decide +kernel
theorem d185_27 : decode (zz_c 185) 27 = .ok (.iconst (-1), 1) := by decide +kernel
theorem d185_28 : decode (zz_c 185) 28 = .ok (.ireturn, 1) := by decide +kernel
theorem d185_29 : decode (zz_c 185) 29 = .ok (.aload_n 0, 1) := by decide +kernel
theorem d185_30 : decode (zz_c 185) 30 = .ok (.aload_n 0, 1) := by decide +kernel
theorem d185_31 : decode (zz_c 185) 31 = .ok (.getfield 24, 3) := by decide +kernel
theorem d185_34 : decode (zz_c 185) 34 = .ok (.iload_n 1, 1) := by decide +kernel
theorem d185_35 : decode (zz_c 185) 35 = .ok (.invokevirtual 96, 3) := by decide +kernel
theorem d185_38 : decode (zz_c 185) 38 = .ok (.aload_n 0, 1) := by decide +kernel
theorem d185_39 : decode (zz_c 185) 39 = .ok (.getfield 24, 3) := by decide +kernel
theorem d185_42 : decode (zz_c 185) 42 = .ok (.iload_n 2, 1) := by decide +kernel
theorem d185_43 : decode (zz_c 185) 43 = .ok (.iaload, 1) := by decide +kernel
theorem d185_44 : decode (zz_c 185) 44 = .ok (.istore 4, 2) := by decide +kernel
theorem d185_46 : decode (zz_c 185) 46 = .ok (.iload 4, 2) := by decide +kernel
theorem d185_48 : decode (zz_c 185) 48 = .ok (.ifCond .ne 5, 3) := by decide +kernel
theorem d185_51 : decode (zz_c 185) 51 = .ok (.iconst (-1), 1) := by decide +kernel
theorem d185_52 : decode (zz_c 185) 52 = .ok (.ireturn, 1) := by decide +kernel
theorem d185_53 : decode (zz_c 185) 53 = .ok (.iload_n 3, 1) := by decide +kernel
theorem d185_54 : decode (zz_c 185) 54 = .ok (.ifCond .ne 11, 3) := by decide +kernel
theorem d185_57 : decode (zz_c 185) 57 = .ok (.iload 4, 2) := by decide +kernel
theorem d185_59 : decode (zz_c 185) 59 = .ok (.invokestatic 135, 3) := by decide +kernel
theorem d185_62 : decode (zz_c 185) 62 = .ok (.goto 34, 3) := by decide +kernel
theorem d185_65 : decode (zz_c 185) 65 = .ok (.iload_n 3, 1) := by decide +kernel
theorem d185_66 : decode (zz_c 185) 66 = .ok (.iconst 1, 1) := by decide +kernel
theorem d185_67 : decode (zz_c 185) 67 = .ok (.if_icmp .ne 11, 3) := by decide +kernel
theorem d185_70 : decode (zz_c 185) 70 = .ok (.iload 4, 2) := by decide +kernel
theorem d185_72 : decode (zz_c 185) 72 = .ok (.invokestatic 69, 3) := by decide +kernel
theorem d185_75 : decode (zz_c 185) 75 = .ok (.goto 21, 3) := by decide +kernel
theorem d185_78 : decode (zz_c 185) 78 = .ok (.iload_n 3, 1) := by decide +kernel
theorem d185_79 : decode (zz_c 185) 79 = .ok (.iconst 2, 1) := by decide +kernel
theorem d185_80 : decode (zz_c 185) 80 = .ok (.if_icmp .ne 11, 3) := by decide +kernel
theorem d185_83 : decode (zz_c 185) 83 = .ok (.iload 4, 2) := by decide +kernel
theorem d185_85 : decode (zz_c 185) 85 = .ok (.invokestatic 86, 3) := by decide +kernel
theorem d185_88 : decode (zz_c 185) 88 = .ok (.goto 8, 3) := by decide +kernel
theorem d185_91 : decode (zz_c 185) 91 = .ok (.iload 4, 2) := by decide +kernel
theorem d185_93 : decode (zz_c 185) 93 = .ok (.invokestatic 83, 3) := by decide +kernel
theorem d185_96 : decode (zz_c 185) 96 = .ok (.ireturn, 1) := by decide +kernel
theorem x185 : (∀ l1 l2 l3 l4 x st h, zz_Y 185 (0, [some (.ref x), l1, l2, l3, l4], st, h) = zz_Y 185 (1, [some (.ref x), l1, l2, l3, l4], .ref x :: st, h)) ∧ (∀ l0 l2 l3 l4 x st h, zz_Y 185 (1, [l0, some (.int x), l2, l3, l4], st, h) = zz_Y 185 (2, [l0, some (.int x), l2, l3, l4], .int x :: st, h)) ∧ (∀ ls a0 a1 h, zz_Y 185 (2, ls, [a1, a0], h) = mo_k 185 5 ls [] (zz_run 183 [a0, a1] h)) ∧ (∀ ls a st h, zz_Y 185 (5, ls, .int a :: st, h) = if a = nI 0 then zz_Y 185 (27, ls, st, h) else zz_Y 185 (8, ls, st, h)) ∧ (∀ l0 l1 l3 l4 x st h, zz_Y 185 (8, [l0, l1, some (.int x), l3, l4], st, h) = zz_Y 185 (9, [l0, l1, some (.int x), l3, l4], .int x :: st, h)) ∧ (∀ ls st h, zz_Y 185 (9, ls, st, h) = zz_Y 185 (10, ls, .int (nI 0) :: st, h)) ∧ (∀ ls st h, zz_Y 185 (10, ls, st, h) = zz_Y 185 (12, ls, .int (nI 7) :: st, h)) ∧ (∀ ls a0 a1 a2 h, zz_Y 185 (12, ls, [a2, a1, a0], h) = mo_k 185 15 ls [] (zz_run 154 [a0, a1, a2] h)) ∧ (∀ ls a st h, zz_Y 185 (15, ls, .int a :: st, h) = if a = nI 0 then zz_Y 185 (27, ls, st, h) else zz_Y 185 (18, ls, st, h)) ∧ (∀ l0 l1 l2 l4 x st h, zz_Y 185 (18, [l0, l1, l2, some (.int x), l4], st, h) = zz_Y 185 (19, [l0, l1, l2, some (.int x), l4], .int x :: st, h)) ∧ (∀ ls st h, zz_Y 185 (19, ls, st, h) = zz_Y 185 (20, ls, .int (nI 0) :: st, h)) ∧ (∀ ls st h, zz_Y 185 (20, ls, st, h) = zz_Y 185 (21, ls, .int (nI 3) :: st, h)) ∧ (∀ ls a0 a1 a2 h, zz_Y 185 (21, ls, [a2, a1, a0], h) = mo_k 185 24 ls [] (zz_run 154 [a0, a1, a2] h)) ∧ (∀ ls a st h, zz_Y 185 (24, ls, .int a :: st, h) = if a = nI 0 then zz_Y 185 (27, ls, st, h) else zz_Y 185 (29, ls, st, h)) ∧ (∀ ls st h, zz_Y 185 (27, ls, st, h) = zz_Y 185 (28, ls, .int (-1) :: st, h)) ∧ (∀ ls v h, zz_Y 185 (28, ls, [.int v], h) = some (some (.int v), h)) ∧ (∀ l1 l2 l3 l4 x st h, zz_Y 185 (29, [some (.ref x), l1, l2, l3, l4], st, h) = zz_Y 185 (30, [some (.ref x), l1, l2, l3, l4], .ref x :: st, h)) ∧ (∀ l1 l2 l3 l4 x st h, zz_Y 185 (30, [some (.ref x), l1, l2, l3, l4], st, h) = zz_Y 185 (31, [some (.ref x), l1, l2, l3, l4], .ref x :: st, h)) ∧ (∀ ls a st h, zz_Y 185 (31, ls, .ref a :: st, h) = mo_gf (hp_g h a) 11 7 185 34 ls st h) ∧ (∀ l0 l2 l3 l4 x st h, zz_Y 185 (34, [l0, some (.int x), l2, l3, l4], st, h) = zz_Y 185 (35, [l0, some (.int x), l2, l3, l4], .int x :: st, h)) ∧ (∀ ls a0 a1 a2 h, zz_Y 185 (35, ls, [a2, a1, a0], h) = mo_k 185 38 ls [] (zz_run 156 [a0, a1, a2] h)) ∧ (∀ l1 l2 l3 l4 x st h, zz_Y 185 (38, [some (.ref x), l1, l2, l3, l4], st, h) = zz_Y 185 (39, [some (.ref x), l1, l2, l3, l4], .ref x :: st, h)) ∧ (∀ ls a st h, zz_Y 185 (39, ls, .ref a :: st, h) = mo_gf (hp_g h a) 11 7 185 42 ls st h) ∧ (∀ l0 l1 l3 l4 x st h, zz_Y 185 (42, [l0, l1, some (.int x), l3, l4], st, h) = zz_Y 185 (43, [l0, l1, some (.int x), l3, l4], .int x :: st, h)) ∧ (∀ ls a i st h, zz_Y 185 (43, ls, .int i :: .ref a :: st, h) = mo_ia (hp_g h a) i a 185 44 ls st h) ∧ (∀ l0 l1 l2 l3 l4 x st h, zz_nl l3 = true → zz_Y 185 (44, [l0, l1, l2, l3, l4], .int x :: st, h) = zz_Y 185 (46, [l0, l1, l2, l3, some (.int x)], st, h)) ∧ (∀ l0 l1 l2 l3 x st h, zz_Y 185 (46, [l0, l1, l2, l3, some (.int x)], st, h) = zz_Y 185 (48, [l0, l1, l2, l3, some (.int x)], .int x :: st, h)) ∧ (∀ ls a st h, zz_Y 185 (48, ls, .int a :: st, h) = if a = nI 0 then zz_Y 185 (51, ls, st, h) else zz_Y 185 (53, ls, st, h)) ∧ (∀ ls st h, zz_Y 185 (51, ls, st, h) = zz_Y 185 (52, ls, .int (-1) :: st, h)) ∧ (∀ ls v h, zz_Y 185 (52, ls, [.int v], h) = some (some (.int v), h)) ∧ (∀ l0 l1 l2 l4 x st h, zz_Y 185 (53, [l0, l1, l2, some (.int x), l4], st, h) = zz_Y 185 (54, [l0, l1, l2, some (.int x), l4], .int x :: st, h)) ∧ (∀ ls a st h, zz_Y 185 (54, ls, .int a :: st, h) = if a = nI 0 then zz_Y 185 (57, ls, st, h) else zz_Y 185 (65, ls, st, h)) ∧ (∀ l0 l1 l2 l3 x st h, zz_Y 185 (57, [l0, l1, l2, l3, some (.int x)], st, h) = zz_Y 185 (59, [l0, l1, l2, l3, some (.int x)], .int x :: st, h)) ∧ (∀ ls a0 h, zz_Y 185 (59, ls, [a0], h) = mo_k 185 62 ls [] (zz_run 164 [a0] h)) ∧ (∀ ls st h, zz_Y 185 (62, ls, st, h) = zz_Y 185 (96, ls, st, h)) ∧ (∀ l0 l1 l2 l4 x st h, zz_Y 185 (65, [l0, l1, l2, some (.int x), l4], st, h) = zz_Y 185 (66, [l0, l1, l2, some (.int x), l4], .int x :: st, h)) ∧ (∀ ls st h, zz_Y 185 (66, ls, st, h) = zz_Y 185 (67, ls, .int (nI 1) :: st, h)) ∧ (∀ ls a b st h, zz_Y 185 (67, ls, .int b :: .int a :: st, h) = if a = b then zz_Y 185 (70, ls, st, h) else zz_Y 185 (78, ls, st, h)) ∧ (∀ l0 l1 l2 l3 x st h, zz_Y 185 (70, [l0, l1, l2, l3, some (.int x)], st, h) = zz_Y 185 (72, [l0, l1, l2, l3, some (.int x)], .int x :: st, h)) ∧ (∀ ls a0 h, zz_Y 185 (72, ls, [a0], h) = mo_k 185 75 ls [] (zz_run 160 [a0] h)) ∧ (∀ ls st h, zz_Y 185 (75, ls, st, h) = zz_Y 185 (96, ls, st, h)) ∧ (∀ l0 l1 l2 l4 x st h, zz_Y 185 (78, [l0, l1, l2, some (.int x), l4], st, h) = zz_Y 185 (79, [l0, l1, l2, some (.int x), l4], .int x :: st, h)) ∧ (∀ ls st h, zz_Y 185 (79, ls, st, h) = zz_Y 185 (80, ls, .int (nI 2) :: st, h)) ∧ (∀ ls a b st h, zz_Y 185 (80, ls, .int b :: .int a :: st, h) = if a = b then zz_Y 185 (83, ls, st, h) else zz_Y 185 (91, ls, st, h)) ∧ (∀ l0 l1 l2 l3 x st h, zz_Y 185 (83, [l0, l1, l2, l3, some (.int x)], st, h) = zz_Y 185 (85, [l0, l1, l2, l3, some (.int x)], .int x :: st, h)) ∧ (∀ ls a0 h, zz_Y 185 (85, ls, [a0], h) = mo_k 185 88 ls [] (zz_run 162 [a0] h)) ∧ (∀ ls st h, zz_Y 185 (88, ls, st, h) = zz_Y 185 (96, ls, st, h)) ∧ (∀ l0 l1 l2 l3 x st h, zz_Y 185 (91, [l0, l1, l2, l3, some (.int x)], st, h) = zz_Y 185 (93, [l0, l1, l2, l3, some (.int x)], .int x :: st, h)) ∧ (∀ ls a0 h, zz_Y 185 (93, ls, [a0], h) = mo_k 185 96 ls [] (zz_run 163 [a0] h)) ∧ (∀ ls v h, zz_Y 185 (96, ls, [.int v], h) = some (some (.int v), h)) :=
  ⟨fun _ _ _ _ _ _ _ => xl_aln d185_0 rfl,
   fun _ _ _ _ _ _ _ => xl_iln d185_1 rfl,
   fun ls a0 a1 h => xl_cv (As := [a0, a1]) (st := []) d185_2 xco185 xm_11_164 (congrArg Nat.succ xnp183) (by decide +kernel) rfl,
   fun _ _ _ _ => xl_ifeq d185_5 rfl,
   fun _ _ _ _ _ _ _ => xl_iln d185_8 rfl,
   fun _ _ _ => xl_ic d185_9 (by decide +kernel),
   fun _ _ _ => xl_bi d185_10 (by decide +kernel),
   fun ls a0 a1 a2 h => xl_cs (As := [a0, a1, a2]) (st := []) d185_12 xco185 xm_11_57 xnp154 (by decide +kernel) rfl,
   fun _ _ _ _ => xl_ifeq d185_15 rfl,
   fun _ _ _ _ _ _ _ => xl_iln d185_18 rfl,
   fun _ _ _ => xl_ic d185_19 (by decide +kernel),
   fun _ _ _ => xl_ic d185_20 (by decide +kernel),
   fun ls a0 a1 a2 h => xl_cs (As := [a0, a1, a2]) (st := []) d185_21 xco185 xm_11_57 xnp154 (by decide +kernel) rfl,
   fun _ _ _ _ => xl_ifne d185_24 rfl,
   fun _ _ _ => xl_ic d185_27 (by decide +kernel),
   fun _ _ _ => xl_iri d185_28 xrt185,
   fun _ _ _ _ _ _ _ => xl_aln d185_29 rfl,
   fun _ _ _ _ _ _ _ => xl_aln d185_30 rfl,
   fun _ _ _ _ => xl_gf d185_31 xco185 xf_11_24,
   fun _ _ _ _ _ _ _ => xl_iln d185_34 rfl,
   fun ls a0 a1 a2 h => xl_cv (As := [a0, a1, a2]) (st := []) d185_35 xco185 xm_11_96 (congrArg Nat.succ xnp156) (by decide +kernel) rfl,
   fun _ _ _ _ _ _ _ => xl_aln d185_38 rfl,
   fun _ _ _ _ => xl_gf d185_39 xco185 xf_11_24,
   fun _ _ _ _ _ _ _ => xl_iln d185_42 rfl,
   fun _ _ _ _ _ => xl_ia d185_43,
   fun _ _ _ _ _ _ _ _ hc => xl_is d185_44 xml185 (by decide) (zz_nl_s1 hc),
   fun _ _ _ _ _ _ _ => xl_il d185_46 rfl,
   fun _ _ _ _ => xl_ifne d185_48 rfl,
   fun _ _ _ => xl_ic d185_51 (by decide +kernel),
   fun _ _ _ => xl_iri d185_52 xrt185,
   fun _ _ _ _ _ _ _ => xl_iln d185_53 rfl,
   fun _ _ _ _ => xl_ifne d185_54 rfl,
   fun _ _ _ _ _ _ _ => xl_il d185_57 rfl,
   fun ls a0 h => xl_cs (As := [a0]) (st := []) d185_59 xco185 xm_11_135 xnp164 (by decide +kernel) rfl,
   fun _ _ _ => xl_goto d185_62 rfl,
   fun _ _ _ _ _ _ _ => xl_iln d185_65 rfl,
   fun _ _ _ => xl_ic d185_66 (by decide +kernel),
   fun _ _ _ _ _ => xl_icne d185_67 rfl,
   fun _ _ _ _ _ _ _ => xl_il d185_70 rfl,
   fun ls a0 h => xl_cs (As := [a0]) (st := []) d185_72 xco185 xm_11_69 xnp160 (by decide +kernel) rfl,
   fun _ _ _ => xl_goto d185_75 rfl,
   fun _ _ _ _ _ _ _ => xl_iln d185_78 rfl,
   fun _ _ _ => xl_ic d185_79 (by decide +kernel),
   fun _ _ _ _ _ => xl_icne d185_80 rfl,
   fun _ _ _ _ _ _ _ => xl_il d185_83 rfl,
   fun ls a0 h => xl_cs (As := [a0]) (st := []) d185_85 xco185 xm_11_86 xnp162 (by decide +kernel) rfl,
   fun _ _ _ => xl_goto d185_88 rfl,
   fun _ _ _ _ _ _ _ => xl_il d185_91 rfl,
   fun ls a0 h => xl_cs (As := [a0]) (st := []) d185_93 xco185 xm_11_83 xnp163 (by decide +kernel) rfl,
   fun _ _ _ => xl_iri d185_96 xrt185⟩
/-! 186 FacetSieveModel.record(II)I -/
theorem d186_0 : decode (zz_c 186) 0 = .ok (.aload_n 0, 1) := by decide +kernel
theorem d186_1 : decode (zz_c 186) 1 = .ok (.iload_n 1, 1) := by decide +kernel
theorem d186_2 : decode (zz_c 186) 2 = .ok (.invokevirtual 170, 3) := by decide +kernel
theorem d186_5 : decode (zz_c 186) 5 = .ok (.ifCond .ne 5, 3) := by decide +kernel
theorem d186_8 : decode (zz_c 186) 8 = .ok (.iconst (-1), 1) := by decide +kernel
theorem d186_9 : decode (zz_c 186) 9 = .ok (.ireturn, 1) := by decide +kernel
theorem d186_10 : decode (zz_c 186) 10 = .ok (.iload_n 2, 1) := by decide +kernel
theorem d186_11 : decode (zz_c 186) 11 = .ok (.ifCond .ne 14, 3) := by decide +kernel
theorem d186_14 : decode (zz_c 186) 14 = .ok (.aload_n 0, 1) := by decide +kernel
theorem d186_15 : decode (zz_c 186) 15 = .ok (.getfield 7, 3) := by decide +kernel
theorem d186_18 : decode (zz_c 186) 18 = .ok (.sipush 462, 3) := by decide +kernel
theorem d186_21 : decode (zz_c 186) 21 = .ok (.iload_n 1, 1) := by decide +kernel
theorem d186_22 : decode (zz_c 186) 22 = .ok (.iadd, 1) := by decide +kernel
theorem d186_23 : decode (zz_c 186) 23 = .ok (.iaload, 1) := by decide +kernel
theorem d186_24 : decode (zz_c 186) 24 = .ok (.ireturn, 1) := by decide +kernel
theorem d186_25 : decode (zz_c 186) 25 = .ok (.iconst 0, 1) := by decide +kernel
theorem d186_26 : decode (zz_c 186) 26 = .ok (.istore_n 3, 1) := by decide +kernel
theorem d186_27 : decode (zz_c 186) 27 = .ok (.iconst 0, 1) := by decide +kernel
theorem d186_28 : decode (zz_c 186) 28 = .ok (.istore 4, 2) := by decide +kernel
theorem d186_30 : decode (zz_c 186) 30 = .ok (.iload 4, 2) := by decide +kernel
theorem d186_32 : decode (zz_c 186) 32 = .ok (.aload_n 0, 1) := by decide +kernel
theorem d186_33 : decode (zz_c 186) 33 = .ok (.getfield 7, 3) := by decide +kernel
theorem d186_36 : decode (zz_c 186) 36 = .ok (.iconst 1, 1) := by decide +kernel
theorem d186_37 : decode (zz_c 186) 37 = .ok (.iaload, 1) := by decide +kernel
theorem d186_38 : decode (zz_c 186) 38 = .ok (.if_icmp .ge 43, 3) := by decide +kernel
theorem d186_41 : decode (zz_c 186) 41 = .ok (.aload_n 0, 1) := by decide +kernel
theorem d186_42 : decode (zz_c 186) 42 = .ok (.sipush 302, 3) := by decide +kernel
theorem d186_45 : decode (zz_c 186) 45 = .ok (.bipush 8, 2) := by decide +kernel
theorem d186_47 : decode (zz_c 186) 47 = .ok (.iload 4, 2) := by decide +kernel
theorem d186_49 : decode (zz_c 186) 49 = .ok (.imul, 1) := by decide +kernel
theorem d186_50 : decode (zz_c 186) 50 = .ok (.iadd, 1) := by decide +kernel
theorem d186_51 : decode (zz_c 186) 51 = .ok (.iload_n 1, 1) := by decide +kernel
theorem d186_52 : decode (zz_c 186) 52 = .ok (.invokevirtual 65, 3) := by decide +kernel
theorem d186_55 : decode (zz_c 186) 55 = .ok (.ifCond .ne 6, 3) := by decide +kernel
theorem d186_58 : decode (zz_c 186) 58 = .ok (.goto 17, 3) := by decide +kernel
theorem d186_61 : decode (zz_c 186) 61 = .ok (.iload_n 2, 1) := by decide +kernel
theorem d186_62 : decode (zz_c 186) 62 = .ok (.bipush 10, 2) := by decide +kernel
theorem d186_64 : decode (zz_c 186) 64 = .ok (.isub, 1) := by decide +kernel
theorem d186_65 : decode (zz_c 186) 65 = .ok (.iload_n 3, 1) := by decide +kernel
theorem d186_66 : decode (zz_c 186) 66 = .ok (.if_icmp .ne 6, 3) := by decide +kernel
theorem d186_69 : decode (zz_c 186) 69 = .ok (.iload 4, 2) := by decide +kernel
theorem d186_71 : decode (zz_c 186) 71 = .ok (.ireturn, 1) := by decide +kernel
theorem d186_72 : decode (zz_c 186) 72 = .ok (.iinc 3 1, 3) := by decide +kernel
theorem d186_75 : decode (zz_c 186) 75 = .ok (.iinc 4 1, 3) := by decide +kernel
theorem d186_78 : decode (zz_c 186) 78 = .ok (.goto (-48), 3) := by decide +kernel
theorem d186_81 : decode (zz_c 186) 81 = .ok (.iload_n 2, 1) := by decide +kernel
theorem d186_82 : decode (zz_c 186) 82 = .ok (.iconst 1, 1) := by decide +kernel
theorem d186_83 : decode (zz_c 186) 83 = .ok (.if_icmp .ne 5, 3) := by decide +kernel
theorem d186_86 : decode (zz_c 186) 86 = .ok (.iload_n 3, 1) := by decide +kernel
theorem d186_87 : decode (zz_c 186) 87 = .ok (.ireturn, 1) := by decide +kernel
theorem d186_88 : decode (zz_c 186) 88 = .ok (.aload_n 0, 1) := by decide +kernel
theorem d186_89 : decode (zz_c 186) 89 = .ok (.iconst (-1), 1) := by decide +kernel
theorem d186_90 : decode (zz_c 186) 90 = .ok (.invokevirtual 106, 3) := by decide +kernel
theorem d186_93 : decode (zz_c 186) 93 = .ok (.iload_n 2, 1) := by decide +kernel
theorem d186_94 : decode (zz_c 186) 94 = .ok (.iconst 2, 1) := by decide +kernel
theorem d186_95 : decode (zz_c 186) 95 = .ok (.if_icmp .ne 22, 3) := by decide +kernel
theorem d186_98 : decode (zz_c 186) 98 = .ok (.aload_n 0, 1) := by decide +kernel
theorem d186_99 : decode (zz_c 186) 99 = .ok (.getfield 30, 3) := by decide +kernel
theorem d186_102 : decode (zz_c 186) 102 = .ok (.iload_n 1, 1) := by decide +kernel
theorem d186_103 : decode (zz_c 186) 103 = .ok (.invokestatic 73, 3) := by decide +kernel
theorem d186_106 : decode (zz_c 186) 106 = .ok (.ifCond .eq 7, 3) := by decide +kernel
theorem d186_109 : decode (zz_c 186) 109 = .ok (.iconst 1, 1) := by decide +kernel
theorem d186_110 : decode (zz_c 186) 110 = .ok (.goto 8, 3) := by decide +kernel
theorem d186_113 : decode (zz_c 186) 113 = .ok (.iconst 0, 1) := by decide +kernel
theorem d186_114 : decode (zz_c 186) 114 = .ok (.goto 4, 3) := by decide +kernel
theorem d186_117 : decode (zz_c 186) 117 = .ok (.iconst (-1), 1) := by decide +kernel
theorem d186_118 : decode (zz_c 186) 118 = .ok (.ireturn, 1) := by decide +kernel
theorem x186_p0 : (∀ l1 l2 l3 l4 x st h, zz_Y 186 (0, [some (.ref x), l1, l2, l3, l4], st, h) = zz_Y 186 (1, [some (.ref x), l1, l2, l3, l4], .ref x :: st, h)) ∧ (∀ l0 l2 l3 l4 x st h, zz_Y 186 (1, [l0, some (.int x), l2, l3, l4], st, h) = zz_Y 186 (2, [l0, some (.int x), l2, l3, l4], .int x :: st, h)) ∧ (∀ ls a0 a1 h, zz_Y 186 (2, ls, [a1, a0], h) = mo_k 186 5 ls [] (zz_run 187 [a0, a1] h)) ∧ (∀ ls a st h, zz_Y 186 (5, ls, .int a :: st, h) = if a = nI 0 then zz_Y 186 (8, ls, st, h) else zz_Y 186 (10, ls, st, h)) ∧ (∀ ls st h, zz_Y 186 (8, ls, st, h) = zz_Y 186 (9, ls, .int (-1) :: st, h)) ∧ (∀ ls v h, zz_Y 186 (9, ls, [.int v], h) = some (some (.int v), h)) ∧ (∀ l0 l1 l3 l4 x st h, zz_Y 186 (10, [l0, l1, some (.int x), l3, l4], st, h) = zz_Y 186 (11, [l0, l1, some (.int x), l3, l4], .int x :: st, h)) ∧ (∀ ls a st h, zz_Y 186 (11, ls, .int a :: st, h) = if a = nI 0 then zz_Y 186 (14, ls, st, h) else zz_Y 186 (25, ls, st, h)) ∧ (∀ l1 l2 l3 l4 x st h, zz_Y 186 (14, [some (.ref x), l1, l2, l3, l4], st, h) = zz_Y 186 (15, [some (.ref x), l1, l2, l3, l4], .ref x :: st, h)) ∧ (∀ ls a st h, zz_Y 186 (15, ls, .ref a :: st, h) = mo_gf (hp_g h a) 11 0 186 18 ls st h) ∧ (∀ ls st h, zz_Y 186 (18, ls, st, h) = zz_Y 186 (21, ls, .int (nI 462) :: st, h)) ∧ (∀ l0 l2 l3 l4 x st h, zz_Y 186 (21, [l0, some (.int x), l2, l3, l4], st, h) = zz_Y 186 (22, [l0, some (.int x), l2, l3, l4], .int x :: st, h)) ∧ (∀ ls a b st h, zz_Y 186 (22, ls, .int b :: .int a :: st, h) = zz_Y 186 (23, ls, .int (a + b) :: st, h)) ∧ (∀ ls a i st h, zz_Y 186 (23, ls, .int i :: .ref a :: st, h) = mo_ia (hp_g h a) i a 186 24 ls st h) ∧ (∀ ls v h, zz_Y 186 (24, ls, [.int v], h) = some (some (.int v), h)) ∧ (∀ ls st h, zz_Y 186 (25, ls, st, h) = zz_Y 186 (26, ls, .int (nI 0) :: st, h)) ∧ (∀ l0 l1 l2 l3 l4 x st h, zz_nl l2 = true → zz_Y 186 (26, [l0, l1, l2, l3, l4], .int x :: st, h) = zz_Y 186 (27, [l0, l1, l2, some (.int x), l4], st, h)) ∧ (∀ ls st h, zz_Y 186 (27, ls, st, h) = zz_Y 186 (28, ls, .int (nI 0) :: st, h)) ∧ (∀ l0 l1 l2 l3 l4 x st h, zz_nl l3 = true → zz_Y 186 (28, [l0, l1, l2, l3, l4], .int x :: st, h) = zz_Y 186 (30, [l0, l1, l2, l3, some (.int x)], st, h)) ∧ (∀ l1 l2 l3 l4 x st h, zz_Y 186 (32, [some (.ref x), l1, l2, l3, l4], st, h) = zz_Y 186 (33, [some (.ref x), l1, l2, l3, l4], .ref x :: st, h)) ∧ (∀ ls a st h, zz_Y 186 (33, ls, .ref a :: st, h) = mo_gf (hp_g h a) 11 0 186 36 ls st h) ∧ (∀ ls st h, zz_Y 186 (36, ls, st, h) = zz_Y 186 (37, ls, .int (nI 1) :: st, h)) ∧ (∀ ls a i st h, zz_Y 186 (37, ls, .int i :: .ref a :: st, h) = mo_ia (hp_g h a) i a 186 38 ls st h) ∧ (∀ ls a b st h, zz_Y 186 (38, ls, .int b :: .int a :: st, h) = if a < b then zz_Y 186 (41, ls, st, h) else zz_Y 186 (81, ls, st, h)) ∧ (∀ l1 l2 l3 l4 x st h, zz_Y 186 (41, [some (.ref x), l1, l2, l3, l4], st, h) = zz_Y 186 (42, [some (.ref x), l1, l2, l3, l4], .ref x :: st, h)) ∧ (∀ ls st h, zz_Y 186 (42, ls, st, h) = zz_Y 186 (45, ls, .int (nI 302) :: st, h)) ∧ (∀ ls st h, zz_Y 186 (45, ls, st, h) = zz_Y 186 (47, ls, .int (nI 8) :: st, h)) ∧ (∀ l0 l1 l2 l3 x st h, zz_Y 186 (47, [l0, l1, l2, l3, some (.int x)], st, h) = zz_Y 186 (49, [l0, l1, l2, l3, some (.int x)], .int x :: st, h)) ∧ (∀ ls a b st h, zz_Y 186 (49, ls, .int b :: .int a :: st, h) = zz_Y 186 (50, ls, .int (a * b) :: st, h)) ∧ (∀ ls a b st h, zz_Y 186 (50, ls, .int b :: .int a :: st, h) = zz_Y 186 (51, ls, .int (a + b) :: st, h)) ∧ (∀ l0 l2 l3 l4 x st h, zz_Y 186 (51, [l0, some (.int x), l2, l3, l4], st, h) = zz_Y 186 (52, [l0, some (.int x), l2, l3, l4], .int x :: st, h)) ∧ (∀ ls a0 a1 a2 h, zz_Y 186 (52, ls, [a2, a1, a0], h) = mo_k 186 55 ls [] (zz_run 189 [a0, a1, a2] h)) ∧ (∀ ls a st h, zz_Y 186 (55, ls, .int a :: st, h) = if a = nI 0 then zz_Y 186 (58, ls, st, h) else zz_Y 186 (61, ls, st, h)) ∧ (∀ ls st h, zz_Y 186 (58, ls, st, h) = zz_Y 186 (75, ls, st, h)) ∧ (∀ l0 l1 l3 l4 x st h, zz_Y 186 (61, [l0, l1, some (.int x), l3, l4], st, h) = zz_Y 186 (62, [l0, l1, some (.int x), l3, l4], .int x :: st, h)) ∧ (∀ ls st h, zz_Y 186 (62, ls, st, h) = zz_Y 186 (64, ls, .int (nI 10) :: st, h)) ∧ (∀ ls a b st h, zz_Y 186 (64, ls, .int b :: .int a :: st, h) = zz_Y 186 (65, ls, .int (a - b) :: st, h)) ∧ (∀ l0 l1 l2 l4 x st h, zz_Y 186 (65, [l0, l1, l2, some (.int x), l4], st, h) = zz_Y 186 (66, [l0, l1, l2, some (.int x), l4], .int x :: st, h)) ∧ (∀ ls a b st h, zz_Y 186 (66, ls, .int b :: .int a :: st, h) = if a = b then zz_Y 186 (69, ls, st, h) else zz_Y 186 (72, ls, st, h)) ∧ (∀ l0 l1 l2 l3 x st h, zz_Y 186 (69, [l0, l1, l2, l3, some (.int x)], st, h) = zz_Y 186 (71, [l0, l1, l2, l3, some (.int x)], .int x :: st, h)) ∧ (∀ ls v h, zz_Y 186 (71, ls, [.int v], h) = some (some (.int v), h)) ∧ (∀ l0 l1 l2 l4 x st h, zz_nl l2 = true → zz_Y 186 (72, [l0, l1, l2, some (.int x), l4], st, h) = zz_Y 186 (75, [l0, l1, l2, some (.int (x + nI 1)), l4], st, h)) ∧ (∀ l0 l1 l2 l3 x st h, zz_nl l3 = true → zz_Y 186 (75, [l0, l1, l2, l3, some (.int x)], st, h) = zz_Y 186 (78, [l0, l1, l2, l3, some (.int (x + nI 1))], st, h)) ∧ (∀ ls st h, zz_Y 186 (78, ls, st, h) = zz_Y 186 (30, ls, st, h)) ∧ (∀ l0 l1 l3 l4 x st h, zz_Y 186 (81, [l0, l1, some (.int x), l3, l4], st, h) = zz_Y 186 (82, [l0, l1, some (.int x), l3, l4], .int x :: st, h)) ∧ (∀ ls st h, zz_Y 186 (82, ls, st, h) = zz_Y 186 (83, ls, .int (nI 1) :: st, h)) ∧ (∀ ls a b st h, zz_Y 186 (83, ls, .int b :: .int a :: st, h) = if a = b then zz_Y 186 (86, ls, st, h) else zz_Y 186 (88, ls, st, h)) ∧ (∀ l0 l1 l2 l4 x st h, zz_Y 186 (86, [l0, l1, l2, some (.int x), l4], st, h) = zz_Y 186 (87, [l0, l1, l2, some (.int x), l4], .int x :: st, h)) ∧ (∀ ls v h, zz_Y 186 (87, ls, [.int v], h) = some (some (.int v), h)) ∧ (∀ l1 l2 l3 l4 x st h, zz_Y 186 (88, [some (.ref x), l1, l2, l3, l4], st, h) = zz_Y 186 (89, [some (.ref x), l1, l2, l3, l4], .ref x :: st, h)) ∧ (∀ ls st h, zz_Y 186 (89, ls, st, h) = zz_Y 186 (90, ls, .int (-1) :: st, h)) ∧ (∀ ls a0 a1 h, zz_Y 186 (90, ls, [a1, a0], h) = mo_k 186 93 ls [] (zz_run 167 [a0, a1] h)) ∧ (∀ l0 l1 l3 l4 x st h, zz_Y 186 (93, [l0, l1, some (.int x), l3, l4], st, h) = zz_Y 186 (94, [l0, l1, some (.int x), l3, l4], .int x :: st, h)) ∧ (∀ ls st h, zz_Y 186 (94, ls, st, h) = zz_Y 186 (95, ls, .int (nI 2) :: st, h)) ∧ (∀ ls a b st h, zz_Y 186 (95, ls, .int b :: .int a :: st, h) = if a = b then zz_Y 186 (98, ls, st, h) else zz_Y 186 (117, ls, st, h)) ∧ (∀ l1 l2 l3 l4 x st h, zz_Y 186 (98, [some (.ref x), l1, l2, l3, l4], st, h) = zz_Y 186 (99, [some (.ref x), l1, l2, l3, l4], .ref x :: st, h)) ∧ (∀ ls a st h, zz_Y 186 (99, ls, .ref a :: st, h) = mo_gf (hp_g h a) 11 9 186 102 ls st h) ∧ (∀ l0 l2 l3 l4 x st h, zz_Y 186 (102, [l0, some (.int x), l2, l3, l4], st, h) = zz_Y 186 (103, [l0, some (.int x), l2, l3, l4], .int x :: st, h)) ∧ (∀ ls a0 a1 h, zz_Y 186 (103, ls, [a1, a0], h) = mo_k 186 106 ls [] (zz_run 190 [a0, a1] h)) ∧ (∀ ls a st h, zz_Y 186 (106, ls, .int a :: st, h) = if a = nI 0 then zz_Y 186 (113, ls, st, h) else zz_Y 186 (109, ls, st, h)) :=
  ⟨fun _ _ _ _ _ _ _ => xl_aln d186_0 rfl,
   fun _ _ _ _ _ _ _ => xl_iln d186_1 rfl,
   fun ls a0 a1 h => xl_cv (As := [a0, a1]) (st := []) d186_2 xco186 xm_11_170 (congrArg Nat.succ xnp187) (by decide +kernel) rfl,
   fun _ _ _ _ => xl_ifne d186_5 rfl,
   fun _ _ _ => xl_ic d186_8 (by decide +kernel),
   fun _ _ _ => xl_iri d186_9 xrt186,
   fun _ _ _ _ _ _ _ => xl_iln d186_10 rfl,
   fun _ _ _ _ => xl_ifne d186_11 rfl,
   fun _ _ _ _ _ _ _ => xl_aln d186_14 rfl,
   fun _ _ _ _ => xl_gf d186_15 xco186 xf_11_7,
   fun _ _ _ => xl_si d186_18 (by decide +kernel),
   fun _ _ _ _ _ _ _ => xl_iln d186_21 rfl,
   fun _ _ _ _ _ => xl_iadd d186_22,
   fun _ _ _ _ _ => xl_ia d186_23,
   fun _ _ _ => xl_iri d186_24 xrt186,
   fun _ _ _ => xl_ic d186_25 (by decide +kernel),
   fun _ _ _ _ _ _ _ _ hc => xl_isn d186_26 xml186 (by decide) (zz_nl_s1 hc),
   fun _ _ _ => xl_ic d186_27 (by decide +kernel),
   fun _ _ _ _ _ _ _ _ hc => xl_is d186_28 xml186 (by decide) (zz_nl_s1 hc),
   fun _ _ _ _ _ _ _ => xl_aln d186_32 rfl,
   fun _ _ _ _ => xl_gf d186_33 xco186 xf_11_7,
   fun _ _ _ => xl_ic d186_36 (by decide +kernel),
   fun _ _ _ _ _ => xl_ia d186_37,
   fun _ _ _ _ _ => xl_icge d186_38 rfl,
   fun _ _ _ _ _ _ _ => xl_aln d186_41 rfl,
   fun _ _ _ => xl_si d186_42 (by decide +kernel),
   fun _ _ _ => xl_bi d186_45 (by decide +kernel),
   fun _ _ _ _ _ _ _ => xl_il d186_47 rfl,
   fun _ _ _ _ _ => xl_imul d186_49,
   fun _ _ _ _ _ => xl_iadd d186_50,
   fun _ _ _ _ _ _ _ => xl_iln d186_51 rfl,
   fun ls a0 a1 a2 h => xl_cv (As := [a0, a1, a2]) (st := []) d186_52 xco186 xm_11_65 (congrArg Nat.succ xnp189) (by decide +kernel) rfl,
   fun _ _ _ _ => xl_ifne d186_55 rfl,
   fun _ _ _ => xl_goto d186_58 rfl,
   fun _ _ _ _ _ _ _ => xl_iln d186_61 rfl,
   fun _ _ _ => xl_bi d186_62 (by decide +kernel),
   fun _ _ _ _ _ => xl_isub d186_64,
   fun _ _ _ _ _ _ _ => xl_iln d186_65 rfl,
   fun _ _ _ _ _ => xl_icne d186_66 rfl,
   fun _ _ _ _ _ _ _ => xl_il d186_69 rfl,
   fun _ _ _ => xl_iri d186_71 xrt186,
   fun _ _ _ _ _ _ _ hc => xl_inc d186_72 xml186 (by decide) rfl (by decide +kernel) (zz_nl_s1 hc),
   fun _ _ _ _ _ _ _ hc => xl_inc d186_75 xml186 (by decide) rfl (by decide +kernel) (zz_nl_s1 hc),
   fun _ _ _ => xl_goto d186_78 rfl,
   fun _ _ _ _ _ _ _ => xl_iln d186_81 rfl,
   fun _ _ _ => xl_ic d186_82 (by decide +kernel),
   fun _ _ _ _ _ => xl_icne d186_83 rfl,
   fun _ _ _ _ _ _ _ => xl_iln d186_86 rfl,
   fun _ _ _ => xl_iri d186_87 xrt186,
   fun _ _ _ _ _ _ _ => xl_aln d186_88 rfl,
   fun _ _ _ => xl_ic d186_89 (by decide +kernel),
   fun ls a0 a1 h => xl_cv (As := [a0, a1]) (st := []) d186_90 xco186 xm_11_106 (congrArg Nat.succ xnp167) (by decide +kernel) rfl,
   fun _ _ _ _ _ _ _ => xl_iln d186_93 rfl,
   fun _ _ _ => xl_ic d186_94 (by decide +kernel),
   fun _ _ _ _ _ => xl_icne d186_95 rfl,
   fun _ _ _ _ _ _ _ => xl_aln d186_98 rfl,
   fun _ _ _ _ => xl_gf d186_99 xco186 xf_11_30,
   fun _ _ _ _ _ _ _ => xl_iln d186_102 rfl,
   fun ls a0 a1 h => xl_cs (As := [a0, a1]) (st := []) d186_103 xco186 xm_11_73 xnp190 (by decide +kernel) rfl,
   fun _ _ _ _ => xl_ifeq d186_106 rfl⟩
theorem x186_p1 : (∀ ls st h, zz_Y 186 (109, ls, st, h) = zz_Y 186 (110, ls, .int (nI 1) :: st, h)) ∧ (∀ ls st h, zz_Y 186 (110, ls, st, h) = zz_Y 186 (118, ls, st, h)) ∧ (∀ ls st h, zz_Y 186 (113, ls, st, h) = zz_Y 186 (114, ls, .int (nI 0) :: st, h)) ∧ (∀ ls st h, zz_Y 186 (114, ls, st, h) = zz_Y 186 (118, ls, st, h)) ∧ (∀ ls st h, zz_Y 186 (117, ls, st, h) = zz_Y 186 (118, ls, .int (-1) :: st, h)) ∧ (∀ ls v h, zz_Y 186 (118, ls, [.int v], h) = some (some (.int v), h)) :=
  ⟨fun _ _ _ => xl_ic d186_109 (by decide +kernel),
   fun _ _ _ => xl_goto d186_110 rfl,
   fun _ _ _ => xl_ic d186_113 (by decide +kernel),
   fun _ _ _ => xl_goto d186_114 rfl,
   fun _ _ _ => xl_ic d186_117 (by decide +kernel),
   fun _ _ _ => xl_iri d186_118 xrt186⟩
theorem x186_c30 : ∀ l0 l1 l2 l3 x st h, zz_Y 186 (30, [l0, l1, l2, l3, some (.int x)], st, h) = zz_Y 186 (32, [l0, l1, l2, l3, some (.int x)], .int x :: st, h) := fun _ _ _ _ _ _ _ => xl_il d186_30 rfl
/-! 187 FacetSieveModel.isThere(I)Z -/
theorem d187_0 : decode (zz_c 187) 0 = .ok (.iload_n 1, 1) := by decide +kernel
theorem d187_1 : decode (zz_c 187) 1 = .ok (.invokestatic 61, 3) := by decide +kernel
theorem d187_4 : decode (zz_c 187) 4 = .ok (.ifCond .eq 18, 3) := by decide +kernel
theorem d187_7 : decode (zz_c 187) 7 = .ok (.aload_n 0, 1) := by decide +kernel
theorem d187_8 : decode (zz_c 187) 8 = .ok (.sipush 294, 3) := by decide +kernel
theorem d187_11 : decode (zz_c 187) 11 = .ok (.iload_n 1, 1) := by decide +kernel
theorem d187_12 : decode (zz_c 187) 12 = .ok (.invokevirtual 65, 3) := by decide +kernel
theorem d187_15 : decode (zz_c 187) 15 = .ok (.ifCond .eq 7, 3) := by decide +kernel
theorem d187_18 : decode (zz_c 187) 18 = .ok (.iconst 1, 1) := by decide +kernel
theorem d187_19 : decode (zz_c 187) 19 = .ok (.goto 4, 3) := by decide +kernel
theorem d187_22 : decode (zz_c 187) 22 = .ok (.iconst 0, 1) := by decide +kernel
theorem d187_23 : decode (zz_c 187) 23 = .ok (.ireturn, 1) := by decide +kernel
theorem x187 : (∀ l0 x st h, zz_Y 187 (0, [l0, some (.int x)], st, h) = zz_Y 187 (1, [l0, some (.int x)], .int x :: st, h)) ∧ (∀ ls a0 h, zz_Y 187 (1, ls, [a0], h) = mo_k 187 4 ls [] (zz_run 188 [a0] h)) ∧ (∀ ls a st h, zz_Y 187 (4, ls, .int a :: st, h) = if a = nI 0 then zz_Y 187 (22, ls, st, h) else zz_Y 187 (7, ls, st, h)) ∧ (∀ l1 x st h, zz_Y 187 (7, [some (.ref x), l1], st, h) = zz_Y 187 (8, [some (.ref x), l1], .ref x :: st, h)) ∧ (∀ ls st h, zz_Y 187 (8, ls, st, h) = zz_Y 187 (11, ls, .int (nI 294) :: st, h)) ∧ (∀ l0 x st h, zz_Y 187 (11, [l0, some (.int x)], st, h) = zz_Y 187 (12, [l0, some (.int x)], .int x :: st, h)) ∧ (∀ ls a0 a1 a2 h, zz_Y 187 (12, ls, [a2, a1, a0], h) = mo_k 187 15 ls [] (zz_run 189 [a0, a1, a2] h)) ∧ (∀ ls a st h, zz_Y 187 (15, ls, .int a :: st, h) = if a = nI 0 then zz_Y 187 (22, ls, st, h) else zz_Y 187 (18, ls, st, h)) ∧ (∀ ls st h, zz_Y 187 (18, ls, st, h) = zz_Y 187 (19, ls, .int (nI 1) :: st, h)) ∧ (∀ ls st h, zz_Y 187 (19, ls, st, h) = zz_Y 187 (23, ls, st, h)) ∧ (∀ ls st h, zz_Y 187 (22, ls, st, h) = zz_Y 187 (23, ls, .int (nI 0) :: st, h)) ∧ (∀ ls v h, v = nI 0 ∨ v = nI 1 → zz_Y 187 (23, ls, [.int v], h) = some (some (.int v), h)) :=
  ⟨fun _ _ _ _ => xl_iln d187_0 rfl,
   fun ls a0 h => xl_cs (As := [a0]) (st := []) d187_1 xco187 xm_11_61 xnp188 (by decide +kernel) rfl,
   fun _ _ _ _ => xl_ifeq d187_4 rfl,
   fun _ _ _ _ => xl_aln d187_7 rfl,
   fun _ _ _ => xl_si d187_8 (by decide +kernel),
   fun _ _ _ _ => xl_iln d187_11 rfl,
   fun ls a0 a1 a2 h => xl_cv (As := [a0, a1, a2]) (st := []) d187_12 xco187 xm_11_65 (congrArg Nat.succ xnp189) (by decide +kernel) rfl,
   fun _ _ _ _ => xl_ifeq d187_15 rfl,
   fun _ _ _ => xl_ic d187_18 (by decide +kernel),
   fun _ _ _ => xl_goto d187_19 rfl,
   fun _ _ _ => xl_ic d187_22 (by decide +kernel),
   fun _ _ _ hc => xl_irz d187_23 xrt187 hc⟩
/-! 188 FacetSieveModel.isRecord(I)Z -/
theorem d188_0 : decode (zz_c 188) 0 = .ok (.iload_n 0, 1) := by decide +kernel
theorem d188_1 : decode (zz_c 188) 1 = .ok (.iconst 0, 1) := by decide +kernel
theorem d188_2 : decode (zz_c 188) 2 = .ok (.sipush 255, 3) := by decide +kernel
theorem d188_5 : decode (zz_c 188) 5 = .ok (.invokestatic 57, 3) := by decide +kernel
theorem d188_8 : decode (zz_c 188) 8 = .ok (.ireturn, 1) := by decide +kernel
theorem x188 : (∀ x st h, zz_Y 188 (0, [some (.int x)], st, h) = zz_Y 188 (1, [some (.int x)], .int x :: st, h)) ∧ (∀ ls st h, zz_Y 188 (1, ls, st, h) = zz_Y 188 (2, ls, .int (nI 0) :: st, h)) ∧ (∀ ls st h, zz_Y 188 (2, ls, st, h) = zz_Y 188 (5, ls, .int (nI 255) :: st, h)) ∧ (∀ ls a0 a1 a2 h, zz_Y 188 (5, ls, [a2, a1, a0], h) = mo_k 188 8 ls [] (zz_run 154 [a0, a1, a2] h)) ∧ (∀ ls v h, v = nI 0 ∨ v = nI 1 → zz_Y 188 (8, ls, [.int v], h) = some (some (.int v), h)) :=
  ⟨fun _ _ _ => xl_iln d188_0 rfl,
   fun _ _ _ => xl_ic d188_1 (by decide +kernel),
   fun _ _ _ => xl_si d188_2 (by decide +kernel),
   fun ls a0 a1 a2 h => xl_cs (As := [a0, a1, a2]) (st := []) d188_5 xco188 xm_11_57 xnp154 (by decide +kernel) rfl,
   fun _ _ _ hc => xl_irz d188_8 xrt188 hc⟩
/-! 189 FacetSieveModel.isBit(II)Z -/
theorem d189_0 : decode (zz_c 189) 0 = .ok (.aload_n 0, 1) := by decide +kernel
theorem d189_1 : decode (zz_c 189) 1 = .ok (.getfield 7, 3) := by decide +kernel
theorem d189_4 : decode (zz_c 189) 4 = .ok (.iload_n 1, 1) := by decide +kernel
theorem d189_5 : decode (zz_c 189) 5 = .ok (.iload_n 2, 1) := by decide +kernel
theorem d189_6 : decode (zz_c 189) 6 = .ok (.bipush 32, 2) := by decide +kernel
theorem d189_8 : decode (zz_c 189) 8 = .ok (.idiv, 1) := by decide +kernel
theorem d189_9 : decode (zz_c 189) 9 = .ok (.iadd, 1) := by decide +kernel
theorem d189_10 : decode (zz_c 189) 10 = .ok (.iaload, 1) := by decide +kernel
theorem d189_11 : decode (zz_c 189) 11 = .ok (.iload_n 2, 1) := by decide +kernel
theorem d189_12 : decode (zz_c 189) 12 = .ok (.bipush 32, 2) := by decide +kernel
theorem d189_14 : decode (zz_c 189) 14 = .ok (.irem, 1) := by decide +kernel
theorem d189_15 : decode (zz_c 189) 15 = .ok (.ishr, 1) := by decide +kernel
theorem d189_16 : decode (zz_c 189) 16 = .ok (.iconst 1, 1) := by decide +kernel
theorem d189_17 : decode (zz_c 189) 17 = .ok (.iand, 1) := by decide +kernel
theorem d189_18 : decode (zz_c 189) 18 = .ok (.iconst 1, 1) := by decide +kernel
theorem d189_19 : decode (zz_c 189) 19 = .ok (.if_icmp .ne 7, 3) := by decide +kernel
theorem d189_22 : decode (zz_c 189) 22 = .ok (.iconst 1, 1) := by decide +kernel
theorem d189_23 : decode (zz_c 189) 23 = .ok (.goto 4, 3) := by decide +kernel
theorem d189_26 : decode (zz_c 189) 26 = .ok (.iconst 0, 1) := by decide +kernel
theorem d189_27 : decode (zz_c 189) 27 = .ok (.ireturn, 1) := by decide +kernel
theorem x189 : (∀ l1 l2 x st h, zz_Y 189 (0, [some (.ref x), l1, l2], st, h) = zz_Y 189 (1, [some (.ref x), l1, l2], .ref x :: st, h)) ∧ (∀ ls a st h, zz_Y 189 (1, ls, .ref a :: st, h) = mo_gf (hp_g h a) 11 0 189 4 ls st h) ∧ (∀ l0 l2 x st h, zz_Y 189 (4, [l0, some (.int x), l2], st, h) = zz_Y 189 (5, [l0, some (.int x), l2], .int x :: st, h)) ∧ (∀ l0 l1 x st h, zz_Y 189 (5, [l0, l1, some (.int x)], st, h) = zz_Y 189 (6, [l0, l1, some (.int x)], .int x :: st, h)) ∧ (∀ ls st h, zz_Y 189 (6, ls, st, h) = zz_Y 189 (8, ls, .int (nI 32) :: st, h)) ∧ (∀ ls a b st h, ¬ b = 0 → zz_Y 189 (8, ls, .int b :: .int a :: st, h) = zz_Y 189 (9, ls, .int (a / b) :: st, h)) ∧ (∀ ls a b st h, zz_Y 189 (9, ls, .int b :: .int a :: st, h) = zz_Y 189 (10, ls, .int (a + b) :: st, h)) ∧ (∀ ls a i st h, zz_Y 189 (10, ls, .int i :: .ref a :: st, h) = mo_ia (hp_g h a) i a 189 11 ls st h) ∧ (∀ l0 l1 x st h, zz_Y 189 (11, [l0, l1, some (.int x)], st, h) = zz_Y 189 (12, [l0, l1, some (.int x)], .int x :: st, h)) ∧ (∀ ls st h, zz_Y 189 (12, ls, st, h) = zz_Y 189 (14, ls, .int (nI 32) :: st, h)) ∧ (∀ ls a b st h, ¬ b = 0 → zz_Y 189 (14, ls, .int b :: .int a :: st, h) = zz_Y 189 (15, ls, .int (a - a / b * b) :: st, h)) ∧ (∀ ls a b st h, zz_Y 189 (15, ls, .int b :: .int a :: st, h) = zz_Y 189 (16, ls, .int (a >>> (b &&& 31)) :: st, h)) ∧ (∀ ls st h, zz_Y 189 (16, ls, st, h) = zz_Y 189 (17, ls, .int (nI 1) :: st, h)) ∧ (∀ ls a b st h, zz_Y 189 (17, ls, .int b :: .int a :: st, h) = zz_Y 189 (18, ls, .int (a &&& b) :: st, h)) ∧ (∀ ls st h, zz_Y 189 (18, ls, st, h) = zz_Y 189 (19, ls, .int (nI 1) :: st, h)) ∧ (∀ ls a b st h, zz_Y 189 (19, ls, .int b :: .int a :: st, h) = if a = b then zz_Y 189 (22, ls, st, h) else zz_Y 189 (26, ls, st, h)) ∧ (∀ ls st h, zz_Y 189 (22, ls, st, h) = zz_Y 189 (23, ls, .int (nI 1) :: st, h)) ∧ (∀ ls st h, zz_Y 189 (23, ls, st, h) = zz_Y 189 (27, ls, st, h)) ∧ (∀ ls st h, zz_Y 189 (26, ls, st, h) = zz_Y 189 (27, ls, .int (nI 0) :: st, h)) ∧ (∀ ls v h, v = nI 0 ∨ v = nI 1 → zz_Y 189 (27, ls, [.int v], h) = some (some (.int v), h)) :=
  ⟨fun _ _ _ _ _ => xl_aln d189_0 rfl,
   fun _ _ _ _ => xl_gf d189_1 xco189 xf_11_7,
   fun _ _ _ _ _ => xl_iln d189_4 rfl,
   fun _ _ _ _ _ => xl_iln d189_5 rfl,
   fun _ _ _ => xl_bi d189_6 (by decide +kernel),
   fun _ _ _ _ _ hc => xl_idiv d189_8 hc,
   fun _ _ _ _ _ => xl_iadd d189_9,
   fun _ _ _ _ _ => xl_ia d189_10,
   fun _ _ _ _ _ => xl_iln d189_11 rfl,
   fun _ _ _ => xl_bi d189_12 (by decide +kernel),
   fun _ _ _ _ _ hc => xl_irem d189_14 hc,
   fun _ _ _ _ _ => xl_ishr d189_15,
   fun _ _ _ => xl_ic d189_16 (by decide +kernel),
   fun _ _ _ _ _ => xl_iand d189_17,
   fun _ _ _ => xl_ic d189_18 (by decide +kernel),
   fun _ _ _ _ _ => xl_icne d189_19 rfl,
   fun _ _ _ => xl_ic d189_22 (by decide +kernel),
   fun _ _ _ => xl_goto d189_23 rfl,
   fun _ _ _ => xl_ic d189_26 (by decide +kernel),
   fun _ _ _ hc => xl_irz d189_27 xrt189 hc⟩
/-! 190 FacetSieveModel.isInSet([II)Z -/
theorem d190_0 : decode (zz_c 190) 0 = .ok (.aload_n 0, 1) := by decide +kernel
theorem d190_1 : decode (zz_c 190) 1 = .ok (.iload_n 1, 1) := by decide +kernel
theorem d190_2 : decode (zz_c 190) 2 = .ok (.bipush 32, 2) := by decide +kernel
theorem d190_4 : decode (zz_c 190) 4 = .ok (.idiv, 1) := by decide +kernel
theorem d190_5 : decode (zz_c 190) 5 = .ok (.iaload, 1) := by decide +kernel
theorem d190_6 : decode (zz_c 190) 6 = .ok (.iload_n 1, 1) := by decide +kernel
theorem d190_7 : decode (zz_c 190) 7 = .ok (.bipush 32, 2) := by decide +kernel
theorem d190_9 : decode (zz_c 190) 9 = .ok (.irem, 1) := by decide +kernel
theorem d190_10 : decode (zz_c 190) 10 = .ok (.ishr, 1) := by decide +kernel
theorem d190_11 : decode (zz_c 190) 11 = .ok (.iconst 1, 1) := by decide +kernel
theorem d190_12 : decode (zz_c 190) 12 = .ok (.iand, 1) := by decide +kernel
theorem d190_13 : decode (zz_c 190) 13 = .ok (.iconst 1, 1) := by decide +kernel
theorem d190_14 : decode (zz_c 190) 14 = .ok (.if_icmp .ne 7, 3) := by decide +kernel
theorem d190_17 : decode (zz_c 190) 17 = .ok (.iconst 1, 1) := by decide +kernel
theorem d190_18 : decode (zz_c 190) 18 = .ok (.goto 4, 3) := by decide +kernel
theorem d190_21 : decode (zz_c 190) 21 = .ok (.iconst 0, 1) := by decide +kernel
theorem d190_22 : decode (zz_c 190) 22 = .ok (.ireturn, 1) := by decide +kernel
theorem x190 : (∀ l1 x st h, zz_Y 190 (0, [some (.ref x), l1], st, h) = zz_Y 190 (1, [some (.ref x), l1], .ref x :: st, h)) ∧ (∀ l0 x st h, zz_Y 190 (1, [l0, some (.int x)], st, h) = zz_Y 190 (2, [l0, some (.int x)], .int x :: st, h)) ∧ (∀ ls st h, zz_Y 190 (2, ls, st, h) = zz_Y 190 (4, ls, .int (nI 32) :: st, h)) ∧ (∀ ls a b st h, ¬ b = 0 → zz_Y 190 (4, ls, .int b :: .int a :: st, h) = zz_Y 190 (5, ls, .int (a / b) :: st, h)) ∧ (∀ ls a i st h, zz_Y 190 (5, ls, .int i :: .ref a :: st, h) = mo_ia (hp_g h a) i a 190 6 ls st h) ∧ (∀ l0 x st h, zz_Y 190 (6, [l0, some (.int x)], st, h) = zz_Y 190 (7, [l0, some (.int x)], .int x :: st, h)) ∧ (∀ ls st h, zz_Y 190 (7, ls, st, h) = zz_Y 190 (9, ls, .int (nI 32) :: st, h)) ∧ (∀ ls a b st h, ¬ b = 0 → zz_Y 190 (9, ls, .int b :: .int a :: st, h) = zz_Y 190 (10, ls, .int (a - a / b * b) :: st, h)) ∧ (∀ ls a b st h, zz_Y 190 (10, ls, .int b :: .int a :: st, h) = zz_Y 190 (11, ls, .int (a >>> (b &&& 31)) :: st, h)) ∧ (∀ ls st h, zz_Y 190 (11, ls, st, h) = zz_Y 190 (12, ls, .int (nI 1) :: st, h)) ∧ (∀ ls a b st h, zz_Y 190 (12, ls, .int b :: .int a :: st, h) = zz_Y 190 (13, ls, .int (a &&& b) :: st, h)) ∧ (∀ ls st h, zz_Y 190 (13, ls, st, h) = zz_Y 190 (14, ls, .int (nI 1) :: st, h)) ∧ (∀ ls a b st h, zz_Y 190 (14, ls, .int b :: .int a :: st, h) = if a = b then zz_Y 190 (17, ls, st, h) else zz_Y 190 (21, ls, st, h)) ∧ (∀ ls st h, zz_Y 190 (17, ls, st, h) = zz_Y 190 (18, ls, .int (nI 1) :: st, h)) ∧ (∀ ls st h, zz_Y 190 (18, ls, st, h) = zz_Y 190 (22, ls, st, h)) ∧ (∀ ls st h, zz_Y 190 (21, ls, st, h) = zz_Y 190 (22, ls, .int (nI 0) :: st, h)) ∧ (∀ ls v h, v = nI 0 ∨ v = nI 1 → zz_Y 190 (22, ls, [.int v], h) = some (some (.int v), h)) :=
  ⟨fun _ _ _ _ => xl_aln d190_0 rfl,
   fun _ _ _ _ => xl_iln d190_1 rfl,
   fun _ _ _ => xl_bi d190_2 (by decide +kernel),
   fun _ _ _ _ _ hc => xl_idiv d190_4 hc,
   fun _ _ _ _ _ => xl_ia d190_5,
   fun _ _ _ _ => xl_iln d190_6 rfl,
   fun _ _ _ => xl_bi d190_7 (by decide +kernel),
   fun _ _ _ _ _ hc => xl_irem d190_9 hc,
   fun _ _ _ _ _ => xl_ishr d190_10,
   fun _ _ _ => xl_ic d190_11 (by decide +kernel),
   fun _ _ _ _ _ => xl_iand d190_12,
   fun _ _ _ => xl_ic d190_13 (by decide +kernel),
   fun _ _ _ _ _ => xl_icne d190_14 rfl,
   fun _ _ _ => xl_ic d190_17 (by decide +kernel),
   fun _ _ _ => xl_goto d190_18 rfl,
   fun _ _ _ => xl_ic d190_21 (by decide +kernel),
   fun _ _ _ hc => xl_irz d190_22 xrt190 hc⟩
