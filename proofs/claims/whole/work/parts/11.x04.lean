/-! 74 FacetSieve$Boxes.work(III)I -/
theorem d74_0 : decode (zz_c 74) 0 = .ok (.iload_n 2, 1) := by decide +kernel
theorem d74_1 : decode (zz_c 74) 1 = .ok (.ifCond .ne 11, 3) := by decide +kernel
theorem d74_4 : decode (zz_c 74) 4 = .ok (.iload_n 0, 1) := by decide +kernel
theorem d74_5 : decode (zz_c 74) 5 = .ok (.ifCond .eq 16, 3) := by decide +kernel
theorem d74_8 : decode (zz_c 74) 8 = .ok (.iload_n 1, 1) := by decide +kernel
theorem d74_9 : decode (zz_c 74) 9 = .ok (.ifCond .eq 12, 3) := by decide +kernel
theorem d74_12 : decode (zz_c 74) 12 = .ok (.iload_n 2, 1) := by decide +kernel
theorem d74_13 : decode (zz_c 74) 13 = .ok (.iconst 2, 1) := by decide +kernel
theorem d74_14 : decode (zz_c 74) 14 = .ok (.if_icmp .ne 11, 3) := by decide +kernel
theorem d74_17 : decode (zz_c 74) 17 = .ok (.iload_n 0, 1) := by decide +kernel
theorem d74_18 : decode (zz_c 74) 18 = .ok (.ifCond .ne 7, 3) := by decide +kernel
theorem d74_21 : decode (zz_c 74) 21 = .ok (.iconst 1, 1) := by decide +kernel
theorem d74_22 : decode (zz_c 74) 22 = .ok (.goto 4, 3) := by decide +kernel
theorem d74_25 : decode (zz_c 74) 25 = .ok (.iconst 0, 1) := by decide +kernel
theorem d74_26 : decode (zz_c 74) 26 = .ok (.istore_n 3, 1) := by decide +kernel
theorem d74_27 : decode (zz_c 74) 27 = .ok (.iload_n 3, 1) := by decide +kernel
theorem d74_28 : decode (zz_c 74) 28 = .ok (.ifCond .eq 7, 3) := by decide +kernel
theorem d74_31 : decode (zz_c 74) 31 = .ok (.iconst 0, 1) := by decide +kernel
theorem d74_32 : decode (zz_c 74) 32 = .ok (.goto 12, 3) := by decide +kernel
theorem d74_35 : decode (zz_c 74) 35 = .ok (.iload_n 0, 1) := by decide +kernel
theorem d74_36 : decode (zz_c 74) 36 = .ok (.invokestatic 13, 3) := by decide +kernel
theorem d74_39 : decode (zz_c 74) 39 = .ok (.iload_n 1, 1) := by decide +kernel
theorem d74_40 : decode (zz_c 74) 40 = .ok (.invokestatic 13, 3) := by decide +kernel
theorem d74_43 : decode (zz_c 74) 43 = .ok (.iadd, 1) := by decide +kernel
theorem d74_44 : decode (zz_c 74) 44 = .ok (.ireturn, 1) := by decide +kernel
theorem x74 : (∀ l0 l1 l3 x st h, zz_Y 74 (0, [l0, l1, some (.int x), l3], st, h) = zz_Y 74 (1, [l0, l1, some (.int x), l3], .int x :: st, h)) ∧ (∀ ls a st h, zz_Y 74 (1, ls, .int a :: st, h) = if a = nI 0 then zz_Y 74 (4, ls, st, h) else zz_Y 74 (12, ls, st, h)) ∧ (∀ l1 l2 l3 x st h, zz_Y 74 (4, [some (.int x), l1, l2, l3], st, h) = zz_Y 74 (5, [some (.int x), l1, l2, l3], .int x :: st, h)) ∧ (∀ ls a st h, zz_Y 74 (5, ls, .int a :: st, h) = if a = nI 0 then zz_Y 74 (21, ls, st, h) else zz_Y 74 (8, ls, st, h)) ∧ (∀ l0 l2 l3 x st h, zz_Y 74 (8, [l0, some (.int x), l2, l3], st, h) = zz_Y 74 (9, [l0, some (.int x), l2, l3], .int x :: st, h)) ∧ (∀ ls a st h, zz_Y 74 (9, ls, .int a :: st, h) = if a = nI 0 then zz_Y 74 (21, ls, st, h) else zz_Y 74 (12, ls, st, h)) ∧ (∀ l0 l1 l3 x st h, zz_Y 74 (12, [l0, l1, some (.int x), l3], st, h) = zz_Y 74 (13, [l0, l1, some (.int x), l3], .int x :: st, h)) ∧ (∀ ls st h, zz_Y 74 (13, ls, st, h) = zz_Y 74 (14, ls, .int (nI 2) :: st, h)) ∧ (∀ ls a b st h, zz_Y 74 (14, ls, .int b :: .int a :: st, h) = if a = b then zz_Y 74 (17, ls, st, h) else zz_Y 74 (25, ls, st, h)) ∧ (∀ l1 l2 l3 x st h, zz_Y 74 (17, [some (.int x), l1, l2, l3], st, h) = zz_Y 74 (18, [some (.int x), l1, l2, l3], .int x :: st, h)) ∧ (∀ ls a st h, zz_Y 74 (18, ls, .int a :: st, h) = if a = nI 0 then zz_Y 74 (21, ls, st, h) else zz_Y 74 (25, ls, st, h)) ∧ (∀ ls st h, zz_Y 74 (21, ls, st, h) = zz_Y 74 (22, ls, .int (nI 1) :: st, h)) ∧ (∀ ls st h, zz_Y 74 (22, ls, st, h) = zz_Y 74 (26, ls, st, h)) ∧ (∀ ls st h, zz_Y 74 (25, ls, st, h) = zz_Y 74 (26, ls, .int (nI 0) :: st, h)) ∧ (∀ l0 l1 l2 l3 x st h, zz_nl l2 = true → zz_Y 74 (26, [l0, l1, l2, l3], .int x :: st, h) = zz_Y 74 (27, [l0, l1, l2, some (.int x)], st, h)) ∧ (∀ l0 l1 l2 x st h, zz_Y 74 (27, [l0, l1, l2, some (.int x)], st, h) = zz_Y 74 (28, [l0, l1, l2, some (.int x)], .int x :: st, h)) ∧ (∀ ls a st h, zz_Y 74 (28, ls, .int a :: st, h) = if a = nI 0 then zz_Y 74 (35, ls, st, h) else zz_Y 74 (31, ls, st, h)) ∧ (∀ ls st h, zz_Y 74 (31, ls, st, h) = zz_Y 74 (32, ls, .int (nI 0) :: st, h)) ∧ (∀ ls st h, zz_Y 74 (32, ls, st, h) = zz_Y 74 (44, ls, st, h)) ∧ (∀ l1 l2 l3 x st h, zz_Y 74 (35, [some (.int x), l1, l2, l3], st, h) = zz_Y 74 (36, [some (.int x), l1, l2, l3], .int x :: st, h)) ∧ (∀ ls a0 h, zz_Y 74 (36, ls, [a0], h) = mo_k 74 39 ls [] (zz_run 75 [a0] h)) ∧ (∀ l0 l2 l3 x st h, zz_Y 74 (39, [l0, some (.int x), l2, l3], st, h) = zz_Y 74 (40, [l0, some (.int x), l2, l3], .int x :: st, h)) ∧ (∀ ls a0 s0 h, zz_Y 74 (40, ls, [a0, s0], h) = mo_k 74 43 ls [s0] (zz_run 75 [a0] h)) ∧ (∀ ls a b st h, zz_Y 74 (43, ls, .int b :: .int a :: st, h) = zz_Y 74 (44, ls, .int (a + b) :: st, h)) ∧ (∀ ls v h, zz_Y 74 (44, ls, [.int v], h) = some (some (.int v), h)) :=
  ⟨fun _ _ _ _ _ _ => xl_iln d74_0 rfl,
   fun _ _ _ _ => xl_ifne d74_1 rfl,
   fun _ _ _ _ _ _ => xl_iln d74_4 rfl,
   fun _ _ _ _ => xl_ifeq d74_5 rfl,
   fun _ _ _ _ _ _ => xl_iln d74_8 rfl,
   fun _ _ _ _ => xl_ifeq d74_9 rfl,
   fun _ _ _ _ _ _ => xl_iln d74_12 rfl,
   fun _ _ _ => xl_ic d74_13 (by decide +kernel),
   fun _ _ _ _ _ => xl_icne d74_14 rfl,
   fun _ _ _ _ _ _ => xl_iln d74_17 rfl,
   fun _ _ _ _ => xl_ifne d74_18 rfl,
   fun _ _ _ => xl_ic d74_21 (by decide +kernel),
   fun _ _ _ => xl_goto d74_22 rfl,
   fun _ _ _ => xl_ic d74_25 (by decide +kernel),
   fun _ _ _ _ _ _ _ hc => xl_isn d74_26 xml74 (by decide) (zz_nl_s1 hc),
   fun _ _ _ _ _ _ => xl_iln d74_27 rfl,
   fun _ _ _ _ => xl_ifeq d74_28 rfl,
   fun _ _ _ => xl_ic d74_31 (by decide +kernel),
   fun _ _ _ => xl_goto d74_32 rfl,
   fun _ _ _ _ _ _ => xl_iln d74_35 rfl,
   fun ls a0 h => xl_cs (As := [a0]) (st := []) d74_36 xco74 xm_12_13 xnp75 (by decide +kernel) rfl,
   fun _ _ _ _ _ _ => xl_iln d74_39 rfl,
   fun ls a0 s0 h => xl_cs (As := [a0]) (st := [s0]) d74_40 xco74 xm_12_13 xnp75 (by decide +kernel) rfl,
   fun _ _ _ _ _ => xl_iadd d74_43,
   fun _ _ _ => xl_iri d74_44 xrt74⟩
/-! 75 FacetSieve$Boxes.cost(I)I -/
theorem d75_0 : decode (zz_c 75) 0 = .ok (.iconst 2, 1) := by decide +kernel
theorem d75_1 : decode (zz_c 75) 1 = .ok (.iload_n 0, 1) := by decide +kernel
theorem d75_2 : decode (zz_c 75) 2 = .ok (.iload_n 0, 1) := by decide +kernel
theorem d75_3 : decode (zz_c 75) 3 = .ok (.iconst 1, 1) := by decide +kernel
theorem d75_4 : decode (zz_c 75) 4 = .ok (.ishl, 1) := by decide +kernel
theorem d75_5 : decode (zz_c 75) 5 = .ok (.iconst (-1), 1) := by decide +kernel
theorem d75_6 : decode (zz_c 75) 6 = .ok (.ixor, 1) := by decide +kernel
theorem d75_7 : decode (zz_c 75) 7 = .ok (.iand, 1) := by decide +kernel
theorem d75_8 : decode (zz_c 75) 8 = .ok (.invokestatic 7, 3) := by decide +kernel
theorem d75_11 : decode (zz_c 75) 11 = .ok (.imul, 1) := by decide +kernel
theorem d75_12 : decode (zz_c 75) 12 = .ok (.istore_n 1, 1) := by decide +kernel
theorem d75_13 : decode (zz_c 75) 13 = .ok (.iload_n 0, 1) := by decide +kernel
theorem d75_14 : decode (zz_c 75) 14 = .ok (.invokestatic 7, 3) := by decide +kernel
theorem d75_17 : decode (zz_c 75) 17 = .ok (.iload_n 1, 1) := by decide +kernel
theorem d75_18 : decode (zz_c 75) 18 = .ok (.invokestatic 21, 3) := by decide +kernel
theorem d75_21 : decode (zz_c 75) 21 = .ok (.iconst 4, 1) := by decide +kernel
theorem d75_22 : decode (zz_c 75) 22 = .ok (.invokestatic 21, 3) := by decide +kernel
theorem d75_25 : decode (zz_c 75) 25 = .ok (.ireturn, 1) := by decide +kernel
theorem x75 : (∀ ls st h, zz_Y 75 (0, ls, st, h) = zz_Y 75 (1, ls, .int (nI 2) :: st, h)) ∧ (∀ l1 x st h, zz_Y 75 (1, [some (.int x), l1], st, h) = zz_Y 75 (2, [some (.int x), l1], .int x :: st, h)) ∧ (∀ l1 x st h, zz_Y 75 (2, [some (.int x), l1], st, h) = zz_Y 75 (3, [some (.int x), l1], .int x :: st, h)) ∧ (∀ ls st h, zz_Y 75 (3, ls, st, h) = zz_Y 75 (4, ls, .int (nI 1) :: st, h)) ∧ (∀ ls a b st h, zz_Y 75 (4, ls, .int b :: .int a :: st, h) = zz_Y 75 (5, ls, .int (a <<< (b &&& 31)) :: st, h)) ∧ (∀ ls st h, zz_Y 75 (5, ls, st, h) = zz_Y 75 (6, ls, .int (-1) :: st, h)) ∧ (∀ ls a b st h, zz_Y 75 (6, ls, .int b :: .int a :: st, h) = zz_Y 75 (7, ls, .int (a ^^^ b) :: st, h)) ∧ (∀ ls a b st h, zz_Y 75 (7, ls, .int b :: .int a :: st, h) = zz_Y 75 (8, ls, .int (a &&& b) :: st, h)) ∧ (∀ ls a0 s0 h, zz_Y 75 (8, ls, [a0, s0], h) = mo_k 75 11 ls [s0] (zz_run 64 [a0] h)) ∧ (∀ ls a b st h, zz_Y 75 (11, ls, .int b :: .int a :: st, h) = zz_Y 75 (12, ls, .int (a * b) :: st, h)) ∧ (∀ l0 l1 x st h, zz_nl l0 = true → zz_Y 75 (12, [l0, l1], .int x :: st, h) = zz_Y 75 (13, [l0, some (.int x)], st, h)) ∧ (∀ l1 x st h, zz_Y 75 (13, [some (.int x), l1], st, h) = zz_Y 75 (14, [some (.int x), l1], .int x :: st, h)) ∧ (∀ ls a0 h, zz_Y 75 (14, ls, [a0], h) = mo_k 75 17 ls [] (zz_run 64 [a0] h)) ∧ (∀ l0 x st h, zz_Y 75 (17, [l0, some (.int x)], st, h) = zz_Y 75 (18, [l0, some (.int x)], .int x :: st, h)) ∧ (∀ ls a b h, zz_Y 75 (18, ls, [.int b, .int a], h) = zz_Y 75 (21, ls, [.int (if b < a then b else a)], h)) ∧ (∀ ls st h, zz_Y 75 (21, ls, st, h) = zz_Y 75 (22, ls, .int (nI 4) :: st, h)) ∧ (∀ ls a b h, zz_Y 75 (22, ls, [.int b, .int a], h) = zz_Y 75 (25, ls, [.int (if b < a then b else a)], h)) ∧ (∀ ls v h, zz_Y 75 (25, ls, [.int v], h) = some (some (.int v), h)) :=
  ⟨fun _ _ _ => xl_ic d75_0 (by decide +kernel),
   fun _ _ _ _ => xl_iln d75_1 rfl,
   fun _ _ _ _ => xl_iln d75_2 rfl,
   fun _ _ _ => xl_ic d75_3 (by decide +kernel),
   fun _ _ _ _ _ => xl_ishl d75_4,
   fun _ _ _ => xl_ic d75_5 (by decide +kernel),
   fun _ _ _ _ _ => xl_ixor d75_6,
   fun _ _ _ _ _ => xl_iand d75_7,
   fun ls a0 s0 h => xl_cs (As := [a0]) (st := [s0]) d75_8 xco75 xm_12_7 xnp64 (by decide +kernel) rfl,
   fun _ _ _ _ _ => xl_imul d75_11,
   fun _ _ _ _ _ hc => xl_isn d75_12 xml75 (by decide) (zz_nl_s1 hc),
   fun _ _ _ _ => xl_iln d75_13 rfl,
   fun ls a0 h => xl_cs (As := [a0]) (st := []) d75_14 xco75 xm_12_7 xnp64 (by decide +kernel) rfl,
   fun _ _ _ _ => xl_iln d75_17 rfl,
   fun _ _ _ _ => xl_mn d75_18 xco75 xm_12_21 (by decide +kernel) (by decide +kernel) rfl,
   fun _ _ _ => xl_ic d75_21 (by decide +kernel),
   fun _ _ _ _ => xl_mn d75_22 xco75 xm_12_21 (by decide +kernel) (by decide +kernel) rfl,
   fun _ _ _ => xl_iri d75_25 xrt75⟩
/-! 76 FacetSieve$Boxes.joined(III)I -/
theorem d76_0 : decode (zz_c 76) 0 = .ok (.iload_n 2, 1) := by decide +kernel
theorem d76_1 : decode (zz_c 76) 1 = .ok (.lookupswitch 35 #[(0, 27), (1, 31)], 27) := by decide +kernel
theorem d76_28 : decode (zz_c 76) 28 = .ok (.iload_n 0, 1) := by decide +kernel
theorem d76_29 : decode (zz_c 76) 29 = .ok (.iload_n 1, 1) := by decide +kernel
theorem d76_30 : decode (zz_c 76) 30 = .ok (.iand, 1) := by decide +kernel
theorem d76_31 : decode (zz_c 76) 31 = .ok (.ireturn, 1) := by decide +kernel
theorem d76_32 : decode (zz_c 76) 32 = .ok (.iload_n 0, 1) := by decide +kernel
theorem d76_33 : decode (zz_c 76) 33 = .ok (.iload_n 1, 1) := by decide +kernel
theorem d76_34 : decode (zz_c 76) 34 = .ok (.ior, 1) := by decide +kernel
theorem d76_35 : decode (zz_c 76) 35 = .ok (.ireturn, 1) := by decide +kernel
theorem d76_36 : decode (zz_c 76) 36 = .ok (.iload_n 0, 1) := by decide +kernel
theorem d76_37 : decode (zz_c 76) 37 = .ok (.iload_n 1, 1) := by decide +kernel
theorem d76_38 : decode (zz_c 76) 38 = .ok (.iconst (-1), 1) := by decide +kernel
theorem d76_39 : decode (zz_c 76) 39 = .ok (.ixor, 1) := by decide +kernel
theorem d76_40 : decode (zz_c 76) 40 = .ok (.iand, 1) := by decide +kernel
theorem d76_41 : decode (zz_c 76) 41 = .ok (.ireturn, 1) := by decide +kernel
theorem x76 : (∀ l0 l1 x st h, zz_Y 76 (0, [l0, l1, some (.int x)], st, h) = zz_Y 76 (1, [l0, l1, some (.int x)], .int x :: st, h)) ∧ (∀ ls x st h, zz_Y 76 (1, ls, .int x :: st, h) = zz_Y 76 (zz_sw [(nI 0, 28), (nI 1, 32)] 36 x, ls, st, h)) ∧ (∀ l1 l2 x st h, zz_Y 76 (28, [some (.int x), l1, l2], st, h) = zz_Y 76 (29, [some (.int x), l1, l2], .int x :: st, h)) ∧ (∀ l0 l2 x st h, zz_Y 76 (29, [l0, some (.int x), l2], st, h) = zz_Y 76 (30, [l0, some (.int x), l2], .int x :: st, h)) ∧ (∀ ls a b st h, zz_Y 76 (30, ls, .int b :: .int a :: st, h) = zz_Y 76 (31, ls, .int (a &&& b) :: st, h)) ∧ (∀ ls v h, zz_Y 76 (31, ls, [.int v], h) = some (some (.int v), h)) ∧ (∀ l1 l2 x st h, zz_Y 76 (32, [some (.int x), l1, l2], st, h) = zz_Y 76 (33, [some (.int x), l1, l2], .int x :: st, h)) ∧ (∀ l0 l2 x st h, zz_Y 76 (33, [l0, some (.int x), l2], st, h) = zz_Y 76 (34, [l0, some (.int x), l2], .int x :: st, h)) ∧ (∀ ls a b st h, zz_Y 76 (34, ls, .int b :: .int a :: st, h) = zz_Y 76 (35, ls, .int (a ||| b) :: st, h)) ∧ (∀ ls v h, zz_Y 76 (35, ls, [.int v], h) = some (some (.int v), h)) ∧ (∀ l1 l2 x st h, zz_Y 76 (36, [some (.int x), l1, l2], st, h) = zz_Y 76 (37, [some (.int x), l1, l2], .int x :: st, h)) ∧ (∀ l0 l2 x st h, zz_Y 76 (37, [l0, some (.int x), l2], st, h) = zz_Y 76 (38, [l0, some (.int x), l2], .int x :: st, h)) ∧ (∀ ls st h, zz_Y 76 (38, ls, st, h) = zz_Y 76 (39, ls, .int (-1) :: st, h)) ∧ (∀ ls a b st h, zz_Y 76 (39, ls, .int b :: .int a :: st, h) = zz_Y 76 (40, ls, .int (a ^^^ b) :: st, h)) ∧ (∀ ls a b st h, zz_Y 76 (40, ls, .int b :: .int a :: st, h) = zz_Y 76 (41, ls, .int (a &&& b) :: st, h)) ∧ (∀ ls v h, zz_Y 76 (41, ls, [.int v], h) = some (some (.int v), h)) :=
  ⟨fun _ _ _ _ _ => xl_iln d76_0 rfl,
   fun _ _ _ _ => xl_lks (qs := [(nI 0, 28), (nI 1, 32)]) d76_1 (by decide +kernel) rfl (by decide +kernel),
   fun _ _ _ _ _ => xl_iln d76_28 rfl,
   fun _ _ _ _ _ => xl_iln d76_29 rfl,
   fun _ _ _ _ _ => xl_iand d76_30,
   fun _ _ _ => xl_iri d76_31 xrt76,
   fun _ _ _ _ _ => xl_iln d76_32 rfl,
   fun _ _ _ _ _ => xl_iln d76_33 rfl,
   fun _ _ _ _ _ => xl_ior d76_34,
   fun _ _ _ => xl_iri d76_35 xrt76,
   fun _ _ _ _ _ => xl_iln d76_36 rfl,
   fun _ _ _ _ _ => xl_iln d76_37 rfl,
   fun _ _ _ => xl_ic d76_38 (by decide +kernel),
   fun _ _ _ _ _ => xl_ixor d76_39,
   fun _ _ _ _ _ => xl_iand d76_40,
   fun _ _ _ => xl_iri d76_41 xrt76⟩
/-! 77 FacetSieve$QuestionReader.readJoin()Z -/
theorem d77_0 : decode (zz_c 77) 0 = .ok (.aload_n 0, 1) := by decide +kernel
theorem d77_1 : decode (zz_c 77) 1 = .ok (.getfield 14, 3) := by decide +kernel
theorem d77_4 : decode (zz_c 77) 4 = .ok (.getfield 51, 3) := by decide +kernel
theorem d77_7 : decode (zz_c 77) 7 = .ok (.tableswitch 118 6 15 #[86, 118, 118, 118, 118, 118, 118, 79, 53, 66], 53) := by decide +kernel
theorem d77_60 : decode (zz_c 77) 60 = .ok (.aload_n 0, 1) := by decide +kernel
theorem d77_61 : decode (zz_c 77) 61 = .ok (.getfield 27, 3) := by decide +kernel
theorem d77_64 : decode (zz_c 77) 64 = .ok (.aload_n 0, 1) := by decide +kernel
theorem d77_65 : decode (zz_c 77) 65 = .ok (.getfield 72, 3) := by decide +kernel
theorem d77_68 : decode (zz_c 77) 68 = .ok (.iconst 0, 1) := by decide +kernel
theorem d77_69 : decode (zz_c 77) 69 = .ok (.iastore, 1) := by decide +kernel
theorem d77_70 : decode (zz_c 77) 70 = .ok (.goto 64, 3) := by decide +kernel
theorem d77_73 : decode (zz_c 77) 73 = .ok (.aload_n 0, 1) := by decide +kernel
theorem d77_74 : decode (zz_c 77) 74 = .ok (.getfield 27, 3) := by decide +kernel
theorem d77_77 : decode (zz_c 77) 77 = .ok (.aload_n 0, 1) := by decide +kernel
theorem d77_78 : decode (zz_c 77) 78 = .ok (.getfield 72, 3) := by decide +kernel
theorem d77_81 : decode (zz_c 77) 81 = .ok (.iconst 2, 1) := by decide +kernel
theorem d77_82 : decode (zz_c 77) 82 = .ok (.iastore, 1) := by decide +kernel
theorem d77_83 : decode (zz_c 77) 83 = .ok (.goto 51, 3) := by decide +kernel
theorem d77_86 : decode (zz_c 77) 86 = .ok (.aload_n 0, 1) := by decide +kernel
theorem d77_87 : decode (zz_c 77) 87 = .ok (.invokevirtual 79, 3) := by decide +kernel
theorem d77_90 : decode (zz_c 77) 90 = .ok (.goto 44, 3) := by decide +kernel
theorem d77_93 : decode (zz_c 77) 93 = .ok (.aload_n 0, 1) := by decide +kernel
theorem d77_94 : decode (zz_c 77) 94 = .ok (.getfield 72, 3) := by decide +kernel
theorem d77_97 : decode (zz_c 77) 97 = .ok (.ifCond .ne 12, 3) := by decide +kernel
theorem d77_100 : decode (zz_c 77) 100 = .ok (.aload_n 0, 1) := by decide +kernel
theorem d77_101 : decode (zz_c 77) 101 = .ok (.getfield 14, 3) := by decide +kernel
theorem d77_104 : decode (zz_c 77) 104 = .ok (.iconst 1, 1) := by decide +kernel
theorem d77_105 : decode (zz_c 77) 105 = .ok (.invokevirtual 75, 3) := by decide +kernel
theorem d77_108 : decode (zz_c 77) 108 = .ok (.ireturn, 1) := by decide +kernel
theorem d77_109 : decode (zz_c 77) 109 = .ok (.aload_n 0, 1) := by decide +kernel
theorem d77_110 : decode (zz_c 77) 110 = .ok (.invokevirtual 79, 3) := by decide +kernel
theorem d77_113 : decode (zz_c 77) 113 = .ok (.aload_n 0, 1) := by decide +kernel
theorem d77_114 : decode (zz_c 77) 114 = .ok (.dup, 1) := by decide +kernel
theorem d77_115 : decode (zz_c 77) 115 = .ok (.getfield 72, 3) := by decide +kernel
theorem d77_118 : decode (zz_c 77) 118 = .ok (.iconst 1, 1) := by decide +kernel
theorem d77_119 : decode (zz_c 77) 119 = .ok (.isub, 1) := by decide +kernel
theorem d77_120 : decode (zz_c 77) 120 = .ok (.putfield 72, 3) := by decide +kernel
theorem d77_123 : decode (zz_c 77) 123 = .ok (.iconst 1, 1) := by decide +kernel
theorem d77_124 : decode (zz_c 77) 124 = .ok (.ireturn, 1) := by decide +kernel
theorem d77_125 : decode (zz_c 77) 125 = .ok (.aload_n 0, 1) := by decide +kernel
theorem d77_126 : decode (zz_c 77) 126 = .ok (.getfield 14, 3) := by decide +kernel
theorem d77_129 : decode (zz_c 77) 129 = .ok (.iconst 1, 1) := by decide +kernel
theorem d77_130 : decode (zz_c 77) 130 = .ok (.invokevirtual 75, 3) := by decide +kernel
theorem d77_133 : decode (zz_c 77) 133 = .ok (.ireturn, 1) := by decide +kernel
theorem d77_134 : decode (zz_c 77) 134 = .ok (.aload_n 0, 1) := by decide +kernel
theorem d77_135 : decode (zz_c 77) 135 = .ok (.iconst 1, 1) := by decide +kernel
theorem d77_136 : decode (zz_c 77) 136 = .ok (.putfield 54, 3) := by decide +kernel
theorem d77_139 : decode (zz_c 77) 139 = .ok (.iconst 1, 1) := by decide +kernel
theorem d77_140 : decode (zz_c 77) 140 = .ok (.ireturn, 1) := by decide +kernel
theorem x77 : (∀ x st h, zz_Y 77 (0, [some (.ref x)], st, h) = zz_Y 77 (1, [some (.ref x)], .ref x :: st, h)) ∧ (∀ ls a st h, zz_Y 77 (1, ls, .ref a :: st, h) = mo_gf (hp_g h a) 4 0 77 4 ls st h) ∧ (∀ ls a st h, zz_Y 77 (4, ls, .ref a :: st, h) = mo_gf (hp_g h a) 9 2 77 7 ls st h) ∧ (∀ ls x st h, zz_Y 77 (7, ls, .int x :: st, h) = zz_Y 77 (zz_sw [(nI 6, 93), (nI 7, 125), (nI 8, 125), (nI 9, 125), (nI 10, 125), (nI 11, 125), (nI 12, 125), (nI 13, 86), (nI 14, 60), (nI 15, 73)] 125 x, ls, st, h)) ∧ (∀ x st h, zz_Y 77 (60, [some (.ref x)], st, h) = zz_Y 77 (61, [some (.ref x)], .ref x :: st, h)) ∧ (∀ ls a st h, zz_Y 77 (61, ls, .ref a :: st, h) = mo_gf (hp_g h a) 4 2 77 64 ls st h) ∧ (∀ x st h, zz_Y 77 (64, [some (.ref x)], st, h) = zz_Y 77 (65, [some (.ref x)], .ref x :: st, h)) ∧ (∀ ls a st h, zz_Y 77 (65, ls, .ref a :: st, h) = mo_gf (hp_g h a) 4 5 77 68 ls st h) ∧ (∀ ls st h, zz_Y 77 (68, ls, st, h) = zz_Y 77 (69, ls, .int (nI 0) :: st, h)) ∧ (∀ ls a i x st h, zz_Y 77 (69, ls, .int x :: .int i :: .ref a :: st, h) = mo_is (hp_g h a) x i a 77 70 ls st h) ∧ (∀ ls st h, zz_Y 77 (70, ls, st, h) = zz_Y 77 (134, ls, st, h)) ∧ (∀ x st h, zz_Y 77 (73, [some (.ref x)], st, h) = zz_Y 77 (74, [some (.ref x)], .ref x :: st, h)) ∧ (∀ ls a st h, zz_Y 77 (74, ls, .ref a :: st, h) = mo_gf (hp_g h a) 4 2 77 77 ls st h) ∧ (∀ x st h, zz_Y 77 (77, [some (.ref x)], st, h) = zz_Y 77 (78, [some (.ref x)], .ref x :: st, h)) ∧ (∀ ls a st h, zz_Y 77 (78, ls, .ref a :: st, h) = mo_gf (hp_g h a) 4 5 77 81 ls st h) ∧ (∀ ls st h, zz_Y 77 (81, ls, st, h) = zz_Y 77 (82, ls, .int (nI 2) :: st, h)) ∧ (∀ ls a i x st h, zz_Y 77 (82, ls, .int x :: .int i :: .ref a :: st, h) = mo_is (hp_g h a) x i a 77 83 ls st h) ∧ (∀ ls st h, zz_Y 77 (83, ls, st, h) = zz_Y 77 (134, ls, st, h)) ∧ (∀ x st h, zz_Y 77 (86, [some (.ref x)], st, h) = zz_Y 77 (87, [some (.ref x)], .ref x :: st, h)) ∧ (∀ ls a0 h, zz_Y 77 (87, ls, [a0], h) = mo_k 77 90 ls [] (zz_run 78 [a0] h)) ∧ (∀ ls st h, zz_Y 77 (90, ls, st, h) = zz_Y 77 (134, ls, st, h)) ∧ (∀ x st h, zz_Y 77 (93, [some (.ref x)], st, h) = zz_Y 77 (94, [some (.ref x)], .ref x :: st, h)) ∧ (∀ ls a st h, zz_Y 77 (94, ls, .ref a :: st, h) = mo_gf (hp_g h a) 4 5 77 97 ls st h) ∧ (∀ ls a st h, zz_Y 77 (97, ls, .int a :: st, h) = if a = nI 0 then zz_Y 77 (100, ls, st, h) else zz_Y 77 (109, ls, st, h)) ∧ (∀ x st h, zz_Y 77 (100, [some (.ref x)], st, h) = zz_Y 77 (101, [some (.ref x)], .ref x :: st, h)) ∧ (∀ ls a st h, zz_Y 77 (101, ls, .ref a :: st, h) = mo_gf (hp_g h a) 4 0 77 104 ls st h) ∧ (∀ ls st h, zz_Y 77 (104, ls, st, h) = zz_Y 77 (105, ls, .int (nI 1) :: st, h)) ∧ (∀ ls a0 a1 h, zz_Y 77 (105, ls, [a1, a0], h) = mo_k 77 108 ls [] (zz_run 35 [a0, a1] h)) ∧ (∀ ls v h, v = nI 0 ∨ v = nI 1 → zz_Y 77 (108, ls, [.int v], h) = some (some (.int v), h)) ∧ (∀ x st h, zz_Y 77 (109, [some (.ref x)], st, h) = zz_Y 77 (110, [some (.ref x)], .ref x :: st, h)) ∧ (∀ ls a0 h, zz_Y 77 (110, ls, [a0], h) = mo_k 77 113 ls [] (zz_run 78 [a0] h)) ∧ (∀ x st h, zz_Y 77 (113, [some (.ref x)], st, h) = zz_Y 77 (114, [some (.ref x)], .ref x :: st, h)) ∧ (∀ ls a st h, zz_Y 77 (114, ls, .ref a :: st, h) = zz_Y 77 (115, ls, .ref a :: .ref a :: st, h)) ∧ (∀ ls a st h, zz_Y 77 (115, ls, .ref a :: st, h) = mo_gf (hp_g h a) 4 5 77 118 ls st h) ∧ (∀ ls st h, zz_Y 77 (118, ls, st, h) = zz_Y 77 (119, ls, .int (nI 1) :: st, h)) ∧ (∀ ls a b st h, zz_Y 77 (119, ls, .int b :: .int a :: st, h) = zz_Y 77 (120, ls, .int (a - b) :: st, h)) ∧ (∀ ls a v st h, zz_Y 77 (120, ls, v :: .ref a :: st, h) = mo_pf (hp_g h a) 4 5 .int v a 77 123 ls st h) ∧ (∀ ls st h, zz_Y 77 (123, ls, st, h) = zz_Y 77 (124, ls, .int (nI 1) :: st, h)) ∧ (∀ ls v h, v = nI 0 ∨ v = nI 1 → zz_Y 77 (124, ls, [.int v], h) = some (some (.int v), h)) ∧ (∀ x st h, zz_Y 77 (125, [some (.ref x)], st, h) = zz_Y 77 (126, [some (.ref x)], .ref x :: st, h)) ∧ (∀ ls a st h, zz_Y 77 (126, ls, .ref a :: st, h) = mo_gf (hp_g h a) 4 0 77 129 ls st h) ∧ (∀ ls st h, zz_Y 77 (129, ls, st, h) = zz_Y 77 (130, ls, .int (nI 1) :: st, h)) ∧ (∀ ls a0 a1 h, zz_Y 77 (130, ls, [a1, a0], h) = mo_k 77 133 ls [] (zz_run 35 [a0, a1] h)) ∧ (∀ ls v h, v = nI 0 ∨ v = nI 1 → zz_Y 77 (133, ls, [.int v], h) = some (some (.int v), h)) ∧ (∀ x st h, zz_Y 77 (134, [some (.ref x)], st, h) = zz_Y 77 (135, [some (.ref x)], .ref x :: st, h)) ∧ (∀ ls st h, zz_Y 77 (135, ls, st, h) = zz_Y 77 (136, ls, .int (nI 1) :: st, h)) ∧ (∀ ls a v st h, zz_Y 77 (136, ls, v :: .ref a :: st, h) = mo_pf (hp_g h a) 4 6 .boolean v a 77 139 ls st h) ∧ (∀ ls st h, zz_Y 77 (139, ls, st, h) = zz_Y 77 (140, ls, .int (nI 1) :: st, h)) ∧ (∀ ls v h, v = nI 0 ∨ v = nI 1 → zz_Y 77 (140, ls, [.int v], h) = some (some (.int v), h)) :=
  ⟨fun _ _ _ => xl_aln d77_0 rfl,
   fun _ _ _ _ => xl_gf d77_1 xco77 xf_4_14,
   fun _ _ _ _ => xl_gf d77_4 xco77 xf_4_51,
   fun _ _ _ _ => xl_tbs (qs := [(nI 6, 93), (nI 7, 125), (nI 8, 125), (nI 9, 125), (nI 10, 125), (nI 11, 125), (nI 12, 125), (nI 13, 86), (nI 14, 60), (nI 15, 73)]) d77_7 rfl (by decide +kernel) (by decide +kernel) (by decide +kernel),
   fun _ _ _ => xl_aln d77_60 rfl,
   fun _ _ _ _ => xl_gf d77_61 xco77 xf_4_27,
   fun _ _ _ => xl_aln d77_64 rfl,
   fun _ _ _ _ => xl_gf d77_65 xco77 xf_4_72,
   fun _ _ _ => xl_ic d77_68 (by decide +kernel),
   fun _ _ _ _ _ _ => xl_ist d77_69,
   fun _ _ _ => xl_goto d77_70 rfl,
   fun _ _ _ => xl_aln d77_73 rfl,
   fun _ _ _ _ => xl_gf d77_74 xco77 xf_4_27,
   fun _ _ _ => xl_aln d77_77 rfl,
   fun _ _ _ _ => xl_gf d77_78 xco77 xf_4_72,
   fun _ _ _ => xl_ic d77_81 (by decide +kernel),
   fun _ _ _ _ _ _ => xl_ist d77_82,
   fun _ _ _ => xl_goto d77_83 rfl,
   fun _ _ _ => xl_aln d77_86 rfl,
   fun ls a0 h => xl_cv (As := [a0]) (st := []) d77_87 xco77 xm_4_79 (congrArg Nat.succ xnp78) (by decide +kernel) rfl,
   fun _ _ _ => xl_goto d77_90 rfl,
   fun _ _ _ => xl_aln d77_93 rfl,
   fun _ _ _ _ => xl_gf d77_94 xco77 xf_4_72,
   fun _ _ _ _ => xl_ifne d77_97 rfl,
   fun _ _ _ => xl_aln d77_100 rfl,
   fun _ _ _ _ => xl_gf d77_101 xco77 xf_4_14,
   fun _ _ _ => xl_ic d77_104 (by decide +kernel),
   fun ls a0 a1 h => xl_cv (As := [a0, a1]) (st := []) d77_105 xco77 xm_4_75 (congrArg Nat.succ xnp35) (by decide +kernel) rfl,
   fun _ _ _ hc => xl_irz d77_108 xrt77 hc,
   fun _ _ _ => xl_aln d77_109 rfl,
   fun ls a0 h => xl_cv (As := [a0]) (st := []) d77_110 xco77 xm_4_79 (congrArg Nat.succ xnp78) (by decide +kernel) rfl,
   fun _ _ _ => xl_aln d77_113 rfl,
   fun _ _ _ _ => xl_dupr d77_114,
   fun _ _ _ _ => xl_gf d77_115 xco77 xf_4_72,
   fun _ _ _ => xl_ic d77_118 (by decide +kernel),
   fun _ _ _ _ _ => xl_isub d77_119,
   fun _ _ _ _ _ => xl_pf d77_120 xco77 xf_4_72 (by decide +kernel) rfl,
   fun _ _ _ => xl_ic d77_123 (by decide +kernel),
   fun _ _ _ hc => xl_irz d77_124 xrt77 hc,
   fun _ _ _ => xl_aln d77_125 rfl,
   fun _ _ _ _ => xl_gf d77_126 xco77 xf_4_14,
   fun _ _ _ => xl_ic d77_129 (by decide +kernel),
   fun ls a0 a1 h => xl_cv (As := [a0, a1]) (st := []) d77_130 xco77 xm_4_75 (congrArg Nat.succ xnp35) (by decide +kernel) rfl,
   fun _ _ _ hc => xl_irz d77_133 xrt77 hc,
   fun _ _ _ => xl_aln d77_134 rfl,
   fun _ _ _ => xl_ic d77_135 (by decide +kernel),
   fun _ _ _ _ _ => xl_pf d77_136 xco77 xf_4_54 (by decide +kernel) rfl,
   fun _ _ _ => xl_ic d77_139 (by decide +kernel),
   fun _ _ _ hc => xl_irz d77_140 xrt77 hc⟩
/-! 78 FacetSieve$QuestionReader.endPart()V -/
theorem d78_0 : decode (zz_c 78) 0 = .ok (.aload_n 0, 1) := by decide +kernel
theorem d78_1 : decode (zz_c 78) 1 = .ok (.getfield 31, 3) := by decide +kernel
theorem d78_4 : decode (zz_c 78) 4 = .ok (.aload_n 0, 1) := by decide +kernel
theorem d78_5 : decode (zz_c 78) 5 = .ok (.getfield 72, 3) := by decide +kernel
theorem d78_8 : decode (zz_c 78) 8 = .ok (.iaload, 1) := by decide +kernel
theorem d78_9 : decode (zz_c 78) 9 = .ok (.iconst 1, 1) := by decide +kernel
theorem d78_10 : decode (zz_c 78) 10 = .ok (.if_icmp .ne 8, 3) := by decide +kernel
theorem d78_13 : decode (zz_c 78) 13 = .ok (.aload_n 0, 1) := by decide +kernel
theorem d78_14 : decode (zz_c 78) 14 = .ok (.iconst 1, 1) := by decide +kernel
theorem d78_15 : decode (zz_c 78) 15 = .ok (.invokevirtual 111, 3) := by decide +kernel
theorem d78_18 : decode (zz_c 78) 18 = .ok (.aload_n 0, 1) := by decide +kernel
theorem d78_19 : decode (zz_c 78) 19 = .ok (.getfield 31, 3) := by decide +kernel
theorem d78_22 : decode (zz_c 78) 22 = .ok (.aload_n 0, 1) := by decide +kernel
theorem d78_23 : decode (zz_c 78) 23 = .ok (.getfield 72, 3) := by decide +kernel
theorem d78_26 : decode (zz_c 78) 26 = .ok (.iconst 1, 1) := by decide +kernel
theorem d78_27 : decode (zz_c 78) 27 = .ok (.iastore, 1) := by decide +kernel
theorem d78_28 : decode (zz_c 78) 28 = .ok (.return_, 1) := by decide +kernel
theorem x78 : (∀ x st h, zz_Y 78 (0, [some (.ref x)], st, h) = zz_Y 78 (1, [some (.ref x)], .ref x :: st, h)) ∧ (∀ ls a st h, zz_Y 78 (1, ls, .ref a :: st, h) = mo_gf (hp_g h a) 4 3 78 4 ls st h) ∧ (∀ x st h, zz_Y 78 (4, [some (.ref x)], st, h) = zz_Y 78 (5, [some (.ref x)], .ref x :: st, h)) ∧ (∀ ls a st h, zz_Y 78 (5, ls, .ref a :: st, h) = mo_gf (hp_g h a) 4 5 78 8 ls st h) ∧ (∀ ls a i st h, zz_Y 78 (8, ls, .int i :: .ref a :: st, h) = mo_ia (hp_g h a) i a 78 9 ls st h) ∧ (∀ ls st h, zz_Y 78 (9, ls, st, h) = zz_Y 78 (10, ls, .int (nI 1) :: st, h)) ∧ (∀ ls a b st h, zz_Y 78 (10, ls, .int b :: .int a :: st, h) = if a = b then zz_Y 78 (13, ls, st, h) else zz_Y 78 (18, ls, st, h)) ∧ (∀ x st h, zz_Y 78 (13, [some (.ref x)], st, h) = zz_Y 78 (14, [some (.ref x)], .ref x :: st, h)) ∧ (∀ ls st h, zz_Y 78 (14, ls, st, h) = zz_Y 78 (15, ls, .int (nI 1) :: st, h)) ∧ (∀ ls a0 a1 h, zz_Y 78 (15, ls, [a1, a0], h) = mo_k 78 18 ls [] (zz_run 73 [a0, a1] h)) ∧ (∀ x st h, zz_Y 78 (18, [some (.ref x)], st, h) = zz_Y 78 (19, [some (.ref x)], .ref x :: st, h)) ∧ (∀ ls a st h, zz_Y 78 (19, ls, .ref a :: st, h) = mo_gf (hp_g h a) 4 3 78 22 ls st h) ∧ (∀ x st h, zz_Y 78 (22, [some (.ref x)], st, h) = zz_Y 78 (23, [some (.ref x)], .ref x :: st, h)) ∧ (∀ ls a st h, zz_Y 78 (23, ls, .ref a :: st, h) = mo_gf (hp_g h a) 4 5 78 26 ls st h) ∧ (∀ ls st h, zz_Y 78 (26, ls, st, h) = zz_Y 78 (27, ls, .int (nI 1) :: st, h)) ∧ (∀ ls a i x st h, zz_Y 78 (27, ls, .int x :: .int i :: .ref a :: st, h) = mo_is (hp_g h a) x i a 78 28 ls st h) ∧ (∀ ls h, zz_Y 78 (28, ls, [], h) = some (none, h)) :=
  ⟨fun _ _ _ => xl_aln d78_0 rfl,
   fun _ _ _ _ => xl_gf d78_1 xco78 xf_4_31,
   fun _ _ _ => xl_aln d78_4 rfl,
   fun _ _ _ _ => xl_gf d78_5 xco78 xf_4_72,
   fun _ _ _ _ _ => xl_ia d78_8,
   fun _ _ _ => xl_ic d78_9 (by decide +kernel),
   fun _ _ _ _ _ => xl_icne d78_10 rfl,
   fun _ _ _ => xl_aln d78_13 rfl,
   fun _ _ _ => xl_ic d78_14 (by decide +kernel),
   fun ls a0 a1 h => xl_cv (As := [a0, a1]) (st := []) d78_15 xco78 xm_4_111 (congrArg Nat.succ xnp73) (by decide +kernel) rfl,
   fun _ _ _ => xl_aln d78_18 rfl,
   fun _ _ _ _ => xl_gf d78_19 xco78 xf_4_31,
   fun _ _ _ => xl_aln d78_22 rfl,
   fun _ _ _ _ => xl_gf d78_23 xco78 xf_4_72,
   fun _ _ _ => xl_ic d78_26 (by decide +kernel),
   fun _ _ _ _ _ _ => xl_ist d78_27,
   fun _ _ => xl_r d78_28 xrt78⟩
/-! 79 FacetSieve.asked(I)I -/
theorem d79_0 : decode (zz_c 79) 0 = .ok (.aload_n 0, 1) := by decide +kernel
theorem d79_1 : decode (zz_c 79) 1 = .ok (.getfield 12, 3) := by decide +kernel
theorem d79_4 : decode (zz_c 79) 4 = .ok (.getfield 114, 3) := by decide +kernel
theorem d79_7 : decode (zz_c 79) 7 = .ok (.ifCond .ne 5, 3) := by decide +kernel
theorem d79_10 : decode (zz_c 79) 10 = .ok (.iconst (-1), 1) := by decide +kernel
theorem d79_11 : decode (zz_c 79) 11 = .ok (.ireturn, 1) := by decide +kernel
theorem d79_12 : decode (zz_c 79) 12 = .ok (.iload_n 1, 1) := by decide +kernel
theorem d79_13 : decode (zz_c 79) 13 = .ok (.tableswitch 59 0 2 #[27, 39, 47], 27) := by decide +kernel
theorem d79_40 : decode (zz_c 79) 40 = .ok (.aload_n 0, 1) := by decide +kernel
theorem d79_41 : decode (zz_c 79) 41 = .ok (.getfield 12, 3) := by decide +kernel
theorem d79_44 : decode (zz_c 79) 44 = .ok (.getfield 124, 3) := by decide +kernel
theorem d79_47 : decode (zz_c 79) 47 = .ok (.iconst 0, 1) := by decide +kernel
theorem d79_48 : decode (zz_c 79) 48 = .ok (.invokevirtual 105, 3) := by decide +kernel
theorem d79_51 : decode (zz_c 79) 51 = .ok (.ireturn, 1) := by decide +kernel
theorem d79_52 : decode (zz_c 79) 52 = .ok (.aload_n 0, 1) := by decide +kernel
theorem d79_53 : decode (zz_c 79) 53 = .ok (.getfield 12, 3) := by decide +kernel
theorem d79_56 : decode (zz_c 79) 56 = .ok (.getfield 121, 3) := by decide +kernel
theorem d79_59 : decode (zz_c 79) 59 = .ok (.ireturn, 1) := by decide +kernel
theorem d79_60 : decode (zz_c 79) 60 = .ok (.aload_n 0, 1) := by decide +kernel
theorem d79_61 : decode (zz_c 79) 61 = .ok (.getfield 12, 3) := by decide +kernel
theorem d79_64 : decode (zz_c 79) 64 = .ok (.getfield 124, 3) := by decide +kernel
theorem d79_67 : decode (zz_c 79) 67 = .ok (.iconst 0, 1) := by decide +kernel
theorem d79_68 : decode (zz_c 79) 68 = .ok (.invokevirtual 134, 3) := by decide +kernel
theorem d79_71 : decode (zz_c 79) 71 = .ok (.ireturn, 1) := by decide +kernel
theorem d79_72 : decode (zz_c 79) 72 = .ok (.iload_n 1, 1) := by decide +kernel
theorem d79_73 : decode (zz_c 79) 73 = .ok (.bipush 10, 2) := by decide +kernel
theorem d79_75 : decode (zz_c 79) 75 = .ok (.if_icmp .ge 7, 3) := by decide +kernel
theorem d79_78 : decode (zz_c 79) 78 = .ok (.iconst (-1), 1) := by decide +kernel
theorem d79_79 : decode (zz_c 79) 79 = .ok (.goto 18, 3) := by decide +kernel
theorem d79_82 : decode (zz_c 79) 82 = .ok (.aload_n 0, 1) := by decide +kernel
theorem d79_83 : decode (zz_c 79) 83 = .ok (.getfield 12, 3) := by decide +kernel
theorem d79_86 : decode (zz_c 79) 86 = .ok (.getfield 124, 3) := by decide +kernel
theorem d79_89 : decode (zz_c 79) 89 = .ok (.iconst 0, 1) := by decide +kernel
theorem d79_90 : decode (zz_c 79) 90 = .ok (.iload_n 1, 1) := by decide +kernel
theorem d79_91 : decode (zz_c 79) 91 = .ok (.bipush 10, 2) := by decide +kernel
theorem d79_93 : decode (zz_c 79) 93 = .ok (.isub, 1) := by decide +kernel
theorem d79_94 : decode (zz_c 79) 94 = .ok (.invokevirtual 137, 3) := by decide +kernel
theorem d79_97 : decode (zz_c 79) 97 = .ok (.ireturn, 1) := by decide +kernel
theorem x79 : (∀ l1 x st h, zz_Y 79 (0, [some (.ref x), l1], st, h) = zz_Y 79 (1, [some (.ref x), l1], .ref x :: st, h)) ∧ (∀ ls a st h, zz_Y 79 (1, ls, .ref a :: st, h) = mo_gf (hp_g h a) 10 0 79 4 ls st h) ∧ (∀ ls a st h, zz_Y 79 (4, ls, .ref a :: st, h) = mo_gf (hp_g h a) 1 5 79 7 ls st h) ∧ (∀ ls a st h, zz_Y 79 (7, ls, .int a :: st, h) = if a = nI 0 then zz_Y 79 (10, ls, st, h) else zz_Y 79 (12, ls, st, h)) ∧ (∀ ls st h, zz_Y 79 (10, ls, st, h) = zz_Y 79 (11, ls, .int (-1) :: st, h)) ∧ (∀ ls v h, zz_Y 79 (11, ls, [.int v], h) = some (some (.int v), h)) ∧ (∀ l0 x st h, zz_Y 79 (12, [l0, some (.int x)], st, h) = zz_Y 79 (13, [l0, some (.int x)], .int x :: st, h)) ∧ (∀ ls x st h, zz_Y 79 (13, ls, .int x :: st, h) = zz_Y 79 (zz_sw [(nI 0, 40), (nI 1, 52), (nI 2, 60)] 72 x, ls, st, h)) ∧ (∀ l1 x st h, zz_Y 79 (40, [some (.ref x), l1], st, h) = zz_Y 79 (41, [some (.ref x), l1], .ref x :: st, h)) ∧ (∀ ls a st h, zz_Y 79 (41, ls, .ref a :: st, h) = mo_gf (hp_g h a) 10 0 79 44 ls st h) ∧ (∀ ls a st h, zz_Y 79 (44, ls, .ref a :: st, h) = mo_gf (hp_g h a) 1 7 79 47 ls st h) ∧ (∀ ls st h, zz_Y 79 (47, ls, st, h) = zz_Y 79 (48, ls, .int (nI 0) :: st, h)) ∧ (∀ ls a0 a1 h, zz_Y 79 (48, ls, [a1, a0], h) = mo_k 79 51 ls [] (zz_run 62 [a0, a1] h)) ∧ (∀ ls v h, zz_Y 79 (51, ls, [.int v], h) = some (some (.int v), h)) ∧ (∀ l1 x st h, zz_Y 79 (52, [some (.ref x), l1], st, h) = zz_Y 79 (53, [some (.ref x), l1], .ref x :: st, h)) ∧ (∀ ls a st h, zz_Y 79 (53, ls, .ref a :: st, h) = mo_gf (hp_g h a) 10 0 79 56 ls st h) ∧ (∀ ls a st h, zz_Y 79 (56, ls, .ref a :: st, h) = mo_gf (hp_g h a) 1 6 79 59 ls st h) ∧ (∀ ls v h, zz_Y 79 (59, ls, [.int v], h) = some (some (.int v), h)) ∧ (∀ l1 x st h, zz_Y 79 (60, [some (.ref x), l1], st, h) = zz_Y 79 (61, [some (.ref x), l1], .ref x :: st, h)) ∧ (∀ ls a st h, zz_Y 79 (61, ls, .ref a :: st, h) = mo_gf (hp_g h a) 10 0 79 64 ls st h) ∧ (∀ ls a st h, zz_Y 79 (64, ls, .ref a :: st, h) = mo_gf (hp_g h a) 1 7 79 67 ls st h) ∧ (∀ ls st h, zz_Y 79 (67, ls, st, h) = zz_Y 79 (68, ls, .int (nI 0) :: st, h)) ∧ (∀ ls a0 a1 h, zz_Y 79 (68, ls, [a1, a0], h) = mo_k 79 71 ls [] (zz_run 80 [a0, a1] h)) ∧ (∀ ls v h, zz_Y 79 (71, ls, [.int v], h) = some (some (.int v), h)) ∧ (∀ l0 x st h, zz_Y 79 (72, [l0, some (.int x)], st, h) = zz_Y 79 (73, [l0, some (.int x)], .int x :: st, h)) ∧ (∀ ls st h, zz_Y 79 (73, ls, st, h) = zz_Y 79 (75, ls, .int (nI 10) :: st, h)) ∧ (∀ ls a b st h, zz_Y 79 (75, ls, .int b :: .int a :: st, h) = if a < b then zz_Y 79 (78, ls, st, h) else zz_Y 79 (82, ls, st, h)) ∧ (∀ ls st h, zz_Y 79 (78, ls, st, h) = zz_Y 79 (79, ls, .int (-1) :: st, h)) ∧ (∀ ls st h, zz_Y 79 (79, ls, st, h) = zz_Y 79 (97, ls, st, h)) ∧ (∀ l1 x st h, zz_Y 79 (82, [some (.ref x), l1], st, h) = zz_Y 79 (83, [some (.ref x), l1], .ref x :: st, h)) ∧ (∀ ls a st h, zz_Y 79 (83, ls, .ref a :: st, h) = mo_gf (hp_g h a) 10 0 79 86 ls st h) ∧ (∀ ls a st h, zz_Y 79 (86, ls, .ref a :: st, h) = mo_gf (hp_g h a) 1 7 79 89 ls st h) ∧ (∀ ls st h, zz_Y 79 (89, ls, st, h) = zz_Y 79 (90, ls, .int (nI 0) :: st, h)) ∧ (∀ l0 x st h, zz_Y 79 (90, [l0, some (.int x)], st, h) = zz_Y 79 (91, [l0, some (.int x)], .int x :: st, h)) ∧ (∀ ls st h, zz_Y 79 (91, ls, st, h) = zz_Y 79 (93, ls, .int (nI 10) :: st, h)) ∧ (∀ ls a b st h, zz_Y 79 (93, ls, .int b :: .int a :: st, h) = zz_Y 79 (94, ls, .int (a - b) :: st, h)) ∧ (∀ ls a0 a1 a2 h, zz_Y 79 (94, ls, [a2, a1, a0], h) = mo_k 79 97 ls [] (zz_run 81 [a0, a1, a2] h)) ∧ (∀ ls v h, zz_Y 79 (97, ls, [.int v], h) = some (some (.int v), h)) :=
  ⟨fun _ _ _ _ => xl_aln d79_0 rfl,
   fun _ _ _ _ => xl_gf d79_1 xco79 xf_10_12,
   fun _ _ _ _ => xl_gf d79_4 xco79 xf_10_114,
   fun _ _ _ _ => xl_ifne d79_7 rfl,
   fun _ _ _ => xl_ic d79_10 (by decide +kernel),
   fun _ _ _ => xl_iri d79_11 xrt79,
   fun _ _ _ _ => xl_iln d79_12 rfl,
   fun _ _ _ _ => xl_tbs (qs := [(nI 0, 40), (nI 1, 52), (nI 2, 60)]) d79_13 rfl (by decide +kernel) (by decide +kernel) (by decide +kernel),
   fun _ _ _ _ => xl_aln d79_40 rfl,
   fun _ _ _ _ => xl_gf d79_41 xco79 xf_10_12,
   fun _ _ _ _ => xl_gf d79_44 xco79 xf_10_124,
   fun _ _ _ => xl_ic d79_47 (by decide +kernel),
   fun ls a0 a1 h => xl_cv (As := [a0, a1]) (st := []) d79_48 xco79 xm_10_105 (congrArg Nat.succ xnp62) (by decide +kernel) rfl,
   fun _ _ _ => xl_iri d79_51 xrt79,
   fun _ _ _ _ => xl_aln d79_52 rfl,
   fun _ _ _ _ => xl_gf d79_53 xco79 xf_10_12,
   fun _ _ _ _ => xl_gf d79_56 xco79 xf_10_121,
   fun _ _ _ => xl_iri d79_59 xrt79,
   fun _ _ _ _ => xl_aln d79_60 rfl,
   fun _ _ _ _ => xl_gf d79_61 xco79 xf_10_12,
   fun _ _ _ _ => xl_gf d79_64 xco79 xf_10_124,
   fun _ _ _ => xl_ic d79_67 (by decide +kernel),
   fun ls a0 a1 h => xl_cv (As := [a0, a1]) (st := []) d79_68 xco79 xm_10_134 (congrArg Nat.succ xnp80) (by decide +kernel) rfl,
   fun _ _ _ => xl_iri d79_71 xrt79,
   fun _ _ _ _ => xl_iln d79_72 rfl,
   fun _ _ _ => xl_bi d79_73 (by decide +kernel),
   fun _ _ _ _ _ => xl_icge d79_75 rfl,
   fun _ _ _ => xl_ic d79_78 (by decide +kernel),
   fun _ _ _ => xl_goto d79_79 rfl,
   fun _ _ _ _ => xl_aln d79_82 rfl,
   fun _ _ _ _ => xl_gf d79_83 xco79 xf_10_12,
   fun _ _ _ _ => xl_gf d79_86 xco79 xf_10_124,
   fun _ _ _ => xl_ic d79_89 (by decide +kernel),
   fun _ _ _ _ => xl_iln d79_90 rfl,
   fun _ _ _ => xl_bi d79_91 (by decide +kernel),
   fun _ _ _ _ _ => xl_isub d79_93,
   fun ls a0 a1 a2 h => xl_cv (As := [a0, a1, a2]) (st := []) d79_94 xco79 xm_10_137 (congrArg Nat.succ xnp81) (by decide +kernel) rfl,
   fun _ _ _ => xl_iri d79_97 xrt79⟩
/-! 80 FacetSieve$Sets.cost(I)I -/
theorem d80_0 : decode (zz_c 80) 0 = .ok (.iconst 0, 1) := by decide +kernel
theorem d80_1 : decode (zz_c 80) 1 = .ok (.istore_n 2, 1) := by decide +kernel
theorem d80_2 : decode (zz_c 80) 2 = .ok (.iconst 0, 1) := by decide +kernel
theorem d80_3 : decode (zz_c 80) 3 = .ok (.istore_n 3, 1) := by decide +kernel
theorem d80_4 : decode (zz_c 80) 4 = .ok (.iload_n 3, 1) := by decide +kernel
theorem d80_5 : decode (zz_c 80) 5 = .ok (.bipush 8, 2) := by decide +kernel
theorem d80_7 : decode (zz_c 80) 7 = .ok (.if_icmp .ge 21, 3) := by decide +kernel
theorem d80_10 : decode (zz_c 80) 10 = .ok (.iload_n 2, 1) := by decide +kernel
theorem d80_11 : decode (zz_c 80) 11 = .ok (.aload_n 0, 1) := by decide +kernel
theorem d80_12 : decode (zz_c 80) 12 = .ok (.iload_n 1, 1) := by decide +kernel
theorem d80_13 : decode (zz_c 80) 13 = .ok (.iload_n 3, 1) := by decide +kernel
theorem d80_14 : decode (zz_c 80) 14 = .ok (.invokevirtual 29, 3) := by decide +kernel
theorem d80_17 : decode (zz_c 80) 17 = .ok (.invokestatic 60, 3) := by decide +kernel
theorem d80_20 : decode (zz_c 80) 20 = .ok (.iadd, 1) := by decide +kernel
theorem d80_21 : decode (zz_c 80) 21 = .ok (.istore_n 2, 1) := by decide +kernel
theorem d80_22 : decode (zz_c 80) 22 = .ok (.iinc 3 1, 3) := by decide +kernel
theorem d80_25 : decode (zz_c 80) 25 = .ok (.goto (-21), 3) := by decide +kernel
theorem d80_28 : decode (zz_c 80) 28 = .ok (.iload_n 2, 1) := by decide +kernel
theorem d80_29 : decode (zz_c 80) 29 = .ok (.ireturn, 1) := by decide +kernel
theorem x80 : (∀ ls st h, zz_Y 80 (0, ls, st, h) = zz_Y 80 (1, ls, .int (nI 0) :: st, h)) ∧ (∀ l0 l1 l2 l3 x st h, zz_nl l1 = true → zz_Y 80 (1, [l0, l1, l2, l3], .int x :: st, h) = zz_Y 80 (2, [l0, l1, some (.int x), l3], st, h)) ∧ (∀ ls st h, zz_Y 80 (2, ls, st, h) = zz_Y 80 (3, ls, .int (nI 0) :: st, h)) ∧ (∀ l0 l1 l2 l3 x st h, zz_nl l2 = true → zz_Y 80 (3, [l0, l1, l2, l3], .int x :: st, h) = zz_Y 80 (4, [l0, l1, l2, some (.int x)], st, h)) ∧ (∀ ls st h, zz_Y 80 (5, ls, st, h) = zz_Y 80 (7, ls, .int (nI 8) :: st, h)) ∧ (∀ ls a b st h, zz_Y 80 (7, ls, .int b :: .int a :: st, h) = if a < b then zz_Y 80 (10, ls, st, h) else zz_Y 80 (28, ls, st, h)) ∧ (∀ l0 l1 l3 x st h, zz_Y 80 (10, [l0, l1, some (.int x), l3], st, h) = zz_Y 80 (11, [l0, l1, some (.int x), l3], .int x :: st, h)) ∧ (∀ l1 l2 l3 x st h, zz_Y 80 (11, [some (.ref x), l1, l2, l3], st, h) = zz_Y 80 (12, [some (.ref x), l1, l2, l3], .ref x :: st, h)) ∧ (∀ l0 l2 l3 x st h, zz_Y 80 (12, [l0, some (.int x), l2, l3], st, h) = zz_Y 80 (13, [l0, some (.int x), l2, l3], .int x :: st, h)) ∧ (∀ l0 l1 l2 x st h, zz_Y 80 (13, [l0, l1, l2, some (.int x)], st, h) = zz_Y 80 (14, [l0, l1, l2, some (.int x)], .int x :: st, h)) ∧ (∀ ls a0 a1 a2 s0 h, zz_Y 80 (14, ls, [a2, a1, a0, s0], h) = mo_k 80 17 ls [s0] (zz_run 63 [a0, a1, a2] h)) ∧ (∀ ls a0 s0 h, zz_Y 80 (17, ls, [a0, s0], h) = mo_k 80 20 ls [s0] (zz_run 75 [a0] h)) ∧ (∀ ls a b st h, zz_Y 80 (20, ls, .int b :: .int a :: st, h) = zz_Y 80 (21, ls, .int (a + b) :: st, h)) ∧ (∀ l0 l1 l2 l3 x st h, zz_nl l1 = true → zz_Y 80 (21, [l0, l1, l2, l3], .int x :: st, h) = zz_Y 80 (22, [l0, l1, some (.int x), l3], st, h)) ∧ (∀ l0 l1 l2 x st h, zz_nl l2 = true → zz_Y 80 (22, [l0, l1, l2, some (.int x)], st, h) = zz_Y 80 (25, [l0, l1, l2, some (.int (x + nI 1))], st, h)) ∧ (∀ ls st h, zz_Y 80 (25, ls, st, h) = zz_Y 80 (4, ls, st, h)) ∧ (∀ l0 l1 l3 x st h, zz_Y 80 (28, [l0, l1, some (.int x), l3], st, h) = zz_Y 80 (29, [l0, l1, some (.int x), l3], .int x :: st, h)) ∧ (∀ ls v h, zz_Y 80 (29, ls, [.int v], h) = some (some (.int v), h)) :=
  ⟨fun _ _ _ => xl_ic d80_0 (by decide +kernel),
   fun _ _ _ _ _ _ _ hc => xl_isn d80_1 xml80 (by decide) (zz_nl_s1 hc),
   fun _ _ _ => xl_ic d80_2 (by decide +kernel),
   fun _ _ _ _ _ _ _ hc => xl_isn d80_3 xml80 (by decide) (zz_nl_s1 hc),
   fun _ _ _ => xl_bi d80_5 (by decide +kernel),
   fun _ _ _ _ _ => xl_icge d80_7 rfl,
   fun _ _ _ _ _ _ => xl_iln d80_10 rfl,
   fun _ _ _ _ _ _ => xl_aln d80_11 rfl,
   fun _ _ _ _ _ _ => xl_iln d80_12 rfl,
   fun _ _ _ _ _ _ => xl_iln d80_13 rfl,
   fun ls a0 a1 a2 s0 h => xl_cv (As := [a0, a1, a2]) (st := [s0]) d80_14 xco80 xm_6_29 (congrArg Nat.succ xnp63) (by decide +kernel) rfl,
   fun ls a0 s0 h => xl_cs (As := [a0]) (st := [s0]) d80_17 xco80 xm_6_60 xnp75 (by decide +kernel) rfl,
   fun _ _ _ _ _ => xl_iadd d80_20,
   fun _ _ _ _ _ _ _ hc => xl_isn d80_21 xml80 (by decide) (zz_nl_s1 hc),
   fun _ _ _ _ _ _ hc => xl_inc d80_22 xml80 (by decide) rfl (by decide +kernel) (zz_nl_s1 hc),
   fun _ _ _ => xl_goto d80_25 rfl,
   fun _ _ _ _ _ _ => xl_iln d80_28 rfl,
   fun _ _ _ => xl_iri d80_29 xrt80⟩
theorem x80_c4 : ∀ l0 l1 l2 x st h, zz_Y 80 (4, [l0, l1, l2, some (.int x)], st, h) = zz_Y 80 (5, [l0, l1, l2, some (.int x)], .int x :: st, h) := fun _ _ _ _ _ _ => xl_iln d80_4 rfl
/-! 81 FacetSieve$Sets.recordAt(II)I -/
theorem d81_0 : decode (zz_c 81) 0 = .ok (.iconst 0, 1) := by decide +kernel
theorem d81_1 : decode (zz_c 81) 1 = .ok (.istore_n 3, 1) := by decide +kernel
theorem d81_2 : decode (zz_c 81) 2 = .ok (.iconst 0, 1) := by decide +kernel
theorem d81_3 : decode (zz_c 81) 3 = .ok (.istore 4, 2) := by decide +kernel
theorem d81_5 : decode (zz_c 81) 5 = .ok (.iload 4, 2) := by decide +kernel
theorem d81_7 : decode (zz_c 81) 7 = .ok (.bipush 8, 2) := by decide +kernel
theorem d81_9 : decode (zz_c 81) 9 = .ok (.if_icmp .ge 58, 3) := by decide +kernel
theorem d81_12 : decode (zz_c 81) 12 = .ok (.aload_n 0, 1) := by decide +kernel
theorem d81_13 : decode (zz_c 81) 13 = .ok (.iload_n 1, 1) := by decide +kernel
theorem d81_14 : decode (zz_c 81) 14 = .ok (.iload 4, 2) := by decide +kernel
theorem d81_16 : decode (zz_c 81) 16 = .ok (.invokevirtual 29, 3) := by decide +kernel
theorem d81_19 : decode (zz_c 81) 19 = .ok (.istore 5, 2) := by decide +kernel
theorem d81_21 : decode (zz_c 81) 21 = .ok (.iload 5, 2) := by decide +kernel
theorem d81_23 : decode (zz_c 81) 23 = .ok (.invokestatic 54, 3) := by decide +kernel
theorem d81_26 : decode (zz_c 81) 26 = .ok (.istore 6, 2) := by decide +kernel
theorem d81_28 : decode (zz_c 81) 28 = .ok (.iload_n 2, 1) := by decide +kernel
theorem d81_29 : decode (zz_c 81) 29 = .ok (.iload_n 3, 1) := by decide +kernel
theorem d81_30 : decode (zz_c 81) 30 = .ok (.if_icmp .lt 26, 3) := by decide +kernel
theorem d81_33 : decode (zz_c 81) 33 = .ok (.iload_n 2, 1) := by decide +kernel
theorem d81_34 : decode (zz_c 81) 34 = .ok (.iload_n 3, 1) := by decide +kernel
theorem d81_35 : decode (zz_c 81) 35 = .ok (.iload 6, 2) := by decide +kernel
theorem d81_37 : decode (zz_c 81) 37 = .ok (.iadd, 1) := by decide +kernel
theorem d81_38 : decode (zz_c 81) 38 = .ok (.if_icmp .ge 18, 3) := by decide +kernel
theorem d81_41 : decode (zz_c 81) 41 = .ok (.iload 4, 2) := by decide +kernel
theorem d81_43 : decode (zz_c 81) 43 = .ok (.bipush 32, 2) := by decide +kernel
theorem d81_45 : decode (zz_c 81) 45 = .ok (.imul, 1) := by decide +kernel
theorem d81_46 : decode (zz_c 81) 46 = .ok (.iload 5, 2) := by decide +kernel
theorem d81_48 : decode (zz_c 81) 48 = .ok (.iload_n 2, 1) := by decide +kernel
theorem d81_49 : decode (zz_c 81) 49 = .ok (.iload_n 3, 1) := by decide +kernel
theorem d81_50 : decode (zz_c 81) 50 = .ok (.isub, 1) := by decide +kernel
theorem d81_51 : decode (zz_c 81) 51 = .ok (.invokestatic 68, 3) := by decide +kernel
theorem d81_54 : decode (zz_c 81) 54 = .ok (.iadd, 1) := by decide +kernel
theorem d81_55 : decode (zz_c 81) 55 = .ok (.ireturn, 1) := by decide +kernel
theorem d81_56 : decode (zz_c 81) 56 = .ok (.iload_n 3, 1) := by decide +kernel
theorem d81_57 : decode (zz_c 81) 57 = .ok (.iload 6, 2) := by decide +kernel
theorem d81_59 : decode (zz_c 81) 59 = .ok (.iadd, 1) := by decide +kernel
theorem d81_60 : decode (zz_c 81) 60 = .ok (.istore_n 3, 1) := by decide +kernel
theorem d81_61 : decode (zz_c 81) 61 = .ok (.iinc 4 1, 3) := by decide +kernel
theorem d81_64 : decode (zz_c 81) 64 = .ok (.goto (-59), 3) := by decide +kernel
theorem d81_67 : decode (zz_c 81) 67 = .ok (.iconst (-1), 1) := by decide +kernel
theorem d81_68 : decode (zz_c 81) 68 = .ok (.ireturn, 1) := by decide +kernel
theorem x81 : (∀ ls st h, zz_Y 81 (0, ls, st, h) = zz_Y 81 (1, ls, .int (nI 0) :: st, h)) ∧ (∀ l0 l1 l2 l3 l4 l5 l6 x st h, zz_nl l2 = true → zz_Y 81 (1, [l0, l1, l2, l3, l4, l5, l6], .int x :: st, h) = zz_Y 81 (2, [l0, l1, l2, some (.int x), l4, l5, l6], st, h)) ∧ (∀ ls st h, zz_Y 81 (2, ls, st, h) = zz_Y 81 (3, ls, .int (nI 0) :: st, h)) ∧ (∀ l0 l1 l2 l3 l4 l5 l6 x st h, zz_nl l3 = true → zz_Y 81 (3, [l0, l1, l2, l3, l4, l5, l6], .int x :: st, h) = zz_Y 81 (5, [l0, l1, l2, l3, some (.int x), l5, l6], st, h)) ∧ (∀ ls st h, zz_Y 81 (7, ls, st, h) = zz_Y 81 (9, ls, .int (nI 8) :: st, h)) ∧ (∀ ls a b st h, zz_Y 81 (9, ls, .int b :: .int a :: st, h) = if a < b then zz_Y 81 (12, ls, st, h) else zz_Y 81 (67, ls, st, h)) ∧ (∀ l1 l2 l3 l4 l5 l6 x st h, zz_Y 81 (12, [some (.ref x), l1, l2, l3, l4, l5, l6], st, h) = zz_Y 81 (13, [some (.ref x), l1, l2, l3, l4, l5, l6], .ref x :: st, h)) ∧ (∀ l0 l2 l3 l4 l5 l6 x st h, zz_Y 81 (13, [l0, some (.int x), l2, l3, l4, l5, l6], st, h) = zz_Y 81 (14, [l0, some (.int x), l2, l3, l4, l5, l6], .int x :: st, h)) ∧ (∀ l0 l1 l2 l3 l5 l6 x st h, zz_Y 81 (14, [l0, l1, l2, l3, some (.int x), l5, l6], st, h) = zz_Y 81 (16, [l0, l1, l2, l3, some (.int x), l5, l6], .int x :: st, h)) ∧ (∀ ls a0 a1 a2 h, zz_Y 81 (16, ls, [a2, a1, a0], h) = mo_k 81 19 ls [] (zz_run 63 [a0, a1, a2] h)) ∧ (∀ l0 l1 l2 l3 l4 l5 l6 x st h, zz_nl l4 = true → zz_Y 81 (19, [l0, l1, l2, l3, l4, l5, l6], .int x :: st, h) = zz_Y 81 (21, [l0, l1, l2, l3, l4, some (.int x), l6], st, h)) ∧ (∀ l0 l1 l2 l3 l4 l6 x st h, zz_Y 81 (21, [l0, l1, l2, l3, l4, some (.int x), l6], st, h) = zz_Y 81 (23, [l0, l1, l2, l3, l4, some (.int x), l6], .int x :: st, h)) ∧ (∀ ls a0 h, zz_Y 81 (23, ls, [a0], h) = mo_k 81 26 ls [] (zz_run 64 [a0] h)) ∧ (∀ l0 l1 l2 l3 l4 l5 l6 x st h, zz_nl l5 = true → zz_Y 81 (26, [l0, l1, l2, l3, l4, l5, l6], .int x :: st, h) = zz_Y 81 (28, [l0, l1, l2, l3, l4, l5, some (.int x)], st, h)) ∧ (∀ l0 l1 l3 l4 l5 l6 x st h, zz_Y 81 (28, [l0, l1, some (.int x), l3, l4, l5, l6], st, h) = zz_Y 81 (29, [l0, l1, some (.int x), l3, l4, l5, l6], .int x :: st, h)) ∧ (∀ l0 l1 l2 l4 l5 l6 x st h, zz_Y 81 (29, [l0, l1, l2, some (.int x), l4, l5, l6], st, h) = zz_Y 81 (30, [l0, l1, l2, some (.int x), l4, l5, l6], .int x :: st, h)) ∧ (∀ ls a b st h, zz_Y 81 (30, ls, .int b :: .int a :: st, h) = if a < b then zz_Y 81 (56, ls, st, h) else zz_Y 81 (33, ls, st, h)) ∧ (∀ l0 l1 l3 l4 l5 l6 x st h, zz_Y 81 (33, [l0, l1, some (.int x), l3, l4, l5, l6], st, h) = zz_Y 81 (34, [l0, l1, some (.int x), l3, l4, l5, l6], .int x :: st, h)) ∧ (∀ l0 l1 l2 l4 l5 l6 x st h, zz_Y 81 (34, [l0, l1, l2, some (.int x), l4, l5, l6], st, h) = zz_Y 81 (35, [l0, l1, l2, some (.int x), l4, l5, l6], .int x :: st, h)) ∧ (∀ l0 l1 l2 l3 l4 l5 x st h, zz_Y 81 (35, [l0, l1, l2, l3, l4, l5, some (.int x)], st, h) = zz_Y 81 (37, [l0, l1, l2, l3, l4, l5, some (.int x)], .int x :: st, h)) ∧ (∀ ls a b st h, zz_Y 81 (37, ls, .int b :: .int a :: st, h) = zz_Y 81 (38, ls, .int (a + b) :: st, h)) ∧ (∀ ls a b st h, zz_Y 81 (38, ls, .int b :: .int a :: st, h) = if a < b then zz_Y 81 (41, ls, st, h) else zz_Y 81 (56, ls, st, h)) ∧ (∀ l0 l1 l2 l3 l5 l6 x st h, zz_Y 81 (41, [l0, l1, l2, l3, some (.int x), l5, l6], st, h) = zz_Y 81 (43, [l0, l1, l2, l3, some (.int x), l5, l6], .int x :: st, h)) ∧ (∀ ls st h, zz_Y 81 (43, ls, st, h) = zz_Y 81 (45, ls, .int (nI 32) :: st, h)) ∧ (∀ ls a b st h, zz_Y 81 (45, ls, .int b :: .int a :: st, h) = zz_Y 81 (46, ls, .int (a * b) :: st, h)) ∧ (∀ l0 l1 l2 l3 l4 l6 x st h, zz_Y 81 (46, [l0, l1, l2, l3, l4, some (.int x), l6], st, h) = zz_Y 81 (48, [l0, l1, l2, l3, l4, some (.int x), l6], .int x :: st, h)) ∧ (∀ l0 l1 l3 l4 l5 l6 x st h, zz_Y 81 (48, [l0, l1, some (.int x), l3, l4, l5, l6], st, h) = zz_Y 81 (49, [l0, l1, some (.int x), l3, l4, l5, l6], .int x :: st, h)) ∧ (∀ l0 l1 l2 l4 l5 l6 x st h, zz_Y 81 (49, [l0, l1, l2, some (.int x), l4, l5, l6], st, h) = zz_Y 81 (50, [l0, l1, l2, some (.int x), l4, l5, l6], .int x :: st, h)) ∧ (∀ ls a b st h, zz_Y 81 (50, ls, .int b :: .int a :: st, h) = zz_Y 81 (51, ls, .int (a - b) :: st, h)) ∧ (∀ ls a0 a1 s0 h, zz_Y 81 (51, ls, [a1, a0, s0], h) = mo_k 81 54 ls [s0] (zz_run 82 [a0, a1] h)) ∧ (∀ ls a b st h, zz_Y 81 (54, ls, .int b :: .int a :: st, h) = zz_Y 81 (55, ls, .int (a + b) :: st, h)) ∧ (∀ ls v h, zz_Y 81 (55, ls, [.int v], h) = some (some (.int v), h)) ∧ (∀ l0 l1 l2 l4 l5 l6 x st h, zz_Y 81 (56, [l0, l1, l2, some (.int x), l4, l5, l6], st, h) = zz_Y 81 (57, [l0, l1, l2, some (.int x), l4, l5, l6], .int x :: st, h)) ∧ (∀ l0 l1 l2 l3 l4 l5 x st h, zz_Y 81 (57, [l0, l1, l2, l3, l4, l5, some (.int x)], st, h) = zz_Y 81 (59, [l0, l1, l2, l3, l4, l5, some (.int x)], .int x :: st, h)) ∧ (∀ ls a b st h, zz_Y 81 (59, ls, .int b :: .int a :: st, h) = zz_Y 81 (60, ls, .int (a + b) :: st, h)) ∧ (∀ l0 l1 l2 l3 l4 l5 l6 x st h, zz_nl l2 = true → zz_Y 81 (60, [l0, l1, l2, l3, l4, l5, l6], .int x :: st, h) = zz_Y 81 (61, [l0, l1, l2, some (.int x), l4, l5, l6], st, h)) ∧ (∀ l0 l1 l2 l3 l5 l6 x st h, zz_nl l3 = true → zz_Y 81 (61, [l0, l1, l2, l3, some (.int x), l5, l6], st, h) = zz_Y 81 (64, [l0, l1, l2, l3, some (.int (x + nI 1)), l5, l6], st, h)) ∧ (∀ ls st h, zz_Y 81 (64, ls, st, h) = zz_Y 81 (5, ls, st, h)) ∧ (∀ ls st h, zz_Y 81 (67, ls, st, h) = zz_Y 81 (68, ls, .int (-1) :: st, h)) ∧ (∀ ls v h, zz_Y 81 (68, ls, [.int v], h) = some (some (.int v), h)) :=
  ⟨fun _ _ _ => xl_ic d81_0 (by decide +kernel),
   fun _ _ _ _ _ _ _ _ _ _ hc => xl_isn d81_1 xml81 (by decide) (zz_nl_s1 hc),
   fun _ _ _ => xl_ic d81_2 (by decide +kernel),
   fun _ _ _ _ _ _ _ _ _ _ hc => xl_is d81_3 xml81 (by decide) (zz_nl_s1 hc),
   fun _ _ _ => xl_bi d81_7 (by decide +kernel),
   fun _ _ _ _ _ => xl_icge d81_9 rfl,
   fun _ _ _ _ _ _ _ _ _ => xl_aln d81_12 rfl,
   fun _ _ _ _ _ _ _ _ _ => xl_iln d81_13 rfl,
   fun _ _ _ _ _ _ _ _ _ => xl_il d81_14 rfl,
   fun ls a0 a1 a2 h => xl_cv (As := [a0, a1, a2]) (st := []) d81_16 xco81 xm_6_29 (congrArg Nat.succ xnp63) (by decide +kernel) rfl,
   fun _ _ _ _ _ _ _ _ _ _ hc => xl_is d81_19 xml81 (by decide) (zz_nl_s1 hc),
   fun _ _ _ _ _ _ _ _ _ => xl_il d81_21 rfl,
   fun ls a0 h => xl_cs (As := [a0]) (st := []) d81_23 xco81 xm_6_54 xnp64 (by decide +kernel) rfl,
   fun _ _ _ _ _ _ _ _ _ _ hc => xl_is d81_26 xml81 (by decide) (zz_nl_s1 hc),
   fun _ _ _ _ _ _ _ _ _ => xl_iln d81_28 rfl,
   fun _ _ _ _ _ _ _ _ _ => xl_iln d81_29 rfl,
   fun _ _ _ _ _ => xl_iclt d81_30 rfl,
   fun _ _ _ _ _ _ _ _ _ => xl_iln d81_33 rfl,
   fun _ _ _ _ _ _ _ _ _ => xl_iln d81_34 rfl,
   fun _ _ _ _ _ _ _ _ _ => xl_il d81_35 rfl,
   fun _ _ _ _ _ => xl_iadd d81_37,
   fun _ _ _ _ _ => xl_icge d81_38 rfl,
   fun _ _ _ _ _ _ _ _ _ => xl_il d81_41 rfl,
   fun _ _ _ => xl_bi d81_43 (by decide +kernel),
   fun _ _ _ _ _ => xl_imul d81_45,
   fun _ _ _ _ _ _ _ _ _ => xl_il d81_46 rfl,
   fun _ _ _ _ _ _ _ _ _ => xl_iln d81_48 rfl,
   fun _ _ _ _ _ _ _ _ _ => xl_iln d81_49 rfl,
   fun _ _ _ _ _ => xl_isub d81_50,
   fun ls a0 a1 s0 h => xl_csn (As := [a0, a1]) (st := [s0]) d81_51 xco81 xm_6_68 xnp82 (by decide +kernel) rfl,
   fun _ _ _ _ _ => xl_iadd d81_54,
   fun _ _ _ => xl_iri d81_55 xrt81,
   fun _ _ _ _ _ _ _ _ _ => xl_iln d81_56 rfl,
   fun _ _ _ _ _ _ _ _ _ => xl_il d81_57 rfl,
   fun _ _ _ _ _ => xl_iadd d81_59,
   fun _ _ _ _ _ _ _ _ _ _ hc => xl_isn d81_60 xml81 (by decide) (zz_nl_s1 hc),
   fun _ _ _ _ _ _ _ _ _ hc => xl_inc d81_61 xml81 (by decide) rfl (by decide +kernel) (zz_nl_s1 hc),
   fun _ _ _ => xl_goto d81_64 rfl,
   fun _ _ _ => xl_ic d81_67 (by decide +kernel),
   fun _ _ _ => xl_iri d81_68 xrt81⟩
theorem x81_c5 : ∀ l0 l1 l2 l3 l5 l6 x st h, zz_Y 81 (5, [l0, l1, l2, l3, some (.int x), l5, l6], st, h) = zz_Y 81 (7, [l0, l1, l2, l3, some (.int x), l5, l6], .int x :: st, h) := fun _ _ _ _ _ _ _ _ _ => xl_il d81_5 rfl
/-! 82 FacetSieve.bitAt(II)I -/
theorem d82_0 : decode (zz_c 82) 0 = .ok (.iload_n 1, 1) := by decide +kernel
theorem d82_1 : decode (zz_c 82) 1 = .ok (.ifCond .lt 11, 3) := by decide +kernel
theorem d82_4 : decode (zz_c 82) 4 = .ok (.iload_n 1, 1) := by decide +kernel
theorem d82_5 : decode (zz_c 82) 5 = .ok (.iload_n 0, 1) := by decide +kernel
theorem d82_6 : decode (zz_c 82) 6 = .ok (.invokestatic 239, 3) := by decide +kernel
theorem d82_9 : decode (zz_c 82) 9 = .ok (.if_icmp .lt 5, 3) := by decide +kernel
theorem d82_12 : decode (zz_c 82) 12 = .ok (.iconst (-1), 1) := by decide +kernel
theorem d82_13 : decode (zz_c 82) 13 = .ok (.ireturn, 1) := by decide +kernel
theorem d82_14 : decode (zz_c 82) 14 = .ok (.iconst 0, 1) := by decide +kernel
theorem d82_15 : decode (zz_c 82) 15 = .ok (.istore_n 2, 1) := by decide +kernel
theorem d82_16 : decode (zz_c 82) 16 = .ok (.iconst 0, 1) := by decide +kernel
theorem d82_17 : decode (zz_c 82) 17 = .ok (.istore_n 3, 1) := by decide +kernel
theorem d82_18 : decode (zz_c 82) 18 = .ok (.iload_n 3, 1) := by decide +kernel
theorem d82_19 : decode (zz_c 82) 19 = .ok (.bipush 32, 2) := by decide +kernel
theorem d82_21 : decode (zz_c 82) 21 = .ok (.if_icmp .ge 27, 3) := by decide +kernel
theorem d82_24 : decode (zz_c 82) 24 = .ok (.iload_n 0, 1) := by decide +kernel
theorem d82_25 : decode (zz_c 82) 25 = .ok (.iload_n 3, 1) := by decide +kernel
theorem d82_26 : decode (zz_c 82) 26 = .ok (.invokestatic 176, 3) := by decide +kernel
theorem d82_29 : decode (zz_c 82) 29 = .ok (.ifCond .eq 13, 3) := by decide +kernel
theorem d82_32 : decode (zz_c 82) 32 = .ok (.iload_n 2, 1) := by decide +kernel
theorem d82_33 : decode (zz_c 82) 33 = .ok (.iload_n 1, 1) := by decide +kernel
theorem d82_34 : decode (zz_c 82) 34 = .ok (.if_icmp .ne 5, 3) := by decide +kernel
theorem d82_37 : decode (zz_c 82) 37 = .ok (.iload_n 3, 1) := by decide +kernel
theorem d82_38 : decode (zz_c 82) 38 = .ok (.ireturn, 1) := by decide +kernel
theorem d82_39 : decode (zz_c 82) 39 = .ok (.iinc 2 1, 3) := by decide +kernel
theorem d82_42 : decode (zz_c 82) 42 = .ok (.iinc 3 1, 3) := by decide +kernel
theorem d82_45 : decode (zz_c 82) 45 = .ok (.goto (-27), 3) := by decide +kernel
theorem d82_48 : decode (zz_c 82) 48 = .ok (.iconst (-1), 1) := by decide +kernel
theorem d82_49 : decode (zz_c 82) 49 = .ok (.ireturn, 1) := by decide +kernel
theorem x82 : (∀ l0 l2 l3 x st h, zz_Y 82 (0, [l0, some (.int x), l2, l3], st, h) = zz_Y 82 (1, [l0, some (.int x), l2, l3], .int x :: st, h)) ∧ (∀ ls a st h, zz_Y 82 (1, ls, .int a :: st, h) = if a < nI 0 then zz_Y 82 (12, ls, st, h) else zz_Y 82 (4, ls, st, h)) ∧ (∀ l0 l2 l3 x st h, zz_Y 82 (4, [l0, some (.int x), l2, l3], st, h) = zz_Y 82 (5, [l0, some (.int x), l2, l3], .int x :: st, h)) ∧ (∀ l1 l2 l3 x st h, zz_Y 82 (5, [some (.int x), l1, l2, l3], st, h) = zz_Y 82 (6, [some (.int x), l1, l2, l3], .int x :: st, h)) ∧ (∀ ls a0 s0 h, zz_Y 82 (6, ls, [a0, s0], h) = mo_k 82 9 ls [s0] (zz_run 64 [a0] h)) ∧ (∀ ls a b st h, zz_Y 82 (9, ls, .int b :: .int a :: st, h) = if a < b then zz_Y 82 (14, ls, st, h) else zz_Y 82 (12, ls, st, h)) ∧ (∀ ls st h, zz_Y 82 (12, ls, st, h) = zz_Y 82 (13, ls, .int (-1) :: st, h)) ∧ (∀ ls v h, zz_Y 82 (13, ls, [.int v], h) = some (some (.int v), h)) ∧ (∀ ls st h, zz_Y 82 (14, ls, st, h) = zz_Y 82 (15, ls, .int (nI 0) :: st, h)) ∧ (∀ l0 l1 l2 l3 x st h, zz_nl l1 = true → zz_Y 82 (15, [l0, l1, l2, l3], .int x :: st, h) = zz_Y 82 (16, [l0, l1, some (.int x), l3], st, h)) ∧ (∀ ls st h, zz_Y 82 (16, ls, st, h) = zz_Y 82 (17, ls, .int (nI 0) :: st, h)) ∧ (∀ l0 l1 l2 l3 x st h, zz_nl l2 = true → zz_Y 82 (17, [l0, l1, l2, l3], .int x :: st, h) = zz_Y 82 (18, [l0, l1, l2, some (.int x)], st, h)) ∧ (∀ ls st h, zz_Y 82 (19, ls, st, h) = zz_Y 82 (21, ls, .int (nI 32) :: st, h)) ∧ (∀ ls a b st h, zz_Y 82 (21, ls, .int b :: .int a :: st, h) = if a < b then zz_Y 82 (24, ls, st, h) else zz_Y 82 (48, ls, st, h)) ∧ (∀ l1 l2 l3 x st h, zz_Y 82 (24, [some (.int x), l1, l2, l3], st, h) = zz_Y 82 (25, [some (.int x), l1, l2, l3], .int x :: st, h)) ∧ (∀ l0 l1 l2 x st h, zz_Y 82 (25, [l0, l1, l2, some (.int x)], st, h) = zz_Y 82 (26, [l0, l1, l2, some (.int x)], .int x :: st, h)) ∧ (∀ ls a0 a1 h, zz_Y 82 (26, ls, [a1, a0], h) = mo_k 82 29 ls [] (zz_run 50 [a0, a1] h)) ∧ (∀ ls a st h, zz_Y 82 (29, ls, .int a :: st, h) = if a = nI 0 then zz_Y 82 (42, ls, st, h) else zz_Y 82 (32, ls, st, h)) ∧ (∀ l0 l1 l3 x st h, zz_Y 82 (32, [l0, l1, some (.int x), l3], st, h) = zz_Y 82 (33, [l0, l1, some (.int x), l3], .int x :: st, h)) ∧ (∀ l0 l2 l3 x st h, zz_Y 82 (33, [l0, some (.int x), l2, l3], st, h) = zz_Y 82 (34, [l0, some (.int x), l2, l3], .int x :: st, h)) ∧ (∀ ls a b st h, zz_Y 82 (34, ls, .int b :: .int a :: st, h) = if a = b then zz_Y 82 (37, ls, st, h) else zz_Y 82 (39, ls, st, h)) ∧ (∀ l0 l1 l2 x st h, zz_Y 82 (37, [l0, l1, l2, some (.int x)], st, h) = zz_Y 82 (38, [l0, l1, l2, some (.int x)], .int x :: st, h)) ∧ (∀ ls v h, zz_Y 82 (38, ls, [.int v], h) = some (some (.int v), h)) ∧ (∀ l0 l1 l3 x st h, zz_nl l1 = true → zz_Y 82 (39, [l0, l1, some (.int x), l3], st, h) = zz_Y 82 (42, [l0, l1, some (.int (x + nI 1)), l3], st, h)) ∧ (∀ l0 l1 l2 x st h, zz_nl l2 = true → zz_Y 82 (42, [l0, l1, l2, some (.int x)], st, h) = zz_Y 82 (45, [l0, l1, l2, some (.int (x + nI 1))], st, h)) ∧ (∀ ls st h, zz_Y 82 (45, ls, st, h) = zz_Y 82 (18, ls, st, h)) ∧ (∀ ls st h, zz_Y 82 (48, ls, st, h) = zz_Y 82 (49, ls, .int (-1) :: st, h)) ∧ (∀ ls v h, zz_Y 82 (49, ls, [.int v], h) = some (some (.int v), h)) :=
  ⟨fun _ _ _ _ _ _ => xl_iln d82_0 rfl,
   fun _ _ _ _ => xl_iflt d82_1 rfl,
   fun _ _ _ _ _ _ => xl_iln d82_4 rfl,
   fun _ _ _ _ _ _ => xl_iln d82_5 rfl,
   fun ls a0 s0 h => xl_cs (As := [a0]) (st := [s0]) d82_6 xco82 xm_10_239 xnp64 (by decide +kernel) rfl,
   fun _ _ _ _ _ => xl_iclt d82_9 rfl,
   fun _ _ _ => xl_ic d82_12 (by decide +kernel),
   fun _ _ _ => xl_iri d82_13 xrt82,
   fun _ _ _ => xl_ic d82_14 (by decide +kernel),
   fun _ _ _ _ _ _ _ hc => xl_isn d82_15 xml82 (by decide) (zz_nl_s1 hc),
   fun _ _ _ => xl_ic d82_16 (by decide +kernel),
   fun _ _ _ _ _ _ _ hc => xl_isn d82_17 xml82 (by decide) (zz_nl_s1 hc),
   fun _ _ _ => xl_bi d82_19 (by decide +kernel),
   fun _ _ _ _ _ => xl_icge d82_21 rfl,
   fun _ _ _ _ _ _ => xl_iln d82_24 rfl,
   fun _ _ _ _ _ _ => xl_iln d82_25 rfl,
   fun ls a0 a1 h => xl_cs (As := [a0, a1]) (st := []) d82_26 xco82 xm_10_176 xnp50 (by decide +kernel) rfl,
   fun _ _ _ _ => xl_ifeq d82_29 rfl,
   fun _ _ _ _ _ _ => xl_iln d82_32 rfl,
   fun _ _ _ _ _ _ => xl_iln d82_33 rfl,
   fun _ _ _ _ _ => xl_icne d82_34 rfl,
   fun _ _ _ _ _ _ => xl_iln d82_37 rfl,
   fun _ _ _ => xl_iri d82_38 xrt82,
   fun _ _ _ _ _ _ hc => xl_inc d82_39 xml82 (by decide) rfl (by decide +kernel) (zz_nl_s1 hc),
   fun _ _ _ _ _ _ hc => xl_inc d82_42 xml82 (by decide) rfl (by decide +kernel) (zz_nl_s1 hc),
   fun _ _ _ => xl_goto d82_45 rfl,
   fun _ _ _ => xl_ic d82_48 (by decide +kernel),
   fun _ _ _ => xl_iri d82_49 xrt82⟩
theorem x82_c18 : ∀ l0 l1 l2 x st h, zz_Y 82 (18, [l0, l1, l2, some (.int x)], st, h) = zz_Y 82 (19, [l0, l1, l2, some (.int x)], .int x :: st, h) := fun _ _ _ _ _ _ => xl_iln d82_18 rfl
/-! 83 FacetSieve.fault(I)I -/
theorem d83_0 : decode (zz_c 83) 0 = .ok (.iload_n 1, 1) := by decide +kernel
theorem d83_1 : decode (zz_c 83) 1 = .ok (.lookupswitch 43 #[(0, 27), (1, 35)], 27) := by decide +kernel
theorem d83_28 : decode (zz_c 83) 28 = .ok (.aload_n 0, 1) := by decide +kernel
theorem d83_29 : decode (zz_c 83) 29 = .ok (.getfield 12, 3) := by decide +kernel
theorem d83_32 : decode (zz_c 83) 32 = .ok (.getfield 141, 3) := by decide +kernel
theorem d83_35 : decode (zz_c 83) 35 = .ok (.ireturn, 1) := by decide +kernel
theorem d83_36 : decode (zz_c 83) 36 = .ok (.aload_n 0, 1) := by decide +kernel
theorem d83_37 : decode (zz_c 83) 37 = .ok (.getfield 12, 3) := by decide +kernel
theorem d83_40 : decode (zz_c 83) 40 = .ok (.getfield 144, 3) := by decide +kernel
theorem d83_43 : decode (zz_c 83) 43 = .ok (.ireturn, 1) := by decide +kernel
theorem d83_44 : decode (zz_c 83) 44 = .ok (.iconst (-1), 1) := by decide +kernel
theorem d83_45 : decode (zz_c 83) 45 = .ok (.ireturn, 1) := by decide +kernel
theorem x83 : (∀ l0 x st h, zz_Y 83 (0, [l0, some (.int x)], st, h) = zz_Y 83 (1, [l0, some (.int x)], .int x :: st, h)) ∧ (∀ ls x st h, zz_Y 83 (1, ls, .int x :: st, h) = zz_Y 83 (zz_sw [(nI 0, 28), (nI 1, 36)] 44 x, ls, st, h)) ∧ (∀ l1 x st h, zz_Y 83 (28, [some (.ref x), l1], st, h) = zz_Y 83 (29, [some (.ref x), l1], .ref x :: st, h)) ∧ (∀ ls a st h, zz_Y 83 (29, ls, .ref a :: st, h) = mo_gf (hp_g h a) 10 0 83 32 ls st h) ∧ (∀ ls a st h, zz_Y 83 (32, ls, .ref a :: st, h) = mo_gf (hp_g h a) 1 3 83 35 ls st h) ∧ (∀ ls v h, zz_Y 83 (35, ls, [.int v], h) = some (some (.int v), h)) ∧ (∀ l1 x st h, zz_Y 83 (36, [some (.ref x), l1], st, h) = zz_Y 83 (37, [some (.ref x), l1], .ref x :: st, h)) ∧ (∀ ls a st h, zz_Y 83 (37, ls, .ref a :: st, h) = mo_gf (hp_g h a) 10 0 83 40 ls st h) ∧ (∀ ls a st h, zz_Y 83 (40, ls, .ref a :: st, h) = mo_gf (hp_g h a) 1 4 83 43 ls st h) ∧ (∀ ls v h, zz_Y 83 (43, ls, [.int v], h) = some (some (.int v), h)) ∧ (∀ ls st h, zz_Y 83 (44, ls, st, h) = zz_Y 83 (45, ls, .int (-1) :: st, h)) ∧ (∀ ls v h, zz_Y 83 (45, ls, [.int v], h) = some (some (.int v), h)) :=
  ⟨fun _ _ _ _ => xl_iln d83_0 rfl,
   fun _ _ _ _ => xl_lks (qs := [(nI 0, 28), (nI 1, 36)]) d83_1 (by decide +kernel) rfl (by decide +kernel),
   fun _ _ _ _ => xl_aln d83_28 rfl,
   fun _ _ _ _ => xl_gf d83_29 xco83 xf_10_12,
   fun _ _ _ _ => xl_gf d83_32 xco83 xf_10_141,
   fun _ _ _ => xl_iri d83_35 xrt83,
   fun _ _ _ _ => xl_aln d83_36 rfl,
   fun _ _ _ _ => xl_gf d83_37 xco83 xf_10_12,
   fun _ _ _ _ => xl_gf d83_40 xco83 xf_10_144,
   fun _ _ _ => xl_iri d83_43 xrt83,
   fun _ _ _ => xl_ic d83_44 (by decide +kernel),
   fun _ _ _ => xl_iri d83_45 xrt83⟩
/-! 84 FacetSieve.add(II)I -/
theorem d84_0 : decode (zz_c 84) 0 = .ok (.iload_n 1, 1) := by decide +kernel
theorem d84_1 : decode (zz_c 84) 1 = .ok (.invokestatic 147, 3) := by decide +kernel
theorem d84_4 : decode (zz_c 84) 4 = .ok (.ifCond .eq 10, 3) := by decide +kernel
theorem d84_7 : decode (zz_c 84) 7 = .ok (.iload_n 2, 1) := by decide +kernel
theorem d84_8 : decode (zz_c 84) 8 = .ok (.invokestatic 150, 3) := by decide +kernel
theorem d84_11 : decode (zz_c 84) 11 = .ok (.ifCond .ne 9, 3) := by decide +kernel
theorem d84_14 : decode (zz_c 84) 14 = .ok (.aload_n 0, 1) := by decide +kernel
theorem d84_15 : decode (zz_c 84) 15 = .ok (.iconst 1, 1) := by decide +kernel
theorem d84_16 : decode (zz_c 84) 16 = .ok (.invokevirtual 153, 3) := by decide +kernel
theorem d84_19 : decode (zz_c 84) 19 = .ok (.ireturn, 1) := by decide +kernel
theorem d84_20 : decode (zz_c 84) 20 = .ok (.aload_n 0, 1) := by decide +kernel
theorem d84_21 : decode (zz_c 84) 21 = .ok (.getfield 12, 3) := by decide +kernel
theorem d84_24 : decode (zz_c 84) 24 = .ok (.getfield 79, 3) := by decide +kernel
theorem d84_27 : decode (zz_c 84) 27 = .ok (.iload_n 1, 1) := by decide +kernel
theorem d84_28 : decode (zz_c 84) 28 = .ok (.invokevirtual 156, 3) := by decide +kernel
theorem d84_31 : decode (zz_c 84) 31 = .ok (.ifCond .eq 9, 3) := by decide +kernel
theorem d84_34 : decode (zz_c 84) 34 = .ok (.aload_n 0, 1) := by decide +kernel
theorem d84_35 : decode (zz_c 84) 35 = .ok (.iconst 2, 1) := by decide +kernel
theorem d84_36 : decode (zz_c 84) 36 = .ok (.invokevirtual 153, 3) := by decide +kernel
theorem d84_39 : decode (zz_c 84) 39 = .ok (.ireturn, 1) := by decide +kernel
theorem d84_40 : decode (zz_c 84) 40 = .ok (.aload_n 0, 1) := by decide +kernel
theorem d84_41 : decode (zz_c 84) 41 = .ok (.iload_n 1, 1) := by decide +kernel
theorem d84_42 : decode (zz_c 84) 42 = .ok (.iload_n 2, 1) := by decide +kernel
theorem d84_43 : decode (zz_c 84) 43 = .ok (.iconst 0, 1) := by decide +kernel
theorem d84_44 : decode (zz_c 84) 44 = .ok (.invokevirtual 159, 3) := by decide +kernel
theorem d84_47 : decode (zz_c 84) 47 = .ok (.ireturn, 1) := by decide +kernel
theorem x84 : (∀ l0 l2 x st h, zz_Y 84 (0, [l0, some (.int x), l2], st, h) = zz_Y 84 (1, [l0, some (.int x), l2], .int x :: st, h)) ∧ (∀ ls a0 h, zz_Y 84 (1, ls, [a0], h) = mo_k 84 4 ls [] (zz_run 48 [a0] h)) ∧ (∀ ls a st h, zz_Y 84 (4, ls, .int a :: st, h) = if a = nI 0 then zz_Y 84 (14, ls, st, h) else zz_Y 84 (7, ls, st, h)) ∧ (∀ l0 l1 x st h, zz_Y 84 (7, [l0, l1, some (.int x)], st, h) = zz_Y 84 (8, [l0, l1, some (.int x)], .int x :: st, h)) ∧ (∀ ls a0 h, zz_Y 84 (8, ls, [a0], h) = mo_k 84 11 ls [] (zz_run 85 [a0] h)) ∧ (∀ ls a st h, zz_Y 84 (11, ls, .int a :: st, h) = if a = nI 0 then zz_Y 84 (14, ls, st, h) else zz_Y 84 (20, ls, st, h)) ∧ (∀ l1 l2 x st h, zz_Y 84 (14, [some (.ref x), l1, l2], st, h) = zz_Y 84 (15, [some (.ref x), l1, l2], .ref x :: st, h)) ∧ (∀ ls st h, zz_Y 84 (15, ls, st, h) = zz_Y 84 (16, ls, .int (nI 1) :: st, h)) ∧ (∀ ls a0 a1 h, zz_Y 84 (16, ls, [a1, a0], h) = mo_k 84 19 ls [] (zz_run 86 [a0, a1] h)) ∧ (∀ ls v h, zz_Y 84 (19, ls, [.int v], h) = some (some (.int v), h)) ∧ (∀ l1 l2 x st h, zz_Y 84 (20, [some (.ref x), l1, l2], st, h) = zz_Y 84 (21, [some (.ref x), l1, l2], .ref x :: st, h)) ∧ (∀ ls a st h, zz_Y 84 (21, ls, .ref a :: st, h) = mo_gf (hp_g h a) 10 0 84 24 ls st h) ∧ (∀ ls a st h, zz_Y 84 (24, ls, .ref a :: st, h) = mo_gf (hp_g h a) 1 1 84 27 ls st h) ∧ (∀ l0 l2 x st h, zz_Y 84 (27, [l0, some (.int x), l2], st, h) = zz_Y 84 (28, [l0, some (.int x), l2], .int x :: st, h)) ∧ (∀ ls a0 a1 h, zz_Y 84 (28, ls, [a1, a0], h) = mo_k 84 31 ls [] (zz_run 47 [a0, a1] h)) ∧ (∀ ls a st h, zz_Y 84 (31, ls, .int a :: st, h) = if a = nI 0 then zz_Y 84 (40, ls, st, h) else zz_Y 84 (34, ls, st, h)) ∧ (∀ l1 l2 x st h, zz_Y 84 (34, [some (.ref x), l1, l2], st, h) = zz_Y 84 (35, [some (.ref x), l1, l2], .ref x :: st, h)) ∧ (∀ ls st h, zz_Y 84 (35, ls, st, h) = zz_Y 84 (36, ls, .int (nI 2) :: st, h)) ∧ (∀ ls a0 a1 h, zz_Y 84 (36, ls, [a1, a0], h) = mo_k 84 39 ls [] (zz_run 86 [a0, a1] h)) ∧ (∀ ls v h, zz_Y 84 (39, ls, [.int v], h) = some (some (.int v), h)) ∧ (∀ l1 l2 x st h, zz_Y 84 (40, [some (.ref x), l1, l2], st, h) = zz_Y 84 (41, [some (.ref x), l1, l2], .ref x :: st, h)) ∧ (∀ l0 l2 x st h, zz_Y 84 (41, [l0, some (.int x), l2], st, h) = zz_Y 84 (42, [l0, some (.int x), l2], .int x :: st, h)) ∧ (∀ l0 l1 x st h, zz_Y 84 (42, [l0, l1, some (.int x)], st, h) = zz_Y 84 (43, [l0, l1, some (.int x)], .int x :: st, h)) ∧ (∀ ls st h, zz_Y 84 (43, ls, st, h) = zz_Y 84 (44, ls, .int (nI 0) :: st, h)) ∧ (∀ ls a0 a1 a2 a3 h, zz_Y 84 (44, ls, [a3, a2, a1, a0], h) = mo_k 84 47 ls [] (zz_run 88 [a0, a1, a2, a3] h)) ∧ (∀ ls v h, zz_Y 84 (47, ls, [.int v], h) = some (some (.int v), h)) :=
  ⟨fun _ _ _ _ _ => xl_iln d84_0 rfl,
   fun ls a0 h => xl_cs (As := [a0]) (st := []) d84_1 xco84 xm_10_147 xnp48 (by decide +kernel) rfl,
   fun _ _ _ _ => xl_ifeq d84_4 rfl,
   fun _ _ _ _ _ => xl_iln d84_7 rfl,
   fun ls a0 h => xl_cs (As := [a0]) (st := []) d84_8 xco84 xm_10_150 xnp85 (by decide +kernel) rfl,
   fun _ _ _ _ => xl_ifne d84_11 rfl,
   fun _ _ _ _ _ => xl_aln d84_14 rfl,
   fun _ _ _ => xl_ic d84_15 (by decide +kernel),
   fun ls a0 a1 h => xl_cv (As := [a0, a1]) (st := []) d84_16 xco84 xm_10_153 (congrArg Nat.succ xnp86) (by decide +kernel) rfl,
   fun _ _ _ => xl_iri d84_19 xrt84,
   fun _ _ _ _ _ => xl_aln d84_20 rfl,
   fun _ _ _ _ => xl_gf d84_21 xco84 xf_10_12,
   fun _ _ _ _ => xl_gf d84_24 xco84 xf_10_79,
   fun _ _ _ _ _ => xl_iln d84_27 rfl,
   fun ls a0 a1 h => xl_cv (As := [a0, a1]) (st := []) d84_28 xco84 xm_10_156 (congrArg Nat.succ xnp47) (by decide +kernel) rfl,
   fun _ _ _ _ => xl_ifeq d84_31 rfl,
   fun _ _ _ _ _ => xl_aln d84_34 rfl,
   fun _ _ _ => xl_ic d84_35 (by decide +kernel),
   fun ls a0 a1 h => xl_cv (As := [a0, a1]) (st := []) d84_36 xco84 xm_10_153 (congrArg Nat.succ xnp86) (by decide +kernel) rfl,
   fun _ _ _ => xl_iri d84_39 xrt84,
   fun _ _ _ _ _ => xl_aln d84_40 rfl,
   fun _ _ _ _ _ => xl_iln d84_41 rfl,
   fun _ _ _ _ _ => xl_iln d84_42 rfl,
   fun _ _ _ => xl_ic d84_43 (by decide +kernel),
   fun ls a0 a1 a2 a3 h => xl_cv (As := [a0, a1, a2, a3]) (st := []) d84_44 xco84 xm_10_159 (congrArg Nat.succ xnp88) (by decide +kernel) rfl,
   fun _ _ _ => xl_iri d84_47 xrt84⟩
/-! 85 FacetSieve.isRank(I)Z -/
theorem d85_0 : decode (zz_c 85) 0 = .ok (.iload_n 0, 1) := by decide +kernel
theorem d85_1 : decode (zz_c 85) 1 = .ok (.ifCond .lt 14, 3) := by decide +kernel
theorem d85_4 : decode (zz_c 85) 4 = .ok (.iload_n 0, 1) := by decide +kernel
theorem d85_5 : decode (zz_c 85) 5 = .ok (.sipush 999, 3) := by decide +kernel
theorem d85_8 : decode (zz_c 85) 8 = .ok (.if_icmp .gt 7, 3) := by decide +kernel
theorem d85_11 : decode (zz_c 85) 11 = .ok (.iconst 1, 1) := by decide +kernel
theorem d85_12 : decode (zz_c 85) 12 = .ok (.goto 4, 3) := by decide +kernel
theorem d85_15 : decode (zz_c 85) 15 = .ok (.iconst 0, 1) := by decide +kernel
theorem d85_16 : decode (zz_c 85) 16 = .ok (.ireturn, 1) := by decide +kernel
theorem x85 : (∀ x st h, zz_Y 85 (0, [some (.int x)], st, h) = zz_Y 85 (1, [some (.int x)], .int x :: st, h)) ∧ (∀ ls a st h, zz_Y 85 (1, ls, .int a :: st, h) = if a < nI 0 then zz_Y 85 (15, ls, st, h) else zz_Y 85 (4, ls, st, h)) ∧ (∀ x st h, zz_Y 85 (4, [some (.int x)], st, h) = zz_Y 85 (5, [some (.int x)], .int x :: st, h)) ∧ (∀ ls st h, zz_Y 85 (5, ls, st, h) = zz_Y 85 (8, ls, .int (nI 999) :: st, h)) ∧ (∀ ls a b st h, zz_Y 85 (8, ls, .int b :: .int a :: st, h) = if b < a then zz_Y 85 (15, ls, st, h) else zz_Y 85 (11, ls, st, h)) ∧ (∀ ls st h, zz_Y 85 (11, ls, st, h) = zz_Y 85 (12, ls, .int (nI 1) :: st, h)) ∧ (∀ ls st h, zz_Y 85 (12, ls, st, h) = zz_Y 85 (16, ls, st, h)) ∧ (∀ ls st h, zz_Y 85 (15, ls, st, h) = zz_Y 85 (16, ls, .int (nI 0) :: st, h)) ∧ (∀ ls v h, v = nI 0 ∨ v = nI 1 → zz_Y 85 (16, ls, [.int v], h) = some (some (.int v), h)) :=
  ⟨fun _ _ _ => xl_iln d85_0 rfl,
   fun _ _ _ _ => xl_iflt d85_1 rfl,
   fun _ _ _ => xl_iln d85_4 rfl,
   fun _ _ _ => xl_si d85_5 (by decide +kernel),
   fun _ _ _ _ _ => xl_icgt d85_8 rfl,
   fun _ _ _ => xl_ic d85_11 (by decide +kernel),
   fun _ _ _ => xl_goto d85_12 rfl,
   fun _ _ _ => xl_ic d85_15 (by decide +kernel),
   fun _ _ _ hc => xl_irz d85_16 xrt85 hc⟩
/-! 86 FacetSieve.refuse(I)I -/
theorem d86_0 : decode (zz_c 86) 0 = .ok (.aload_n 0, 1) := by decide +kernel
theorem d86_1 : decode (zz_c 86) 1 = .ok (.getfield 12, 3) := by decide +kernel
theorem d86_4 : decode (zz_c 86) 4 = .ok (.iload_n 1, 1) := by decide +kernel
theorem d86_5 : decode (zz_c 86) 5 = .ok (.iconst (-1), 1) := by decide +kernel
theorem d86_6 : decode (zz_c 86) 6 = .ok (.invokevirtual 183, 3) := by decide +kernel
theorem d86_9 : decode (zz_c 86) 9 = .ok (.ireturn, 1) := by decide +kernel
theorem x86 : (∀ l1 x st h, zz_Y 86 (0, [some (.ref x), l1], st, h) = zz_Y 86 (1, [some (.ref x), l1], .ref x :: st, h)) ∧ (∀ ls a st h, zz_Y 86 (1, ls, .ref a :: st, h) = mo_gf (hp_g h a) 10 0 86 4 ls st h) ∧ (∀ l0 x st h, zz_Y 86 (4, [l0, some (.int x)], st, h) = zz_Y 86 (5, [l0, some (.int x)], .int x :: st, h)) ∧ (∀ ls st h, zz_Y 86 (5, ls, st, h) = zz_Y 86 (6, ls, .int (-1) :: st, h)) ∧ (∀ ls a0 a1 a2 h, zz_Y 86 (6, ls, [a2, a1, a0], h) = mo_k 86 9 ls [] (zz_run 87 [a0, a1, a2] h)) ∧ (∀ ls v h, zz_Y 86 (9, ls, [.int v], h) = some (some (.int v), h)) :=
  ⟨fun _ _ _ _ => xl_aln d86_0 rfl,
   fun _ _ _ _ => xl_gf d86_1 xco86 xf_10_12,
   fun _ _ _ _ => xl_iln d86_4 rfl,
   fun _ _ _ => xl_ic d86_5 (by decide +kernel),
   fun ls a0 a1 a2 h => xl_cv (As := [a0, a1, a2]) (st := []) d86_6 xco86 xm_10_183 (congrArg Nat.succ xnp87) (by decide +kernel) rfl,
   fun _ _ _ => xl_iri d86_9 xrt86⟩
/-! 87 FacetSieve$Everything.noteRefusal(II)I -/
theorem d87_0 : decode (zz_c 87) 0 = .ok (.aload_n 0, 1) := by decide +kernel
theorem d87_1 : decode (zz_c 87) 1 = .ok (.iload_n 1, 1) := by decide +kernel
theorem d87_2 : decode (zz_c 87) 2 = .ok (.putfield 71, 3) := by decide +kernel
theorem d87_5 : decode (zz_c 87) 5 = .ok (.aload_n 0, 1) := by decide +kernel
theorem d87_6 : decode (zz_c 87) 6 = .ok (.iload_n 2, 1) := by decide +kernel
theorem d87_7 : decode (zz_c 87) 7 = .ok (.putfield 45, 3) := by decide +kernel
theorem d87_10 : decode (zz_c 87) 10 = .ok (.iload_n 1, 1) := by decide +kernel
theorem d87_11 : decode (zz_c 87) 11 = .ok (.ireturn, 1) := by decide +kernel
theorem x87 : (∀ l1 l2 x st h, zz_Y 87 (0, [some (.ref x), l1, l2], st, h) = zz_Y 87 (1, [some (.ref x), l1, l2], .ref x :: st, h)) ∧ (∀ l0 l2 x st h, zz_Y 87 (1, [l0, some (.int x), l2], st, h) = zz_Y 87 (2, [l0, some (.int x), l2], .int x :: st, h)) ∧ (∀ ls a v st h, zz_Y 87 (2, ls, v :: .ref a :: st, h) = mo_pf (hp_g h a) 1 8 .int v a 87 5 ls st h) ∧ (∀ l1 l2 x st h, zz_Y 87 (5, [some (.ref x), l1, l2], st, h) = zz_Y 87 (6, [some (.ref x), l1, l2], .ref x :: st, h)) ∧ (∀ l0 l1 x st h, zz_Y 87 (6, [l0, l1, some (.int x)], st, h) = zz_Y 87 (7, [l0, l1, some (.int x)], .int x :: st, h)) ∧ (∀ ls a v st h, zz_Y 87 (7, ls, v :: .ref a :: st, h) = mo_pf (hp_g h a) 1 9 .int v a 87 10 ls st h) ∧ (∀ l0 l2 x st h, zz_Y 87 (10, [l0, some (.int x), l2], st, h) = zz_Y 87 (11, [l0, some (.int x), l2], .int x :: st, h)) ∧ (∀ ls v h, zz_Y 87 (11, ls, [.int v], h) = some (some (.int v), h)) :=
  ⟨fun _ _ _ _ _ => xl_aln d87_0 rfl,
   fun _ _ _ _ _ => xl_iln d87_1 rfl,
   fun _ _ _ _ _ => xl_pf d87_2 xco87 xf_1_71 (by decide +kernel) rfl,
   fun _ _ _ _ _ => xl_aln d87_5 rfl,
   fun _ _ _ _ _ => xl_iln d87_6 rfl,
   fun _ _ _ _ _ => xl_pf d87_7 xco87 xf_1_45 (by decide +kernel) rfl,
   fun _ _ _ _ _ => xl_iln d87_10 rfl,
   fun _ _ _ => xl_iri d87_11 xrt87⟩
/-! 88 FacetSieve.changeRecord(III)I -/
theorem d88_0 : decode (zz_c 88) 0 = .ok (.aload_n 0, 1) := by decide +kernel
theorem d88_1 : decode (zz_c 88) 1 = .ok (.getfield 12, 3) := by decide +kernel
theorem d88_4 : decode (zz_c 88) 4 = .ok (.getfield 79, 3) := by decide +kernel
theorem d88_7 : decode (zz_c 88) 7 = .ok (.astore 4, 2) := by decide +kernel
theorem d88_9 : decode (zz_c 88) 9 = .ok (.aload_n 0, 1) := by decide +kernel
theorem d88_10 : decode (zz_c 88) 10 = .ok (.getfield 23, 3) := by decide +kernel
theorem d88_13 : decode (zz_c 88) 13 = .ok (.iconst 0, 1) := by decide +kernel
theorem d88_14 : decode (zz_c 88) 14 = .ok (.iload_n 1, 1) := by decide +kernel
theorem d88_15 : decode (zz_c 88) 15 = .ok (.aload 4, 2) := by decide +kernel
theorem d88_17 : decode (zz_c 88) 17 = .ok (.getfield 186, 3) := by decide +kernel
theorem d88_20 : decode (zz_c 88) 20 = .ok (.iload_n 1, 1) := by decide +kernel
theorem d88_21 : decode (zz_c 88) 21 = .ok (.iaload, 1) := by decide +kernel
theorem d88_22 : decode (zz_c 88) 22 = .ok (.aload 4, 2) := by decide +kernel
theorem d88_24 : decode (zz_c 88) 24 = .ok (.getfield 172, 3) := by decide +kernel
theorem d88_27 : decode (zz_c 88) 27 = .ok (.iload_n 1, 1) := by decide +kernel
theorem d88_28 : decode (zz_c 88) 28 = .ok (.iaload, 1) := by decide +kernel
theorem d88_29 : decode (zz_c 88) 29 = .ok (.invokevirtual 192, 3) := by decide +kernel
theorem d88_32 : decode (zz_c 88) 32 = .ok (.aload 4, 2) := by decide +kernel
theorem d88_34 : decode (zz_c 88) 34 = .ok (.iload_n 1, 1) := by decide +kernel
theorem d88_35 : decode (zz_c 88) 35 = .ok (.iload_n 2, 1) := by decide +kernel
theorem d88_36 : decode (zz_c 88) 36 = .ok (.iload_n 3, 1) := by decide +kernel
theorem d88_37 : decode (zz_c 88) 37 = .ok (.invokevirtual 338, 3) := by decide +kernel
theorem d88_40 : decode (zz_c 88) 40 = .ok (.aload_n 0, 1) := by decide +kernel
theorem d88_41 : decode (zz_c 88) 41 = .ok (.invokevirtual 196, 3) := by decide +kernel
theorem d88_44 : decode (zz_c 88) 44 = .ok (.ireturn, 1) := by decide +kernel
theorem x88 : (∀ l1 l2 l3 l4 x st h, zz_Y 88 (0, [some (.ref x), l1, l2, l3, l4], st, h) = zz_Y 88 (1, [some (.ref x), l1, l2, l3, l4], .ref x :: st, h)) ∧ (∀ ls a st h, zz_Y 88 (1, ls, .ref a :: st, h) = mo_gf (hp_g h a) 10 0 88 4 ls st h) ∧ (∀ ls a st h, zz_Y 88 (4, ls, .ref a :: st, h) = mo_gf (hp_g h a) 1 1 88 7 ls st h) ∧ (∀ l0 l1 l2 l3 l4 x st h, zz_nl l3 = true → zz_Y 88 (7, [l0, l1, l2, l3, l4], .ref x :: st, h) = zz_Y 88 (9, [l0, l1, l2, l3, some (.ref x)], st, h)) ∧ (∀ l1 l2 l3 l4 x st h, zz_Y 88 (9, [some (.ref x), l1, l2, l3, l4], st, h) = zz_Y 88 (10, [some (.ref x), l1, l2, l3, l4], .ref x :: st, h)) ∧ (∀ ls a st h, zz_Y 88 (10, ls, .ref a :: st, h) = mo_gf (hp_g h a) 10 2 88 13 ls st h) ∧ (∀ ls st h, zz_Y 88 (13, ls, st, h) = zz_Y 88 (14, ls, .int (nI 0) :: st, h)) ∧ (∀ l0 l2 l3 l4 x st h, zz_Y 88 (14, [l0, some (.int x), l2, l3, l4], st, h) = zz_Y 88 (15, [l0, some (.int x), l2, l3, l4], .int x :: st, h)) ∧ (∀ l0 l1 l2 l3 x st h, zz_Y 88 (15, [l0, l1, l2, l3, some (.ref x)], st, h) = zz_Y 88 (17, [l0, l1, l2, l3, some (.ref x)], .ref x :: st, h)) ∧ (∀ ls a st h, zz_Y 88 (17, ls, .ref a :: st, h) = mo_gf (hp_g h a) 7 1 88 20 ls st h) ∧ (∀ l0 l2 l3 l4 x st h, zz_Y 88 (20, [l0, some (.int x), l2, l3, l4], st, h) = zz_Y 88 (21, [l0, some (.int x), l2, l3, l4], .int x :: st, h)) ∧ (∀ ls a i st h, zz_Y 88 (21, ls, .int i :: .ref a :: st, h) = mo_ia (hp_g h a) i a 88 22 ls st h) ∧ (∀ l0 l1 l2 l3 x st h, zz_Y 88 (22, [l0, l1, l2, l3, some (.ref x)], st, h) = zz_Y 88 (24, [l0, l1, l2, l3, some (.ref x)], .ref x :: st, h)) ∧ (∀ ls a st h, zz_Y 88 (24, ls, .ref a :: st, h) = mo_gf (hp_g h a) 7 2 88 27 ls st h) ∧ (∀ l0 l2 l3 l4 x st h, zz_Y 88 (27, [l0, some (.int x), l2, l3, l4], st, h) = zz_Y 88 (28, [l0, some (.int x), l2, l3, l4], .int x :: st, h)) ∧ (∀ ls a i st h, zz_Y 88 (28, ls, .int i :: .ref a :: st, h) = mo_ia (hp_g h a) i a 88 29 ls st h) ∧ (∀ ls a0 a1 a2 a3 a4 h, zz_Y 88 (29, ls, [a4, a3, a2, a1, a0], h) = mo_k 88 32 ls [] (zz_run 89 [a0, a1, a2, a3, a4] h)) ∧ (∀ l0 l1 l2 l3 x st h, zz_Y 88 (32, [l0, l1, l2, l3, some (.ref x)], st, h) = zz_Y 88 (34, [l0, l1, l2, l3, some (.ref x)], .ref x :: st, h)) ∧ (∀ l0 l2 l3 l4 x st h, zz_Y 88 (34, [l0, some (.int x), l2, l3, l4], st, h) = zz_Y 88 (35, [l0, some (.int x), l2, l3, l4], .int x :: st, h)) ∧ (∀ l0 l1 l3 l4 x st h, zz_Y 88 (35, [l0, l1, some (.int x), l3, l4], st, h) = zz_Y 88 (36, [l0, l1, some (.int x), l3, l4], .int x :: st, h)) ∧ (∀ l0 l1 l2 l4 x st h, zz_Y 88 (36, [l0, l1, l2, some (.int x), l4], st, h) = zz_Y 88 (37, [l0, l1, l2, some (.int x), l4], .int x :: st, h)) ∧ (∀ ls a0 a1 a2 a3 h, zz_Y 88 (37, ls, [a3, a2, a1, a0], h) = mo_k 88 40 ls [] (zz_run 52 [a0, a1, a2, a3] h)) ∧ (∀ l1 l2 l3 l4 x st h, zz_Y 88 (40, [some (.ref x), l1, l2, l3, l4], st, h) = zz_Y 88 (41, [some (.ref x), l1, l2, l3, l4], .ref x :: st, h)) ∧ (∀ ls a0 h, zz_Y 88 (41, ls, [a0], h) = mo_k 88 44 ls [] (zz_run 90 [a0] h)) ∧ (∀ ls v h, zz_Y 88 (44, ls, [.int v], h) = some (some (.int v), h)) :=
  ⟨fun _ _ _ _ _ _ _ => xl_aln d88_0 rfl,
   fun _ _ _ _ => xl_gf d88_1 xco88 xf_10_12,
   fun _ _ _ _ => xl_gf d88_4 xco88 xf_10_79,
   fun _ _ _ _ _ _ _ _ hc => xl_as d88_7 xml88 (by decide) (zz_nl_s1 hc),
   fun _ _ _ _ _ _ _ => xl_aln d88_9 rfl,
   fun _ _ _ _ => xl_gf d88_10 xco88 xf_10_23,
   fun _ _ _ => xl_ic d88_13 (by decide +kernel),
   fun _ _ _ _ _ _ _ => xl_iln d88_14 rfl,
   fun _ _ _ _ _ _ _ => xl_al d88_15 rfl,
   fun _ _ _ _ => xl_gf d88_17 xco88 xf_10_186,
   fun _ _ _ _ _ _ _ => xl_iln d88_20 rfl,
   fun _ _ _ _ _ => xl_ia d88_21,
   fun _ _ _ _ _ _ _ => xl_al d88_22 rfl,
   fun _ _ _ _ => xl_gf d88_24 xco88 xf_10_172,
   fun _ _ _ _ _ _ _ => xl_iln d88_27 rfl,
   fun _ _ _ _ _ => xl_ia d88_28,
   fun ls a0 a1 a2 a3 a4 h => xl_cv (As := [a0, a1, a2, a3, a4]) (st := []) d88_29 xco88 xm_10_192 (congrArg Nat.succ xnp89) (by decide +kernel) rfl,
   fun _ _ _ _ _ _ _ => xl_al d88_32 rfl,
   fun _ _ _ _ _ _ _ => xl_iln d88_34 rfl,
   fun _ _ _ _ _ _ _ => xl_iln d88_35 rfl,
   fun _ _ _ _ _ _ _ => xl_iln d88_36 rfl,
   fun ls a0 a1 a2 a3 h => xl_cv (As := [a0, a1, a2, a3]) (st := []) d88_37 xco88 xm_10_338 (congrArg Nat.succ xnp52) (by decide +kernel) rfl,
   fun _ _ _ _ _ _ _ => xl_aln d88_40 rfl,
   fun ls a0 h => xl_cv (As := [a0]) (st := []) d88_41 xco88 xm_10_196 (congrArg Nat.succ xnp90) (by decide +kernel) rfl,
   fun _ _ _ => xl_iri d88_44 xrt88⟩
/-! 89 FacetSieve$Journal.note(IIII)V -/
theorem d89_0 : decode (zz_c 89) 0 = .ok (.aload_n 0, 1) := by decide +kernel
theorem d89_1 : decode (zz_c 89) 1 = .ok (.getfield 9, 3) := by decide +kernel
theorem d89_4 : decode (zz_c 89) 4 = .ok (.aload_n 0, 1) := by decide +kernel
theorem d89_5 : decode (zz_c 89) 5 = .ok (.getfield 22, 3) := by decide +kernel
theorem d89_8 : decode (zz_c 89) 8 = .ok (.iload_n 1, 1) := by decide +kernel
theorem d89_9 : decode (zz_c 89) 9 = .ok (.iastore, 1) := by decide +kernel
theorem d89_10 : decode (zz_c 89) 10 = .ok (.aload_n 0, 1) := by decide +kernel
theorem d89_11 : decode (zz_c 89) 11 = .ok (.getfield 13, 3) := by decide +kernel
theorem d89_14 : decode (zz_c 89) 14 = .ok (.aload_n 0, 1) := by decide +kernel
theorem d89_15 : decode (zz_c 89) 15 = .ok (.getfield 22, 3) := by decide +kernel
theorem d89_18 : decode (zz_c 89) 18 = .ok (.iload_n 2, 1) := by decide +kernel
theorem d89_19 : decode (zz_c 89) 19 = .ok (.iastore, 1) := by decide +kernel
theorem d89_20 : decode (zz_c 89) 20 = .ok (.aload_n 0, 1) := by decide +kernel
theorem d89_21 : decode (zz_c 89) 21 = .ok (.getfield 16, 3) := by decide +kernel
theorem d89_24 : decode (zz_c 89) 24 = .ok (.aload_n 0, 1) := by decide +kernel
theorem d89_25 : decode (zz_c 89) 25 = .ok (.getfield 22, 3) := by decide +kernel
theorem d89_28 : decode (zz_c 89) 28 = .ok (.iload_n 3, 1) := by decide +kernel
theorem d89_29 : decode (zz_c 89) 29 = .ok (.iastore, 1) := by decide +kernel
theorem d89_30 : decode (zz_c 89) 30 = .ok (.aload_n 0, 1) := by decide +kernel
theorem d89_31 : decode (zz_c 89) 31 = .ok (.getfield 19, 3) := by decide +kernel
theorem d89_34 : decode (zz_c 89) 34 = .ok (.aload_n 0, 1) := by decide +kernel
theorem d89_35 : decode (zz_c 89) 35 = .ok (.getfield 22, 3) := by decide +kernel
theorem d89_38 : decode (zz_c 89) 38 = .ok (.iload 4, 2) := by decide +kernel
theorem d89_40 : decode (zz_c 89) 40 = .ok (.iastore, 1) := by decide +kernel
theorem d89_41 : decode (zz_c 89) 41 = .ok (.aload_n 0, 1) := by decide +kernel
theorem d89_42 : decode (zz_c 89) 42 = .ok (.aload_n 0, 1) := by decide +kernel
theorem d89_43 : decode (zz_c 89) 43 = .ok (.getfield 22, 3) := by decide +kernel
theorem d89_46 : decode (zz_c 89) 46 = .ok (.iconst 1, 1) := by decide +kernel
theorem d89_47 : decode (zz_c 89) 47 = .ok (.iadd, 1) := by decide +kernel
theorem d89_48 : decode (zz_c 89) 48 = .ok (.bipush 10, 2) := by decide +kernel
theorem d89_50 : decode (zz_c 89) 50 = .ok (.irem, 1) := by decide +kernel
theorem d89_51 : decode (zz_c 89) 51 = .ok (.putfield 22, 3) := by decide +kernel
theorem d89_54 : decode (zz_c 89) 54 = .ok (.aload_n 0, 1) := by decide +kernel
theorem d89_55 : decode (zz_c 89) 55 = .ok (.aload_n 0, 1) := by decide +kernel
theorem d89_56 : decode (zz_c 89) 56 = .ok (.getfield 26, 3) := by decide +kernel
theorem d89_59 : decode (zz_c 89) 59 = .ok (.iconst 1, 1) := by decide +kernel
theorem d89_60 : decode (zz_c 89) 60 = .ok (.iadd, 1) := by decide +kernel
theorem d89_61 : decode (zz_c 89) 61 = .ok (.bipush 10, 2) := by decide +kernel
theorem d89_63 : decode (zz_c 89) 63 = .ok (.invokestatic 29, 3) := by decide +kernel
theorem d89_66 : decode (zz_c 89) 66 = .ok (.putfield 26, 3) := by decide +kernel
theorem d89_69 : decode (zz_c 89) 69 = .ok (.return_, 1) := by decide +kernel
theorem x89 : (∀ l1 l2 l3 l4 x st h, zz_Y 89 (0, [some (.ref x), l1, l2, l3, l4], st, h) = zz_Y 89 (1, [some (.ref x), l1, l2, l3, l4], .ref x :: st, h)) ∧ (∀ ls a st h, zz_Y 89 (1, ls, .ref a :: st, h) = mo_gf (hp_g h a) 2 0 89 4 ls st h) ∧ (∀ l1 l2 l3 l4 x st h, zz_Y 89 (4, [some (.ref x), l1, l2, l3, l4], st, h) = zz_Y 89 (5, [some (.ref x), l1, l2, l3, l4], .ref x :: st, h)) ∧ (∀ ls a st h, zz_Y 89 (5, ls, .ref a :: st, h) = mo_gf (hp_g h a) 2 4 89 8 ls st h) ∧ (∀ l0 l2 l3 l4 x st h, zz_Y 89 (8, [l0, some (.int x), l2, l3, l4], st, h) = zz_Y 89 (9, [l0, some (.int x), l2, l3, l4], .int x :: st, h)) ∧ (∀ ls a i x st h, zz_Y 89 (9, ls, .int x :: .int i :: .ref a :: st, h) = mo_is (hp_g h a) x i a 89 10 ls st h) ∧ (∀ l1 l2 l3 l4 x st h, zz_Y 89 (10, [some (.ref x), l1, l2, l3, l4], st, h) = zz_Y 89 (11, [some (.ref x), l1, l2, l3, l4], .ref x :: st, h)) ∧ (∀ ls a st h, zz_Y 89 (11, ls, .ref a :: st, h) = mo_gf (hp_g h a) 2 1 89 14 ls st h) ∧ (∀ l1 l2 l3 l4 x st h, zz_Y 89 (14, [some (.ref x), l1, l2, l3, l4], st, h) = zz_Y 89 (15, [some (.ref x), l1, l2, l3, l4], .ref x :: st, h)) ∧ (∀ ls a st h, zz_Y 89 (15, ls, .ref a :: st, h) = mo_gf (hp_g h a) 2 4 89 18 ls st h) ∧ (∀ l0 l1 l3 l4 x st h, zz_Y 89 (18, [l0, l1, some (.int x), l3, l4], st, h) = zz_Y 89 (19, [l0, l1, some (.int x), l3, l4], .int x :: st, h)) ∧ (∀ ls a i x st h, zz_Y 89 (19, ls, .int x :: .int i :: .ref a :: st, h) = mo_is (hp_g h a) x i a 89 20 ls st h) ∧ (∀ l1 l2 l3 l4 x st h, zz_Y 89 (20, [some (.ref x), l1, l2, l3, l4], st, h) = zz_Y 89 (21, [some (.ref x), l1, l2, l3, l4], .ref x :: st, h)) ∧ (∀ ls a st h, zz_Y 89 (21, ls, .ref a :: st, h) = mo_gf (hp_g h a) 2 2 89 24 ls st h) ∧ (∀ l1 l2 l3 l4 x st h, zz_Y 89 (24, [some (.ref x), l1, l2, l3, l4], st, h) = zz_Y 89 (25, [some (.ref x), l1, l2, l3, l4], .ref x :: st, h)) ∧ (∀ ls a st h, zz_Y 89 (25, ls, .ref a :: st, h) = mo_gf (hp_g h a) 2 4 89 28 ls st h) ∧ (∀ l0 l1 l2 l4 x st h, zz_Y 89 (28, [l0, l1, l2, some (.int x), l4], st, h) = zz_Y 89 (29, [l0, l1, l2, some (.int x), l4], .int x :: st, h)) ∧ (∀ ls a i x st h, zz_Y 89 (29, ls, .int x :: .int i :: .ref a :: st, h) = mo_is (hp_g h a) x i a 89 30 ls st h) ∧ (∀ l1 l2 l3 l4 x st h, zz_Y 89 (30, [some (.ref x), l1, l2, l3, l4], st, h) = zz_Y 89 (31, [some (.ref x), l1, l2, l3, l4], .ref x :: st, h)) ∧ (∀ ls a st h, zz_Y 89 (31, ls, .ref a :: st, h) = mo_gf (hp_g h a) 2 3 89 34 ls st h) ∧ (∀ l1 l2 l3 l4 x st h, zz_Y 89 (34, [some (.ref x), l1, l2, l3, l4], st, h) = zz_Y 89 (35, [some (.ref x), l1, l2, l3, l4], .ref x :: st, h)) ∧ (∀ ls a st h, zz_Y 89 (35, ls, .ref a :: st, h) = mo_gf (hp_g h a) 2 4 89 38 ls st h) ∧ (∀ l0 l1 l2 l3 x st h, zz_Y 89 (38, [l0, l1, l2, l3, some (.int x)], st, h) = zz_Y 89 (40, [l0, l1, l2, l3, some (.int x)], .int x :: st, h)) ∧ (∀ ls a i x st h, zz_Y 89 (40, ls, .int x :: .int i :: .ref a :: st, h) = mo_is (hp_g h a) x i a 89 41 ls st h) ∧ (∀ l1 l2 l3 l4 x st h, zz_Y 89 (41, [some (.ref x), l1, l2, l3, l4], st, h) = zz_Y 89 (42, [some (.ref x), l1, l2, l3, l4], .ref x :: st, h)) ∧ (∀ l1 l2 l3 l4 x st h, zz_Y 89 (42, [some (.ref x), l1, l2, l3, l4], st, h) = zz_Y 89 (43, [some (.ref x), l1, l2, l3, l4], .ref x :: st, h)) ∧ (∀ ls a st h, zz_Y 89 (43, ls, .ref a :: st, h) = mo_gf (hp_g h a) 2 4 89 46 ls st h) ∧ (∀ ls st h, zz_Y 89 (46, ls, st, h) = zz_Y 89 (47, ls, .int (nI 1) :: st, h)) ∧ (∀ ls a b st h, zz_Y 89 (47, ls, .int b :: .int a :: st, h) = zz_Y 89 (48, ls, .int (a + b) :: st, h)) ∧ (∀ ls st h, zz_Y 89 (48, ls, st, h) = zz_Y 89 (50, ls, .int (nI 10) :: st, h)) ∧ (∀ ls a b st h, ¬ b = 0 → zz_Y 89 (50, ls, .int b :: .int a :: st, h) = zz_Y 89 (51, ls, .int (a - a / b * b) :: st, h)) ∧ (∀ ls a v st h, zz_Y 89 (51, ls, v :: .ref a :: st, h) = mo_pf (hp_g h a) 2 4 .int v a 89 54 ls st h) ∧ (∀ l1 l2 l3 l4 x st h, zz_Y 89 (54, [some (.ref x), l1, l2, l3, l4], st, h) = zz_Y 89 (55, [some (.ref x), l1, l2, l3, l4], .ref x :: st, h)) ∧ (∀ l1 l2 l3 l4 x st h, zz_Y 89 (55, [some (.ref x), l1, l2, l3, l4], st, h) = zz_Y 89 (56, [some (.ref x), l1, l2, l3, l4], .ref x :: st, h)) ∧ (∀ ls a st h, zz_Y 89 (56, ls, .ref a :: st, h) = mo_gf (hp_g h a) 2 5 89 59 ls st h) ∧ (∀ ls st h, zz_Y 89 (59, ls, st, h) = zz_Y 89 (60, ls, .int (nI 1) :: st, h)) ∧ (∀ ls a b st h, zz_Y 89 (60, ls, .int b :: .int a :: st, h) = zz_Y 89 (61, ls, .int (a + b) :: st, h)) ∧ (∀ ls st h, zz_Y 89 (61, ls, st, h) = zz_Y 89 (63, ls, .int (nI 10) :: st, h)) ∧ (∀ ls a b s0 h, zz_Y 89 (63, ls, [.int b, .int a, s0], h) = zz_Y 89 (66, ls, [.int (if b < a then b else a), s0], h)) ∧ (∀ ls a v st h, zz_Y 89 (66, ls, v :: .ref a :: st, h) = mo_pf (hp_g h a) 2 5 .int v a 89 69 ls st h) ∧ (∀ ls h, zz_Y 89 (69, ls, [], h) = some (none, h)) :=
  ⟨fun _ _ _ _ _ _ _ => xl_aln d89_0 rfl,
   fun _ _ _ _ => xl_gf d89_1 xco89 xf_2_9,
   fun _ _ _ _ _ _ _ => xl_aln d89_4 rfl,
   fun _ _ _ _ => xl_gf d89_5 xco89 xf_2_22,
   fun _ _ _ _ _ _ _ => xl_iln d89_8 rfl,
   fun _ _ _ _ _ _ => xl_ist d89_9,
   fun _ _ _ _ _ _ _ => xl_aln d89_10 rfl,
   fun _ _ _ _ => xl_gf d89_11 xco89 xf_2_13,
   fun _ _ _ _ _ _ _ => xl_aln d89_14 rfl,
   fun _ _ _ _ => xl_gf d89_15 xco89 xf_2_22,
   fun _ _ _ _ _ _ _ => xl_iln d89_18 rfl,
   fun _ _ _ _ _ _ => xl_ist d89_19,
   fun _ _ _ _ _ _ _ => xl_aln d89_20 rfl,
   fun _ _ _ _ => xl_gf d89_21 xco89 xf_2_16,
   fun _ _ _ _ _ _ _ => xl_aln d89_24 rfl,
   fun _ _ _ _ => xl_gf d89_25 xco89 xf_2_22,
   fun _ _ _ _ _ _ _ => xl_iln d89_28 rfl,
   fun _ _ _ _ _ _ => xl_ist d89_29,
   fun _ _ _ _ _ _ _ => xl_aln d89_30 rfl,
   fun _ _ _ _ => xl_gf d89_31 xco89 xf_2_19,
   fun _ _ _ _ _ _ _ => xl_aln d89_34 rfl,
   fun _ _ _ _ => xl_gf d89_35 xco89 xf_2_22,
   fun _ _ _ _ _ _ _ => xl_il d89_38 rfl,
   fun _ _ _ _ _ _ => xl_ist d89_40,
   fun _ _ _ _ _ _ _ => xl_aln d89_41 rfl,
   fun _ _ _ _ _ _ _ => xl_aln d89_42 rfl,
   fun _ _ _ _ => xl_gf d89_43 xco89 xf_2_22,
   fun _ _ _ => xl_ic d89_46 (by decide +kernel),
   fun _ _ _ _ _ => xl_iadd d89_47,
   fun _ _ _ => xl_bi d89_48 (by decide +kernel),
   fun _ _ _ _ _ hc => xl_irem d89_50 hc,
   fun _ _ _ _ _ => xl_pf d89_51 xco89 xf_2_22 (by decide +kernel) rfl,
   fun _ _ _ _ _ _ _ => xl_aln d89_54 rfl,
   fun _ _ _ _ _ _ _ => xl_aln d89_55 rfl,
   fun _ _ _ _ => xl_gf d89_56 xco89 xf_2_26,
   fun _ _ _ => xl_ic d89_59 (by decide +kernel),
   fun _ _ _ _ _ => xl_iadd d89_60,
   fun _ _ _ => xl_bi d89_61 (by decide +kernel),
   fun _ _ _ _ _ => xl_mn d89_63 xco89 xm_2_29 (by decide +kernel) (by decide +kernel) rfl,
   fun _ _ _ _ _ => xl_pf d89_66 xco89 xf_2_26 (by decide +kernel) rfl,
   fun _ _ => xl_r d89_69 xrt89⟩
/-! 90 FacetSieve.accept()I -/
theorem d90_0 : decode (zz_c 90) 0 = .ok (.aload_n 0, 1) := by decide +kernel
theorem d90_1 : decode (zz_c 90) 1 = .ok (.getfield 12, 3) := by decide +kernel
theorem d90_4 : decode (zz_c 90) 4 = .ok (.iconst 0, 1) := by decide +kernel
theorem d90_5 : decode (zz_c 90) 5 = .ok (.iconst (-1), 1) := by decide +kernel
theorem d90_6 : decode (zz_c 90) 6 = .ok (.invokevirtual 183, 3) := by decide +kernel
theorem d90_9 : decode (zz_c 90) 9 = .ok (.ireturn, 1) := by decide +kernel
theorem x90 : (∀ x st h, zz_Y 90 (0, [some (.ref x)], st, h) = zz_Y 90 (1, [some (.ref x)], .ref x :: st, h)) ∧ (∀ ls a st h, zz_Y 90 (1, ls, .ref a :: st, h) = mo_gf (hp_g h a) 10 0 90 4 ls st h) ∧ (∀ ls st h, zz_Y 90 (4, ls, st, h) = zz_Y 90 (5, ls, .int (nI 0) :: st, h)) ∧ (∀ ls st h, zz_Y 90 (5, ls, st, h) = zz_Y 90 (6, ls, .int (-1) :: st, h)) ∧ (∀ ls a0 a1 a2 h, zz_Y 90 (6, ls, [a2, a1, a0], h) = mo_k 90 9 ls [] (zz_run 87 [a0, a1, a2] h)) ∧ (∀ ls v h, zz_Y 90 (9, ls, [.int v], h) = some (some (.int v), h)) :=
  ⟨fun _ _ _ => xl_aln d90_0 rfl,
   fun _ _ _ _ => xl_gf d90_1 xco90 xf_10_12,
   fun _ _ _ => xl_ic d90_4 (by decide +kernel),
   fun _ _ _ => xl_ic d90_5 (by decide +kernel),
   fun ls a0 a1 a2 h => xl_cv (As := [a0, a1, a2]) (st := []) d90_6 xco90 xm_10_183 (congrArg Nat.succ xnp87) (by decide +kernel) rfl,
   fun _ _ _ => xl_iri d90_9 xrt90⟩
/-! 91 FacetSieve.drop(I)I -/
theorem d91_0 : decode (zz_c 91) 0 = .ok (.iload_n 1, 1) := by decide +kernel
theorem d91_1 : decode (zz_c 91) 1 = .ok (.invokestatic 147, 3) := by decide +kernel
theorem d91_4 : decode (zz_c 91) 4 = .ok (.ifCond .ne 9, 3) := by decide +kernel
theorem d91_7 : decode (zz_c 91) 7 = .ok (.aload_n 0, 1) := by decide +kernel
theorem d91_8 : decode (zz_c 91) 8 = .ok (.iconst 1, 1) := by decide +kernel
theorem d91_9 : decode (zz_c 91) 9 = .ok (.invokevirtual 153, 3) := by decide +kernel
theorem d91_12 : decode (zz_c 91) 12 = .ok (.ireturn, 1) := by decide +kernel
theorem d91_13 : decode (zz_c 91) 13 = .ok (.aload_n 0, 1) := by decide +kernel
theorem d91_14 : decode (zz_c 91) 14 = .ok (.getfield 12, 3) := by decide +kernel
theorem d91_17 : decode (zz_c 91) 17 = .ok (.getfield 79, 3) := by decide +kernel
theorem d91_20 : decode (zz_c 91) 20 = .ok (.iload_n 1, 1) := by decide +kernel
theorem d91_21 : decode (zz_c 91) 21 = .ok (.invokevirtual 156, 3) := by decide +kernel
theorem d91_24 : decode (zz_c 91) 24 = .ok (.ifCond .ne 9, 3) := by decide +kernel
theorem d91_27 : decode (zz_c 91) 27 = .ok (.aload_n 0, 1) := by decide +kernel
theorem d91_28 : decode (zz_c 91) 28 = .ok (.iconst 3, 1) := by decide +kernel
theorem d91_29 : decode (zz_c 91) 29 = .ok (.invokevirtual 153, 3) := by decide +kernel
theorem d91_32 : decode (zz_c 91) 32 = .ok (.ireturn, 1) := by decide +kernel
theorem d91_33 : decode (zz_c 91) 33 = .ok (.aload_n 0, 1) := by decide +kernel
theorem d91_34 : decode (zz_c 91) 34 = .ok (.iload_n 1, 1) := by decide +kernel
theorem d91_35 : decode (zz_c 91) 35 = .ok (.iconst (-1), 1) := by decide +kernel
theorem d91_36 : decode (zz_c 91) 36 = .ok (.iconst 0, 1) := by decide +kernel
theorem d91_37 : decode (zz_c 91) 37 = .ok (.invokevirtual 159, 3) := by decide +kernel
theorem d91_40 : decode (zz_c 91) 40 = .ok (.ireturn, 1) := by decide +kernel
theorem x91 : (∀ l0 x st h, zz_Y 91 (0, [l0, some (.int x)], st, h) = zz_Y 91 (1, [l0, some (.int x)], .int x :: st, h)) ∧ (∀ ls a0 h, zz_Y 91 (1, ls, [a0], h) = mo_k 91 4 ls [] (zz_run 48 [a0] h)) ∧ (∀ ls a st h, zz_Y 91 (4, ls, .int a :: st, h) = if a = nI 0 then zz_Y 91 (7, ls, st, h) else zz_Y 91 (13, ls, st, h)) ∧ (∀ l1 x st h, zz_Y 91 (7, [some (.ref x), l1], st, h) = zz_Y 91 (8, [some (.ref x), l1], .ref x :: st, h)) ∧ (∀ ls st h, zz_Y 91 (8, ls, st, h) = zz_Y 91 (9, ls, .int (nI 1) :: st, h)) ∧ (∀ ls a0 a1 h, zz_Y 91 (9, ls, [a1, a0], h) = mo_k 91 12 ls [] (zz_run 86 [a0, a1] h)) ∧ (∀ ls v h, zz_Y 91 (12, ls, [.int v], h) = some (some (.int v), h)) ∧ (∀ l1 x st h, zz_Y 91 (13, [some (.ref x), l1], st, h) = zz_Y 91 (14, [some (.ref x), l1], .ref x :: st, h)) ∧ (∀ ls a st h, zz_Y 91 (14, ls, .ref a :: st, h) = mo_gf (hp_g h a) 10 0 91 17 ls st h) ∧ (∀ ls a st h, zz_Y 91 (17, ls, .ref a :: st, h) = mo_gf (hp_g h a) 1 1 91 20 ls st h) ∧ (∀ l0 x st h, zz_Y 91 (20, [l0, some (.int x)], st, h) = zz_Y 91 (21, [l0, some (.int x)], .int x :: st, h)) ∧ (∀ ls a0 a1 h, zz_Y 91 (21, ls, [a1, a0], h) = mo_k 91 24 ls [] (zz_run 47 [a0, a1] h)) ∧ (∀ ls a st h, zz_Y 91 (24, ls, .int a :: st, h) = if a = nI 0 then zz_Y 91 (27, ls, st, h) else zz_Y 91 (33, ls, st, h)) ∧ (∀ l1 x st h, zz_Y 91 (27, [some (.ref x), l1], st, h) = zz_Y 91 (28, [some (.ref x), l1], .ref x :: st, h)) ∧ (∀ ls st h, zz_Y 91 (28, ls, st, h) = zz_Y 91 (29, ls, .int (nI 3) :: st, h)) ∧ (∀ ls a0 a1 h, zz_Y 91 (29, ls, [a1, a0], h) = mo_k 91 32 ls [] (zz_run 86 [a0, a1] h)) ∧ (∀ ls v h, zz_Y 91 (32, ls, [.int v], h) = some (some (.int v), h)) ∧ (∀ l1 x st h, zz_Y 91 (33, [some (.ref x), l1], st, h) = zz_Y 91 (34, [some (.ref x), l1], .ref x :: st, h)) ∧ (∀ l0 x st h, zz_Y 91 (34, [l0, some (.int x)], st, h) = zz_Y 91 (35, [l0, some (.int x)], .int x :: st, h)) ∧ (∀ ls st h, zz_Y 91 (35, ls, st, h) = zz_Y 91 (36, ls, .int (-1) :: st, h)) ∧ (∀ ls st h, zz_Y 91 (36, ls, st, h) = zz_Y 91 (37, ls, .int (nI 0) :: st, h)) ∧ (∀ ls a0 a1 a2 a3 h, zz_Y 91 (37, ls, [a3, a2, a1, a0], h) = mo_k 91 40 ls [] (zz_run 88 [a0, a1, a2, a3] h)) ∧ (∀ ls v h, zz_Y 91 (40, ls, [.int v], h) = some (some (.int v), h)) :=
  ⟨fun _ _ _ _ => xl_iln d91_0 rfl,
   fun ls a0 h => xl_cs (As := [a0]) (st := []) d91_1 xco91 xm_10_147 xnp48 (by decide +kernel) rfl,
   fun _ _ _ _ => xl_ifne d91_4 rfl,
   fun _ _ _ _ => xl_aln d91_7 rfl,
   fun _ _ _ => xl_ic d91_8 (by decide +kernel),
   fun ls a0 a1 h => xl_cv (As := [a0, a1]) (st := []) d91_9 xco91 xm_10_153 (congrArg Nat.succ xnp86) (by decide +kernel) rfl,
   fun _ _ _ => xl_iri d91_12 xrt91,
   fun _ _ _ _ => xl_aln d91_13 rfl,
   fun _ _ _ _ => xl_gf d91_14 xco91 xf_10_12,
   fun _ _ _ _ => xl_gf d91_17 xco91 xf_10_79,
   fun _ _ _ _ => xl_iln d91_20 rfl,
   fun ls a0 a1 h => xl_cv (As := [a0, a1]) (st := []) d91_21 xco91 xm_10_156 (congrArg Nat.succ xnp47) (by decide +kernel) rfl,
   fun _ _ _ _ => xl_ifne d91_24 rfl,
   fun _ _ _ _ => xl_aln d91_27 rfl,
   fun _ _ _ => xl_ic d91_28 (by decide +kernel),
   fun ls a0 a1 h => xl_cv (As := [a0, a1]) (st := []) d91_29 xco91 xm_10_153 (congrArg Nat.succ xnp86) (by decide +kernel) rfl,
   fun _ _ _ => xl_iri d91_32 xrt91,
   fun _ _ _ _ => xl_aln d91_33 rfl,
   fun _ _ _ _ => xl_iln d91_34 rfl,
   fun _ _ _ => xl_ic d91_35 (by decide +kernel),
   fun _ _ _ => xl_ic d91_36 (by decide +kernel),
   fun ls a0 a1 a2 a3 h => xl_cv (As := [a0, a1, a2, a3]) (st := []) d91_37 xco91 xm_10_159 (congrArg Nat.succ xnp88) (by decide +kernel) rfl,
   fun _ _ _ => xl_iri d91_40 xrt91⟩
/-! 92 FacetSieve.tag(II)I -/
theorem d92_0 : decode (zz_c 92) 0 = .ok (.aload_n 0, 1) := by decide +kernel
theorem d92_1 : decode (zz_c 92) 1 = .ok (.getfield 12, 3) := by decide +kernel
theorem d92_4 : decode (zz_c 92) 4 = .ok (.getfield 79, 3) := by decide +kernel
theorem d92_7 : decode (zz_c 92) 7 = .ok (.astore_n 3, 1) := by decide +kernel
theorem d92_8 : decode (zz_c 92) 8 = .ok (.iload_n 1, 1) := by decide +kernel
theorem d92_9 : decode (zz_c 92) 9 = .ok (.invokestatic 147, 3) := by decide +kernel
theorem d92_12 : decode (zz_c 92) 12 = .ok (.ifCond .eq 14, 3) := by decide +kernel
theorem d92_15 : decode (zz_c 92) 15 = .ok (.aload_n 3, 1) := by decide +kernel
theorem d92_16 : decode (zz_c 92) 16 = .ok (.getfield 163, 3) := by decide +kernel
theorem d92_19 : decode (zz_c 92) 19 = .ok (.iload_n 2, 1) := by decide +kernel
theorem d92_20 : decode (zz_c 92) 20 = .ok (.invokevirtual 167, 3) := by decide +kernel
theorem d92_23 : decode (zz_c 92) 23 = .ok (.ifCond .ne 9, 3) := by decide +kernel
theorem d92_26 : decode (zz_c 92) 26 = .ok (.aload_n 0, 1) := by decide +kernel
theorem d92_27 : decode (zz_c 92) 27 = .ok (.iconst 1, 1) := by decide +kernel
theorem d92_28 : decode (zz_c 92) 28 = .ok (.invokevirtual 153, 3) := by decide +kernel
theorem d92_31 : decode (zz_c 92) 31 = .ok (.ireturn, 1) := by decide +kernel
theorem d92_32 : decode (zz_c 92) 32 = .ok (.aload_n 3, 1) := by decide +kernel
theorem d92_33 : decode (zz_c 92) 33 = .ok (.iload_n 1, 1) := by decide +kernel
theorem d92_34 : decode (zz_c 92) 34 = .ok (.invokevirtual 156, 3) := by decide +kernel
theorem d92_37 : decode (zz_c 92) 37 = .ok (.ifCond .ne 9, 3) := by decide +kernel
theorem d92_40 : decode (zz_c 92) 40 = .ok (.aload_n 0, 1) := by decide +kernel
theorem d92_41 : decode (zz_c 92) 41 = .ok (.iconst 3, 1) := by decide +kernel
theorem d92_42 : decode (zz_c 92) 42 = .ok (.invokevirtual 153, 3) := by decide +kernel
theorem d92_45 : decode (zz_c 92) 45 = .ok (.ireturn, 1) := by decide +kernel
theorem d92_46 : decode (zz_c 92) 46 = .ok (.aload_n 3, 1) := by decide +kernel
theorem d92_47 : decode (zz_c 92) 47 = .ok (.getfield 172, 3) := by decide +kernel
theorem d92_50 : decode (zz_c 92) 50 = .ok (.iload_n 1, 1) := by decide +kernel
theorem d92_51 : decode (zz_c 92) 51 = .ok (.iaload, 1) := by decide +kernel
theorem d92_52 : decode (zz_c 92) 52 = .ok (.istore 4, 2) := by decide +kernel
theorem d92_54 : decode (zz_c 92) 54 = .ok (.iload 4, 2) := by decide +kernel
theorem d92_56 : decode (zz_c 92) 56 = .ok (.iload_n 2, 1) := by decide +kernel
theorem d92_57 : decode (zz_c 92) 57 = .ok (.invokestatic 176, 3) := by decide +kernel
theorem d92_60 : decode (zz_c 92) 60 = .ok (.ifCond .eq 9, 3) := by decide +kernel
theorem d92_63 : decode (zz_c 92) 63 = .ok (.aload_n 0, 1) := by decide +kernel
theorem d92_64 : decode (zz_c 92) 64 = .ok (.iconst 2, 1) := by decide +kernel
theorem d92_65 : decode (zz_c 92) 65 = .ok (.invokevirtual 153, 3) := by decide +kernel
theorem d92_68 : decode (zz_c 92) 68 = .ok (.ireturn, 1) := by decide +kernel
theorem d92_69 : decode (zz_c 92) 69 = .ok (.aload_n 3, 1) := by decide +kernel
theorem d92_70 : decode (zz_c 92) 70 = .ok (.getfield 163, 3) := by decide +kernel
theorem d92_73 : decode (zz_c 92) 73 = .ok (.iload 4, 2) := by decide +kernel
theorem d92_75 : decode (zz_c 92) 75 = .ok (.iload_n 2, 1) := by decide +kernel
theorem d92_76 : decode (zz_c 92) 76 = .ok (.invokevirtual 180, 3) := by decide +kernel
theorem d92_79 : decode (zz_c 92) 79 = .ok (.istore 5, 2) := by decide +kernel
theorem d92_81 : decode (zz_c 92) 81 = .ok (.iload 5, 2) := by decide +kernel
theorem d92_83 : decode (zz_c 92) 83 = .ok (.iconst (-1), 1) := by decide +kernel
theorem d92_84 : decode (zz_c 92) 84 = .ok (.if_icmp .eq 14, 3) := by decide +kernel
theorem d92_87 : decode (zz_c 92) 87 = .ok (.aload_n 0, 1) := by decide +kernel
theorem d92_88 : decode (zz_c 92) 88 = .ok (.getfield 12, 3) := by decide +kernel
theorem d92_91 : decode (zz_c 92) 91 = .ok (.iconst 4, 1) := by decide +kernel
theorem d92_92 : decode (zz_c 92) 92 = .ok (.iload 5, 2) := by decide +kernel
theorem d92_94 : decode (zz_c 92) 94 = .ok (.invokevirtual 183, 3) := by decide +kernel
theorem d92_97 : decode (zz_c 92) 97 = .ok (.ireturn, 1) := by decide +kernel
theorem d92_98 : decode (zz_c 92) 98 = .ok (.aload_n 0, 1) := by decide +kernel
theorem d92_99 : decode (zz_c 92) 99 = .ok (.iload_n 1, 1) := by decide +kernel
theorem d92_100 : decode (zz_c 92) 100 = .ok (.aload_n 3, 1) := by decide +kernel
theorem d92_101 : decode (zz_c 92) 101 = .ok (.getfield 186, 3) := by decide +kernel
theorem d92_104 : decode (zz_c 92) 104 = .ok (.iload_n 1, 1) := by decide +kernel
theorem d92_105 : decode (zz_c 92) 105 = .ok (.iaload, 1) := by decide +kernel
theorem d92_106 : decode (zz_c 92) 106 = .ok (.iload 4, 2) := by decide +kernel
theorem d92_108 : decode (zz_c 92) 108 = .ok (.iconst 1, 1) := by decide +kernel
theorem d92_109 : decode (zz_c 92) 109 = .ok (.iload_n 2, 1) := by decide +kernel
theorem d92_110 : decode (zz_c 92) 110 = .ok (.ishl, 1) := by decide +kernel
theorem d92_111 : decode (zz_c 92) 111 = .ok (.ior, 1) := by decide +kernel
theorem d92_112 : decode (zz_c 92) 112 = .ok (.invokevirtual 159, 3) := by decide +kernel
theorem d92_115 : decode (zz_c 92) 115 = .ok (.ireturn, 1) := by decide +kernel
theorem x92_p0 : (∀ l1 l2 l3 l4 l5 x st h, zz_Y 92 (0, [some (.ref x), l1, l2, l3, l4, l5], st, h) = zz_Y 92 (1, [some (.ref x), l1, l2, l3, l4, l5], .ref x :: st, h)) ∧ (∀ ls a st h, zz_Y 92 (1, ls, .ref a :: st, h) = mo_gf (hp_g h a) 10 0 92 4 ls st h) ∧ (∀ ls a st h, zz_Y 92 (4, ls, .ref a :: st, h) = mo_gf (hp_g h a) 1 1 92 7 ls st h) ∧ (∀ l0 l1 l2 l3 l4 l5 x st h, zz_nl l2 = true → zz_Y 92 (7, [l0, l1, l2, l3, l4, l5], .ref x :: st, h) = zz_Y 92 (8, [l0, l1, l2, some (.ref x), l4, l5], st, h)) ∧ (∀ l0 l2 l3 l4 l5 x st h, zz_Y 92 (8, [l0, some (.int x), l2, l3, l4, l5], st, h) = zz_Y 92 (9, [l0, some (.int x), l2, l3, l4, l5], .int x :: st, h)) ∧ (∀ ls a0 h, zz_Y 92 (9, ls, [a0], h) = mo_k 92 12 ls [] (zz_run 48 [a0] h)) ∧ (∀ ls a st h, zz_Y 92 (12, ls, .int a :: st, h) = if a = nI 0 then zz_Y 92 (26, ls, st, h) else zz_Y 92 (15, ls, st, h)) ∧ (∀ l0 l1 l2 l4 l5 x st h, zz_Y 92 (15, [l0, l1, l2, some (.ref x), l4, l5], st, h) = zz_Y 92 (16, [l0, l1, l2, some (.ref x), l4, l5], .ref x :: st, h)) ∧ (∀ ls a st h, zz_Y 92 (16, ls, .ref a :: st, h) = mo_gf (hp_g h a) 7 0 92 19 ls st h) ∧ (∀ l0 l1 l3 l4 l5 x st h, zz_Y 92 (19, [l0, l1, some (.int x), l3, l4, l5], st, h) = zz_Y 92 (20, [l0, l1, some (.int x), l3, l4, l5], .int x :: st, h)) ∧ (∀ ls a0 a1 h, zz_Y 92 (20, ls, [a1, a0], h) = mo_k 92 23 ls [] (zz_run 44 [a0, a1] h)) ∧ (∀ ls a st h, zz_Y 92 (23, ls, .int a :: st, h) = if a = nI 0 then zz_Y 92 (26, ls, st, h) else zz_Y 92 (32, ls, st, h)) ∧ (∀ l1 l2 l3 l4 l5 x st h, zz_Y 92 (26, [some (.ref x), l1, l2, l3, l4, l5], st, h) = zz_Y 92 (27, [some (.ref x), l1, l2, l3, l4, l5], .ref x :: st, h)) ∧ (∀ ls st h, zz_Y 92 (27, ls, st, h) = zz_Y 92 (28, ls, .int (nI 1) :: st, h)) ∧ (∀ ls a0 a1 h, zz_Y 92 (28, ls, [a1, a0], h) = mo_k 92 31 ls [] (zz_run 86 [a0, a1] h)) ∧ (∀ ls v h, zz_Y 92 (31, ls, [.int v], h) = some (some (.int v), h)) ∧ (∀ l0 l1 l2 l4 l5 x st h, zz_Y 92 (32, [l0, l1, l2, some (.ref x), l4, l5], st, h) = zz_Y 92 (33, [l0, l1, l2, some (.ref x), l4, l5], .ref x :: st, h)) ∧ (∀ l0 l2 l3 l4 l5 x st h, zz_Y 92 (33, [l0, some (.int x), l2, l3, l4, l5], st, h) = zz_Y 92 (34, [l0, some (.int x), l2, l3, l4, l5], .int x :: st, h)) ∧ (∀ ls a0 a1 h, zz_Y 92 (34, ls, [a1, a0], h) = mo_k 92 37 ls [] (zz_run 47 [a0, a1] h)) ∧ (∀ ls a st h, zz_Y 92 (37, ls, .int a :: st, h) = if a = nI 0 then zz_Y 92 (40, ls, st, h) else zz_Y 92 (46, ls, st, h)) ∧ (∀ l1 l2 l3 l4 l5 x st h, zz_Y 92 (40, [some (.ref x), l1, l2, l3, l4, l5], st, h) = zz_Y 92 (41, [some (.ref x), l1, l2, l3, l4, l5], .ref x :: st, h)) ∧ (∀ ls st h, zz_Y 92 (41, ls, st, h) = zz_Y 92 (42, ls, .int (nI 3) :: st, h)) ∧ (∀ ls a0 a1 h, zz_Y 92 (42, ls, [a1, a0], h) = mo_k 92 45 ls [] (zz_run 86 [a0, a1] h)) ∧ (∀ ls v h, zz_Y 92 (45, ls, [.int v], h) = some (some (.int v), h)) ∧ (∀ l0 l1 l2 l4 l5 x st h, zz_Y 92 (46, [l0, l1, l2, some (.ref x), l4, l5], st, h) = zz_Y 92 (47, [l0, l1, l2, some (.ref x), l4, l5], .ref x :: st, h)) ∧ (∀ ls a st h, zz_Y 92 (47, ls, .ref a :: st, h) = mo_gf (hp_g h a) 7 2 92 50 ls st h) ∧ (∀ l0 l2 l3 l4 l5 x st h, zz_Y 92 (50, [l0, some (.int x), l2, l3, l4, l5], st, h) = zz_Y 92 (51, [l0, some (.int x), l2, l3, l4, l5], .int x :: st, h)) ∧ (∀ ls a i st h, zz_Y 92 (51, ls, .int i :: .ref a :: st, h) = mo_ia (hp_g h a) i a 92 52 ls st h) ∧ (∀ l0 l1 l2 l3 l4 l5 x st h, zz_nl l3 = true → zz_Y 92 (52, [l0, l1, l2, l3, l4, l5], .int x :: st, h) = zz_Y 92 (54, [l0, l1, l2, l3, some (.int x), l5], st, h)) ∧ (∀ l0 l1 l2 l3 l5 x st h, zz_Y 92 (54, [l0, l1, l2, l3, some (.int x), l5], st, h) = zz_Y 92 (56, [l0, l1, l2, l3, some (.int x), l5], .int x :: st, h)) ∧ (∀ l0 l1 l3 l4 l5 x st h, zz_Y 92 (56, [l0, l1, some (.int x), l3, l4, l5], st, h) = zz_Y 92 (57, [l0, l1, some (.int x), l3, l4, l5], .int x :: st, h)) ∧ (∀ ls a0 a1 h, zz_Y 92 (57, ls, [a1, a0], h) = mo_k 92 60 ls [] (zz_run 50 [a0, a1] h)) ∧ (∀ ls a st h, zz_Y 92 (60, ls, .int a :: st, h) = if a = nI 0 then zz_Y 92 (69, ls, st, h) else zz_Y 92 (63, ls, st, h)) ∧ (∀ l1 l2 l3 l4 l5 x st h, zz_Y 92 (63, [some (.ref x), l1, l2, l3, l4, l5], st, h) = zz_Y 92 (64, [some (.ref x), l1, l2, l3, l4, l5], .ref x :: st, h)) ∧ (∀ ls st h, zz_Y 92 (64, ls, st, h) = zz_Y 92 (65, ls, .int (nI 2) :: st, h)) ∧ (∀ ls a0 a1 h, zz_Y 92 (65, ls, [a1, a0], h) = mo_k 92 68 ls [] (zz_run 86 [a0, a1] h)) ∧ (∀ ls v h, zz_Y 92 (68, ls, [.int v], h) = some (some (.int v), h)) ∧ (∀ l0 l1 l2 l4 l5 x st h, zz_Y 92 (69, [l0, l1, l2, some (.ref x), l4, l5], st, h) = zz_Y 92 (70, [l0, l1, l2, some (.ref x), l4, l5], .ref x :: st, h)) ∧ (∀ ls a st h, zz_Y 92 (70, ls, .ref a :: st, h) = mo_gf (hp_g h a) 7 0 92 73 ls st h) ∧ (∀ l0 l1 l2 l3 l5 x st h, zz_Y 92 (73, [l0, l1, l2, l3, some (.int x), l5], st, h) = zz_Y 92 (75, [l0, l1, l2, l3, some (.int x), l5], .int x :: st, h)) ∧ (∀ l0 l1 l3 l4 l5 x st h, zz_Y 92 (75, [l0, l1, some (.int x), l3, l4, l5], st, h) = zz_Y 92 (76, [l0, l1, some (.int x), l3, l4, l5], .int x :: st, h)) ∧ (∀ ls a0 a1 a2 h, zz_Y 92 (76, ls, [a2, a1, a0], h) = mo_k 92 79 ls [] (zz_run 51 [a0, a1, a2] h)) ∧ (∀ l0 l1 l2 l3 l4 l5 x st h, zz_nl l4 = true → zz_Y 92 (79, [l0, l1, l2, l3, l4, l5], .int x :: st, h) = zz_Y 92 (81, [l0, l1, l2, l3, l4, some (.int x)], st, h)) ∧ (∀ l0 l1 l2 l3 l4 x st h, zz_Y 92 (81, [l0, l1, l2, l3, l4, some (.int x)], st, h) = zz_Y 92 (83, [l0, l1, l2, l3, l4, some (.int x)], .int x :: st, h)) ∧ (∀ ls st h, zz_Y 92 (83, ls, st, h) = zz_Y 92 (84, ls, .int (-1) :: st, h)) ∧ (∀ ls a b st h, zz_Y 92 (84, ls, .int b :: .int a :: st, h) = if a = b then zz_Y 92 (98, ls, st, h) else zz_Y 92 (87, ls, st, h)) ∧ (∀ l1 l2 l3 l4 l5 x st h, zz_Y 92 (87, [some (.ref x), l1, l2, l3, l4, l5], st, h) = zz_Y 92 (88, [some (.ref x), l1, l2, l3, l4, l5], .ref x :: st, h)) ∧ (∀ ls a st h, zz_Y 92 (88, ls, .ref a :: st, h) = mo_gf (hp_g h a) 10 0 92 91 ls st h) ∧ (∀ ls st h, zz_Y 92 (91, ls, st, h) = zz_Y 92 (92, ls, .int (nI 4) :: st, h)) ∧ (∀ l0 l1 l2 l3 l4 x st h, zz_Y 92 (92, [l0, l1, l2, l3, l4, some (.int x)], st, h) = zz_Y 92 (94, [l0, l1, l2, l3, l4, some (.int x)], .int x :: st, h)) ∧ (∀ ls a0 a1 a2 h, zz_Y 92 (94, ls, [a2, a1, a0], h) = mo_k 92 97 ls [] (zz_run 87 [a0, a1, a2] h)) ∧ (∀ ls v h, zz_Y 92 (97, ls, [.int v], h) = some (some (.int v), h)) ∧ (∀ l1 l2 l3 l4 l5 x st h, zz_Y 92 (98, [some (.ref x), l1, l2, l3, l4, l5], st, h) = zz_Y 92 (99, [some (.ref x), l1, l2, l3, l4, l5], .ref x :: st, h)) ∧ (∀ l0 l2 l3 l4 l5 x st h, zz_Y 92 (99, [l0, some (.int x), l2, l3, l4, l5], st, h) = zz_Y 92 (100, [l0, some (.int x), l2, l3, l4, l5], .int x :: st, h)) ∧ (∀ l0 l1 l2 l4 l5 x st h, zz_Y 92 (100, [l0, l1, l2, some (.ref x), l4, l5], st, h) = zz_Y 92 (101, [l0, l1, l2, some (.ref x), l4, l5], .ref x :: st, h)) ∧ (∀ ls a st h, zz_Y 92 (101, ls, .ref a :: st, h) = mo_gf (hp_g h a) 7 1 92 104 ls st h) ∧ (∀ l0 l2 l3 l4 l5 x st h, zz_Y 92 (104, [l0, some (.int x), l2, l3, l4, l5], st, h) = zz_Y 92 (105, [l0, some (.int x), l2, l3, l4, l5], .int x :: st, h)) ∧ (∀ ls a i st h, zz_Y 92 (105, ls, .int i :: .ref a :: st, h) = mo_ia (hp_g h a) i a 92 106 ls st h) ∧ (∀ l0 l1 l2 l3 l5 x st h, zz_Y 92 (106, [l0, l1, l2, l3, some (.int x), l5], st, h) = zz_Y 92 (108, [l0, l1, l2, l3, some (.int x), l5], .int x :: st, h)) ∧ (∀ ls st h, zz_Y 92 (108, ls, st, h) = zz_Y 92 (109, ls, .int (nI 1) :: st, h)) :=
  ⟨fun _ _ _ _ _ _ _ _ => xl_aln d92_0 rfl,
   fun _ _ _ _ => xl_gf d92_1 xco92 xf_10_12,
   fun _ _ _ _ => xl_gf d92_4 xco92 xf_10_79,
   fun _ _ _ _ _ _ _ _ _ hc => xl_asn d92_7 xml92 (by decide) (zz_nl_s1 hc),
   fun _ _ _ _ _ _ _ _ => xl_iln d92_8 rfl,
   fun ls a0 h => xl_cs (As := [a0]) (st := []) d92_9 xco92 xm_10_147 xnp48 (by decide +kernel) rfl,
   fun _ _ _ _ => xl_ifeq d92_12 rfl,
   fun _ _ _ _ _ _ _ _ => xl_aln d92_15 rfl,
   fun _ _ _ _ => xl_gf d92_16 xco92 xf_10_163,
   fun _ _ _ _ _ _ _ _ => xl_iln d92_19 rfl,
   fun ls a0 a1 h => xl_cv (As := [a0, a1]) (st := []) d92_20 xco92 xm_10_167 (congrArg Nat.succ xnp44) (by decide +kernel) rfl,
   fun _ _ _ _ => xl_ifne d92_23 rfl,
   fun _ _ _ _ _ _ _ _ => xl_aln d92_26 rfl,
   fun _ _ _ => xl_ic d92_27 (by decide +kernel),
   fun ls a0 a1 h => xl_cv (As := [a0, a1]) (st := []) d92_28 xco92 xm_10_153 (congrArg Nat.succ xnp86) (by decide +kernel) rfl,
   fun _ _ _ => xl_iri d92_31 xrt92,
   fun _ _ _ _ _ _ _ _ => xl_aln d92_32 rfl,
   fun _ _ _ _ _ _ _ _ => xl_iln d92_33 rfl,
   fun ls a0 a1 h => xl_cv (As := [a0, a1]) (st := []) d92_34 xco92 xm_10_156 (congrArg Nat.succ xnp47) (by decide +kernel) rfl,
   fun _ _ _ _ => xl_ifne d92_37 rfl,
   fun _ _ _ _ _ _ _ _ => xl_aln d92_40 rfl,
   fun _ _ _ => xl_ic d92_41 (by decide +kernel),
   fun ls a0 a1 h => xl_cv (As := [a0, a1]) (st := []) d92_42 xco92 xm_10_153 (congrArg Nat.succ xnp86) (by decide +kernel) rfl,
   fun _ _ _ => xl_iri d92_45 xrt92,
   fun _ _ _ _ _ _ _ _ => xl_aln d92_46 rfl,
   fun _ _ _ _ => xl_gf d92_47 xco92 xf_10_172,
   fun _ _ _ _ _ _ _ _ => xl_iln d92_50 rfl,
   fun _ _ _ _ _ => xl_ia d92_51,
   fun _ _ _ _ _ _ _ _ _ hc => xl_is d92_52 xml92 (by decide) (zz_nl_s1 hc),
   fun _ _ _ _ _ _ _ _ => xl_il d92_54 rfl,
   fun _ _ _ _ _ _ _ _ => xl_iln d92_56 rfl,
   fun ls a0 a1 h => xl_cs (As := [a0, a1]) (st := []) d92_57 xco92 xm_10_176 xnp50 (by decide +kernel) rfl,
   fun _ _ _ _ => xl_ifeq d92_60 rfl,
   fun _ _ _ _ _ _ _ _ => xl_aln d92_63 rfl,
   fun _ _ _ => xl_ic d92_64 (by decide +kernel),
   fun ls a0 a1 h => xl_cv (As := [a0, a1]) (st := []) d92_65 xco92 xm_10_153 (congrArg Nat.succ xnp86) (by decide +kernel) rfl,
   fun _ _ _ => xl_iri d92_68 xrt92,
   fun _ _ _ _ _ _ _ _ => xl_aln d92_69 rfl,
   fun _ _ _ _ => xl_gf d92_70 xco92 xf_10_163,
   fun _ _ _ _ _ _ _ _ => xl_il d92_73 rfl,
   fun _ _ _ _ _ _ _ _ => xl_iln d92_75 rfl,
   fun ls a0 a1 a2 h => xl_cv (As := [a0, a1, a2]) (st := []) d92_76 xco92 xm_10_180 (congrArg Nat.succ xnp51) (by decide +kernel) rfl,
   fun _ _ _ _ _ _ _ _ _ hc => xl_is d92_79 xml92 (by decide) (zz_nl_s1 hc),
   fun _ _ _ _ _ _ _ _ => xl_il d92_81 rfl,
   fun _ _ _ => xl_ic d92_83 (by decide +kernel),
   fun _ _ _ _ _ => xl_iceq d92_84 rfl,
   fun _ _ _ _ _ _ _ _ => xl_aln d92_87 rfl,
   fun _ _ _ _ => xl_gf d92_88 xco92 xf_10_12,
   fun _ _ _ => xl_ic d92_91 (by decide +kernel),
   fun _ _ _ _ _ _ _ _ => xl_il d92_92 rfl,
   fun ls a0 a1 a2 h => xl_cv (As := [a0, a1, a2]) (st := []) d92_94 xco92 xm_10_183 (congrArg Nat.succ xnp87) (by decide +kernel) rfl,
   fun _ _ _ => xl_iri d92_97 xrt92,
   fun _ _ _ _ _ _ _ _ => xl_aln d92_98 rfl,
   fun _ _ _ _ _ _ _ _ => xl_iln d92_99 rfl,
   fun _ _ _ _ _ _ _ _ => xl_aln d92_100 rfl,
   fun _ _ _ _ => xl_gf d92_101 xco92 xf_10_186,
   fun _ _ _ _ _ _ _ _ => xl_iln d92_104 rfl,
   fun _ _ _ _ _ => xl_ia d92_105,
   fun _ _ _ _ _ _ _ _ => xl_il d92_106 rfl,
   fun _ _ _ => xl_ic d92_108 (by decide +kernel)⟩
theorem x92_p1 : (∀ l0 l1 l3 l4 l5 x st h, zz_Y 92 (109, [l0, l1, some (.int x), l3, l4, l5], st, h) = zz_Y 92 (110, [l0, l1, some (.int x), l3, l4, l5], .int x :: st, h)) ∧ (∀ ls a b st h, zz_Y 92 (110, ls, .int b :: .int a :: st, h) = zz_Y 92 (111, ls, .int (a <<< (b &&& 31)) :: st, h)) ∧ (∀ ls a b st h, zz_Y 92 (111, ls, .int b :: .int a :: st, h) = zz_Y 92 (112, ls, .int (a ||| b) :: st, h)) ∧ (∀ ls a0 a1 a2 a3 h, zz_Y 92 (112, ls, [a3, a2, a1, a0], h) = mo_k 92 115 ls [] (zz_run 88 [a0, a1, a2, a3] h)) ∧ (∀ ls v h, zz_Y 92 (115, ls, [.int v], h) = some (some (.int v), h)) :=
  ⟨fun _ _ _ _ _ _ _ _ => xl_iln d92_109 rfl,
   fun _ _ _ _ _ => xl_ishl d92_110,
   fun _ _ _ _ _ => xl_ior d92_111,
   fun ls a0 a1 a2 a3 h => xl_cv (As := [a0, a1, a2, a3]) (st := []) d92_112 xco92 xm_10_159 (congrArg Nat.succ xnp88) (by decide +kernel) rfl,
   fun _ _ _ => xl_iri d92_115 xrt92⟩
/-! 93 FacetSieve.untag(II)I -/
theorem d93_0 : decode (zz_c 93) 0 = .ok (.aload_n 0, 1) := by decide +kernel
theorem d93_1 : decode (zz_c 93) 1 = .ok (.getfield 12, 3) := by decide +kernel
theorem d93_4 : decode (zz_c 93) 4 = .ok (.getfield 79, 3) := by decide +kernel
theorem d93_7 : decode (zz_c 93) 7 = .ok (.astore_n 3, 1) := by decide +kernel
theorem d93_8 : decode (zz_c 93) 8 = .ok (.iload_n 1, 1) := by decide +kernel
theorem d93_9 : decode (zz_c 93) 9 = .ok (.invokestatic 147, 3) := by decide +kernel
theorem d93_12 : decode (zz_c 93) 12 = .ok (.ifCond .eq 14, 3) := by decide +kernel
theorem d93_15 : decode (zz_c 93) 15 = .ok (.aload_n 3, 1) := by decide +kernel
theorem d93_16 : decode (zz_c 93) 16 = .ok (.getfield 163, 3) := by decide +kernel
theorem d93_19 : decode (zz_c 93) 19 = .ok (.iload_n 2, 1) := by decide +kernel
theorem d93_20 : decode (zz_c 93) 20 = .ok (.invokevirtual 167, 3) := by decide +kernel
theorem d93_23 : decode (zz_c 93) 23 = .ok (.ifCond .ne 9, 3) := by decide +kernel
theorem d93_26 : decode (zz_c 93) 26 = .ok (.aload_n 0, 1) := by decide +kernel
theorem d93_27 : decode (zz_c 93) 27 = .ok (.iconst 1, 1) := by decide +kernel
theorem d93_28 : decode (zz_c 93) 28 = .ok (.invokevirtual 153, 3) := by decide +kernel
theorem d93_31 : decode (zz_c 93) 31 = .ok (.ireturn, 1) := by decide +kernel
theorem d93_32 : decode (zz_c 93) 32 = .ok (.aload_n 3, 1) := by decide +kernel
theorem d93_33 : decode (zz_c 93) 33 = .ok (.iload_n 1, 1) := by decide +kernel
theorem d93_34 : decode (zz_c 93) 34 = .ok (.invokevirtual 156, 3) := by decide +kernel
theorem d93_37 : decode (zz_c 93) 37 = .ok (.ifCond .eq 16, 3) := by decide +kernel
theorem d93_40 : decode (zz_c 93) 40 = .ok (.aload_n 3, 1) := by decide +kernel
theorem d93_41 : decode (zz_c 93) 41 = .ok (.getfield 172, 3) := by decide +kernel
theorem d93_44 : decode (zz_c 93) 44 = .ok (.iload_n 1, 1) := by decide +kernel
theorem d93_45 : decode (zz_c 93) 45 = .ok (.iaload, 1) := by decide +kernel
theorem d93_46 : decode (zz_c 93) 46 = .ok (.iload_n 2, 1) := by decide +kernel
theorem d93_47 : decode (zz_c 93) 47 = .ok (.invokestatic 176, 3) := by decide +kernel
theorem d93_50 : decode (zz_c 93) 50 = .ok (.ifCond .ne 9, 3) := by decide +kernel
theorem d93_53 : decode (zz_c 93) 53 = .ok (.aload_n 0, 1) := by decide +kernel
theorem d93_54 : decode (zz_c 93) 54 = .ok (.iconst 3, 1) := by decide +kernel
theorem d93_55 : decode (zz_c 93) 55 = .ok (.invokevirtual 153, 3) := by decide +kernel
theorem d93_58 : decode (zz_c 93) 58 = .ok (.ireturn, 1) := by decide +kernel
theorem d93_59 : decode (zz_c 93) 59 = .ok (.aload_n 0, 1) := by decide +kernel
theorem d93_60 : decode (zz_c 93) 60 = .ok (.iload_n 1, 1) := by decide +kernel
theorem d93_61 : decode (zz_c 93) 61 = .ok (.aload_n 3, 1) := by decide +kernel
theorem d93_62 : decode (zz_c 93) 62 = .ok (.getfield 186, 3) := by decide +kernel
theorem d93_65 : decode (zz_c 93) 65 = .ok (.iload_n 1, 1) := by decide +kernel
theorem d93_66 : decode (zz_c 93) 66 = .ok (.iaload, 1) := by decide +kernel
theorem d93_67 : decode (zz_c 93) 67 = .ok (.aload_n 3, 1) := by decide +kernel
theorem d93_68 : decode (zz_c 93) 68 = .ok (.getfield 172, 3) := by decide +kernel
theorem d93_71 : decode (zz_c 93) 71 = .ok (.iload_n 1, 1) := by decide +kernel
theorem d93_72 : decode (zz_c 93) 72 = .ok (.iaload, 1) := by decide +kernel
theorem d93_73 : decode (zz_c 93) 73 = .ok (.iconst 1, 1) := by decide +kernel
theorem d93_74 : decode (zz_c 93) 74 = .ok (.iload_n 2, 1) := by decide +kernel
theorem d93_75 : decode (zz_c 93) 75 = .ok (.ishl, 1) := by decide +kernel
theorem d93_76 : decode (zz_c 93) 76 = .ok (.iconst (-1), 1) := by decide +kernel
theorem d93_77 : decode (zz_c 93) 77 = .ok (.ixor, 1) := by decide +kernel
theorem d93_78 : decode (zz_c 93) 78 = .ok (.iand, 1) := by decide +kernel
theorem d93_79 : decode (zz_c 93) 79 = .ok (.invokevirtual 159, 3) := by decide +kernel
theorem d93_82 : decode (zz_c 93) 82 = .ok (.ireturn, 1) := by decide +kernel
theorem x93 : (∀ l1 l2 l3 x st h, zz_Y 93 (0, [some (.ref x), l1, l2, l3], st, h) = zz_Y 93 (1, [some (.ref x), l1, l2, l3], .ref x :: st, h)) ∧ (∀ ls a st h, zz_Y 93 (1, ls, .ref a :: st, h) = mo_gf (hp_g h a) 10 0 93 4 ls st h) ∧ (∀ ls a st h, zz_Y 93 (4, ls, .ref a :: st, h) = mo_gf (hp_g h a) 1 1 93 7 ls st h) ∧ (∀ l0 l1 l2 l3 x st h, zz_nl l2 = true → zz_Y 93 (7, [l0, l1, l2, l3], .ref x :: st, h) = zz_Y 93 (8, [l0, l1, l2, some (.ref x)], st, h)) ∧ (∀ l0 l2 l3 x st h, zz_Y 93 (8, [l0, some (.int x), l2, l3], st, h) = zz_Y 93 (9, [l0, some (.int x), l2, l3], .int x :: st, h)) ∧ (∀ ls a0 h, zz_Y 93 (9, ls, [a0], h) = mo_k 93 12 ls [] (zz_run 48 [a0] h)) ∧ (∀ ls a st h, zz_Y 93 (12, ls, .int a :: st, h) = if a = nI 0 then zz_Y 93 (26, ls, st, h) else zz_Y 93 (15, ls, st, h)) ∧ (∀ l0 l1 l2 x st h, zz_Y 93 (15, [l0, l1, l2, some (.ref x)], st, h) = zz_Y 93 (16, [l0, l1, l2, some (.ref x)], .ref x :: st, h)) ∧ (∀ ls a st h, zz_Y 93 (16, ls, .ref a :: st, h) = mo_gf (hp_g h a) 7 0 93 19 ls st h) ∧ (∀ l0 l1 l3 x st h, zz_Y 93 (19, [l0, l1, some (.int x), l3], st, h) = zz_Y 93 (20, [l0, l1, some (.int x), l3], .int x :: st, h)) ∧ (∀ ls a0 a1 h, zz_Y 93 (20, ls, [a1, a0], h) = mo_k 93 23 ls [] (zz_run 44 [a0, a1] h)) ∧ (∀ ls a st h, zz_Y 93 (23, ls, .int a :: st, h) = if a = nI 0 then zz_Y 93 (26, ls, st, h) else zz_Y 93 (32, ls, st, h)) ∧ (∀ l1 l2 l3 x st h, zz_Y 93 (26, [some (.ref x), l1, l2, l3], st, h) = zz_Y 93 (27, [some (.ref x), l1, l2, l3], .ref x :: st, h)) ∧ (∀ ls st h, zz_Y 93 (27, ls, st, h) = zz_Y 93 (28, ls, .int (nI 1) :: st, h)) ∧ (∀ ls a0 a1 h, zz_Y 93 (28, ls, [a1, a0], h) = mo_k 93 31 ls [] (zz_run 86 [a0, a1] h)) ∧ (∀ ls v h, zz_Y 93 (31, ls, [.int v], h) = some (some (.int v), h)) ∧ (∀ l0 l1 l2 x st h, zz_Y 93 (32, [l0, l1, l2, some (.ref x)], st, h) = zz_Y 93 (33, [l0, l1, l2, some (.ref x)], .ref x :: st, h)) ∧ (∀ l0 l2 l3 x st h, zz_Y 93 (33, [l0, some (.int x), l2, l3], st, h) = zz_Y 93 (34, [l0, some (.int x), l2, l3], .int x :: st, h)) ∧ (∀ ls a0 a1 h, zz_Y 93 (34, ls, [a1, a0], h) = mo_k 93 37 ls [] (zz_run 47 [a0, a1] h)) ∧ (∀ ls a st h, zz_Y 93 (37, ls, .int a :: st, h) = if a = nI 0 then zz_Y 93 (53, ls, st, h) else zz_Y 93 (40, ls, st, h)) ∧ (∀ l0 l1 l2 x st h, zz_Y 93 (40, [l0, l1, l2, some (.ref x)], st, h) = zz_Y 93 (41, [l0, l1, l2, some (.ref x)], .ref x :: st, h)) ∧ (∀ ls a st h, zz_Y 93 (41, ls, .ref a :: st, h) = mo_gf (hp_g h a) 7 2 93 44 ls st h) ∧ (∀ l0 l2 l3 x st h, zz_Y 93 (44, [l0, some (.int x), l2, l3], st, h) = zz_Y 93 (45, [l0, some (.int x), l2, l3], .int x :: st, h)) ∧ (∀ ls a i st h, zz_Y 93 (45, ls, .int i :: .ref a :: st, h) = mo_ia (hp_g h a) i a 93 46 ls st h) ∧ (∀ l0 l1 l3 x st h, zz_Y 93 (46, [l0, l1, some (.int x), l3], st, h) = zz_Y 93 (47, [l0, l1, some (.int x), l3], .int x :: st, h)) ∧ (∀ ls a0 a1 h, zz_Y 93 (47, ls, [a1, a0], h) = mo_k 93 50 ls [] (zz_run 50 [a0, a1] h)) ∧ (∀ ls a st h, zz_Y 93 (50, ls, .int a :: st, h) = if a = nI 0 then zz_Y 93 (53, ls, st, h) else zz_Y 93 (59, ls, st, h)) ∧ (∀ l1 l2 l3 x st h, zz_Y 93 (53, [some (.ref x), l1, l2, l3], st, h) = zz_Y 93 (54, [some (.ref x), l1, l2, l3], .ref x :: st, h)) ∧ (∀ ls st h, zz_Y 93 (54, ls, st, h) = zz_Y 93 (55, ls, .int (nI 3) :: st, h)) ∧ (∀ ls a0 a1 h, zz_Y 93 (55, ls, [a1, a0], h) = mo_k 93 58 ls [] (zz_run 86 [a0, a1] h)) ∧ (∀ ls v h, zz_Y 93 (58, ls, [.int v], h) = some (some (.int v), h)) ∧ (∀ l1 l2 l3 x st h, zz_Y 93 (59, [some (.ref x), l1, l2, l3], st, h) = zz_Y 93 (60, [some (.ref x), l1, l2, l3], .ref x :: st, h)) ∧ (∀ l0 l2 l3 x st h, zz_Y 93 (60, [l0, some (.int x), l2, l3], st, h) = zz_Y 93 (61, [l0, some (.int x), l2, l3], .int x :: st, h)) ∧ (∀ l0 l1 l2 x st h, zz_Y 93 (61, [l0, l1, l2, some (.ref x)], st, h) = zz_Y 93 (62, [l0, l1, l2, some (.ref x)], .ref x :: st, h)) ∧ (∀ ls a st h, zz_Y 93 (62, ls, .ref a :: st, h) = mo_gf (hp_g h a) 7 1 93 65 ls st h) ∧ (∀ l0 l2 l3 x st h, zz_Y 93 (65, [l0, some (.int x), l2, l3], st, h) = zz_Y 93 (66, [l0, some (.int x), l2, l3], .int x :: st, h)) ∧ (∀ ls a i st h, zz_Y 93 (66, ls, .int i :: .ref a :: st, h) = mo_ia (hp_g h a) i a 93 67 ls st h) ∧ (∀ l0 l1 l2 x st h, zz_Y 93 (67, [l0, l1, l2, some (.ref x)], st, h) = zz_Y 93 (68, [l0, l1, l2, some (.ref x)], .ref x :: st, h)) ∧ (∀ ls a st h, zz_Y 93 (68, ls, .ref a :: st, h) = mo_gf (hp_g h a) 7 2 93 71 ls st h) ∧ (∀ l0 l2 l3 x st h, zz_Y 93 (71, [l0, some (.int x), l2, l3], st, h) = zz_Y 93 (72, [l0, some (.int x), l2, l3], .int x :: st, h)) ∧ (∀ ls a i st h, zz_Y 93 (72, ls, .int i :: .ref a :: st, h) = mo_ia (hp_g h a) i a 93 73 ls st h) ∧ (∀ ls st h, zz_Y 93 (73, ls, st, h) = zz_Y 93 (74, ls, .int (nI 1) :: st, h)) ∧ (∀ l0 l1 l3 x st h, zz_Y 93 (74, [l0, l1, some (.int x), l3], st, h) = zz_Y 93 (75, [l0, l1, some (.int x), l3], .int x :: st, h)) ∧ (∀ ls a b st h, zz_Y 93 (75, ls, .int b :: .int a :: st, h) = zz_Y 93 (76, ls, .int (a <<< (b &&& 31)) :: st, h)) ∧ (∀ ls st h, zz_Y 93 (76, ls, st, h) = zz_Y 93 (77, ls, .int (-1) :: st, h)) ∧ (∀ ls a b st h, zz_Y 93 (77, ls, .int b :: .int a :: st, h) = zz_Y 93 (78, ls, .int (a ^^^ b) :: st, h)) ∧ (∀ ls a b st h, zz_Y 93 (78, ls, .int b :: .int a :: st, h) = zz_Y 93 (79, ls, .int (a &&& b) :: st, h)) ∧ (∀ ls a0 a1 a2 a3 h, zz_Y 93 (79, ls, [a3, a2, a1, a0], h) = mo_k 93 82 ls [] (zz_run 88 [a0, a1, a2, a3] h)) ∧ (∀ ls v h, zz_Y 93 (82, ls, [.int v], h) = some (some (.int v), h)) :=
  ⟨fun _ _ _ _ _ _ => xl_aln d93_0 rfl,
   fun _ _ _ _ => xl_gf d93_1 xco93 xf_10_12,
   fun _ _ _ _ => xl_gf d93_4 xco93 xf_10_79,
   fun _ _ _ _ _ _ _ hc => xl_asn d93_7 xml93 (by decide) (zz_nl_s1 hc),
   fun _ _ _ _ _ _ => xl_iln d93_8 rfl,
   fun ls a0 h => xl_cs (As := [a0]) (st := []) d93_9 xco93 xm_10_147 xnp48 (by decide +kernel) rfl,
   fun _ _ _ _ => xl_ifeq d93_12 rfl,
   fun _ _ _ _ _ _ => xl_aln d93_15 rfl,
   fun _ _ _ _ => xl_gf d93_16 xco93 xf_10_163,
   fun _ _ _ _ _ _ => xl_iln d93_19 rfl,
   fun ls a0 a1 h => xl_cv (As := [a0, a1]) (st := []) d93_20 xco93 xm_10_167 (congrArg Nat.succ xnp44) (by decide +kernel) rfl,
   fun _ _ _ _ => xl_ifne d93_23 rfl,
   fun _ _ _ _ _ _ => xl_aln d93_26 rfl,
   fun _ _ _ => xl_ic d93_27 (by decide +kernel),
   fun ls a0 a1 h => xl_cv (As := [a0, a1]) (st := []) d93_28 xco93 xm_10_153 (congrArg Nat.succ xnp86) (by decide +kernel) rfl,
   fun _ _ _ => xl_iri d93_31 xrt93,
   fun _ _ _ _ _ _ => xl_aln d93_32 rfl,
   fun _ _ _ _ _ _ => xl_iln d93_33 rfl,
   fun ls a0 a1 h => xl_cv (As := [a0, a1]) (st := []) d93_34 xco93 xm_10_156 (congrArg Nat.succ xnp47) (by decide +kernel) rfl,
   fun _ _ _ _ => xl_ifeq d93_37 rfl,
   fun _ _ _ _ _ _ => xl_aln d93_40 rfl,
   fun _ _ _ _ => xl_gf d93_41 xco93 xf_10_172,
   fun _ _ _ _ _ _ => xl_iln d93_44 rfl,
   fun _ _ _ _ _ => xl_ia d93_45,
   fun _ _ _ _ _ _ => xl_iln d93_46 rfl,
   fun ls a0 a1 h => xl_cs (As := [a0, a1]) (st := []) d93_47 xco93 xm_10_176 xnp50 (by decide +kernel) rfl,
   fun _ _ _ _ => xl_ifne d93_50 rfl,
   fun _ _ _ _ _ _ => xl_aln d93_53 rfl,
   fun _ _ _ => xl_ic d93_54 (by decide +kernel),
   fun ls a0 a1 h => xl_cv (As := [a0, a1]) (st := []) d93_55 xco93 xm_10_153 (congrArg Nat.succ xnp86) (by decide +kernel) rfl,
   fun _ _ _ => xl_iri d93_58 xrt93,
   fun _ _ _ _ _ _ => xl_aln d93_59 rfl,
   fun _ _ _ _ _ _ => xl_iln d93_60 rfl,
   fun _ _ _ _ _ _ => xl_aln d93_61 rfl,
   fun _ _ _ _ => xl_gf d93_62 xco93 xf_10_186,
   fun _ _ _ _ _ _ => xl_iln d93_65 rfl,
   fun _ _ _ _ _ => xl_ia d93_66,
   fun _ _ _ _ _ _ => xl_aln d93_67 rfl,
   fun _ _ _ _ => xl_gf d93_68 xco93 xf_10_172,
   fun _ _ _ _ _ _ => xl_iln d93_71 rfl,
   fun _ _ _ _ _ => xl_ia d93_72,
   fun _ _ _ => xl_ic d93_73 (by decide +kernel),
   fun _ _ _ _ _ _ => xl_iln d93_74 rfl,
   fun _ _ _ _ _ => xl_ishl d93_75,
   fun _ _ _ => xl_ic d93_76 (by decide +kernel),
   fun _ _ _ _ _ => xl_ixor d93_77,
   fun _ _ _ _ _ => xl_iand d93_78,
   fun ls a0 a1 a2 a3 h => xl_cv (As := [a0, a1, a2, a3]) (st := []) d93_79 xco93 xm_10_159 (congrArg Nat.succ xnp88) (by decide +kernel) rfl,
   fun _ _ _ => xl_iri d93_82 xrt93⟩
/-! 94 FacetSieve.rank(II)I -/
theorem d94_0 : decode (zz_c 94) 0 = .ok (.aload_n 0, 1) := by decide +kernel
theorem d94_1 : decode (zz_c 94) 1 = .ok (.getfield 12, 3) := by decide +kernel
theorem d94_4 : decode (zz_c 94) 4 = .ok (.getfield 79, 3) := by decide +kernel
theorem d94_7 : decode (zz_c 94) 7 = .ok (.astore_n 3, 1) := by decide +kernel
theorem d94_8 : decode (zz_c 94) 8 = .ok (.iload_n 1, 1) := by decide +kernel
theorem d94_9 : decode (zz_c 94) 9 = .ok (.invokestatic 147, 3) := by decide +kernel
theorem d94_12 : decode (zz_c 94) 12 = .ok (.ifCond .eq 10, 3) := by decide +kernel
theorem d94_15 : decode (zz_c 94) 15 = .ok (.iload_n 2, 1) := by decide +kernel
theorem d94_16 : decode (zz_c 94) 16 = .ok (.invokestatic 150, 3) := by decide +kernel
theorem d94_19 : decode (zz_c 94) 19 = .ok (.ifCond .ne 9, 3) := by decide +kernel
theorem d94_22 : decode (zz_c 94) 22 = .ok (.aload_n 0, 1) := by decide +kernel
theorem d94_23 : decode (zz_c 94) 23 = .ok (.iconst 1, 1) := by decide +kernel
theorem d94_24 : decode (zz_c 94) 24 = .ok (.invokevirtual 153, 3) := by decide +kernel
theorem d94_27 : decode (zz_c 94) 27 = .ok (.ireturn, 1) := by decide +kernel
theorem d94_28 : decode (zz_c 94) 28 = .ok (.aload_n 3, 1) := by decide +kernel
theorem d94_29 : decode (zz_c 94) 29 = .ok (.iload_n 1, 1) := by decide +kernel
theorem d94_30 : decode (zz_c 94) 30 = .ok (.invokevirtual 156, 3) := by decide +kernel
theorem d94_33 : decode (zz_c 94) 33 = .ok (.ifCond .ne 9, 3) := by decide +kernel
theorem d94_36 : decode (zz_c 94) 36 = .ok (.aload_n 0, 1) := by decide +kernel
theorem d94_37 : decode (zz_c 94) 37 = .ok (.iconst 3, 1) := by decide +kernel
theorem d94_38 : decode (zz_c 94) 38 = .ok (.invokevirtual 153, 3) := by decide +kernel
theorem d94_41 : decode (zz_c 94) 41 = .ok (.ireturn, 1) := by decide +kernel
theorem d94_42 : decode (zz_c 94) 42 = .ok (.aload_n 3, 1) := by decide +kernel
theorem d94_43 : decode (zz_c 94) 43 = .ok (.getfield 186, 3) := by decide +kernel
theorem d94_46 : decode (zz_c 94) 46 = .ok (.iload_n 1, 1) := by decide +kernel
theorem d94_47 : decode (zz_c 94) 47 = .ok (.iaload, 1) := by decide +kernel
theorem d94_48 : decode (zz_c 94) 48 = .ok (.iload_n 2, 1) := by decide +kernel
theorem d94_49 : decode (zz_c 94) 49 = .ok (.if_icmp .ne 9, 3) := by decide +kernel
theorem d94_52 : decode (zz_c 94) 52 = .ok (.aload_n 0, 1) := by decide +kernel
theorem d94_53 : decode (zz_c 94) 53 = .ok (.iconst 2, 1) := by decide +kernel
theorem d94_54 : decode (zz_c 94) 54 = .ok (.invokevirtual 153, 3) := by decide +kernel
theorem d94_57 : decode (zz_c 94) 57 = .ok (.ireturn, 1) := by decide +kernel
theorem d94_58 : decode (zz_c 94) 58 = .ok (.aload_n 0, 1) := by decide +kernel
theorem d94_59 : decode (zz_c 94) 59 = .ok (.iload_n 1, 1) := by decide +kernel
theorem d94_60 : decode (zz_c 94) 60 = .ok (.iload_n 2, 1) := by decide +kernel
theorem d94_61 : decode (zz_c 94) 61 = .ok (.aload_n 3, 1) := by decide +kernel
theorem d94_62 : decode (zz_c 94) 62 = .ok (.getfield 172, 3) := by decide +kernel
theorem d94_65 : decode (zz_c 94) 65 = .ok (.iload_n 1, 1) := by decide +kernel
theorem d94_66 : decode (zz_c 94) 66 = .ok (.iaload, 1) := by decide +kernel
theorem d94_67 : decode (zz_c 94) 67 = .ok (.invokevirtual 159, 3) := by decide +kernel
theorem d94_70 : decode (zz_c 94) 70 = .ok (.ireturn, 1) := by decide +kernel
theorem x94 : (∀ l1 l2 l3 x st h, zz_Y 94 (0, [some (.ref x), l1, l2, l3], st, h) = zz_Y 94 (1, [some (.ref x), l1, l2, l3], .ref x :: st, h)) ∧ (∀ ls a st h, zz_Y 94 (1, ls, .ref a :: st, h) = mo_gf (hp_g h a) 10 0 94 4 ls st h) ∧ (∀ ls a st h, zz_Y 94 (4, ls, .ref a :: st, h) = mo_gf (hp_g h a) 1 1 94 7 ls st h) ∧ (∀ l0 l1 l2 l3 x st h, zz_nl l2 = true → zz_Y 94 (7, [l0, l1, l2, l3], .ref x :: st, h) = zz_Y 94 (8, [l0, l1, l2, some (.ref x)], st, h)) ∧ (∀ l0 l2 l3 x st h, zz_Y 94 (8, [l0, some (.int x), l2, l3], st, h) = zz_Y 94 (9, [l0, some (.int x), l2, l3], .int x :: st, h)) ∧ (∀ ls a0 h, zz_Y 94 (9, ls, [a0], h) = mo_k 94 12 ls [] (zz_run 48 [a0] h)) ∧ (∀ ls a st h, zz_Y 94 (12, ls, .int a :: st, h) = if a = nI 0 then zz_Y 94 (22, ls, st, h) else zz_Y 94 (15, ls, st, h)) ∧ (∀ l0 l1 l3 x st h, zz_Y 94 (15, [l0, l1, some (.int x), l3], st, h) = zz_Y 94 (16, [l0, l1, some (.int x), l3], .int x :: st, h)) ∧ (∀ ls a0 h, zz_Y 94 (16, ls, [a0], h) = mo_k 94 19 ls [] (zz_run 85 [a0] h)) ∧ (∀ ls a st h, zz_Y 94 (19, ls, .int a :: st, h) = if a = nI 0 then zz_Y 94 (22, ls, st, h) else zz_Y 94 (28, ls, st, h)) ∧ (∀ l1 l2 l3 x st h, zz_Y 94 (22, [some (.ref x), l1, l2, l3], st, h) = zz_Y 94 (23, [some (.ref x), l1, l2, l3], .ref x :: st, h)) ∧ (∀ ls st h, zz_Y 94 (23, ls, st, h) = zz_Y 94 (24, ls, .int (nI 1) :: st, h)) ∧ (∀ ls a0 a1 h, zz_Y 94 (24, ls, [a1, a0], h) = mo_k 94 27 ls [] (zz_run 86 [a0, a1] h)) ∧ (∀ ls v h, zz_Y 94 (27, ls, [.int v], h) = some (some (.int v), h)) ∧ (∀ l0 l1 l2 x st h, zz_Y 94 (28, [l0, l1, l2, some (.ref x)], st, h) = zz_Y 94 (29, [l0, l1, l2, some (.ref x)], .ref x :: st, h)) ∧ (∀ l0 l2 l3 x st h, zz_Y 94 (29, [l0, some (.int x), l2, l3], st, h) = zz_Y 94 (30, [l0, some (.int x), l2, l3], .int x :: st, h)) ∧ (∀ ls a0 a1 h, zz_Y 94 (30, ls, [a1, a0], h) = mo_k 94 33 ls [] (zz_run 47 [a0, a1] h)) ∧ (∀ ls a st h, zz_Y 94 (33, ls, .int a :: st, h) = if a = nI 0 then zz_Y 94 (36, ls, st, h) else zz_Y 94 (42, ls, st, h)) ∧ (∀ l1 l2 l3 x st h, zz_Y 94 (36, [some (.ref x), l1, l2, l3], st, h) = zz_Y 94 (37, [some (.ref x), l1, l2, l3], .ref x :: st, h)) ∧ (∀ ls st h, zz_Y 94 (37, ls, st, h) = zz_Y 94 (38, ls, .int (nI 3) :: st, h)) ∧ (∀ ls a0 a1 h, zz_Y 94 (38, ls, [a1, a0], h) = mo_k 94 41 ls [] (zz_run 86 [a0, a1] h)) ∧ (∀ ls v h, zz_Y 94 (41, ls, [.int v], h) = some (some (.int v), h)) ∧ (∀ l0 l1 l2 x st h, zz_Y 94 (42, [l0, l1, l2, some (.ref x)], st, h) = zz_Y 94 (43, [l0, l1, l2, some (.ref x)], .ref x :: st, h)) ∧ (∀ ls a st h, zz_Y 94 (43, ls, .ref a :: st, h) = mo_gf (hp_g h a) 7 1 94 46 ls st h) ∧ (∀ l0 l2 l3 x st h, zz_Y 94 (46, [l0, some (.int x), l2, l3], st, h) = zz_Y 94 (47, [l0, some (.int x), l2, l3], .int x :: st, h)) ∧ (∀ ls a i st h, zz_Y 94 (47, ls, .int i :: .ref a :: st, h) = mo_ia (hp_g h a) i a 94 48 ls st h) ∧ (∀ l0 l1 l3 x st h, zz_Y 94 (48, [l0, l1, some (.int x), l3], st, h) = zz_Y 94 (49, [l0, l1, some (.int x), l3], .int x :: st, h)) ∧ (∀ ls a b st h, zz_Y 94 (49, ls, .int b :: .int a :: st, h) = if a = b then zz_Y 94 (52, ls, st, h) else zz_Y 94 (58, ls, st, h)) ∧ (∀ l1 l2 l3 x st h, zz_Y 94 (52, [some (.ref x), l1, l2, l3], st, h) = zz_Y 94 (53, [some (.ref x), l1, l2, l3], .ref x :: st, h)) ∧ (∀ ls st h, zz_Y 94 (53, ls, st, h) = zz_Y 94 (54, ls, .int (nI 2) :: st, h)) ∧ (∀ ls a0 a1 h, zz_Y 94 (54, ls, [a1, a0], h) = mo_k 94 57 ls [] (zz_run 86 [a0, a1] h)) ∧ (∀ ls v h, zz_Y 94 (57, ls, [.int v], h) = some (some (.int v), h)) ∧ (∀ l1 l2 l3 x st h, zz_Y 94 (58, [some (.ref x), l1, l2, l3], st, h) = zz_Y 94 (59, [some (.ref x), l1, l2, l3], .ref x :: st, h)) ∧ (∀ l0 l2 l3 x st h, zz_Y 94 (59, [l0, some (.int x), l2, l3], st, h) = zz_Y 94 (60, [l0, some (.int x), l2, l3], .int x :: st, h)) ∧ (∀ l0 l1 l3 x st h, zz_Y 94 (60, [l0, l1, some (.int x), l3], st, h) = zz_Y 94 (61, [l0, l1, some (.int x), l3], .int x :: st, h)) ∧ (∀ l0 l1 l2 x st h, zz_Y 94 (61, [l0, l1, l2, some (.ref x)], st, h) = zz_Y 94 (62, [l0, l1, l2, some (.ref x)], .ref x :: st, h)) ∧ (∀ ls a st h, zz_Y 94 (62, ls, .ref a :: st, h) = mo_gf (hp_g h a) 7 2 94 65 ls st h) ∧ (∀ l0 l2 l3 x st h, zz_Y 94 (65, [l0, some (.int x), l2, l3], st, h) = zz_Y 94 (66, [l0, some (.int x), l2, l3], .int x :: st, h)) ∧ (∀ ls a i st h, zz_Y 94 (66, ls, .int i :: .ref a :: st, h) = mo_ia (hp_g h a) i a 94 67 ls st h) ∧ (∀ ls a0 a1 a2 a3 h, zz_Y 94 (67, ls, [a3, a2, a1, a0], h) = mo_k 94 70 ls [] (zz_run 88 [a0, a1, a2, a3] h)) ∧ (∀ ls v h, zz_Y 94 (70, ls, [.int v], h) = some (some (.int v), h)) :=
  ⟨fun _ _ _ _ _ _ => xl_aln d94_0 rfl,
   fun _ _ _ _ => xl_gf d94_1 xco94 xf_10_12,
   fun _ _ _ _ => xl_gf d94_4 xco94 xf_10_79,
   fun _ _ _ _ _ _ _ hc => xl_asn d94_7 xml94 (by decide) (zz_nl_s1 hc),
   fun _ _ _ _ _ _ => xl_iln d94_8 rfl,
   fun ls a0 h => xl_cs (As := [a0]) (st := []) d94_9 xco94 xm_10_147 xnp48 (by decide +kernel) rfl,
   fun _ _ _ _ => xl_ifeq d94_12 rfl,
   fun _ _ _ _ _ _ => xl_iln d94_15 rfl,
   fun ls a0 h => xl_cs (As := [a0]) (st := []) d94_16 xco94 xm_10_150 xnp85 (by decide +kernel) rfl,
   fun _ _ _ _ => xl_ifne d94_19 rfl,
   fun _ _ _ _ _ _ => xl_aln d94_22 rfl,
   fun _ _ _ => xl_ic d94_23 (by decide +kernel),
   fun ls a0 a1 h => xl_cv (As := [a0, a1]) (st := []) d94_24 xco94 xm_10_153 (congrArg Nat.succ xnp86) (by decide +kernel) rfl,
   fun _ _ _ => xl_iri d94_27 xrt94,
   fun _ _ _ _ _ _ => xl_aln d94_28 rfl,
   fun _ _ _ _ _ _ => xl_iln d94_29 rfl,
   fun ls a0 a1 h => xl_cv (As := [a0, a1]) (st := []) d94_30 xco94 xm_10_156 (congrArg Nat.succ xnp47) (by decide +kernel) rfl,
   fun _ _ _ _ => xl_ifne d94_33 rfl,
   fun _ _ _ _ _ _ => xl_aln d94_36 rfl,
   fun _ _ _ => xl_ic d94_37 (by decide +kernel),
   fun ls a0 a1 h => xl_cv (As := [a0, a1]) (st := []) d94_38 xco94 xm_10_153 (congrArg Nat.succ xnp86) (by decide +kernel) rfl,
   fun _ _ _ => xl_iri d94_41 xrt94,
   fun _ _ _ _ _ _ => xl_aln d94_42 rfl,
   fun _ _ _ _ => xl_gf d94_43 xco94 xf_10_186,
   fun _ _ _ _ _ _ => xl_iln d94_46 rfl,
   fun _ _ _ _ _ => xl_ia d94_47,
   fun _ _ _ _ _ _ => xl_iln d94_48 rfl,
   fun _ _ _ _ _ => xl_icne d94_49 rfl,
   fun _ _ _ _ _ _ => xl_aln d94_52 rfl,
   fun _ _ _ => xl_ic d94_53 (by decide +kernel),
   fun ls a0 a1 h => xl_cv (As := [a0, a1]) (st := []) d94_54 xco94 xm_10_153 (congrArg Nat.succ xnp86) (by decide +kernel) rfl,
   fun _ _ _ => xl_iri d94_57 xrt94,
   fun _ _ _ _ _ _ => xl_aln d94_58 rfl,
   fun _ _ _ _ _ _ => xl_iln d94_59 rfl,
   fun _ _ _ _ _ _ => xl_iln d94_60 rfl,
   fun _ _ _ _ _ _ => xl_aln d94_61 rfl,
   fun _ _ _ _ => xl_gf d94_62 xco94 xf_10_172,
   fun _ _ _ _ _ _ => xl_iln d94_65 rfl,
   fun _ _ _ _ _ => xl_ia d94_66,
   fun ls a0 a1 a2 a3 h => xl_cv (As := [a0, a1, a2, a3]) (st := []) d94_67 xco94 xm_10_159 (congrArg Nat.succ xnp88) (by decide +kernel) rfl,
   fun _ _ _ => xl_iri d94_70 xrt94⟩
/-! 95 FacetSieve.choose(II)I -/
theorem d95_0 : decode (zz_c 95) 0 = .ok (.aload_n 0, 1) := by decide +kernel
theorem d95_1 : decode (zz_c 95) 1 = .ok (.getfield 12, 3) := by decide +kernel
theorem d95_4 : decode (zz_c 95) 4 = .ok (.getfield 79, 3) := by decide +kernel
theorem d95_7 : decode (zz_c 95) 7 = .ok (.getfield 163, 3) := by decide +kernel
theorem d95_10 : decode (zz_c 95) 10 = .ok (.iload_n 1, 1) := by decide +kernel
theorem d95_11 : decode (zz_c 95) 11 = .ok (.invokevirtual 167, 3) := by decide +kernel
theorem d95_14 : decode (zz_c 95) 14 = .ok (.ifCond .eq 12, 3) := by decide +kernel
theorem d95_17 : decode (zz_c 95) 17 = .ok (.iload_n 2, 1) := by decide +kernel
theorem d95_18 : decode (zz_c 95) 18 = .ok (.ifCond .lt 8, 3) := by decide +kernel
theorem d95_21 : decode (zz_c 95) 21 = .ok (.iload_n 2, 1) := by decide +kernel
theorem d95_22 : decode (zz_c 95) 22 = .ok (.iconst 2, 1) := by decide +kernel
theorem d95_23 : decode (zz_c 95) 23 = .ok (.if_icmp .le 9, 3) := by decide +kernel
theorem d95_26 : decode (zz_c 95) 26 = .ok (.aload_n 0, 1) := by decide +kernel
theorem d95_27 : decode (zz_c 95) 27 = .ok (.iconst 1, 1) := by decide +kernel
theorem d95_28 : decode (zz_c 95) 28 = .ok (.invokevirtual 153, 3) := by decide +kernel
theorem d95_31 : decode (zz_c 95) 31 = .ok (.ireturn, 1) := by decide +kernel
theorem d95_32 : decode (zz_c 95) 32 = .ok (.aload_n 0, 1) := by decide +kernel
theorem d95_33 : decode (zz_c 95) 33 = .ok (.getfield 12, 3) := by decide +kernel
theorem d95_36 : decode (zz_c 95) 36 = .ok (.getfield 92, 3) := by decide +kernel
theorem d95_39 : decode (zz_c 95) 39 = .ok (.getfield 189, 3) := by decide +kernel
theorem d95_42 : decode (zz_c 95) 42 = .ok (.iload_n 1, 1) := by decide +kernel
theorem d95_43 : decode (zz_c 95) 43 = .ok (.iaload, 1) := by decide +kernel
theorem d95_44 : decode (zz_c 95) 44 = .ok (.istore_n 3, 1) := by decide +kernel
theorem d95_45 : decode (zz_c 95) 45 = .ok (.iload_n 3, 1) := by decide +kernel
theorem d95_46 : decode (zz_c 95) 46 = .ok (.iload_n 2, 1) := by decide +kernel
theorem d95_47 : decode (zz_c 95) 47 = .ok (.if_icmp .ne 9, 3) := by decide +kernel
theorem d95_50 : decode (zz_c 95) 50 = .ok (.aload_n 0, 1) := by decide +kernel
theorem d95_51 : decode (zz_c 95) 51 = .ok (.iconst 2, 1) := by decide +kernel
theorem d95_52 : decode (zz_c 95) 52 = .ok (.invokevirtual 153, 3) := by decide +kernel
theorem d95_55 : decode (zz_c 95) 55 = .ok (.ireturn, 1) := by decide +kernel
theorem d95_56 : decode (zz_c 95) 56 = .ok (.aload_n 0, 1) := by decide +kernel
theorem d95_57 : decode (zz_c 95) 57 = .ok (.getfield 23, 3) := by decide +kernel
theorem d95_60 : decode (zz_c 95) 60 = .ok (.iconst 1, 1) := by decide +kernel
theorem d95_61 : decode (zz_c 95) 61 = .ok (.iload_n 1, 1) := by decide +kernel
theorem d95_62 : decode (zz_c 95) 62 = .ok (.iload_n 3, 1) := by decide +kernel
theorem d95_63 : decode (zz_c 95) 63 = .ok (.iconst 0, 1) := by decide +kernel
theorem d95_64 : decode (zz_c 95) 64 = .ok (.invokevirtual 192, 3) := by decide +kernel
theorem d95_67 : decode (zz_c 95) 67 = .ok (.aload_n 0, 1) := by decide +kernel
theorem d95_68 : decode (zz_c 95) 68 = .ok (.getfield 12, 3) := by decide +kernel
theorem d95_71 : decode (zz_c 95) 71 = .ok (.getfield 92, 3) := by decide +kernel
theorem d95_74 : decode (zz_c 95) 74 = .ok (.getfield 189, 3) := by decide +kernel
theorem d95_77 : decode (zz_c 95) 77 = .ok (.iload_n 1, 1) := by decide +kernel
theorem d95_78 : decode (zz_c 95) 78 = .ok (.iload_n 2, 1) := by decide +kernel
theorem d95_79 : decode (zz_c 95) 79 = .ok (.iastore, 1) := by decide +kernel
theorem d95_80 : decode (zz_c 95) 80 = .ok (.aload_n 0, 1) := by decide +kernel
theorem d95_81 : decode (zz_c 95) 81 = .ok (.invokevirtual 196, 3) := by decide +kernel
theorem d95_84 : decode (zz_c 95) 84 = .ok (.ireturn, 1) := by decide +kernel
theorem x95 : (∀ l1 l2 l3 x st h, zz_Y 95 (0, [some (.ref x), l1, l2, l3], st, h) = zz_Y 95 (1, [some (.ref x), l1, l2, l3], .ref x :: st, h)) ∧ (∀ ls a st h, zz_Y 95 (1, ls, .ref a :: st, h) = mo_gf (hp_g h a) 10 0 95 4 ls st h) ∧ (∀ ls a st h, zz_Y 95 (4, ls, .ref a :: st, h) = mo_gf (hp_g h a) 1 1 95 7 ls st h) ∧ (∀ ls a st h, zz_Y 95 (7, ls, .ref a :: st, h) = mo_gf (hp_g h a) 7 0 95 10 ls st h) ∧ (∀ l0 l2 l3 x st h, zz_Y 95 (10, [l0, some (.int x), l2, l3], st, h) = zz_Y 95 (11, [l0, some (.int x), l2, l3], .int x :: st, h)) ∧ (∀ ls a0 a1 h, zz_Y 95 (11, ls, [a1, a0], h) = mo_k 95 14 ls [] (zz_run 44 [a0, a1] h)) ∧ (∀ ls a st h, zz_Y 95 (14, ls, .int a :: st, h) = if a = nI 0 then zz_Y 95 (26, ls, st, h) else zz_Y 95 (17, ls, st, h)) ∧ (∀ l0 l1 l3 x st h, zz_Y 95 (17, [l0, l1, some (.int x), l3], st, h) = zz_Y 95 (18, [l0, l1, some (.int x), l3], .int x :: st, h)) ∧ (∀ ls a st h, zz_Y 95 (18, ls, .int a :: st, h) = if a < nI 0 then zz_Y 95 (26, ls, st, h) else zz_Y 95 (21, ls, st, h)) ∧ (∀ l0 l1 l3 x st h, zz_Y 95 (21, [l0, l1, some (.int x), l3], st, h) = zz_Y 95 (22, [l0, l1, some (.int x), l3], .int x :: st, h)) ∧ (∀ ls st h, zz_Y 95 (22, ls, st, h) = zz_Y 95 (23, ls, .int (nI 2) :: st, h)) ∧ (∀ ls a b st h, zz_Y 95 (23, ls, .int b :: .int a :: st, h) = if b < a then zz_Y 95 (26, ls, st, h) else zz_Y 95 (32, ls, st, h)) ∧ (∀ l1 l2 l3 x st h, zz_Y 95 (26, [some (.ref x), l1, l2, l3], st, h) = zz_Y 95 (27, [some (.ref x), l1, l2, l3], .ref x :: st, h)) ∧ (∀ ls st h, zz_Y 95 (27, ls, st, h) = zz_Y 95 (28, ls, .int (nI 1) :: st, h)) ∧ (∀ ls a0 a1 h, zz_Y 95 (28, ls, [a1, a0], h) = mo_k 95 31 ls [] (zz_run 86 [a0, a1] h)) ∧ (∀ ls v h, zz_Y 95 (31, ls, [.int v], h) = some (some (.int v), h)) ∧ (∀ l1 l2 l3 x st h, zz_Y 95 (32, [some (.ref x), l1, l2, l3], st, h) = zz_Y 95 (33, [some (.ref x), l1, l2, l3], .ref x :: st, h)) ∧ (∀ ls a st h, zz_Y 95 (33, ls, .ref a :: st, h) = mo_gf (hp_g h a) 10 0 95 36 ls st h) ∧ (∀ ls a st h, zz_Y 95 (36, ls, .ref a :: st, h) = mo_gf (hp_g h a) 1 2 95 39 ls st h) ∧ (∀ ls a st h, zz_Y 95 (39, ls, .ref a :: st, h) = mo_gf (hp_g h a) 0 0 95 42 ls st h) ∧ (∀ l0 l2 l3 x st h, zz_Y 95 (42, [l0, some (.int x), l2, l3], st, h) = zz_Y 95 (43, [l0, some (.int x), l2, l3], .int x :: st, h)) ∧ (∀ ls a i st h, zz_Y 95 (43, ls, .int i :: .ref a :: st, h) = mo_ia (hp_g h a) i a 95 44 ls st h) ∧ (∀ l0 l1 l2 l3 x st h, zz_nl l2 = true → zz_Y 95 (44, [l0, l1, l2, l3], .int x :: st, h) = zz_Y 95 (45, [l0, l1, l2, some (.int x)], st, h)) ∧ (∀ l0 l1 l2 x st h, zz_Y 95 (45, [l0, l1, l2, some (.int x)], st, h) = zz_Y 95 (46, [l0, l1, l2, some (.int x)], .int x :: st, h)) ∧ (∀ l0 l1 l3 x st h, zz_Y 95 (46, [l0, l1, some (.int x), l3], st, h) = zz_Y 95 (47, [l0, l1, some (.int x), l3], .int x :: st, h)) ∧ (∀ ls a b st h, zz_Y 95 (47, ls, .int b :: .int a :: st, h) = if a = b then zz_Y 95 (50, ls, st, h) else zz_Y 95 (56, ls, st, h)) ∧ (∀ l1 l2 l3 x st h, zz_Y 95 (50, [some (.ref x), l1, l2, l3], st, h) = zz_Y 95 (51, [some (.ref x), l1, l2, l3], .ref x :: st, h)) ∧ (∀ ls st h, zz_Y 95 (51, ls, st, h) = zz_Y 95 (52, ls, .int (nI 2) :: st, h)) ∧ (∀ ls a0 a1 h, zz_Y 95 (52, ls, [a1, a0], h) = mo_k 95 55 ls [] (zz_run 86 [a0, a1] h)) ∧ (∀ ls v h, zz_Y 95 (55, ls, [.int v], h) = some (some (.int v), h)) ∧ (∀ l1 l2 l3 x st h, zz_Y 95 (56, [some (.ref x), l1, l2, l3], st, h) = zz_Y 95 (57, [some (.ref x), l1, l2, l3], .ref x :: st, h)) ∧ (∀ ls a st h, zz_Y 95 (57, ls, .ref a :: st, h) = mo_gf (hp_g h a) 10 2 95 60 ls st h) ∧ (∀ ls st h, zz_Y 95 (60, ls, st, h) = zz_Y 95 (61, ls, .int (nI 1) :: st, h)) ∧ (∀ l0 l2 l3 x st h, zz_Y 95 (61, [l0, some (.int x), l2, l3], st, h) = zz_Y 95 (62, [l0, some (.int x), l2, l3], .int x :: st, h)) ∧ (∀ l0 l1 l2 x st h, zz_Y 95 (62, [l0, l1, l2, some (.int x)], st, h) = zz_Y 95 (63, [l0, l1, l2, some (.int x)], .int x :: st, h)) ∧ (∀ ls st h, zz_Y 95 (63, ls, st, h) = zz_Y 95 (64, ls, .int (nI 0) :: st, h)) ∧ (∀ ls a0 a1 a2 a3 a4 h, zz_Y 95 (64, ls, [a4, a3, a2, a1, a0], h) = mo_k 95 67 ls [] (zz_run 89 [a0, a1, a2, a3, a4] h)) ∧ (∀ l1 l2 l3 x st h, zz_Y 95 (67, [some (.ref x), l1, l2, l3], st, h) = zz_Y 95 (68, [some (.ref x), l1, l2, l3], .ref x :: st, h)) ∧ (∀ ls a st h, zz_Y 95 (68, ls, .ref a :: st, h) = mo_gf (hp_g h a) 10 0 95 71 ls st h) ∧ (∀ ls a st h, zz_Y 95 (71, ls, .ref a :: st, h) = mo_gf (hp_g h a) 1 2 95 74 ls st h) ∧ (∀ ls a st h, zz_Y 95 (74, ls, .ref a :: st, h) = mo_gf (hp_g h a) 0 0 95 77 ls st h) ∧ (∀ l0 l2 l3 x st h, zz_Y 95 (77, [l0, some (.int x), l2, l3], st, h) = zz_Y 95 (78, [l0, some (.int x), l2, l3], .int x :: st, h)) ∧ (∀ l0 l1 l3 x st h, zz_Y 95 (78, [l0, l1, some (.int x), l3], st, h) = zz_Y 95 (79, [l0, l1, some (.int x), l3], .int x :: st, h)) ∧ (∀ ls a i x st h, zz_Y 95 (79, ls, .int x :: .int i :: .ref a :: st, h) = mo_is (hp_g h a) x i a 95 80 ls st h) ∧ (∀ l1 l2 l3 x st h, zz_Y 95 (80, [some (.ref x), l1, l2, l3], st, h) = zz_Y 95 (81, [some (.ref x), l1, l2, l3], .ref x :: st, h)) ∧ (∀ ls a0 h, zz_Y 95 (81, ls, [a0], h) = mo_k 95 84 ls [] (zz_run 90 [a0] h)) ∧ (∀ ls v h, zz_Y 95 (84, ls, [.int v], h) = some (some (.int v), h)) :=
  ⟨fun _ _ _ _ _ _ => xl_aln d95_0 rfl,
   fun _ _ _ _ => xl_gf d95_1 xco95 xf_10_12,
   fun _ _ _ _ => xl_gf d95_4 xco95 xf_10_79,
   fun _ _ _ _ => xl_gf d95_7 xco95 xf_10_163,
   fun _ _ _ _ _ _ => xl_iln d95_10 rfl,
   fun ls a0 a1 h => xl_cv (As := [a0, a1]) (st := []) d95_11 xco95 xm_10_167 (congrArg Nat.succ xnp44) (by decide +kernel) rfl,
   fun _ _ _ _ => xl_ifeq d95_14 rfl,
   fun _ _ _ _ _ _ => xl_iln d95_17 rfl,
   fun _ _ _ _ => xl_iflt d95_18 rfl,
   fun _ _ _ _ _ _ => xl_iln d95_21 rfl,
   fun _ _ _ => xl_ic d95_22 (by decide +kernel),
   fun _ _ _ _ _ => xl_icle d95_23 rfl,
   fun _ _ _ _ _ _ => xl_aln d95_26 rfl,
   fun _ _ _ => xl_ic d95_27 (by decide +kernel),
   fun ls a0 a1 h => xl_cv (As := [a0, a1]) (st := []) d95_28 xco95 xm_10_153 (congrArg Nat.succ xnp86) (by decide +kernel) rfl,
   fun _ _ _ => xl_iri d95_31 xrt95,
   fun _ _ _ _ _ _ => xl_aln d95_32 rfl,
   fun _ _ _ _ => xl_gf d95_33 xco95 xf_10_12,
   fun _ _ _ _ => xl_gf d95_36 xco95 xf_10_92,
   fun _ _ _ _ => xl_gf d95_39 xco95 xf_10_189,
   fun _ _ _ _ _ _ => xl_iln d95_42 rfl,
   fun _ _ _ _ _ => xl_ia d95_43,
   fun _ _ _ _ _ _ _ hc => xl_isn d95_44 xml95 (by decide) (zz_nl_s1 hc),
   fun _ _ _ _ _ _ => xl_iln d95_45 rfl,
   fun _ _ _ _ _ _ => xl_iln d95_46 rfl,
   fun _ _ _ _ _ => xl_icne d95_47 rfl,
   fun _ _ _ _ _ _ => xl_aln d95_50 rfl,
   fun _ _ _ => xl_ic d95_51 (by decide +kernel),
   fun ls a0 a1 h => xl_cv (As := [a0, a1]) (st := []) d95_52 xco95 xm_10_153 (congrArg Nat.succ xnp86) (by decide +kernel) rfl,
   fun _ _ _ => xl_iri d95_55 xrt95,
   fun _ _ _ _ _ _ => xl_aln d95_56 rfl,
   fun _ _ _ _ => xl_gf d95_57 xco95 xf_10_23,
   fun _ _ _ => xl_ic d95_60 (by decide +kernel),
   fun _ _ _ _ _ _ => xl_iln d95_61 rfl,
   fun _ _ _ _ _ _ => xl_iln d95_62 rfl,
   fun _ _ _ => xl_ic d95_63 (by decide +kernel),
   fun ls a0 a1 a2 a3 a4 h => xl_cv (As := [a0, a1, a2, a3, a4]) (st := []) d95_64 xco95 xm_10_192 (congrArg Nat.succ xnp89) (by decide +kernel) rfl,
   fun _ _ _ _ _ _ => xl_aln d95_67 rfl,
   fun _ _ _ _ => xl_gf d95_68 xco95 xf_10_12,
   fun _ _ _ _ => xl_gf d95_71 xco95 xf_10_92,
   fun _ _ _ _ => xl_gf d95_74 xco95 xf_10_189,
   fun _ _ _ _ _ _ => xl_iln d95_77 rfl,
   fun _ _ _ _ _ _ => xl_iln d95_78 rfl,
   fun _ _ _ _ _ _ => xl_ist d95_79,
   fun _ _ _ _ _ _ => xl_aln d95_80 rfl,
   fun ls a0 h => xl_cv (As := [a0]) (st := []) d95_81 xco95 xm_10_196 (congrArg Nat.succ xnp90) (by decide +kernel) rfl,
   fun _ _ _ => xl_iri d95_84 xrt95⟩
/-! 96 FacetSieve.go(IZ)I -/
theorem d96_0 : decode (zz_c 96) 0 = .ok (.aload_n 0, 1) := by decide +kernel
theorem d96_1 : decode (zz_c 96) 1 = .ok (.getfield 12, 3) := by decide +kernel
theorem d96_4 : decode (zz_c 96) 4 = .ok (.getfield 79, 3) := by decide +kernel
theorem d96_7 : decode (zz_c 96) 7 = .ok (.getfield 163, 3) := by decide +kernel
theorem d96_10 : decode (zz_c 96) 10 = .ok (.iload_n 1, 1) := by decide +kernel
theorem d96_11 : decode (zz_c 96) 11 = .ok (.invokevirtual 200, 3) := by decide +kernel
theorem d96_14 : decode (zz_c 96) 14 = .ok (.ifCond .ne 9, 3) := by decide +kernel
theorem d96_17 : decode (zz_c 96) 17 = .ok (.aload_n 0, 1) := by decide +kernel
theorem d96_18 : decode (zz_c 96) 18 = .ok (.iconst 1, 1) := by decide +kernel
theorem d96_19 : decode (zz_c 96) 19 = .ok (.invokevirtual 153, 3) := by decide +kernel
theorem d96_22 : decode (zz_c 96) 22 = .ok (.ireturn, 1) := by decide +kernel
theorem d96_23 : decode (zz_c 96) 23 = .ok (.aload_n 0, 1) := by decide +kernel
theorem d96_24 : decode (zz_c 96) 24 = .ok (.getfield 12, 3) := by decide +kernel
theorem d96_27 : decode (zz_c 96) 27 = .ok (.getfield 92, 3) := by decide +kernel
theorem d96_30 : decode (zz_c 96) 30 = .ok (.getfield 203, 3) := by decide +kernel
theorem d96_33 : decode (zz_c 96) 33 = .ok (.iload_n 1, 1) := by decide +kernel
theorem d96_34 : decode (zz_c 96) 34 = .ok (.iaload, 1) := by decide +kernel
theorem d96_35 : decode (zz_c 96) 35 = .ok (.istore_n 3, 1) := by decide +kernel
theorem d96_36 : decode (zz_c 96) 36 = .ok (.iload_n 2, 1) := by decide +kernel
theorem d96_37 : decode (zz_c 96) 37 = .ok (.ifCond .eq 7, 3) := by decide +kernel
theorem d96_40 : decode (zz_c 96) 40 = .ok (.iconst 1, 1) := by decide +kernel
theorem d96_41 : decode (zz_c 96) 41 = .ok (.goto 4, 3) := by decide +kernel
theorem d96_44 : decode (zz_c 96) 44 = .ok (.iconst 0, 1) := by decide +kernel
theorem d96_45 : decode (zz_c 96) 45 = .ok (.istore 4, 2) := by decide +kernel
theorem d96_47 : decode (zz_c 96) 47 = .ok (.iload_n 3, 1) := by decide +kernel
theorem d96_48 : decode (zz_c 96) 48 = .ok (.iload 4, 2) := by decide +kernel
theorem d96_50 : decode (zz_c 96) 50 = .ok (.if_icmp .ne 9, 3) := by decide +kernel
theorem d96_53 : decode (zz_c 96) 53 = .ok (.aload_n 0, 1) := by decide +kernel
theorem d96_54 : decode (zz_c 96) 54 = .ok (.iconst 2, 1) := by decide +kernel
theorem d96_55 : decode (zz_c 96) 55 = .ok (.invokevirtual 153, 3) := by decide +kernel
theorem d96_58 : decode (zz_c 96) 58 = .ok (.ireturn, 1) := by decide +kernel
theorem d96_59 : decode (zz_c 96) 59 = .ok (.aload_n 0, 1) := by decide +kernel
theorem d96_60 : decode (zz_c 96) 60 = .ok (.getfield 23, 3) := by decide +kernel
theorem d96_63 : decode (zz_c 96) 63 = .ok (.iconst 2, 1) := by decide +kernel
theorem d96_64 : decode (zz_c 96) 64 = .ok (.iload_n 1, 1) := by decide +kernel
theorem d96_65 : decode (zz_c 96) 65 = .ok (.iload_n 3, 1) := by decide +kernel
theorem d96_66 : decode (zz_c 96) 66 = .ok (.iconst 0, 1) := by decide +kernel
theorem d96_67 : decode (zz_c 96) 67 = .ok (.invokevirtual 192, 3) := by decide +kernel
theorem d96_70 : decode (zz_c 96) 70 = .ok (.aload_n 0, 1) := by decide +kernel
theorem d96_71 : decode (zz_c 96) 71 = .ok (.getfield 12, 3) := by decide +kernel
theorem d96_74 : decode (zz_c 96) 74 = .ok (.getfield 92, 3) := by decide +kernel
theorem d96_77 : decode (zz_c 96) 77 = .ok (.getfield 203, 3) := by decide +kernel
theorem d96_80 : decode (zz_c 96) 80 = .ok (.iload_n 1, 1) := by decide +kernel
theorem d96_81 : decode (zz_c 96) 81 = .ok (.iload 4, 2) := by decide +kernel
theorem d96_83 : decode (zz_c 96) 83 = .ok (.iastore, 1) := by decide +kernel
theorem d96_84 : decode (zz_c 96) 84 = .ok (.aload_n 0, 1) := by decide +kernel
theorem d96_85 : decode (zz_c 96) 85 = .ok (.invokevirtual 196, 3) := by decide +kernel
theorem d96_88 : decode (zz_c 96) 88 = .ok (.ireturn, 1) := by decide +kernel
theorem x96 : (∀ l1 l2 l3 l4 x st h, zz_Y 96 (0, [some (.ref x), l1, l2, l3, l4], st, h) = zz_Y 96 (1, [some (.ref x), l1, l2, l3, l4], .ref x :: st, h)) ∧ (∀ ls a st h, zz_Y 96 (1, ls, .ref a :: st, h) = mo_gf (hp_g h a) 10 0 96 4 ls st h) ∧ (∀ ls a st h, zz_Y 96 (4, ls, .ref a :: st, h) = mo_gf (hp_g h a) 1 1 96 7 ls st h) ∧ (∀ ls a st h, zz_Y 96 (7, ls, .ref a :: st, h) = mo_gf (hp_g h a) 7 0 96 10 ls st h) ∧ (∀ l0 l2 l3 l4 x st h, zz_Y 96 (10, [l0, some (.int x), l2, l3, l4], st, h) = zz_Y 96 (11, [l0, some (.int x), l2, l3, l4], .int x :: st, h)) ∧ (∀ ls a0 a1 h, zz_Y 96 (11, ls, [a1, a0], h) = mo_k 96 14 ls [] (zz_run 97 [a0, a1] h)) ∧ (∀ ls a st h, zz_Y 96 (14, ls, .int a :: st, h) = if a = nI 0 then zz_Y 96 (17, ls, st, h) else zz_Y 96 (23, ls, st, h)) ∧ (∀ l1 l2 l3 l4 x st h, zz_Y 96 (17, [some (.ref x), l1, l2, l3, l4], st, h) = zz_Y 96 (18, [some (.ref x), l1, l2, l3, l4], .ref x :: st, h)) ∧ (∀ ls st h, zz_Y 96 (18, ls, st, h) = zz_Y 96 (19, ls, .int (nI 1) :: st, h)) ∧ (∀ ls a0 a1 h, zz_Y 96 (19, ls, [a1, a0], h) = mo_k 96 22 ls [] (zz_run 86 [a0, a1] h)) ∧ (∀ ls v h, zz_Y 96 (22, ls, [.int v], h) = some (some (.int v), h)) ∧ (∀ l1 l2 l3 l4 x st h, zz_Y 96 (23, [some (.ref x), l1, l2, l3, l4], st, h) = zz_Y 96 (24, [some (.ref x), l1, l2, l3, l4], .ref x :: st, h)) ∧ (∀ ls a st h, zz_Y 96 (24, ls, .ref a :: st, h) = mo_gf (hp_g h a) 10 0 96 27 ls st h) ∧ (∀ ls a st h, zz_Y 96 (27, ls, .ref a :: st, h) = mo_gf (hp_g h a) 1 2 96 30 ls st h) ∧ (∀ ls a st h, zz_Y 96 (30, ls, .ref a :: st, h) = mo_gf (hp_g h a) 0 1 96 33 ls st h) ∧ (∀ l0 l2 l3 l4 x st h, zz_Y 96 (33, [l0, some (.int x), l2, l3, l4], st, h) = zz_Y 96 (34, [l0, some (.int x), l2, l3, l4], .int x :: st, h)) ∧ (∀ ls a i st h, zz_Y 96 (34, ls, .int i :: .ref a :: st, h) = mo_ia (hp_g h a) i a 96 35 ls st h) ∧ (∀ l0 l1 l2 l3 l4 x st h, zz_nl l2 = true → zz_Y 96 (35, [l0, l1, l2, l3, l4], .int x :: st, h) = zz_Y 96 (36, [l0, l1, l2, some (.int x), l4], st, h)) ∧ (∀ l0 l1 l3 l4 x st h, zz_Y 96 (36, [l0, l1, some (.int x), l3, l4], st, h) = zz_Y 96 (37, [l0, l1, some (.int x), l3, l4], .int x :: st, h)) ∧ (∀ ls a st h, zz_Y 96 (37, ls, .int a :: st, h) = if a = nI 0 then zz_Y 96 (44, ls, st, h) else zz_Y 96 (40, ls, st, h)) ∧ (∀ ls st h, zz_Y 96 (40, ls, st, h) = zz_Y 96 (41, ls, .int (nI 1) :: st, h)) ∧ (∀ ls st h, zz_Y 96 (41, ls, st, h) = zz_Y 96 (45, ls, st, h)) ∧ (∀ ls st h, zz_Y 96 (44, ls, st, h) = zz_Y 96 (45, ls, .int (nI 0) :: st, h)) ∧ (∀ l0 l1 l2 l3 l4 x st h, zz_nl l3 = true → zz_Y 96 (45, [l0, l1, l2, l3, l4], .int x :: st, h) = zz_Y 96 (47, [l0, l1, l2, l3, some (.int x)], st, h)) ∧ (∀ l0 l1 l2 l4 x st h, zz_Y 96 (47, [l0, l1, l2, some (.int x), l4], st, h) = zz_Y 96 (48, [l0, l1, l2, some (.int x), l4], .int x :: st, h)) ∧ (∀ l0 l1 l2 l3 x st h, zz_Y 96 (48, [l0, l1, l2, l3, some (.int x)], st, h) = zz_Y 96 (50, [l0, l1, l2, l3, some (.int x)], .int x :: st, h)) ∧ (∀ ls a b st h, zz_Y 96 (50, ls, .int b :: .int a :: st, h) = if a = b then zz_Y 96 (53, ls, st, h) else zz_Y 96 (59, ls, st, h)) ∧ (∀ l1 l2 l3 l4 x st h, zz_Y 96 (53, [some (.ref x), l1, l2, l3, l4], st, h) = zz_Y 96 (54, [some (.ref x), l1, l2, l3, l4], .ref x :: st, h)) ∧ (∀ ls st h, zz_Y 96 (54, ls, st, h) = zz_Y 96 (55, ls, .int (nI 2) :: st, h)) ∧ (∀ ls a0 a1 h, zz_Y 96 (55, ls, [a1, a0], h) = mo_k 96 58 ls [] (zz_run 86 [a0, a1] h)) ∧ (∀ ls v h, zz_Y 96 (58, ls, [.int v], h) = some (some (.int v), h)) ∧ (∀ l1 l2 l3 l4 x st h, zz_Y 96 (59, [some (.ref x), l1, l2, l3, l4], st, h) = zz_Y 96 (60, [some (.ref x), l1, l2, l3, l4], .ref x :: st, h)) ∧ (∀ ls a st h, zz_Y 96 (60, ls, .ref a :: st, h) = mo_gf (hp_g h a) 10 2 96 63 ls st h) ∧ (∀ ls st h, zz_Y 96 (63, ls, st, h) = zz_Y 96 (64, ls, .int (nI 2) :: st, h)) ∧ (∀ l0 l2 l3 l4 x st h, zz_Y 96 (64, [l0, some (.int x), l2, l3, l4], st, h) = zz_Y 96 (65, [l0, some (.int x), l2, l3, l4], .int x :: st, h)) ∧ (∀ l0 l1 l2 l4 x st h, zz_Y 96 (65, [l0, l1, l2, some (.int x), l4], st, h) = zz_Y 96 (66, [l0, l1, l2, some (.int x), l4], .int x :: st, h)) ∧ (∀ ls st h, zz_Y 96 (66, ls, st, h) = zz_Y 96 (67, ls, .int (nI 0) :: st, h)) ∧ (∀ ls a0 a1 a2 a3 a4 h, zz_Y 96 (67, ls, [a4, a3, a2, a1, a0], h) = mo_k 96 70 ls [] (zz_run 89 [a0, a1, a2, a3, a4] h)) ∧ (∀ l1 l2 l3 l4 x st h, zz_Y 96 (70, [some (.ref x), l1, l2, l3, l4], st, h) = zz_Y 96 (71, [some (.ref x), l1, l2, l3, l4], .ref x :: st, h)) ∧ (∀ ls a st h, zz_Y 96 (71, ls, .ref a :: st, h) = mo_gf (hp_g h a) 10 0 96 74 ls st h) ∧ (∀ ls a st h, zz_Y 96 (74, ls, .ref a :: st, h) = mo_gf (hp_g h a) 1 2 96 77 ls st h) ∧ (∀ ls a st h, zz_Y 96 (77, ls, .ref a :: st, h) = mo_gf (hp_g h a) 0 1 96 80 ls st h) ∧ (∀ l0 l2 l3 l4 x st h, zz_Y 96 (80, [l0, some (.int x), l2, l3, l4], st, h) = zz_Y 96 (81, [l0, some (.int x), l2, l3, l4], .int x :: st, h)) ∧ (∀ l0 l1 l2 l3 x st h, zz_Y 96 (81, [l0, l1, l2, l3, some (.int x)], st, h) = zz_Y 96 (83, [l0, l1, l2, l3, some (.int x)], .int x :: st, h)) ∧ (∀ ls a i x st h, zz_Y 96 (83, ls, .int x :: .int i :: .ref a :: st, h) = mo_is (hp_g h a) x i a 96 84 ls st h) ∧ (∀ l1 l2 l3 l4 x st h, zz_Y 96 (84, [some (.ref x), l1, l2, l3, l4], st, h) = zz_Y 96 (85, [some (.ref x), l1, l2, l3, l4], .ref x :: st, h)) ∧ (∀ ls a0 h, zz_Y 96 (85, ls, [a0], h) = mo_k 96 88 ls [] (zz_run 90 [a0] h)) ∧ (∀ ls v h, zz_Y 96 (88, ls, [.int v], h) = some (some (.int v), h)) :=
  ⟨fun _ _ _ _ _ _ _ => xl_aln d96_0 rfl,
   fun _ _ _ _ => xl_gf d96_1 xco96 xf_10_12,
   fun _ _ _ _ => xl_gf d96_4 xco96 xf_10_79,
   fun _ _ _ _ => xl_gf d96_7 xco96 xf_10_163,
   fun _ _ _ _ _ _ _ => xl_iln d96_10 rfl,
   fun ls a0 a1 h => xl_cv (As := [a0, a1]) (st := []) d96_11 xco96 xm_10_200 (congrArg Nat.succ xnp97) (by decide +kernel) rfl,
   fun _ _ _ _ => xl_ifne d96_14 rfl,
   fun _ _ _ _ _ _ _ => xl_aln d96_17 rfl,
   fun _ _ _ => xl_ic d96_18 (by decide +kernel),
   fun ls a0 a1 h => xl_cv (As := [a0, a1]) (st := []) d96_19 xco96 xm_10_153 (congrArg Nat.succ xnp86) (by decide +kernel) rfl,
   fun _ _ _ => xl_iri d96_22 xrt96,
   fun _ _ _ _ _ _ _ => xl_aln d96_23 rfl,
   fun _ _ _ _ => xl_gf d96_24 xco96 xf_10_12,
   fun _ _ _ _ => xl_gf d96_27 xco96 xf_10_92,
   fun _ _ _ _ => xl_gf d96_30 xco96 xf_10_203,
   fun _ _ _ _ _ _ _ => xl_iln d96_33 rfl,
   fun _ _ _ _ _ => xl_ia d96_34,
   fun _ _ _ _ _ _ _ _ hc => xl_isn d96_35 xml96 (by decide) (zz_nl_s1 hc),
   fun _ _ _ _ _ _ _ => xl_iln d96_36 rfl,
   fun _ _ _ _ => xl_ifeq d96_37 rfl,
   fun _ _ _ => xl_ic d96_40 (by decide +kernel),
   fun _ _ _ => xl_goto d96_41 rfl,
   fun _ _ _ => xl_ic d96_44 (by decide +kernel),
   fun _ _ _ _ _ _ _ _ hc => xl_is d96_45 xml96 (by decide) (zz_nl_s1 hc),
   fun _ _ _ _ _ _ _ => xl_iln d96_47 rfl,
   fun _ _ _ _ _ _ _ => xl_il d96_48 rfl,
   fun _ _ _ _ _ => xl_icne d96_50 rfl,
   fun _ _ _ _ _ _ _ => xl_aln d96_53 rfl,
   fun _ _ _ => xl_ic d96_54 (by decide +kernel),
   fun ls a0 a1 h => xl_cv (As := [a0, a1]) (st := []) d96_55 xco96 xm_10_153 (congrArg Nat.succ xnp86) (by decide +kernel) rfl,
   fun _ _ _ => xl_iri d96_58 xrt96,
   fun _ _ _ _ _ _ _ => xl_aln d96_59 rfl,
   fun _ _ _ _ => xl_gf d96_60 xco96 xf_10_23,
   fun _ _ _ => xl_ic d96_63 (by decide +kernel),
   fun _ _ _ _ _ _ _ => xl_iln d96_64 rfl,
   fun _ _ _ _ _ _ _ => xl_iln d96_65 rfl,
   fun _ _ _ => xl_ic d96_66 (by decide +kernel),
   fun ls a0 a1 a2 a3 a4 h => xl_cv (As := [a0, a1, a2, a3, a4]) (st := []) d96_67 xco96 xm_10_192 (congrArg Nat.succ xnp89) (by decide +kernel) rfl,
   fun _ _ _ _ _ _ _ => xl_aln d96_70 rfl,
   fun _ _ _ _ => xl_gf d96_71 xco96 xf_10_12,
   fun _ _ _ _ => xl_gf d96_74 xco96 xf_10_92,
   fun _ _ _ _ => xl_gf d96_77 xco96 xf_10_203,
   fun _ _ _ _ _ _ _ => xl_iln d96_80 rfl,
   fun _ _ _ _ _ _ _ => xl_il d96_81 rfl,
   fun _ _ _ _ _ _ => xl_ist d96_83,
   fun _ _ _ _ _ _ _ => xl_aln d96_84 rfl,
   fun ls a0 h => xl_cv (As := [a0]) (st := []) d96_85 xco96 xm_10_196 (congrArg Nat.succ xnp90) (by decide +kernel) rfl,
   fun _ _ _ => xl_iri d96_88 xrt96⟩
/-! 97 FacetSieve$Plan.isHead(I)Z -/
theorem d97_0 : decode (zz_c 97) 0 = .ok (.iload_n 1, 1) := by decide +kernel
theorem d97_1 : decode (zz_c 97) 1 = .ok (.ifCond .lt 15, 3) := by decide +kernel
theorem d97_4 : decode (zz_c 97) 4 = .ok (.iload_n 1, 1) := by decide +kernel
theorem d97_5 : decode (zz_c 97) 5 = .ok (.aload_n 0, 1) := by decide +kernel
theorem d97_6 : decode (zz_c 97) 6 = .ok (.getfield 37, 3) := by decide +kernel
theorem d97_9 : decode (zz_c 97) 9 = .ok (.if_icmp .ge 7, 3) := by decide +kernel
theorem d97_12 : decode (zz_c 97) 12 = .ok (.iconst 1, 1) := by decide +kernel
theorem d97_13 : decode (zz_c 97) 13 = .ok (.goto 4, 3) := by decide +kernel
theorem d97_16 : decode (zz_c 97) 16 = .ok (.iconst 0, 1) := by decide +kernel
theorem d97_17 : decode (zz_c 97) 17 = .ok (.ireturn, 1) := by decide +kernel
theorem x97 : (∀ l0 x st h, zz_Y 97 (0, [l0, some (.int x)], st, h) = zz_Y 97 (1, [l0, some (.int x)], .int x :: st, h)) ∧ (∀ ls a st h, zz_Y 97 (1, ls, .int a :: st, h) = if a < nI 0 then zz_Y 97 (16, ls, st, h) else zz_Y 97 (4, ls, st, h)) ∧ (∀ l0 x st h, zz_Y 97 (4, [l0, some (.int x)], st, h) = zz_Y 97 (5, [l0, some (.int x)], .int x :: st, h)) ∧ (∀ l1 x st h, zz_Y 97 (5, [some (.ref x), l1], st, h) = zz_Y 97 (6, [some (.ref x), l1], .ref x :: st, h)) ∧ (∀ ls a st h, zz_Y 97 (6, ls, .ref a :: st, h) = mo_gf (hp_g h a) 3 0 97 9 ls st h) ∧ (∀ ls a b st h, zz_Y 97 (9, ls, .int b :: .int a :: st, h) = if a < b then zz_Y 97 (12, ls, st, h) else zz_Y 97 (16, ls, st, h)) ∧ (∀ ls st h, zz_Y 97 (12, ls, st, h) = zz_Y 97 (13, ls, .int (nI 1) :: st, h)) ∧ (∀ ls st h, zz_Y 97 (13, ls, st, h) = zz_Y 97 (17, ls, st, h)) ∧ (∀ ls st h, zz_Y 97 (16, ls, st, h) = zz_Y 97 (17, ls, .int (nI 0) :: st, h)) ∧ (∀ ls v h, v = nI 0 ∨ v = nI 1 → zz_Y 97 (17, ls, [.int v], h) = some (some (.int v), h)) :=
  ⟨fun _ _ _ _ => xl_iln d97_0 rfl,
   fun _ _ _ _ => xl_iflt d97_1 rfl,
   fun _ _ _ _ => xl_iln d97_4 rfl,
   fun _ _ _ _ => xl_aln d97_5 rfl,
   fun _ _ _ _ => xl_gf d97_6 xco97 xf_3_37,
   fun _ _ _ _ _ => xl_icge d97_9 rfl,
   fun _ _ _ => xl_ic d97_12 (by decide +kernel),
   fun _ _ _ => xl_goto d97_13 rfl,
   fun _ _ _ => xl_ic d97_16 (by decide +kernel),
   fun _ _ _ hc => xl_irz d97_17 xrt97 hc⟩
/-! 98 FacetSieve.why(II)I -/
theorem d98_0 : decode (zz_c 98) 0 = .ok (.iload_n 1, 1) := by decide +kernel
theorem d98_1 : decode (zz_c 98) 1 = .ok (.ifCond .lt 17, 3) := by decide +kernel
theorem d98_4 : decode (zz_c 98) 4 = .ok (.iload_n 1, 1) := by decide +kernel
theorem d98_5 : decode (zz_c 98) 5 = .ok (.iconst 1, 1) := by decide +kernel
theorem d98_6 : decode (zz_c 98) 6 = .ok (.if_icmp .gt 12, 3) := by decide +kernel
theorem d98_9 : decode (zz_c 98) 9 = .ok (.iload_n 2, 1) := by decide +kernel
theorem d98_10 : decode (zz_c 98) 10 = .ok (.ifCond .lt 8, 3) := by decide +kernel
theorem d98_13 : decode (zz_c 98) 13 = .ok (.iload_n 2, 1) := by decide +kernel
theorem d98_14 : decode (zz_c 98) 14 = .ok (.iconst 1, 1) := by decide +kernel
theorem d98_15 : decode (zz_c 98) 15 = .ok (.if_icmp .le 5, 3) := by decide +kernel
theorem d98_18 : decode (zz_c 98) 18 = .ok (.iconst (-1), 1) := by decide +kernel
theorem d98_19 : decode (zz_c 98) 19 = .ok (.ireturn, 1) := by decide +kernel
theorem d98_20 : decode (zz_c 98) 20 = .ok (.iload_n 1, 1) := by decide +kernel
theorem d98_21 : decode (zz_c 98) 21 = .ok (.iconst 1, 1) := by decide +kernel
theorem d98_22 : decode (zz_c 98) 22 = .ok (.if_icmp .ne 32, 3) := by decide +kernel
theorem d98_25 : decode (zz_c 98) 25 = .ok (.aload_n 0, 1) := by decide +kernel
theorem d98_26 : decode (zz_c 98) 26 = .ok (.getfield 12, 3) := by decide +kernel
theorem d98_29 : decode (zz_c 98) 29 = .ok (.getfield 206, 3) := by decide +kernel
theorem d98_32 : decode (zz_c 98) 32 = .ok (.iconst 4, 1) := by decide +kernel
theorem d98_33 : decode (zz_c 98) 33 = .ok (.if_icmp .eq 5, 3) := by decide +kernel
theorem d98_36 : decode (zz_c 98) 36 = .ok (.iconst 0, 1) := by decide +kernel
theorem d98_37 : decode (zz_c 98) 37 = .ok (.ireturn, 1) := by decide +kernel
theorem d98_38 : decode (zz_c 98) 38 = .ok (.iload_n 2, 1) := by decide +kernel
theorem d98_39 : decode (zz_c 98) 39 = .ok (.ifCond .ne 7, 3) := by decide +kernel
theorem d98_42 : decode (zz_c 98) 42 = .ok (.iconst 5, 1) := by decide +kernel
theorem d98_43 : decode (zz_c 98) 43 = .ok (.goto 10, 3) := by decide +kernel
theorem d98_46 : decode (zz_c 98) 46 = .ok (.aload_n 0, 1) := by decide +kernel
theorem d98_47 : decode (zz_c 98) 47 = .ok (.getfield 12, 3) := by decide +kernel
theorem d98_50 : decode (zz_c 98) 50 = .ok (.getfield 209, 3) := by decide +kernel
theorem d98_53 : decode (zz_c 98) 53 = .ok (.ireturn, 1) := by decide +kernel
theorem d98_54 : decode (zz_c 98) 54 = .ok (.aload_n 0, 1) := by decide +kernel
theorem d98_55 : decode (zz_c 98) 55 = .ok (.getfield 12, 3) := by decide +kernel
theorem d98_58 : decode (zz_c 98) 58 = .ok (.getfield 206, 3) := by decide +kernel
theorem d98_61 : decode (zz_c 98) 61 = .ok (.ifCond .ne 5, 3) := by decide +kernel
theorem d98_64 : decode (zz_c 98) 64 = .ok (.iconst 0, 1) := by decide +kernel
theorem d98_65 : decode (zz_c 98) 65 = .ok (.ireturn, 1) := by decide +kernel
theorem d98_66 : decode (zz_c 98) 66 = .ok (.iload_n 2, 1) := by decide +kernel
theorem d98_67 : decode (zz_c 98) 67 = .ok (.ifCond .ne 13, 3) := by decide +kernel
theorem d98_70 : decode (zz_c 98) 70 = .ok (.aload_n 0, 1) := by decide +kernel
theorem d98_71 : decode (zz_c 98) 71 = .ok (.getfield 12, 3) := by decide +kernel
theorem d98_74 : decode (zz_c 98) 74 = .ok (.getfield 206, 3) := by decide +kernel
theorem d98_77 : decode (zz_c 98) 77 = .ok (.goto 4, 3) := by decide +kernel
theorem d98_80 : decode (zz_c 98) 80 = .ok (.iconst (-1), 1) := by decide +kernel
theorem d98_81 : decode (zz_c 98) 81 = .ok (.ireturn, 1) := by decide +kernel
theorem x98 : (∀ l0 l2 x st h, zz_Y 98 (0, [l0, some (.int x), l2], st, h) = zz_Y 98 (1, [l0, some (.int x), l2], .int x :: st, h)) ∧ (∀ ls a st h, zz_Y 98 (1, ls, .int a :: st, h) = if a < nI 0 then zz_Y 98 (18, ls, st, h) else zz_Y 98 (4, ls, st, h)) ∧ (∀ l0 l2 x st h, zz_Y 98 (4, [l0, some (.int x), l2], st, h) = zz_Y 98 (5, [l0, some (.int x), l2], .int x :: st, h)) ∧ (∀ ls st h, zz_Y 98 (5, ls, st, h) = zz_Y 98 (6, ls, .int (nI 1) :: st, h)) ∧ (∀ ls a b st h, zz_Y 98 (6, ls, .int b :: .int a :: st, h) = if b < a then zz_Y 98 (18, ls, st, h) else zz_Y 98 (9, ls, st, h)) ∧ (∀ l0 l1 x st h, zz_Y 98 (9, [l0, l1, some (.int x)], st, h) = zz_Y 98 (10, [l0, l1, some (.int x)], .int x :: st, h)) ∧ (∀ ls a st h, zz_Y 98 (10, ls, .int a :: st, h) = if a < nI 0 then zz_Y 98 (18, ls, st, h) else zz_Y 98 (13, ls, st, h)) ∧ (∀ l0 l1 x st h, zz_Y 98 (13, [l0, l1, some (.int x)], st, h) = zz_Y 98 (14, [l0, l1, some (.int x)], .int x :: st, h)) ∧ (∀ ls st h, zz_Y 98 (14, ls, st, h) = zz_Y 98 (15, ls, .int (nI 1) :: st, h)) ∧ (∀ ls a b st h, zz_Y 98 (15, ls, .int b :: .int a :: st, h) = if b < a then zz_Y 98 (18, ls, st, h) else zz_Y 98 (20, ls, st, h)) ∧ (∀ ls st h, zz_Y 98 (18, ls, st, h) = zz_Y 98 (19, ls, .int (-1) :: st, h)) ∧ (∀ ls v h, zz_Y 98 (19, ls, [.int v], h) = some (some (.int v), h)) ∧ (∀ l0 l2 x st h, zz_Y 98 (20, [l0, some (.int x), l2], st, h) = zz_Y 98 (21, [l0, some (.int x), l2], .int x :: st, h)) ∧ (∀ ls st h, zz_Y 98 (21, ls, st, h) = zz_Y 98 (22, ls, .int (nI 1) :: st, h)) ∧ (∀ ls a b st h, zz_Y 98 (22, ls, .int b :: .int a :: st, h) = if a = b then zz_Y 98 (25, ls, st, h) else zz_Y 98 (54, ls, st, h)) ∧ (∀ l1 l2 x st h, zz_Y 98 (25, [some (.ref x), l1, l2], st, h) = zz_Y 98 (26, [some (.ref x), l1, l2], .ref x :: st, h)) ∧ (∀ ls a st h, zz_Y 98 (26, ls, .ref a :: st, h) = mo_gf (hp_g h a) 10 0 98 29 ls st h) ∧ (∀ ls a st h, zz_Y 98 (29, ls, .ref a :: st, h) = mo_gf (hp_g h a) 1 8 98 32 ls st h) ∧ (∀ ls st h, zz_Y 98 (32, ls, st, h) = zz_Y 98 (33, ls, .int (nI 4) :: st, h)) ∧ (∀ ls a b st h, zz_Y 98 (33, ls, .int b :: .int a :: st, h) = if a = b then zz_Y 98 (38, ls, st, h) else zz_Y 98 (36, ls, st, h)) ∧ (∀ ls st h, zz_Y 98 (36, ls, st, h) = zz_Y 98 (37, ls, .int (nI 0) :: st, h)) ∧ (∀ ls v h, zz_Y 98 (37, ls, [.int v], h) = some (some (.int v), h)) ∧ (∀ l0 l1 x st h, zz_Y 98 (38, [l0, l1, some (.int x)], st, h) = zz_Y 98 (39, [l0, l1, some (.int x)], .int x :: st, h)) ∧ (∀ ls a st h, zz_Y 98 (39, ls, .int a :: st, h) = if a = nI 0 then zz_Y 98 (42, ls, st, h) else zz_Y 98 (46, ls, st, h)) ∧ (∀ ls st h, zz_Y 98 (42, ls, st, h) = zz_Y 98 (43, ls, .int (nI 5) :: st, h)) ∧ (∀ ls st h, zz_Y 98 (43, ls, st, h) = zz_Y 98 (53, ls, st, h)) ∧ (∀ l1 l2 x st h, zz_Y 98 (46, [some (.ref x), l1, l2], st, h) = zz_Y 98 (47, [some (.ref x), l1, l2], .ref x :: st, h)) ∧ (∀ ls a st h, zz_Y 98 (47, ls, .ref a :: st, h) = mo_gf (hp_g h a) 10 0 98 50 ls st h) ∧ (∀ ls a st h, zz_Y 98 (50, ls, .ref a :: st, h) = mo_gf (hp_g h a) 1 9 98 53 ls st h) ∧ (∀ ls v h, zz_Y 98 (53, ls, [.int v], h) = some (some (.int v), h)) ∧ (∀ l1 l2 x st h, zz_Y 98 (54, [some (.ref x), l1, l2], st, h) = zz_Y 98 (55, [some (.ref x), l1, l2], .ref x :: st, h)) ∧ (∀ ls a st h, zz_Y 98 (55, ls, .ref a :: st, h) = mo_gf (hp_g h a) 10 0 98 58 ls st h) ∧ (∀ ls a st h, zz_Y 98 (58, ls, .ref a :: st, h) = mo_gf (hp_g h a) 1 8 98 61 ls st h) ∧ (∀ ls a st h, zz_Y 98 (61, ls, .int a :: st, h) = if a = nI 0 then zz_Y 98 (64, ls, st, h) else zz_Y 98 (66, ls, st, h)) ∧ (∀ ls st h, zz_Y 98 (64, ls, st, h) = zz_Y 98 (65, ls, .int (nI 0) :: st, h)) ∧ (∀ ls v h, zz_Y 98 (65, ls, [.int v], h) = some (some (.int v), h)) ∧ (∀ l0 l1 x st h, zz_Y 98 (66, [l0, l1, some (.int x)], st, h) = zz_Y 98 (67, [l0, l1, some (.int x)], .int x :: st, h)) ∧ (∀ ls a st h, zz_Y 98 (67, ls, .int a :: st, h) = if a = nI 0 then zz_Y 98 (70, ls, st, h) else zz_Y 98 (80, ls, st, h)) ∧ (∀ l1 l2 x st h, zz_Y 98 (70, [some (.ref x), l1, l2], st, h) = zz_Y 98 (71, [some (.ref x), l1, l2], .ref x :: st, h)) ∧ (∀ ls a st h, zz_Y 98 (71, ls, .ref a :: st, h) = mo_gf (hp_g h a) 10 0 98 74 ls st h) ∧ (∀ ls a st h, zz_Y 98 (74, ls, .ref a :: st, h) = mo_gf (hp_g h a) 1 8 98 77 ls st h) ∧ (∀ ls st h, zz_Y 98 (77, ls, st, h) = zz_Y 98 (81, ls, st, h)) ∧ (∀ ls st h, zz_Y 98 (80, ls, st, h) = zz_Y 98 (81, ls, .int (-1) :: st, h)) ∧ (∀ ls v h, zz_Y 98 (81, ls, [.int v], h) = some (some (.int v), h)) :=
  ⟨fun _ _ _ _ _ => xl_iln d98_0 rfl,
   fun _ _ _ _ => xl_iflt d98_1 rfl,
   fun _ _ _ _ _ => xl_iln d98_4 rfl,
   fun _ _ _ => xl_ic d98_5 (by decide +kernel),
   fun _ _ _ _ _ => xl_icgt d98_6 rfl,
   fun _ _ _ _ _ => xl_iln d98_9 rfl,
   fun _ _ _ _ => xl_iflt d98_10 rfl,
   fun _ _ _ _ _ => xl_iln d98_13 rfl,
   fun _ _ _ => xl_ic d98_14 (by decide +kernel),
   fun _ _ _ _ _ => xl_icle d98_15 rfl,
   fun _ _ _ => xl_ic d98_18 (by decide +kernel),
   fun _ _ _ => xl_iri d98_19 xrt98,
   fun _ _ _ _ _ => xl_iln d98_20 rfl,
   fun _ _ _ => xl_ic d98_21 (by decide +kernel),
   fun _ _ _ _ _ => xl_icne d98_22 rfl,
   fun _ _ _ _ _ => xl_aln d98_25 rfl,
   fun _ _ _ _ => xl_gf d98_26 xco98 xf_10_12,
   fun _ _ _ _ => xl_gf d98_29 xco98 xf_10_206,
   fun _ _ _ => xl_ic d98_32 (by decide +kernel),
   fun _ _ _ _ _ => xl_iceq d98_33 rfl,
   fun _ _ _ => xl_ic d98_36 (by decide +kernel),
   fun _ _ _ => xl_iri d98_37 xrt98,
   fun _ _ _ _ _ => xl_iln d98_38 rfl,
   fun _ _ _ _ => xl_ifne d98_39 rfl,
   fun _ _ _ => xl_ic d98_42 (by decide +kernel),
   fun _ _ _ => xl_goto d98_43 rfl,
   fun _ _ _ _ _ => xl_aln d98_46 rfl,
   fun _ _ _ _ => xl_gf d98_47 xco98 xf_10_12,
   fun _ _ _ _ => xl_gf d98_50 xco98 xf_10_209,
   fun _ _ _ => xl_iri d98_53 xrt98,
   fun _ _ _ _ _ => xl_aln d98_54 rfl,
   fun _ _ _ _ => xl_gf d98_55 xco98 xf_10_12,
   fun _ _ _ _ => xl_gf d98_58 xco98 xf_10_206,
   fun _ _ _ _ => xl_ifne d98_61 rfl,
   fun _ _ _ => xl_ic d98_64 (by decide +kernel),
   fun _ _ _ => xl_iri d98_65 xrt98,
   fun _ _ _ _ _ => xl_iln d98_66 rfl,
   fun _ _ _ _ => xl_ifne d98_67 rfl,
   fun _ _ _ _ _ => xl_aln d98_70 rfl,
   fun _ _ _ _ => xl_gf d98_71 xco98 xf_10_12,
   fun _ _ _ _ => xl_gf d98_74 xco98 xf_10_206,
   fun _ _ _ => xl_goto d98_77 rfl,
   fun _ _ _ => xl_ic d98_80 (by decide +kernel),
   fun _ _ _ => xl_iri d98_81 xrt98⟩
/-! 99 FacetSieve.undo()I -/
theorem d99_0 : decode (zz_c 99) 0 = .ok (.aload_n 0, 1) := by decide +kernel
theorem d99_1 : decode (zz_c 99) 1 = .ok (.getfield 23, 3) := by decide +kernel
theorem d99_4 : decode (zz_c 99) 4 = .ok (.getfield 212, 3) := by decide +kernel
theorem d99_7 : decode (zz_c 99) 7 = .ok (.ifCond .ne 5, 3) := by decide +kernel
theorem d99_10 : decode (zz_c 99) 10 = .ok (.iconst (-1), 1) := by decide +kernel
theorem d99_11 : decode (zz_c 99) 11 = .ok (.ireturn, 1) := by decide +kernel
theorem d99_12 : decode (zz_c 99) 12 = .ok (.aload_n 0, 1) := by decide +kernel
theorem d99_13 : decode (zz_c 99) 13 = .ok (.getfield 23, 3) := by decide +kernel
theorem d99_16 : decode (zz_c 99) 16 = .ok (.aload_n 0, 1) := by decide +kernel
theorem d99_17 : decode (zz_c 99) 17 = .ok (.getfield 12, 3) := by decide +kernel
theorem d99_20 : decode (zz_c 99) 20 = .ok (.invokevirtual 214, 3) := by decide +kernel
theorem d99_23 : decode (zz_c 99) 23 = .ok (.aload_n 0, 1) := by decide +kernel
theorem d99_24 : decode (zz_c 99) 24 = .ok (.getfield 23, 3) := by decide +kernel
theorem d99_27 : decode (zz_c 99) 27 = .ok (.getfield 212, 3) := by decide +kernel
theorem d99_30 : decode (zz_c 99) 30 = .ok (.ireturn, 1) := by decide +kernel
theorem x99 : (∀ x st h, zz_Y 99 (0, [some (.ref x)], st, h) = zz_Y 99 (1, [some (.ref x)], .ref x :: st, h)) ∧ (∀ ls a st h, zz_Y 99 (1, ls, .ref a :: st, h) = mo_gf (hp_g h a) 10 2 99 4 ls st h) ∧ (∀ ls a st h, zz_Y 99 (4, ls, .ref a :: st, h) = mo_gf (hp_g h a) 2 5 99 7 ls st h) ∧ (∀ ls a st h, zz_Y 99 (7, ls, .int a :: st, h) = if a = nI 0 then zz_Y 99 (10, ls, st, h) else zz_Y 99 (12, ls, st, h)) ∧ (∀ ls st h, zz_Y 99 (10, ls, st, h) = zz_Y 99 (11, ls, .int (-1) :: st, h)) ∧ (∀ ls v h, zz_Y 99 (11, ls, [.int v], h) = some (some (.int v), h)) ∧ (∀ x st h, zz_Y 99 (12, [some (.ref x)], st, h) = zz_Y 99 (13, [some (.ref x)], .ref x :: st, h)) ∧ (∀ ls a st h, zz_Y 99 (13, ls, .ref a :: st, h) = mo_gf (hp_g h a) 10 2 99 16 ls st h) ∧ (∀ x st h, zz_Y 99 (16, [some (.ref x)], st, h) = zz_Y 99 (17, [some (.ref x)], .ref x :: st, h)) ∧ (∀ ls a st h, zz_Y 99 (17, ls, .ref a :: st, h) = mo_gf (hp_g h a) 10 0 99 20 ls st h) ∧ (∀ ls a0 a1 h, zz_Y 99 (20, ls, [a1, a0], h) = mo_k 99 23 ls [] (zz_run 100 [a0, a1] h)) ∧ (∀ x st h, zz_Y 99 (23, [some (.ref x)], st, h) = zz_Y 99 (24, [some (.ref x)], .ref x :: st, h)) ∧ (∀ ls a st h, zz_Y 99 (24, ls, .ref a :: st, h) = mo_gf (hp_g h a) 10 2 99 27 ls st h) ∧ (∀ ls a st h, zz_Y 99 (27, ls, .ref a :: st, h) = mo_gf (hp_g h a) 2 5 99 30 ls st h) ∧ (∀ ls v h, zz_Y 99 (30, ls, [.int v], h) = some (some (.int v), h)) :=
  ⟨fun _ _ _ => xl_aln d99_0 rfl,
   fun _ _ _ _ => xl_gf d99_1 xco99 xf_10_23,
   fun _ _ _ _ => xl_gf d99_4 xco99 xf_10_212,
   fun _ _ _ _ => xl_ifne d99_7 rfl,
   fun _ _ _ => xl_ic d99_10 (by decide +kernel),
   fun _ _ _ => xl_iri d99_11 xrt99,
   fun _ _ _ => xl_aln d99_12 rfl,
   fun _ _ _ _ => xl_gf d99_13 xco99 xf_10_23,
   fun _ _ _ => xl_aln d99_16 rfl,
   fun _ _ _ _ => xl_gf d99_17 xco99 xf_10_12,
   fun ls a0 a1 h => xl_cv (As := [a0, a1]) (st := []) d99_20 xco99 xm_10_214 (congrArg Nat.succ xnp100) (by decide +kernel) rfl,
   fun _ _ _ => xl_aln d99_23 rfl,
   fun _ _ _ _ => xl_gf d99_24 xco99 xf_10_23,
   fun _ _ _ _ => xl_gf d99_27 xco99 xf_10_212,
   fun _ _ _ => xl_iri d99_30 xrt99⟩
/-! 100 FacetSieve$Journal.takeBack(LFacetSieve$Everything;)V -/
theorem d100_0 : decode (zz_c 100) 0 = .ok (.aload_n 0, 1) := by decide +kernel
theorem d100_1 : decode (zz_c 100) 1 = .ok (.aload_n 0, 1) := by decide +kernel
theorem d100_2 : decode (zz_c 100) 2 = .ok (.getfield 22, 3) := by decide +kernel
theorem d100_5 : decode (zz_c 100) 5 = .ok (.bipush 10, 2) := by decide +kernel
theorem d100_7 : decode (zz_c 100) 7 = .ok (.iadd, 1) := by decide +kernel
theorem d100_8 : decode (zz_c 100) 8 = .ok (.iconst 1, 1) := by decide +kernel
theorem d100_9 : decode (zz_c 100) 9 = .ok (.isub, 1) := by decide +kernel
theorem d100_10 : decode (zz_c 100) 10 = .ok (.bipush 10, 2) := by decide +kernel
theorem d100_12 : decode (zz_c 100) 12 = .ok (.irem, 1) := by decide +kernel
theorem d100_13 : decode (zz_c 100) 13 = .ok (.putfield 22, 3) := by decide +kernel
theorem d100_16 : decode (zz_c 100) 16 = .ok (.aload_n 0, 1) := by decide +kernel
theorem d100_17 : decode (zz_c 100) 17 = .ok (.aload_n 0, 1) := by decide +kernel
theorem d100_18 : decode (zz_c 100) 18 = .ok (.getfield 26, 3) := by decide +kernel
theorem d100_21 : decode (zz_c 100) 21 = .ok (.iconst 1, 1) := by decide +kernel
theorem d100_22 : decode (zz_c 100) 22 = .ok (.isub, 1) := by decide +kernel
theorem d100_23 : decode (zz_c 100) 23 = .ok (.iconst 0, 1) := by decide +kernel
theorem d100_24 : decode (zz_c 100) 24 = .ok (.invokestatic 35, 3) := by decide +kernel
theorem d100_27 : decode (zz_c 100) 27 = .ok (.putfield 26, 3) := by decide +kernel
theorem d100_30 : decode (zz_c 100) 30 = .ok (.aload_n 0, 1) := by decide +kernel
theorem d100_31 : decode (zz_c 100) 31 = .ok (.getfield 13, 3) := by decide +kernel
theorem d100_34 : decode (zz_c 100) 34 = .ok (.aload_n 0, 1) := by decide +kernel
theorem d100_35 : decode (zz_c 100) 35 = .ok (.getfield 22, 3) := by decide +kernel
theorem d100_38 : decode (zz_c 100) 38 = .ok (.iaload, 1) := by decide +kernel
theorem d100_39 : decode (zz_c 100) 39 = .ok (.istore_n 2, 1) := by decide +kernel
theorem d100_40 : decode (zz_c 100) 40 = .ok (.aload_n 0, 1) := by decide +kernel
theorem d100_41 : decode (zz_c 100) 41 = .ok (.getfield 9, 3) := by decide +kernel
theorem d100_44 : decode (zz_c 100) 44 = .ok (.aload_n 0, 1) := by decide +kernel
theorem d100_45 : decode (zz_c 100) 45 = .ok (.getfield 22, 3) := by decide +kernel
theorem d100_48 : decode (zz_c 100) 48 = .ok (.iaload, 1) := by decide +kernel
theorem d100_49 : decode (zz_c 100) 49 = .ok (.ifCond .ne 32, 3) := by decide +kernel
theorem d100_52 : decode (zz_c 100) 52 = .ok (.aload_n 1, 1) := by decide +kernel
theorem d100_53 : decode (zz_c 100) 53 = .ok (.getfield 38, 3) := by decide +kernel
theorem d100_56 : decode (zz_c 100) 56 = .ok (.iload_n 2, 1) := by decide +kernel
theorem d100_57 : decode (zz_c 100) 57 = .ok (.aload_n 0, 1) := by decide +kernel
theorem d100_58 : decode (zz_c 100) 58 = .ok (.getfield 16, 3) := by decide +kernel
theorem d100_61 : decode (zz_c 100) 61 = .ok (.aload_n 0, 1) := by decide +kernel
theorem d100_62 : decode (zz_c 100) 62 = .ok (.getfield 22, 3) := by decide +kernel
theorem d100_65 : decode (zz_c 100) 65 = .ok (.iaload, 1) := by decide +kernel
theorem d100_66 : decode (zz_c 100) 66 = .ok (.aload_n 0, 1) := by decide +kernel
theorem d100_67 : decode (zz_c 100) 67 = .ok (.getfield 19, 3) := by decide +kernel
theorem d100_70 : decode (zz_c 100) 70 = .ok (.aload_n 0, 1) := by decide +kernel
theorem d100_71 : decode (zz_c 100) 71 = .ok (.getfield 22, 3) := by decide +kernel
theorem d100_74 : decode (zz_c 100) 74 = .ok (.iaload, 1) := by decide +kernel
theorem d100_75 : decode (zz_c 100) 75 = .ok (.invokevirtual 44, 3) := by decide +kernel
theorem d100_78 : decode (zz_c 100) 78 = .ok (.goto 55, 3) := by decide +kernel
theorem d100_81 : decode (zz_c 100) 81 = .ok (.aload_n 0, 1) := by decide +kernel
theorem d100_82 : decode (zz_c 100) 82 = .ok (.getfield 9, 3) := by decide +kernel
theorem d100_85 : decode (zz_c 100) 85 = .ok (.aload_n 0, 1) := by decide +kernel
theorem d100_86 : decode (zz_c 100) 86 = .ok (.getfield 22, 3) := by decide +kernel
theorem d100_89 : decode (zz_c 100) 89 = .ok (.iaload, 1) := by decide +kernel
theorem d100_90 : decode (zz_c 100) 90 = .ok (.iconst 1, 1) := by decide +kernel
theorem d100_91 : decode (zz_c 100) 91 = .ok (.if_icmp .ne 24, 3) := by decide +kernel
theorem d100_94 : decode (zz_c 100) 94 = .ok (.aload_n 1, 1) := by decide +kernel
theorem d100_95 : decode (zz_c 100) 95 = .ok (.getfield 50, 3) := by decide +kernel
theorem d100_98 : decode (zz_c 100) 98 = .ok (.getfield 54, 3) := by decide +kernel
theorem d100_101 : decode (zz_c 100) 101 = .ok (.iload_n 2, 1) := by decide +kernel
theorem d100_102 : decode (zz_c 100) 102 = .ok (.aload_n 0, 1) := by decide +kernel
theorem d100_103 : decode (zz_c 100) 103 = .ok (.getfield 16, 3) := by decide +kernel
theorem d100_106 : decode (zz_c 100) 106 = .ok (.aload_n 0, 1) := by decide +kernel
theorem d100_107 : decode (zz_c 100) 107 = .ok (.getfield 22, 3) := by decide +kernel
theorem d100_110 : decode (zz_c 100) 110 = .ok (.iaload, 1) := by decide +kernel
theorem d100_111 : decode (zz_c 100) 111 = .ok (.iastore, 1) := by decide +kernel
theorem d100_112 : decode (zz_c 100) 112 = .ok (.goto 21, 3) := by decide +kernel
theorem d100_115 : decode (zz_c 100) 115 = .ok (.aload_n 1, 1) := by decide +kernel
theorem d100_116 : decode (zz_c 100) 116 = .ok (.getfield 50, 3) := by decide +kernel
theorem d100_119 : decode (zz_c 100) 119 = .ok (.getfield 59, 3) := by decide +kernel
theorem d100_122 : decode (zz_c 100) 122 = .ok (.iload_n 2, 1) := by decide +kernel
theorem d100_123 : decode (zz_c 100) 123 = .ok (.aload_n 0, 1) := by decide +kernel
theorem d100_124 : decode (zz_c 100) 124 = .ok (.getfield 16, 3) := by decide +kernel
theorem d100_127 : decode (zz_c 100) 127 = .ok (.aload_n 0, 1) := by decide +kernel
theorem d100_128 : decode (zz_c 100) 128 = .ok (.getfield 22, 3) := by decide +kernel
theorem d100_131 : decode (zz_c 100) 131 = .ok (.iaload, 1) := by decide +kernel
theorem d100_132 : decode (zz_c 100) 132 = .ok (.iastore, 1) := by decide +kernel
theorem d100_133 : decode (zz_c 100) 133 = .ok (.return_, 1) := by decide +kernel
theorem x100_p0 : (∀ l1 l2 x st h, zz_Y 100 (0, [some (.ref x), l1, l2], st, h) = zz_Y 100 (1, [some (.ref x), l1, l2], .ref x :: st, h)) ∧ (∀ l1 l2 x st h, zz_Y 100 (1, [some (.ref x), l1, l2], st, h) = zz_Y 100 (2, [some (.ref x), l1, l2], .ref x :: st, h)) ∧ (∀ ls a st h, zz_Y 100 (2, ls, .ref a :: st, h) = mo_gf (hp_g h a) 2 4 100 5 ls st h) ∧ (∀ ls st h, zz_Y 100 (5, ls, st, h) = zz_Y 100 (7, ls, .int (nI 10) :: st, h)) ∧ (∀ ls a b st h, zz_Y 100 (7, ls, .int b :: .int a :: st, h) = zz_Y 100 (8, ls, .int (a + b) :: st, h)) ∧ (∀ ls st h, zz_Y 100 (8, ls, st, h) = zz_Y 100 (9, ls, .int (nI 1) :: st, h)) ∧ (∀ ls a b st h, zz_Y 100 (9, ls, .int b :: .int a :: st, h) = zz_Y 100 (10, ls, .int (a - b) :: st, h)) ∧ (∀ ls st h, zz_Y 100 (10, ls, st, h) = zz_Y 100 (12, ls, .int (nI 10) :: st, h)) ∧ (∀ ls a b st h, ¬ b = 0 → zz_Y 100 (12, ls, .int b :: .int a :: st, h) = zz_Y 100 (13, ls, .int (a - a / b * b) :: st, h)) ∧ (∀ ls a v st h, zz_Y 100 (13, ls, v :: .ref a :: st, h) = mo_pf (hp_g h a) 2 4 .int v a 100 16 ls st h) ∧ (∀ l1 l2 x st h, zz_Y 100 (16, [some (.ref x), l1, l2], st, h) = zz_Y 100 (17, [some (.ref x), l1, l2], .ref x :: st, h)) ∧ (∀ l1 l2 x st h, zz_Y 100 (17, [some (.ref x), l1, l2], st, h) = zz_Y 100 (18, [some (.ref x), l1, l2], .ref x :: st, h)) ∧ (∀ ls a st h, zz_Y 100 (18, ls, .ref a :: st, h) = mo_gf (hp_g h a) 2 5 100 21 ls st h) ∧ (∀ ls st h, zz_Y 100 (21, ls, st, h) = zz_Y 100 (22, ls, .int (nI 1) :: st, h)) ∧ (∀ ls a b st h, zz_Y 100 (22, ls, .int b :: .int a :: st, h) = zz_Y 100 (23, ls, .int (a - b) :: st, h)) ∧ (∀ ls st h, zz_Y 100 (23, ls, st, h) = zz_Y 100 (24, ls, .int (nI 0) :: st, h)) ∧ (∀ ls a b s0 h, zz_Y 100 (24, ls, [.int b, .int a, s0], h) = zz_Y 100 (27, ls, [.int (if a < b then b else a), s0], h)) ∧ (∀ ls a v st h, zz_Y 100 (27, ls, v :: .ref a :: st, h) = mo_pf (hp_g h a) 2 5 .int v a 100 30 ls st h) ∧ (∀ l1 l2 x st h, zz_Y 100 (30, [some (.ref x), l1, l2], st, h) = zz_Y 100 (31, [some (.ref x), l1, l2], .ref x :: st, h)) ∧ (∀ ls a st h, zz_Y 100 (31, ls, .ref a :: st, h) = mo_gf (hp_g h a) 2 1 100 34 ls st h) ∧ (∀ l1 l2 x st h, zz_Y 100 (34, [some (.ref x), l1, l2], st, h) = zz_Y 100 (35, [some (.ref x), l1, l2], .ref x :: st, h)) ∧ (∀ ls a st h, zz_Y 100 (35, ls, .ref a :: st, h) = mo_gf (hp_g h a) 2 4 100 38 ls st h) ∧ (∀ ls a i st h, zz_Y 100 (38, ls, .int i :: .ref a :: st, h) = mo_ia (hp_g h a) i a 100 39 ls st h) ∧ (∀ l0 l1 l2 x st h, zz_nl l1 = true → zz_Y 100 (39, [l0, l1, l2], .int x :: st, h) = zz_Y 100 (40, [l0, l1, some (.int x)], st, h)) ∧ (∀ l1 l2 x st h, zz_Y 100 (40, [some (.ref x), l1, l2], st, h) = zz_Y 100 (41, [some (.ref x), l1, l2], .ref x :: st, h)) ∧ (∀ ls a st h, zz_Y 100 (41, ls, .ref a :: st, h) = mo_gf (hp_g h a) 2 0 100 44 ls st h) ∧ (∀ l1 l2 x st h, zz_Y 100 (44, [some (.ref x), l1, l2], st, h) = zz_Y 100 (45, [some (.ref x), l1, l2], .ref x :: st, h)) ∧ (∀ ls a st h, zz_Y 100 (45, ls, .ref a :: st, h) = mo_gf (hp_g h a) 2 4 100 48 ls st h) ∧ (∀ ls a i st h, zz_Y 100 (48, ls, .int i :: .ref a :: st, h) = mo_ia (hp_g h a) i a 100 49 ls st h) ∧ (∀ ls a st h, zz_Y 100 (49, ls, .int a :: st, h) = if a = nI 0 then zz_Y 100 (52, ls, st, h) else zz_Y 100 (81, ls, st, h)) ∧ (∀ l0 l2 x st h, zz_Y 100 (52, [l0, some (.ref x), l2], st, h) = zz_Y 100 (53, [l0, some (.ref x), l2], .ref x :: st, h)) ∧ (∀ ls a st h, zz_Y 100 (53, ls, .ref a :: st, h) = mo_gf (hp_g h a) 1 1 100 56 ls st h) ∧ (∀ l0 l1 x st h, zz_Y 100 (56, [l0, l1, some (.int x)], st, h) = zz_Y 100 (57, [l0, l1, some (.int x)], .int x :: st, h)) ∧ (∀ l1 l2 x st h, zz_Y 100 (57, [some (.ref x), l1, l2], st, h) = zz_Y 100 (58, [some (.ref x), l1, l2], .ref x :: st, h)) ∧ (∀ ls a st h, zz_Y 100 (58, ls, .ref a :: st, h) = mo_gf (hp_g h a) 2 2 100 61 ls st h) ∧ (∀ l1 l2 x st h, zz_Y 100 (61, [some (.ref x), l1, l2], st, h) = zz_Y 100 (62, [some (.ref x), l1, l2], .ref x :: st, h)) ∧ (∀ ls a st h, zz_Y 100 (62, ls, .ref a :: st, h) = mo_gf (hp_g h a) 2 4 100 65 ls st h) ∧ (∀ ls a i st h, zz_Y 100 (65, ls, .int i :: .ref a :: st, h) = mo_ia (hp_g h a) i a 100 66 ls st h) ∧ (∀ l1 l2 x st h, zz_Y 100 (66, [some (.ref x), l1, l2], st, h) = zz_Y 100 (67, [some (.ref x), l1, l2], .ref x :: st, h)) ∧ (∀ ls a st h, zz_Y 100 (67, ls, .ref a :: st, h) = mo_gf (hp_g h a) 2 3 100 70 ls st h) ∧ (∀ l1 l2 x st h, zz_Y 100 (70, [some (.ref x), l1, l2], st, h) = zz_Y 100 (71, [some (.ref x), l1, l2], .ref x :: st, h)) ∧ (∀ ls a st h, zz_Y 100 (71, ls, .ref a :: st, h) = mo_gf (hp_g h a) 2 4 100 74 ls st h) ∧ (∀ ls a i st h, zz_Y 100 (74, ls, .int i :: .ref a :: st, h) = mo_ia (hp_g h a) i a 100 75 ls st h) ∧ (∀ ls a0 a1 a2 a3 h, zz_Y 100 (75, ls, [a3, a2, a1, a0], h) = mo_k 100 78 ls [] (zz_run 52 [a0, a1, a2, a3] h)) ∧ (∀ ls st h, zz_Y 100 (78, ls, st, h) = zz_Y 100 (133, ls, st, h)) ∧ (∀ l1 l2 x st h, zz_Y 100 (81, [some (.ref x), l1, l2], st, h) = zz_Y 100 (82, [some (.ref x), l1, l2], .ref x :: st, h)) ∧ (∀ ls a st h, zz_Y 100 (82, ls, .ref a :: st, h) = mo_gf (hp_g h a) 2 0 100 85 ls st h) ∧ (∀ l1 l2 x st h, zz_Y 100 (85, [some (.ref x), l1, l2], st, h) = zz_Y 100 (86, [some (.ref x), l1, l2], .ref x :: st, h)) ∧ (∀ ls a st h, zz_Y 100 (86, ls, .ref a :: st, h) = mo_gf (hp_g h a) 2 4 100 89 ls st h) ∧ (∀ ls a i st h, zz_Y 100 (89, ls, .int i :: .ref a :: st, h) = mo_ia (hp_g h a) i a 100 90 ls st h) ∧ (∀ ls st h, zz_Y 100 (90, ls, st, h) = zz_Y 100 (91, ls, .int (nI 1) :: st, h)) ∧ (∀ ls a b st h, zz_Y 100 (91, ls, .int b :: .int a :: st, h) = if a = b then zz_Y 100 (94, ls, st, h) else zz_Y 100 (115, ls, st, h)) ∧ (∀ l0 l2 x st h, zz_Y 100 (94, [l0, some (.ref x), l2], st, h) = zz_Y 100 (95, [l0, some (.ref x), l2], .ref x :: st, h)) ∧ (∀ ls a st h, zz_Y 100 (95, ls, .ref a :: st, h) = mo_gf (hp_g h a) 1 2 100 98 ls st h) ∧ (∀ ls a st h, zz_Y 100 (98, ls, .ref a :: st, h) = mo_gf (hp_g h a) 0 0 100 101 ls st h) ∧ (∀ l0 l1 x st h, zz_Y 100 (101, [l0, l1, some (.int x)], st, h) = zz_Y 100 (102, [l0, l1, some (.int x)], .int x :: st, h)) ∧ (∀ l1 l2 x st h, zz_Y 100 (102, [some (.ref x), l1, l2], st, h) = zz_Y 100 (103, [some (.ref x), l1, l2], .ref x :: st, h)) ∧ (∀ ls a st h, zz_Y 100 (103, ls, .ref a :: st, h) = mo_gf (hp_g h a) 2 2 100 106 ls st h) ∧ (∀ l1 l2 x st h, zz_Y 100 (106, [some (.ref x), l1, l2], st, h) = zz_Y 100 (107, [some (.ref x), l1, l2], .ref x :: st, h)) ∧ (∀ ls a st h, zz_Y 100 (107, ls, .ref a :: st, h) = mo_gf (hp_g h a) 2 4 100 110 ls st h) :=
  ⟨fun _ _ _ _ _ => xl_aln d100_0 rfl,
   fun _ _ _ _ _ => xl_aln d100_1 rfl,
   fun _ _ _ _ => xl_gf d100_2 xco100 xf_2_22,
   fun _ _ _ => xl_bi d100_5 (by decide +kernel),
   fun _ _ _ _ _ => xl_iadd d100_7,
   fun _ _ _ => xl_ic d100_8 (by decide +kernel),
   fun _ _ _ _ _ => xl_isub d100_9,
   fun _ _ _ => xl_bi d100_10 (by decide +kernel),
   fun _ _ _ _ _ hc => xl_irem d100_12 hc,
   fun _ _ _ _ _ => xl_pf d100_13 xco100 xf_2_22 (by decide +kernel) rfl,
   fun _ _ _ _ _ => xl_aln d100_16 rfl,
   fun _ _ _ _ _ => xl_aln d100_17 rfl,
   fun _ _ _ _ => xl_gf d100_18 xco100 xf_2_26,
   fun _ _ _ => xl_ic d100_21 (by decide +kernel),
   fun _ _ _ _ _ => xl_isub d100_22,
   fun _ _ _ => xl_ic d100_23 (by decide +kernel),
   fun _ _ _ _ _ => xl_mx d100_24 xco100 xm_2_35 (by decide +kernel) (by decide +kernel) rfl,
   fun _ _ _ _ _ => xl_pf d100_27 xco100 xf_2_26 (by decide +kernel) rfl,
   fun _ _ _ _ _ => xl_aln d100_30 rfl,
   fun _ _ _ _ => xl_gf d100_31 xco100 xf_2_13,
   fun _ _ _ _ _ => xl_aln d100_34 rfl,
   fun _ _ _ _ => xl_gf d100_35 xco100 xf_2_22,
   fun _ _ _ _ _ => xl_ia d100_38,
   fun _ _ _ _ _ _ hc => xl_isn d100_39 xml100 (by decide) (zz_nl_s1 hc),
   fun _ _ _ _ _ => xl_aln d100_40 rfl,
   fun _ _ _ _ => xl_gf d100_41 xco100 xf_2_9,
   fun _ _ _ _ _ => xl_aln d100_44 rfl,
   fun _ _ _ _ => xl_gf d100_45 xco100 xf_2_22,
   fun _ _ _ _ _ => xl_ia d100_48,
   fun _ _ _ _ => xl_ifne d100_49 rfl,
   fun _ _ _ _ _ => xl_aln d100_52 rfl,
   fun _ _ _ _ => xl_gf d100_53 xco100 xf_2_38,
   fun _ _ _ _ _ => xl_iln d100_56 rfl,
   fun _ _ _ _ _ => xl_aln d100_57 rfl,
   fun _ _ _ _ => xl_gf d100_58 xco100 xf_2_16,
   fun _ _ _ _ _ => xl_aln d100_61 rfl,
   fun _ _ _ _ => xl_gf d100_62 xco100 xf_2_22,
   fun _ _ _ _ _ => xl_ia d100_65,
   fun _ _ _ _ _ => xl_aln d100_66 rfl,
   fun _ _ _ _ => xl_gf d100_67 xco100 xf_2_19,
   fun _ _ _ _ _ => xl_aln d100_70 rfl,
   fun _ _ _ _ => xl_gf d100_71 xco100 xf_2_22,
   fun _ _ _ _ _ => xl_ia d100_74,
   fun ls a0 a1 a2 a3 h => xl_cv (As := [a0, a1, a2, a3]) (st := []) d100_75 xco100 xm_2_44 (congrArg Nat.succ xnp52) (by decide +kernel) rfl,
   fun _ _ _ => xl_goto d100_78 rfl,
   fun _ _ _ _ _ => xl_aln d100_81 rfl,
   fun _ _ _ _ => xl_gf d100_82 xco100 xf_2_9,
   fun _ _ _ _ _ => xl_aln d100_85 rfl,
   fun _ _ _ _ => xl_gf d100_86 xco100 xf_2_22,
   fun _ _ _ _ _ => xl_ia d100_89,
   fun _ _ _ => xl_ic d100_90 (by decide +kernel),
   fun _ _ _ _ _ => xl_icne d100_91 rfl,
   fun _ _ _ _ _ => xl_aln d100_94 rfl,
   fun _ _ _ _ => xl_gf d100_95 xco100 xf_2_50,
   fun _ _ _ _ => xl_gf d100_98 xco100 xf_2_54,
   fun _ _ _ _ _ => xl_iln d100_101 rfl,
   fun _ _ _ _ _ => xl_aln d100_102 rfl,
   fun _ _ _ _ => xl_gf d100_103 xco100 xf_2_16,
   fun _ _ _ _ _ => xl_aln d100_106 rfl,
   fun _ _ _ _ => xl_gf d100_107 xco100 xf_2_22⟩
theorem x100_p1 : (∀ ls a i st h, zz_Y 100 (110, ls, .int i :: .ref a :: st, h) = mo_ia (hp_g h a) i a 100 111 ls st h) ∧ (∀ ls a i x st h, zz_Y 100 (111, ls, .int x :: .int i :: .ref a :: st, h) = mo_is (hp_g h a) x i a 100 112 ls st h) ∧ (∀ ls st h, zz_Y 100 (112, ls, st, h) = zz_Y 100 (133, ls, st, h)) ∧ (∀ l0 l2 x st h, zz_Y 100 (115, [l0, some (.ref x), l2], st, h) = zz_Y 100 (116, [l0, some (.ref x), l2], .ref x :: st, h)) ∧ (∀ ls a st h, zz_Y 100 (116, ls, .ref a :: st, h) = mo_gf (hp_g h a) 1 2 100 119 ls st h) ∧ (∀ ls a st h, zz_Y 100 (119, ls, .ref a :: st, h) = mo_gf (hp_g h a) 0 1 100 122 ls st h) ∧ (∀ l0 l1 x st h, zz_Y 100 (122, [l0, l1, some (.int x)], st, h) = zz_Y 100 (123, [l0, l1, some (.int x)], .int x :: st, h)) ∧ (∀ l1 l2 x st h, zz_Y 100 (123, [some (.ref x), l1, l2], st, h) = zz_Y 100 (124, [some (.ref x), l1, l2], .ref x :: st, h)) ∧ (∀ ls a st h, zz_Y 100 (124, ls, .ref a :: st, h) = mo_gf (hp_g h a) 2 2 100 127 ls st h) ∧ (∀ l1 l2 x st h, zz_Y 100 (127, [some (.ref x), l1, l2], st, h) = zz_Y 100 (128, [some (.ref x), l1, l2], .ref x :: st, h)) ∧ (∀ ls a st h, zz_Y 100 (128, ls, .ref a :: st, h) = mo_gf (hp_g h a) 2 4 100 131 ls st h) ∧ (∀ ls a i st h, zz_Y 100 (131, ls, .int i :: .ref a :: st, h) = mo_ia (hp_g h a) i a 100 132 ls st h) ∧ (∀ ls a i x st h, zz_Y 100 (132, ls, .int x :: .int i :: .ref a :: st, h) = mo_is (hp_g h a) x i a 100 133 ls st h) ∧ (∀ ls h, zz_Y 100 (133, ls, [], h) = some (none, h)) :=
  ⟨fun _ _ _ _ _ => xl_ia d100_110,
   fun _ _ _ _ _ _ => xl_ist d100_111,
   fun _ _ _ => xl_goto d100_112 rfl,
   fun _ _ _ _ _ => xl_aln d100_115 rfl,
   fun _ _ _ _ => xl_gf d100_116 xco100 xf_2_50,
   fun _ _ _ _ => xl_gf d100_119 xco100 xf_2_59,
   fun _ _ _ _ _ => xl_iln d100_122 rfl,
   fun _ _ _ _ _ => xl_aln d100_123 rfl,
   fun _ _ _ _ => xl_gf d100_124 xco100 xf_2_16,
   fun _ _ _ _ _ => xl_aln d100_127 rfl,
   fun _ _ _ _ => xl_gf d100_128 xco100 xf_2_22,
   fun _ _ _ _ _ => xl_ia d100_131,
   fun _ _ _ _ _ _ => xl_ist d100_132,
   fun _ _ => xl_r d100_133 xrt100⟩
/-! 101 FacetSieve.count(I)I -/
theorem d101_0 : decode (zz_c 101) 0 = .ok (.aload_n 0, 1) := by decide +kernel
theorem d101_1 : decode (zz_c 101) 1 = .ok (.getfield 12, 3) := by decide +kernel
theorem d101_4 : decode (zz_c 101) 4 = .ok (.getfield 79, 3) := by decide +kernel
theorem d101_7 : decode (zz_c 101) 7 = .ok (.astore_n 2, 1) := by decide +kernel
theorem d101_8 : decode (zz_c 101) 8 = .ok (.iload_n 1, 1) := by decide +kernel
theorem d101_9 : decode (zz_c 101) 9 = .ok (.tableswitch 178 0 14 #[75, 83, 91, 101, 113, 118, 124, 124, 124, 133, 138, 146, 157, 165, 173], 75) := by decide +kernel
theorem d101_84 : decode (zz_c 101) 84 = .ok (.aload_n 2, 1) := by decide +kernel
theorem d101_85 : decode (zz_c 101) 85 = .ok (.getfield 163, 3) := by decide +kernel
theorem d101_88 : decode (zz_c 101) 88 = .ok (.getfield 218, 3) := by decide +kernel
theorem d101_91 : decode (zz_c 101) 91 = .ok (.ireturn, 1) := by decide +kernel
theorem d101_92 : decode (zz_c 101) 92 = .ok (.aload_n 2, 1) := by decide +kernel
theorem d101_93 : decode (zz_c 101) 93 = .ok (.getfield 163, 3) := by decide +kernel
theorem d101_96 : decode (zz_c 101) 96 = .ok (.getfield 221, 3) := by decide +kernel
theorem d101_99 : decode (zz_c 101) 99 = .ok (.ireturn, 1) := by decide +kernel
theorem d101_100 : decode (zz_c 101) 100 = .ok (.aload_n 2, 1) := by decide +kernel
theorem d101_101 : decode (zz_c 101) 101 = .ok (.getfield 102, 3) := by decide +kernel
theorem d101_104 : decode (zz_c 101) 104 = .ok (.bipush 20, 2) := by decide +kernel
theorem d101_106 : decode (zz_c 101) 106 = .ok (.invokevirtual 105, 3) := by decide +kernel
theorem d101_109 : decode (zz_c 101) 109 = .ok (.ireturn, 1) := by decide +kernel
theorem d101_110 : decode (zz_c 101) 110 = .ok (.aload_n 0, 1) := by decide +kernel
theorem d101_111 : decode (zz_c 101) 111 = .ok (.getfield 12, 3) := by decide +kernel
theorem d101_114 : decode (zz_c 101) 114 = .ok (.iconst (-1), 1) := by decide +kernel
theorem d101_115 : decode (zz_c 101) 115 = .ok (.iconst (-1), 1) := by decide +kernel
theorem d101_116 : decode (zz_c 101) 116 = .ok (.bipush 20, 2) := by decide +kernel
theorem d101_118 : decode (zz_c 101) 118 = .ok (.invokevirtual 224, 3) := by decide +kernel
theorem d101_121 : decode (zz_c 101) 121 = .ok (.ireturn, 1) := by decide +kernel
theorem d101_122 : decode (zz_c 101) 122 = .ok (.aload_n 2, 1) := by decide +kernel
theorem d101_123 : decode (zz_c 101) 123 = .ok (.invokevirtual 227, 3) := by decide +kernel
theorem d101_126 : decode (zz_c 101) 126 = .ok (.ireturn, 1) := by decide +kernel
theorem d101_127 : decode (zz_c 101) 127 = .ok (.aload_n 2, 1) := by decide +kernel
theorem d101_128 : decode (zz_c 101) 128 = .ok (.iconst (-1), 1) := by decide +kernel
theorem d101_129 : decode (zz_c 101) 129 = .ok (.invokevirtual 230, 3) := by decide +kernel
theorem d101_132 : decode (zz_c 101) 132 = .ok (.ireturn, 1) := by decide +kernel
theorem d101_133 : decode (zz_c 101) 133 = .ok (.aload_n 2, 1) := by decide +kernel
theorem d101_134 : decode (zz_c 101) 134 = .ok (.iload_n 1, 1) := by decide +kernel
theorem d101_135 : decode (zz_c 101) 135 = .ok (.bipush 6, 2) := by decide +kernel
theorem d101_137 : decode (zz_c 101) 137 = .ok (.isub, 1) := by decide +kernel
theorem d101_138 : decode (zz_c 101) 138 = .ok (.invokevirtual 230, 3) := by decide +kernel
theorem d101_141 : decode (zz_c 101) 141 = .ok (.ireturn, 1) := by decide +kernel
theorem d101_142 : decode (zz_c 101) 142 = .ok (.aload_n 2, 1) := by decide +kernel
theorem d101_143 : decode (zz_c 101) 143 = .ok (.invokevirtual 233, 3) := by decide +kernel
theorem d101_146 : decode (zz_c 101) 146 = .ok (.ireturn, 1) := by decide +kernel
theorem d101_147 : decode (zz_c 101) 147 = .ok (.aload_n 0, 1) := by decide +kernel
theorem d101_148 : decode (zz_c 101) 148 = .ok (.getfield 23, 3) := by decide +kernel
theorem d101_151 : decode (zz_c 101) 151 = .ok (.getfield 212, 3) := by decide +kernel
theorem d101_154 : decode (zz_c 101) 154 = .ok (.ireturn, 1) := by decide +kernel
theorem d101_155 : decode (zz_c 101) 155 = .ok (.aload_n 0, 1) := by decide +kernel
theorem d101_156 : decode (zz_c 101) 156 = .ok (.getfield 12, 3) := by decide +kernel
theorem d101_159 : decode (zz_c 101) 159 = .ok (.getfield 50, 3) := by decide +kernel
theorem d101_162 : decode (zz_c 101) 162 = .ok (.getfield 63, 3) := by decide +kernel
theorem d101_165 : decode (zz_c 101) 165 = .ok (.ireturn, 1) := by decide +kernel
theorem d101_166 : decode (zz_c 101) 166 = .ok (.aload_n 0, 1) := by decide +kernel
theorem d101_167 : decode (zz_c 101) 167 = .ok (.invokevirtual 236, 3) := by decide +kernel
theorem d101_170 : decode (zz_c 101) 170 = .ok (.invokestatic 239, 3) := by decide +kernel
theorem d101_173 : decode (zz_c 101) 173 = .ok (.ireturn, 1) := by decide +kernel
theorem d101_174 : decode (zz_c 101) 174 = .ok (.aload_n 0, 1) := by decide +kernel
theorem d101_175 : decode (zz_c 101) 175 = .ok (.invokevirtual 244, 3) := by decide +kernel
theorem d101_178 : decode (zz_c 101) 178 = .ok (.invokestatic 239, 3) := by decide +kernel
theorem d101_181 : decode (zz_c 101) 181 = .ok (.ireturn, 1) := by decide +kernel
theorem d101_182 : decode (zz_c 101) 182 = .ok (.aload_n 0, 1) := by decide +kernel
theorem d101_183 : decode (zz_c 101) 183 = .ok (.invokevirtual 247, 3) := by decide +kernel
theorem d101_186 : decode (zz_c 101) 186 = .ok (.ireturn, 1) := by decide +kernel
theorem d101_187 : decode (zz_c 101) 187 = .ok (.iconst (-1), 1) := by decide +kernel
theorem d101_188 : decode (zz_c 101) 188 = .ok (.ireturn, 1) := by decide +kernel
theorem x101_p0 : (∀ l1 l2 x st h, zz_Y 101 (0, [some (.ref x), l1, l2], st, h) = zz_Y 101 (1, [some (.ref x), l1, l2], .ref x :: st, h)) ∧ (∀ ls a st h, zz_Y 101 (1, ls, .ref a :: st, h) = mo_gf (hp_g h a) 10 0 101 4 ls st h) ∧ (∀ ls a st h, zz_Y 101 (4, ls, .ref a :: st, h) = mo_gf (hp_g h a) 1 1 101 7 ls st h) ∧ (∀ l0 l1 l2 x st h, zz_nl l1 = true → zz_Y 101 (7, [l0, l1, l2], .ref x :: st, h) = zz_Y 101 (8, [l0, l1, some (.ref x)], st, h)) ∧ (∀ l0 l2 x st h, zz_Y 101 (8, [l0, some (.int x), l2], st, h) = zz_Y 101 (9, [l0, some (.int x), l2], .int x :: st, h)) ∧ (∀ ls x st h, zz_Y 101 (9, ls, .int x :: st, h) = zz_Y 101 (zz_sw [(nI 0, 84), (nI 1, 92), (nI 2, 100), (nI 3, 110), (nI 4, 122), (nI 5, 127), (nI 6, 133), (nI 7, 133), (nI 8, 133), (nI 9, 142), (nI 10, 147), (nI 11, 155), (nI 12, 166), (nI 13, 174), (nI 14, 182)] 187 x, ls, st, h)) ∧ (∀ l0 l1 x st h, zz_Y 101 (84, [l0, l1, some (.ref x)], st, h) = zz_Y 101 (85, [l0, l1, some (.ref x)], .ref x :: st, h)) ∧ (∀ ls a st h, zz_Y 101 (85, ls, .ref a :: st, h) = mo_gf (hp_g h a) 7 0 101 88 ls st h) ∧ (∀ ls a st h, zz_Y 101 (88, ls, .ref a :: st, h) = mo_gf (hp_g h a) 3 0 101 91 ls st h) ∧ (∀ ls v h, zz_Y 101 (91, ls, [.int v], h) = some (some (.int v), h)) ∧ (∀ l0 l1 x st h, zz_Y 101 (92, [l0, l1, some (.ref x)], st, h) = zz_Y 101 (93, [l0, l1, some (.ref x)], .ref x :: st, h)) ∧ (∀ ls a st h, zz_Y 101 (93, ls, .ref a :: st, h) = mo_gf (hp_g h a) 7 0 101 96 ls st h) ∧ (∀ ls a st h, zz_Y 101 (96, ls, .ref a :: st, h) = mo_gf (hp_g h a) 3 5 101 99 ls st h) ∧ (∀ ls v h, zz_Y 101 (99, ls, [.int v], h) = some (some (.int v), h)) ∧ (∀ l0 l1 x st h, zz_Y 101 (100, [l0, l1, some (.ref x)], st, h) = zz_Y 101 (101, [l0, l1, some (.ref x)], .ref x :: st, h)) ∧ (∀ ls a st h, zz_Y 101 (101, ls, .ref a :: st, h) = mo_gf (hp_g h a) 7 3 101 104 ls st h) ∧ (∀ ls st h, zz_Y 101 (104, ls, st, h) = zz_Y 101 (106, ls, .int (nI 20) :: st, h)) ∧ (∀ ls a0 a1 h, zz_Y 101 (106, ls, [a1, a0], h) = mo_k 101 109 ls [] (zz_run 62 [a0, a1] h)) ∧ (∀ ls v h, zz_Y 101 (109, ls, [.int v], h) = some (some (.int v), h)) ∧ (∀ l1 l2 x st h, zz_Y 101 (110, [some (.ref x), l1, l2], st, h) = zz_Y 101 (111, [some (.ref x), l1, l2], .ref x :: st, h)) ∧ (∀ ls a st h, zz_Y 101 (111, ls, .ref a :: st, h) = mo_gf (hp_g h a) 10 0 101 114 ls st h) ∧ (∀ ls st h, zz_Y 101 (114, ls, st, h) = zz_Y 101 (115, ls, .int (-1) :: st, h)) ∧ (∀ ls st h, zz_Y 101 (115, ls, st, h) = zz_Y 101 (116, ls, .int (-1) :: st, h)) ∧ (∀ ls st h, zz_Y 101 (116, ls, st, h) = zz_Y 101 (118, ls, .int (nI 20) :: st, h)) ∧ (∀ ls a0 a1 a2 a3 h, zz_Y 101 (118, ls, [a3, a2, a1, a0], h) = mo_k 101 121 ls [] (zz_run 102 [a0, a1, a2, a3] h)) ∧ (∀ ls v h, zz_Y 101 (121, ls, [.int v], h) = some (some (.int v), h)) ∧ (∀ l0 l1 x st h, zz_Y 101 (122, [l0, l1, some (.ref x)], st, h) = zz_Y 101 (123, [l0, l1, some (.ref x)], .ref x :: st, h)) ∧ (∀ ls a0 h, zz_Y 101 (123, ls, [a0], h) = mo_k 101 126 ls [] (zz_run 105 [a0] h)) ∧ (∀ ls v h, zz_Y 101 (126, ls, [.int v], h) = some (some (.int v), h)) ∧ (∀ l0 l1 x st h, zz_Y 101 (127, [l0, l1, some (.ref x)], st, h) = zz_Y 101 (128, [l0, l1, some (.ref x)], .ref x :: st, h)) ∧ (∀ ls st h, zz_Y 101 (128, ls, st, h) = zz_Y 101 (129, ls, .int (-1) :: st, h)) ∧ (∀ ls a0 a1 h, zz_Y 101 (129, ls, [a1, a0], h) = mo_k 101 132 ls [] (zz_run 106 [a0, a1] h)) ∧ (∀ ls v h, zz_Y 101 (132, ls, [.int v], h) = some (some (.int v), h)) ∧ (∀ l0 l1 x st h, zz_Y 101 (133, [l0, l1, some (.ref x)], st, h) = zz_Y 101 (134, [l0, l1, some (.ref x)], .ref x :: st, h)) ∧ (∀ l0 l2 x st h, zz_Y 101 (134, [l0, some (.int x), l2], st, h) = zz_Y 101 (135, [l0, some (.int x), l2], .int x :: st, h)) ∧ (∀ ls st h, zz_Y 101 (135, ls, st, h) = zz_Y 101 (137, ls, .int (nI 6) :: st, h)) ∧ (∀ ls a b st h, zz_Y 101 (137, ls, .int b :: .int a :: st, h) = zz_Y 101 (138, ls, .int (a - b) :: st, h)) ∧ (∀ ls a0 a1 h, zz_Y 101 (138, ls, [a1, a0], h) = mo_k 101 141 ls [] (zz_run 106 [a0, a1] h)) ∧ (∀ ls v h, zz_Y 101 (141, ls, [.int v], h) = some (some (.int v), h)) ∧ (∀ l0 l1 x st h, zz_Y 101 (142, [l0, l1, some (.ref x)], st, h) = zz_Y 101 (143, [l0, l1, some (.ref x)], .ref x :: st, h)) ∧ (∀ ls a0 h, zz_Y 101 (143, ls, [a0], h) = mo_k 101 146 ls [] (zz_run 110 [a0] h)) ∧ (∀ ls v h, zz_Y 101 (146, ls, [.int v], h) = some (some (.int v), h)) ∧ (∀ l1 l2 x st h, zz_Y 101 (147, [some (.ref x), l1, l2], st, h) = zz_Y 101 (148, [some (.ref x), l1, l2], .ref x :: st, h)) ∧ (∀ ls a st h, zz_Y 101 (148, ls, .ref a :: st, h) = mo_gf (hp_g h a) 10 2 101 151 ls st h) ∧ (∀ ls a st h, zz_Y 101 (151, ls, .ref a :: st, h) = mo_gf (hp_g h a) 2 5 101 154 ls st h) ∧ (∀ ls v h, zz_Y 101 (154, ls, [.int v], h) = some (some (.int v), h)) ∧ (∀ l1 l2 x st h, zz_Y 101 (155, [some (.ref x), l1, l2], st, h) = zz_Y 101 (156, [some (.ref x), l1, l2], .ref x :: st, h)) ∧ (∀ ls a st h, zz_Y 101 (156, ls, .ref a :: st, h) = mo_gf (hp_g h a) 10 0 101 159 ls st h) ∧ (∀ ls a st h, zz_Y 101 (159, ls, .ref a :: st, h) = mo_gf (hp_g h a) 1 0 101 162 ls st h) ∧ (∀ ls a st h, zz_Y 101 (162, ls, .ref a :: st, h) = mo_gf (hp_g h a) 8 1 101 165 ls st h) ∧ (∀ ls v h, zz_Y 101 (165, ls, [.int v], h) = some (some (.int v), h)) ∧ (∀ l1 l2 x st h, zz_Y 101 (166, [some (.ref x), l1, l2], st, h) = zz_Y 101 (167, [some (.ref x), l1, l2], .ref x :: st, h)) ∧ (∀ ls a0 h, zz_Y 101 (167, ls, [a0], h) = mo_k 101 170 ls [] (zz_run 111 [a0] h)) ∧ (∀ ls a0 h, zz_Y 101 (170, ls, [a0], h) = mo_k 101 173 ls [] (zz_run 64 [a0] h)) ∧ (∀ ls v h, zz_Y 101 (173, ls, [.int v], h) = some (some (.int v), h)) ∧ (∀ l1 l2 x st h, zz_Y 101 (174, [some (.ref x), l1, l2], st, h) = zz_Y 101 (175, [some (.ref x), l1, l2], .ref x :: st, h)) ∧ (∀ ls a0 h, zz_Y 101 (175, ls, [a0], h) = mo_k 101 178 ls [] (zz_run 114 [a0] h)) ∧ (∀ ls a0 h, zz_Y 101 (178, ls, [a0], h) = mo_k 101 181 ls [] (zz_run 64 [a0] h)) ∧ (∀ ls v h, zz_Y 101 (181, ls, [.int v], h) = some (some (.int v), h)) ∧ (∀ l1 l2 x st h, zz_Y 101 (182, [some (.ref x), l1, l2], st, h) = zz_Y 101 (183, [some (.ref x), l1, l2], .ref x :: st, h)) :=
  ⟨fun _ _ _ _ _ => xl_aln d101_0 rfl,
   fun _ _ _ _ => xl_gf d101_1 xco101 xf_10_12,
   fun _ _ _ _ => xl_gf d101_4 xco101 xf_10_79,
   fun _ _ _ _ _ _ hc => xl_asn d101_7 xml101 (by decide) (zz_nl_s1 hc),
   fun _ _ _ _ _ => xl_iln d101_8 rfl,
   fun _ _ _ _ => xl_tbs (qs := [(nI 0, 84), (nI 1, 92), (nI 2, 100), (nI 3, 110), (nI 4, 122), (nI 5, 127), (nI 6, 133), (nI 7, 133), (nI 8, 133), (nI 9, 142), (nI 10, 147), (nI 11, 155), (nI 12, 166), (nI 13, 174), (nI 14, 182)]) d101_9 rfl (by decide +kernel) (by decide +kernel) (by decide +kernel),
   fun _ _ _ _ _ => xl_aln d101_84 rfl,
   fun _ _ _ _ => xl_gf d101_85 xco101 xf_10_163,
   fun _ _ _ _ => xl_gf d101_88 xco101 xf_10_218,
   fun _ _ _ => xl_iri d101_91 xrt101,
   fun _ _ _ _ _ => xl_aln d101_92 rfl,
   fun _ _ _ _ => xl_gf d101_93 xco101 xf_10_163,
   fun _ _ _ _ => xl_gf d101_96 xco101 xf_10_221,
   fun _ _ _ => xl_iri d101_99 xrt101,
   fun _ _ _ _ _ => xl_aln d101_100 rfl,
   fun _ _ _ _ => xl_gf d101_101 xco101 xf_10_102,
   fun _ _ _ => xl_bi d101_104 (by decide +kernel),
   fun ls a0 a1 h => xl_cv (As := [a0, a1]) (st := []) d101_106 xco101 xm_10_105 (congrArg Nat.succ xnp62) (by decide +kernel) rfl,
   fun _ _ _ => xl_iri d101_109 xrt101,
   fun _ _ _ _ _ => xl_aln d101_110 rfl,
   fun _ _ _ _ => xl_gf d101_111 xco101 xf_10_12,
   fun _ _ _ => xl_ic d101_114 (by decide +kernel),
   fun _ _ _ => xl_ic d101_115 (by decide +kernel),
   fun _ _ _ => xl_bi d101_116 (by decide +kernel),
   fun ls a0 a1 a2 a3 h => xl_cv (As := [a0, a1, a2, a3]) (st := []) d101_118 xco101 xm_10_224 (congrArg Nat.succ xnp102) (by decide +kernel) rfl,
   fun _ _ _ => xl_iri d101_121 xrt101,
   fun _ _ _ _ _ => xl_aln d101_122 rfl,
   fun ls a0 h => xl_cv (As := [a0]) (st := []) d101_123 xco101 xm_10_227 (congrArg Nat.succ xnp105) (by decide +kernel) rfl,
   fun _ _ _ => xl_iri d101_126 xrt101,
   fun _ _ _ _ _ => xl_aln d101_127 rfl,
   fun _ _ _ => xl_ic d101_128 (by decide +kernel),
   fun ls a0 a1 h => xl_cv (As := [a0, a1]) (st := []) d101_129 xco101 xm_10_230 (congrArg Nat.succ xnp106) (by decide +kernel) rfl,
   fun _ _ _ => xl_iri d101_132 xrt101,
   fun _ _ _ _ _ => xl_aln d101_133 rfl,
   fun _ _ _ _ _ => xl_iln d101_134 rfl,
   fun _ _ _ => xl_bi d101_135 (by decide +kernel),
   fun _ _ _ _ _ => xl_isub d101_137,
   fun ls a0 a1 h => xl_cv (As := [a0, a1]) (st := []) d101_138 xco101 xm_10_230 (congrArg Nat.succ xnp106) (by decide +kernel) rfl,
   fun _ _ _ => xl_iri d101_141 xrt101,
   fun _ _ _ _ _ => xl_aln d101_142 rfl,
   fun ls a0 h => xl_cv (As := [a0]) (st := []) d101_143 xco101 xm_10_233 (congrArg Nat.succ xnp110) (by decide +kernel) rfl,
   fun _ _ _ => xl_iri d101_146 xrt101,
   fun _ _ _ _ _ => xl_aln d101_147 rfl,
   fun _ _ _ _ => xl_gf d101_148 xco101 xf_10_23,
   fun _ _ _ _ => xl_gf d101_151 xco101 xf_10_212,
   fun _ _ _ => xl_iri d101_154 xrt101,
   fun _ _ _ _ _ => xl_aln d101_155 rfl,
   fun _ _ _ _ => xl_gf d101_156 xco101 xf_10_12,
   fun _ _ _ _ => xl_gf d101_159 xco101 xf_10_50,
   fun _ _ _ _ => xl_gf d101_162 xco101 xf_10_63,
   fun _ _ _ => xl_iri d101_165 xrt101,
   fun _ _ _ _ _ => xl_aln d101_166 rfl,
   fun ls a0 h => xl_cv (As := [a0]) (st := []) d101_167 xco101 xm_10_236 (congrArg Nat.succ xnp111) (by decide +kernel) rfl,
   fun ls a0 h => xl_cs (As := [a0]) (st := []) d101_170 xco101 xm_10_239 xnp64 (by decide +kernel) rfl,
   fun _ _ _ => xl_iri d101_173 xrt101,
   fun _ _ _ _ _ => xl_aln d101_174 rfl,
   fun ls a0 h => xl_cv (As := [a0]) (st := []) d101_175 xco101 xm_10_244 (congrArg Nat.succ xnp114) (by decide +kernel) rfl,
   fun ls a0 h => xl_cs (As := [a0]) (st := []) d101_178 xco101 xm_10_239 xnp64 (by decide +kernel) rfl,
   fun _ _ _ => xl_iri d101_181 xrt101,
   fun _ _ _ _ _ => xl_aln d101_182 rfl⟩
theorem x101_p1 : (∀ ls a0 h, zz_Y 101 (183, ls, [a0], h) = mo_k 101 186 ls [] (zz_run 115 [a0] h)) ∧ (∀ ls v h, zz_Y 101 (186, ls, [.int v], h) = some (some (.int v), h)) ∧ (∀ ls st h, zz_Y 101 (187, ls, st, h) = zz_Y 101 (188, ls, .int (-1) :: st, h)) ∧ (∀ ls v h, zz_Y 101 (188, ls, [.int v], h) = some (some (.int v), h)) :=
  ⟨fun ls a0 h => xl_cv (As := [a0]) (st := []) d101_183 xco101 xm_10_247 (congrArg Nat.succ xnp115) (by decide +kernel) rfl,
   fun _ _ _ => xl_iri d101_186 xrt101,
   fun _ _ _ => xl_ic d101_187 (by decide +kernel),
   fun _ _ _ => xl_iri d101_188 xrt101⟩
/-! 102 FacetSieve$Everything.amountLeft(III)I -/
theorem d102_0 : decode (zz_c 102) 0 = .ok (.iconst 0, 1) := by decide +kernel
theorem d102_1 : decode (zz_c 102) 1 = .ok (.istore 4, 2) := by decide +kernel
theorem d102_3 : decode (zz_c 102) 3 = .ok (.iconst 0, 1) := by decide +kernel
theorem d102_4 : decode (zz_c 102) 4 = .ok (.istore 5, 2) := by decide +kernel
theorem d102_6 : decode (zz_c 102) 6 = .ok (.iload 5, 2) := by decide +kernel
theorem d102_8 : decode (zz_c 102) 8 = .ok (.bipush 8, 2) := by decide +kernel
theorem d102_10 : decode (zz_c 102) 10 = .ok (.if_icmp .ge 39, 3) := by decide +kernel
theorem d102_13 : decode (zz_c 102) 13 = .ok (.iload 4, 2) := by decide +kernel
theorem d102_15 : decode (zz_c 102) 15 = .ok (.aload_n 0, 1) := by decide +kernel
theorem d102_16 : decode (zz_c 102) 16 = .ok (.iload 5, 2) := by decide +kernel
theorem d102_18 : decode (zz_c 102) 18 = .ok (.iload_n 1, 1) := by decide +kernel
theorem d102_19 : decode (zz_c 102) 19 = .ok (.iload_n 2, 1) := by decide +kernel
theorem d102_20 : decode (zz_c 102) 20 = .ok (.invokevirtual 98, 3) := by decide +kernel
theorem d102_23 : decode (zz_c 102) 23 = .ok (.aload_n 0, 1) := by decide +kernel
theorem d102_24 : decode (zz_c 102) 24 = .ok (.getfield 21, 3) := by decide +kernel
theorem d102_27 : decode (zz_c 102) 27 = .ok (.getfield 78, 3) := by decide +kernel
theorem d102_30 : decode (zz_c 102) 30 = .ok (.iload_n 3, 1) := by decide +kernel
theorem d102_31 : decode (zz_c 102) 31 = .ok (.iload 5, 2) := by decide +kernel
theorem d102_33 : decode (zz_c 102) 33 = .ok (.invokevirtual 81, 3) := by decide +kernel
theorem d102_36 : decode (zz_c 102) 36 = .ok (.iand, 1) := by decide +kernel
theorem d102_37 : decode (zz_c 102) 37 = .ok (.invokestatic 102, 3) := by decide +kernel
theorem d102_40 : decode (zz_c 102) 40 = .ok (.iadd, 1) := by decide +kernel
theorem d102_41 : decode (zz_c 102) 41 = .ok (.istore 4, 2) := by decide +kernel
theorem d102_43 : decode (zz_c 102) 43 = .ok (.iinc 5 1, 3) := by decide +kernel
theorem d102_46 : decode (zz_c 102) 46 = .ok (.goto (-40), 3) := by decide +kernel
theorem d102_49 : decode (zz_c 102) 49 = .ok (.iload 4, 2) := by decide +kernel
theorem d102_51 : decode (zz_c 102) 51 = .ok (.ireturn, 1) := by decide +kernel
theorem x102 : (∀ ls st h, zz_Y 102 (0, ls, st, h) = zz_Y 102 (1, ls, .int (nI 0) :: st, h)) ∧ (∀ l0 l1 l2 l3 l4 l5 x st h, zz_nl l3 = true → zz_Y 102 (1, [l0, l1, l2, l3, l4, l5], .int x :: st, h) = zz_Y 102 (3, [l0, l1, l2, l3, some (.int x), l5], st, h)) ∧ (∀ ls st h, zz_Y 102 (3, ls, st, h) = zz_Y 102 (4, ls, .int (nI 0) :: st, h)) ∧ (∀ l0 l1 l2 l3 l4 l5 x st h, zz_nl l4 = true → zz_Y 102 (4, [l0, l1, l2, l3, l4, l5], .int x :: st, h) = zz_Y 102 (6, [l0, l1, l2, l3, l4, some (.int x)], st, h)) ∧ (∀ ls st h, zz_Y 102 (8, ls, st, h) = zz_Y 102 (10, ls, .int (nI 8) :: st, h)) ∧ (∀ ls a b st h, zz_Y 102 (10, ls, .int b :: .int a :: st, h) = if a < b then zz_Y 102 (13, ls, st, h) else zz_Y 102 (49, ls, st, h)) ∧ (∀ l0 l1 l2 l3 l5 x st h, zz_Y 102 (13, [l0, l1, l2, l3, some (.int x), l5], st, h) = zz_Y 102 (15, [l0, l1, l2, l3, some (.int x), l5], .int x :: st, h)) ∧ (∀ l1 l2 l3 l4 l5 x st h, zz_Y 102 (15, [some (.ref x), l1, l2, l3, l4, l5], st, h) = zz_Y 102 (16, [some (.ref x), l1, l2, l3, l4, l5], .ref x :: st, h)) ∧ (∀ l0 l1 l2 l3 l4 x st h, zz_Y 102 (16, [l0, l1, l2, l3, l4, some (.int x)], st, h) = zz_Y 102 (18, [l0, l1, l2, l3, l4, some (.int x)], .int x :: st, h)) ∧ (∀ l0 l2 l3 l4 l5 x st h, zz_Y 102 (18, [l0, some (.int x), l2, l3, l4, l5], st, h) = zz_Y 102 (19, [l0, some (.int x), l2, l3, l4, l5], .int x :: st, h)) ∧ (∀ l0 l1 l3 l4 l5 x st h, zz_Y 102 (19, [l0, l1, some (.int x), l3, l4, l5], st, h) = zz_Y 102 (20, [l0, l1, some (.int x), l3, l4, l5], .int x :: st, h)) ∧ (∀ ls a0 a1 a2 a3 s0 h, zz_Y 102 (20, ls, [a3, a2, a1, a0, s0], h) = mo_k 102 23 ls [s0] (zz_run 103 [a0, a1, a2, a3] h)) ∧ (∀ l1 l2 l3 l4 l5 x st h, zz_Y 102 (23, [some (.ref x), l1, l2, l3, l4, l5], st, h) = zz_Y 102 (24, [some (.ref x), l1, l2, l3, l4, l5], .ref x :: st, h)) ∧ (∀ ls a st h, zz_Y 102 (24, ls, .ref a :: st, h) = mo_gf (hp_g h a) 1 1 102 27 ls st h) ∧ (∀ ls a st h, zz_Y 102 (27, ls, .ref a :: st, h) = mo_gf (hp_g h a) 7 3 102 30 ls st h) ∧ (∀ l0 l1 l2 l4 l5 x st h, zz_Y 102 (30, [l0, l1, l2, some (.int x), l4, l5], st, h) = zz_Y 102 (31, [l0, l1, l2, some (.int x), l4, l5], .int x :: st, h)) ∧ (∀ l0 l1 l2 l3 l4 x st h, zz_Y 102 (31, [l0, l1, l2, l3, l4, some (.int x)], st, h) = zz_Y 102 (33, [l0, l1, l2, l3, l4, some (.int x)], .int x :: st, h)) ∧ (∀ ls a0 a1 a2 s0 s1 h, zz_Y 102 (33, ls, [a2, a1, a0, s0, s1], h) = mo_k 102 36 ls [s0, s1] (zz_run 63 [a0, a1, a2] h)) ∧ (∀ ls a b st h, zz_Y 102 (36, ls, .int b :: .int a :: st, h) = zz_Y 102 (37, ls, .int (a &&& b) :: st, h)) ∧ (∀ ls a0 s0 h, zz_Y 102 (37, ls, [a0, s0], h) = mo_k 102 40 ls [s0] (zz_run 64 [a0] h)) ∧ (∀ ls a b st h, zz_Y 102 (40, ls, .int b :: .int a :: st, h) = zz_Y 102 (41, ls, .int (a + b) :: st, h)) ∧ (∀ l0 l1 l2 l3 l4 l5 x st h, zz_nl l3 = true → zz_Y 102 (41, [l0, l1, l2, l3, l4, l5], .int x :: st, h) = zz_Y 102 (43, [l0, l1, l2, l3, some (.int x), l5], st, h)) ∧ (∀ l0 l1 l2 l3 l4 x st h, zz_nl l4 = true → zz_Y 102 (43, [l0, l1, l2, l3, l4, some (.int x)], st, h) = zz_Y 102 (46, [l0, l1, l2, l3, l4, some (.int (x + nI 1))], st, h)) ∧ (∀ ls st h, zz_Y 102 (46, ls, st, h) = zz_Y 102 (6, ls, st, h)) ∧ (∀ l0 l1 l2 l3 l5 x st h, zz_Y 102 (49, [l0, l1, l2, l3, some (.int x), l5], st, h) = zz_Y 102 (51, [l0, l1, l2, l3, some (.int x), l5], .int x :: st, h)) ∧ (∀ ls v h, zz_Y 102 (51, ls, [.int v], h) = some (some (.int v), h)) :=
  ⟨fun _ _ _ => xl_ic d102_0 (by decide +kernel),
   fun _ _ _ _ _ _ _ _ _ hc => xl_is d102_1 xml102 (by decide) (zz_nl_s1 hc),
   fun _ _ _ => xl_ic d102_3 (by decide +kernel),
   fun _ _ _ _ _ _ _ _ _ hc => xl_is d102_4 xml102 (by decide) (zz_nl_s1 hc),
   fun _ _ _ => xl_bi d102_8 (by decide +kernel),
   fun _ _ _ _ _ => xl_icge d102_10 rfl,
   fun _ _ _ _ _ _ _ _ => xl_il d102_13 rfl,
   fun _ _ _ _ _ _ _ _ => xl_aln d102_15 rfl,
   fun _ _ _ _ _ _ _ _ => xl_il d102_16 rfl,
   fun _ _ _ _ _ _ _ _ => xl_iln d102_18 rfl,
   fun _ _ _ _ _ _ _ _ => xl_iln d102_19 rfl,
   fun ls a0 a1 a2 a3 s0 h => xl_cv (As := [a0, a1, a2, a3]) (st := [s0]) d102_20 xco102 xm_1_98 (congrArg Nat.succ xnp103) (by decide +kernel) rfl,
   fun _ _ _ _ _ _ _ _ => xl_aln d102_23 rfl,
   fun _ _ _ _ => xl_gf d102_24 xco102 xf_1_21,
   fun _ _ _ _ => xl_gf d102_27 xco102 xf_1_78,
   fun _ _ _ _ _ _ _ _ => xl_iln d102_30 rfl,
   fun _ _ _ _ _ _ _ _ => xl_il d102_31 rfl,
   fun ls a0 a1 a2 s0 s1 h => xl_cv (As := [a0, a1, a2]) (st := [s0, s1]) d102_33 xco102 xm_1_81 (congrArg Nat.succ xnp63) (by decide +kernel) rfl,
   fun _ _ _ _ _ => xl_iand d102_36,
   fun ls a0 s0 h => xl_cs (As := [a0]) (st := [s0]) d102_37 xco102 xm_1_102 xnp64 (by decide +kernel) rfl,
   fun _ _ _ _ _ => xl_iadd d102_40,
   fun _ _ _ _ _ _ _ _ _ hc => xl_is d102_41 xml102 (by decide) (zz_nl_s1 hc),
   fun _ _ _ _ _ _ _ _ hc => xl_inc d102_43 xml102 (by decide) rfl (by decide +kernel) (zz_nl_s1 hc),
   fun _ _ _ => xl_goto d102_46 rfl,
   fun _ _ _ _ _ _ _ _ => xl_il d102_49 rfl,
   fun _ _ _ => xl_iri d102_51 xrt102⟩
theorem x102_c6 : ∀ l0 l1 l2 l3 l4 x st h, zz_Y 102 (6, [l0, l1, l2, l3, l4, some (.int x)], st, h) = zz_Y 102 (8, [l0, l1, l2, l3, l4, some (.int x)], .int x :: st, h) := fun _ _ _ _ _ _ _ _ => xl_il d102_6 rfl
/-! 103 FacetSieve$Everything.leftIn(III)I -/
theorem d103_0 : decode (zz_c 103) 0 = .ok (.aload_n 0, 1) := by decide +kernel
theorem d103_1 : decode (zz_c 103) 1 = .ok (.getfield 21, 3) := by decide +kernel
theorem d103_4 : decode (zz_c 103) 4 = .ok (.getfield 78, 3) := by decide +kernel
theorem d103_7 : decode (zz_c 103) 7 = .ok (.bipush 20, 2) := by decide +kernel
theorem d103_9 : decode (zz_c 103) 9 = .ok (.iload_n 1, 1) := by decide +kernel
theorem d103_10 : decode (zz_c 103) 10 = .ok (.invokevirtual 81, 3) := by decide +kernel
theorem d103_13 : decode (zz_c 103) 13 = .ok (.istore 4, 2) := by decide +kernel
theorem d103_15 : decode (zz_c 103) 15 = .ok (.iconst 0, 1) := by decide +kernel
theorem d103_16 : decode (zz_c 103) 16 = .ok (.istore 5, 2) := by decide +kernel
theorem d103_18 : decode (zz_c 103) 18 = .ok (.iload 4, 2) := by decide +kernel
theorem d103_20 : decode (zz_c 103) 20 = .ok (.ifCond .eq 55, 3) := by decide +kernel
theorem d103_23 : decode (zz_c 103) 23 = .ok (.iload 5, 2) := by decide +kernel
theorem d103_25 : decode (zz_c 103) 25 = .ok (.aload_n 0, 1) := by decide +kernel
theorem d103_26 : decode (zz_c 103) 26 = .ok (.getfield 21, 3) := by decide +kernel
theorem d103_29 : decode (zz_c 103) 29 = .ok (.getfield 85, 3) := by decide +kernel
theorem d103_32 : decode (zz_c 103) 32 = .ok (.getfield 89, 3) := by decide +kernel
theorem d103_35 : decode (zz_c 103) 35 = .ok (.if_icmp .ge 40, 3) := by decide +kernel
theorem d103_38 : decode (zz_c 103) 38 = .ok (.iload 4, 2) := by decide +kernel
theorem d103_40 : decode (zz_c 103) 40 = .ok (.aload_n 0, 1) := by decide +kernel
theorem d103_41 : decode (zz_c 103) 41 = .ok (.getfield 28, 3) := by decide +kernel
theorem d103_44 : decode (zz_c 103) 44 = .ok (.aload_n 0, 1) := by decide +kernel
theorem d103_45 : decode (zz_c 103) 45 = .ok (.getfield 21, 3) := by decide +kernel
theorem d103_48 : decode (zz_c 103) 48 = .ok (.iload 5, 2) := by decide +kernel
theorem d103_50 : decode (zz_c 103) 50 = .ok (.iload_n 1, 1) := by decide +kernel
theorem d103_51 : decode (zz_c 103) 51 = .ok (.iload 5, 2) := by decide +kernel
theorem d103_53 : decode (zz_c 103) 53 = .ok (.iload_n 2, 1) := by decide +kernel
theorem d103_54 : decode (zz_c 103) 54 = .ok (.if_icmp .ne 7, 3) := by decide +kernel
theorem d103_57 : decode (zz_c 103) 57 = .ok (.iconst 1, 1) := by decide +kernel
theorem d103_58 : decode (zz_c 103) 58 = .ok (.goto 4, 3) := by decide +kernel
theorem d103_61 : decode (zz_c 103) 61 = .ok (.iconst 0, 1) := by decide +kernel
theorem d103_62 : decode (zz_c 103) 62 = .ok (.iload_n 3, 1) := by decide +kernel
theorem d103_63 : decode (zz_c 103) 63 = .ok (.invokevirtual 94, 3) := by decide +kernel
theorem d103_66 : decode (zz_c 103) 66 = .ok (.iand, 1) := by decide +kernel
theorem d103_67 : decode (zz_c 103) 67 = .ok (.istore 4, 2) := by decide +kernel
theorem d103_69 : decode (zz_c 103) 69 = .ok (.iinc 5 1, 3) := by decide +kernel
theorem d103_72 : decode (zz_c 103) 72 = .ok (.goto (-54), 3) := by decide +kernel
theorem d103_75 : decode (zz_c 103) 75 = .ok (.iload 4, 2) := by decide +kernel
theorem d103_77 : decode (zz_c 103) 77 = .ok (.ireturn, 1) := by decide +kernel
theorem x103 : (∀ l1 l2 l3 l4 l5 x st h, zz_Y 103 (0, [some (.ref x), l1, l2, l3, l4, l5], st, h) = zz_Y 103 (1, [some (.ref x), l1, l2, l3, l4, l5], .ref x :: st, h)) ∧ (∀ ls a st h, zz_Y 103 (1, ls, .ref a :: st, h) = mo_gf (hp_g h a) 1 1 103 4 ls st h) ∧ (∀ ls a st h, zz_Y 103 (4, ls, .ref a :: st, h) = mo_gf (hp_g h a) 7 3 103 7 ls st h) ∧ (∀ ls st h, zz_Y 103 (7, ls, st, h) = zz_Y 103 (9, ls, .int (nI 20) :: st, h)) ∧ (∀ l0 l2 l3 l4 l5 x st h, zz_Y 103 (9, [l0, some (.int x), l2, l3, l4, l5], st, h) = zz_Y 103 (10, [l0, some (.int x), l2, l3, l4, l5], .int x :: st, h)) ∧ (∀ ls a0 a1 a2 h, zz_Y 103 (10, ls, [a2, a1, a0], h) = mo_k 103 13 ls [] (zz_run 63 [a0, a1, a2] h)) ∧ (∀ l0 l1 l2 l3 l4 l5 x st h, zz_nl l3 = true → zz_Y 103 (13, [l0, l1, l2, l3, l4, l5], .int x :: st, h) = zz_Y 103 (15, [l0, l1, l2, l3, some (.int x), l5], st, h)) ∧ (∀ ls st h, zz_Y 103 (15, ls, st, h) = zz_Y 103 (16, ls, .int (nI 0) :: st, h)) ∧ (∀ l0 l1 l2 l3 l4 l5 x st h, zz_nl l4 = true → zz_Y 103 (16, [l0, l1, l2, l3, l4, l5], .int x :: st, h) = zz_Y 103 (18, [l0, l1, l2, l3, l4, some (.int x)], st, h)) ∧ (∀ ls a st h, zz_Y 103 (20, ls, .int a :: st, h) = if a = nI 0 then zz_Y 103 (75, ls, st, h) else zz_Y 103 (23, ls, st, h)) ∧ (∀ l0 l1 l2 l3 l4 x st h, zz_Y 103 (23, [l0, l1, l2, l3, l4, some (.int x)], st, h) = zz_Y 103 (25, [l0, l1, l2, l3, l4, some (.int x)], .int x :: st, h)) ∧ (∀ l1 l2 l3 l4 l5 x st h, zz_Y 103 (25, [some (.ref x), l1, l2, l3, l4, l5], st, h) = zz_Y 103 (26, [some (.ref x), l1, l2, l3, l4, l5], .ref x :: st, h)) ∧ (∀ ls a st h, zz_Y 103 (26, ls, .ref a :: st, h) = mo_gf (hp_g h a) 1 1 103 29 ls st h) ∧ (∀ ls a st h, zz_Y 103 (29, ls, .ref a :: st, h) = mo_gf (hp_g h a) 7 0 103 32 ls st h) ∧ (∀ ls a st h, zz_Y 103 (32, ls, .ref a :: st, h) = mo_gf (hp_g h a) 3 0 103 35 ls st h) ∧ (∀ ls a b st h, zz_Y 103 (35, ls, .int b :: .int a :: st, h) = if a < b then zz_Y 103 (38, ls, st, h) else zz_Y 103 (75, ls, st, h)) ∧ (∀ l0 l1 l2 l3 l5 x st h, zz_Y 103 (38, [l0, l1, l2, l3, some (.int x), l5], st, h) = zz_Y 103 (40, [l0, l1, l2, l3, some (.int x), l5], .int x :: st, h)) ∧ (∀ l1 l2 l3 l4 l5 x st h, zz_Y 103 (40, [some (.ref x), l1, l2, l3, l4, l5], st, h) = zz_Y 103 (41, [some (.ref x), l1, l2, l3, l4, l5], .ref x :: st, h)) ∧ (∀ ls a st h, zz_Y 103 (41, ls, .ref a :: st, h) = mo_gf (hp_g h a) 1 2 103 44 ls st h) ∧ (∀ l1 l2 l3 l4 l5 x st h, zz_Y 103 (44, [some (.ref x), l1, l2, l3, l4, l5], st, h) = zz_Y 103 (45, [some (.ref x), l1, l2, l3, l4, l5], .ref x :: st, h)) ∧ (∀ ls a st h, zz_Y 103 (45, ls, .ref a :: st, h) = mo_gf (hp_g h a) 1 1 103 48 ls st h) ∧ (∀ l0 l1 l2 l3 l4 x st h, zz_Y 103 (48, [l0, l1, l2, l3, l4, some (.int x)], st, h) = zz_Y 103 (50, [l0, l1, l2, l3, l4, some (.int x)], .int x :: st, h)) ∧ (∀ l0 l2 l3 l4 l5 x st h, zz_Y 103 (50, [l0, some (.int x), l2, l3, l4, l5], st, h) = zz_Y 103 (51, [l0, some (.int x), l2, l3, l4, l5], .int x :: st, h)) ∧ (∀ l0 l1 l2 l3 l4 x st h, zz_Y 103 (51, [l0, l1, l2, l3, l4, some (.int x)], st, h) = zz_Y 103 (53, [l0, l1, l2, l3, l4, some (.int x)], .int x :: st, h)) ∧ (∀ l0 l1 l3 l4 l5 x st h, zz_Y 103 (53, [l0, l1, some (.int x), l3, l4, l5], st, h) = zz_Y 103 (54, [l0, l1, some (.int x), l3, l4, l5], .int x :: st, h)) ∧ (∀ ls a b st h, zz_Y 103 (54, ls, .int b :: .int a :: st, h) = if a = b then zz_Y 103 (57, ls, st, h) else zz_Y 103 (61, ls, st, h)) ∧ (∀ ls st h, zz_Y 103 (57, ls, st, h) = zz_Y 103 (58, ls, .int (nI 1) :: st, h)) ∧ (∀ ls st h, zz_Y 103 (58, ls, st, h) = zz_Y 103 (62, ls, st, h)) ∧ (∀ ls st h, zz_Y 103 (61, ls, st, h) = zz_Y 103 (62, ls, .int (nI 0) :: st, h)) ∧ (∀ l0 l1 l2 l4 l5 x st h, zz_Y 103 (62, [l0, l1, l2, some (.int x), l4, l5], st, h) = zz_Y 103 (63, [l0, l1, l2, some (.int x), l4, l5], .int x :: st, h)) ∧ (∀ ls a0 a1 a2 a3 a4 a5 s0 h, zz_Y 103 (63, ls, [a5, a4, a3, a2, a1, a0, s0], h) = mo_k 103 66 ls [s0] (zz_run 104 [a0, a1, a2, a3, a4, a5] h)) ∧ (∀ ls a b st h, zz_Y 103 (66, ls, .int b :: .int a :: st, h) = zz_Y 103 (67, ls, .int (a &&& b) :: st, h)) ∧ (∀ l0 l1 l2 l3 l4 l5 x st h, zz_nl l3 = true → zz_Y 103 (67, [l0, l1, l2, l3, l4, l5], .int x :: st, h) = zz_Y 103 (69, [l0, l1, l2, l3, some (.int x), l5], st, h)) ∧ (∀ l0 l1 l2 l3 l4 x st h, zz_nl l4 = true → zz_Y 103 (69, [l0, l1, l2, l3, l4, some (.int x)], st, h) = zz_Y 103 (72, [l0, l1, l2, l3, l4, some (.int (x + nI 1))], st, h)) ∧ (∀ ls st h, zz_Y 103 (72, ls, st, h) = zz_Y 103 (18, ls, st, h)) ∧ (∀ l0 l1 l2 l3 l5 x st h, zz_Y 103 (75, [l0, l1, l2, l3, some (.int x), l5], st, h) = zz_Y 103 (77, [l0, l1, l2, l3, some (.int x), l5], .int x :: st, h)) ∧ (∀ ls v h, zz_Y 103 (77, ls, [.int v], h) = some (some (.int v), h)) :=
  ⟨fun _ _ _ _ _ _ _ _ => xl_aln d103_0 rfl,
   fun _ _ _ _ => xl_gf d103_1 xco103 xf_1_21,
   fun _ _ _ _ => xl_gf d103_4 xco103 xf_1_78,
   fun _ _ _ => xl_bi d103_7 (by decide +kernel),
   fun _ _ _ _ _ _ _ _ => xl_iln d103_9 rfl,
   fun ls a0 a1 a2 h => xl_cv (As := [a0, a1, a2]) (st := []) d103_10 xco103 xm_1_81 (congrArg Nat.succ xnp63) (by decide +kernel) rfl,
   fun _ _ _ _ _ _ _ _ _ hc => xl_is d103_13 xml103 (by decide) (zz_nl_s1 hc),
   fun _ _ _ => xl_ic d103_15 (by decide +kernel),
   fun _ _ _ _ _ _ _ _ _ hc => xl_is d103_16 xml103 (by decide) (zz_nl_s1 hc),
   fun _ _ _ _ => xl_ifeq d103_20 rfl,
   fun _ _ _ _ _ _ _ _ => xl_il d103_23 rfl,
   fun _ _ _ _ _ _ _ _ => xl_aln d103_25 rfl,
   fun _ _ _ _ => xl_gf d103_26 xco103 xf_1_21,
   fun _ _ _ _ => xl_gf d103_29 xco103 xf_1_85,
   fun _ _ _ _ => xl_gf d103_32 xco103 xf_1_89,
   fun _ _ _ _ _ => xl_icge d103_35 rfl,
   fun _ _ _ _ _ _ _ _ => xl_il d103_38 rfl,
   fun _ _ _ _ _ _ _ _ => xl_aln d103_40 rfl,
   fun _ _ _ _ => xl_gf d103_41 xco103 xf_1_28,
   fun _ _ _ _ _ _ _ _ => xl_aln d103_44 rfl,
   fun _ _ _ _ => xl_gf d103_45 xco103 xf_1_21,
   fun _ _ _ _ _ _ _ _ => xl_il d103_48 rfl,
   fun _ _ _ _ _ _ _ _ => xl_iln d103_50 rfl,
   fun _ _ _ _ _ _ _ _ => xl_il d103_51 rfl,
   fun _ _ _ _ _ _ _ _ => xl_iln d103_53 rfl,
   fun _ _ _ _ _ => xl_icne d103_54 rfl,
   fun _ _ _ => xl_ic d103_57 (by decide +kernel),
   fun _ _ _ => xl_goto d103_58 rfl,
   fun _ _ _ => xl_ic d103_61 (by decide +kernel),
   fun _ _ _ _ _ _ _ _ => xl_iln d103_62 rfl,
   fun ls a0 a1 a2 a3 a4 a5 s0 h => xl_cv (As := [a0, a1, a2, a3, a4, a5]) (st := [s0]) d103_63 xco103 xm_1_94 (congrArg Nat.succ xnp104) (by decide +kernel) rfl,
   fun _ _ _ _ _ => xl_iand d103_66,
   fun _ _ _ _ _ _ _ _ _ hc => xl_is d103_67 xml103 (by decide) (zz_nl_s1 hc),
   fun _ _ _ _ _ _ _ _ hc => xl_inc d103_69 xml103 (by decide) rfl (by decide +kernel) (zz_nl_s1 hc),
   fun _ _ _ => xl_goto d103_72 rfl,
   fun _ _ _ _ _ _ _ _ => xl_il d103_75 rfl,
   fun _ _ _ => xl_iri d103_77 xrt103⟩
theorem x103_c18 : ∀ l0 l1 l2 l3 l5 x st h, zz_Y 103 (18, [l0, l1, l2, l3, some (.int x), l5], st, h) = zz_Y 103 (20, [l0, l1, l2, l3, some (.int x), l5], .int x :: st, h) := fun _ _ _ _ _ _ _ _ => xl_il d103_18 rfl
