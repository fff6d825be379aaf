theorem t_hasBit (x p : Int32) (h : zz_H) : zz_run 50 [.int x, .int p] h = some (some (.int (if (x >>> (p &&& 31)) &&& nI 1 = nI 0 then nI 0 else nI 1)), h) := by
  rw [en50]
  simp (disch := first | assumption | exact rfl | omega) only [x50, xb50, mo_k_v, mo_k_n, mo_v_e, mo_gf_e, mo_pf_e, mo_ia_e, mo_ba_e, mo_za_e, mo_la_e, mo_aa_e, mo_le_e, mo_is_e, mo_bs_e, mo_zs_0, mo_zs_1, mo_ls_e, mo_as_e, mo_na_e, mo_aci_e, mo_acb_e, mo_acj_e, hp_gs, hp_gn, List.getElem?_cons_zero, List.getElem?_cons_succ, List.set_cons_zero, List.set_cons_succ]
  split <;> rfl
theorem t_isInside {h : zz_H} {a b r : Nat} (ha : hp_g h a = some (.inr (6, [.int (nI r), .ref b]))) (row blk : Nat) (hr : row < r) (hr2 : r ≤ 30) (hb : blk < 8) : zz_run 54 [.ref a, .int (nI row), .int (nI blk)] h = some (some (.int (nI 1)), h) := by
  rw [en54 ha]
  simp (disch := first | assumption | exact rfl | omega) only [x54, xb54, ha, nI_ltI, hr, hb, if_true, if_false, Nat.not_lt_zero, mo_k_v, mo_k_n, mo_v_e, mo_gf_e, mo_pf_e, mo_ia_e, mo_ba_e, mo_za_e, mo_la_e, mo_aa_e, mo_le_e, mo_is_e, mo_bs_e, mo_zs_0, mo_zs_1, mo_ls_e, mo_as_e, mo_na_e, mo_aci_e, mo_acb_e, mo_acj_e, hp_gs, hp_gn, List.getElem?_cons_zero, List.getElem?_cons_succ, List.set_cons_zero, List.set_cons_succ]
theorem t_bitsOf {h : zz_H} {a b r : Nat} {f : Nat → Int32} (ha : hp_g h a = some (.inr (6, [.int (nI r), .ref b]))) (hb : hp_g h b = some (.inl (.int, 8 * r, .inl f))) (row blk : Nat) (hr : row < r) (hr2 : r ≤ 30) (hk : blk < 8) : zz_run 63 [.ref a, .int (nI row), .int (nI blk)] h = some (some (.int (f (8 * row + blk))), h) := by
  rw [en63 ha]
  have e : nI row * nI 8 + nI blk = nI (8 * row + blk) := by rw [pk_mul, nI_add, Nat.mul_comm]
  have e2 : 8 * row + blk < 8 * r := by omega
  simp (disch := first | assumption | exact rfl | omega) only [x63, ha, hb, t_isInside ha row blk hr hr2 hk, nI_eq, if_true, if_false, e, mo_k_v, mo_k_n, mo_v_e, mo_gf_e, mo_pf_e, mo_ia_e, mo_ba_e, mo_za_e, mo_la_e, mo_aa_e, mo_le_e, mo_is_e, mo_bs_e, mo_zs_0, mo_zs_1, mo_ls_e, mo_as_e, mo_na_e, mo_aci_e, mo_acb_e, mo_acj_e, hp_gs, hp_gn, List.getElem?_cons_zero, List.getElem?_cons_succ, List.set_cons_zero, List.set_cons_succ]
  simp
