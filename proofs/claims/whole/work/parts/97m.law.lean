/-! the law -/
theorem rd_x {h : zz_H} {b N j y p : Nat} {xs : Nat → Int32} {ls : zz_L} {st : List Value} (hs : h.2.2.2 = (b, N, xs)) (hN : N ≤ 3072) (hj : j < N) : mo_ia none (nI j) b y p ls st h = zz_Y y (p, ls, .int (xs j) :: st, h) := by
  have q := mo_ia_x (h := h) (a := b) (k := j) (y := y) (p := p) (ls := ls) (st := st) (by rw [hs]) (by rw [hs]; exact hj) (by rw [hs]; exact Nat.le_trans hN (by decide))
  rw [q, hs]
theorem le_x {h : zz_H} {b N y p : Nat} {xs : Nat → Int32} {ls : zz_L} {st : List Value} (hs : h.2.2.2 = (b, N, xs)) : mo_le none b y p ls st h = zz_Y y (p, ls, .int (nI N) :: st, h) := by
  have q := mo_le_x (h := h) (a := b) (y := y) (p := p) (ls := ls) (st := st) (by rw [hs])
  rw [q, hs]
section
variable {h : zz_H} {X C b N i : Nat} {xs : Nat → Int32}
theorem L_1096 (hi : i + 6 ≤ 4000) : zz_Y 0 (1096, [some (.ref b), some (.ref X), some (.ref (X + 57)), some (.int (nI i))], [], h) = zz_Y 0 (18, [some (.ref b), some (.ref X), some (.ref (X + 57)), some (.int (nI (i + 6)))], [], h) := by
  simp (disch := first | assumption | exact zz_nl_i _ | exact zz_nl_r _ | exact zz_nl_n | exact okv_i _ | exact okv_j _ | exact okv_0 | exact okv_1 | exact okv_o _ _ | exact okv_a _ _ | exact bI_okr _ | omega | exact llt_0 | ((repeat apply llt_s) <;> exact llt_0) | fail) only [x0_p0, x0_p1, x0_p2, x0_p3, x0_p4, x0_p5, x0_p6, x0_p7, x0_p8, x0_p9, x0_p10, x0_p11, x0_p12, xb0, nI_add, mo_k_v, mo_k_n, mo_v_e, mo_gf_e, mo_pf_e, mo_ia_e, mo_ba_e, mo_za_e, mo_la_e, mo_aa_e, mo_le_e, mo_is_e, mo_bs_e, mo_zs_0, mo_zs_1, mo_ls_e, mo_as_e, mo_na_e, mo_aci_e, mo_acb_e, mo_acj_e, hp_gs, hp_gn, hp_ss, List.getElem?_cons_zero, List.getElem?_cons_succ, List.set_cons_zero, List.set_cons_succ]
theorem L_0 (hv : INV h X C) (hb : b < X) (hn : hp_g h b = none) (hs : h.2.2.2 = (b, N, xs)) (hN : N ≤ 3072) (hi : i + 6 ≤ N) : ∃ k, zz_Y 0 (168, [some (.ref b), some (.ref X), some (.ref (X + 57)), some (.int (nI i))], [], h) = zz_Y 0 (18, [some (.ref b), some (.ref X), some (.ref (X + 57)), some (.int (nI (i + 6)))], [], k) ∧ INV k X C ∧ keepS h k X := by
  obtain ⟨r, k, k', e1, e2, v, ks, kk⟩ := o_feed hv (xs (i + 1)) (xs (i + 2)) (xs (i + 3)) (xs (i + 4)) (xs (i + 5))
  have hnk := (kk.2 b hb).trans hn
  have hsk := kk.1.trans hs
  refine ⟨k', ?_, v, ks⟩
  simp (disch := first | assumption | exact zz_nl_i _ | exact zz_nl_r _ | exact zz_nl_n | exact okv_i _ | exact okv_j _ | exact okv_0 | exact okv_1 | exact okv_o _ _ | exact okv_a _ _ | exact bI_okr _ | omega | exact llt_0 | ((repeat apply llt_s) <;> exact llt_0) | fail) only [x0_p0, x0_p1, x0_p2, x0_p3, x0_p4, x0_p5, x0_p6, x0_p7, x0_p8, x0_p9, x0_p10, x0_p11, x0_p12, xb0, hn, rd_x hs hN, nI_add, e1, hnk, rd_x hsk hN, e2, eq_self, if_true, mo_k_v, mo_k_n, mo_v_e, mo_gf_e, mo_pf_e, mo_ia_e, mo_ba_e, mo_za_e, mo_la_e, mo_aa_e, mo_le_e, mo_is_e, mo_bs_e, mo_zs_0, mo_zs_1, mo_ls_e, mo_as_e, mo_na_e, mo_aci_e, mo_acb_e, mo_acj_e, hp_gs, hp_gn, hp_ss, List.getElem?_cons_zero, List.getElem?_cons_succ, List.set_cons_zero, List.set_cons_succ]
theorem L_1 (hv : INV h X C) (hb : b < X) (hn : hp_g h b = none) (hs : h.2.2.2 = (b, N, xs)) (hN : N ≤ 3072) (hi : i + 6 ≤ N) : ∃ k, zz_Y 0 (231, [some (.ref b), some (.ref X), some (.ref (X + 57)), some (.int (nI i))], [], h) = zz_Y 0 (18, [some (.ref b), some (.ref X), some (.ref (X + 57)), some (.int (nI (i + 6)))], [], k) ∧ INV k X C ∧ keepS h k X := by
  obtain ⟨r, k, k', e1, e2, v, ks, kk⟩ := o_end hv (xs (i + 1))
  have hnk := (kk.2 b hb).trans hn
  have hsk := kk.1.trans hs
  refine ⟨k', ?_, v, ks⟩
  simp (disch := first | assumption | exact zz_nl_i _ | exact zz_nl_r _ | exact zz_nl_n | exact okv_i _ | exact okv_j _ | exact okv_0 | exact okv_1 | exact okv_o _ _ | exact okv_a _ _ | exact bI_okr _ | omega | exact llt_0 | ((repeat apply llt_s) <;> exact llt_0) | fail) only [x0_p0, x0_p1, x0_p2, x0_p3, x0_p4, x0_p5, x0_p6, x0_p7, x0_p8, x0_p9, x0_p10, x0_p11, x0_p12, xb0, hn, rd_x hs hN, nI_add, e1, hnk, rd_x hsk hN, e2, eq_self, if_true, mo_k_v, mo_k_n, mo_v_e, mo_gf_e, mo_pf_e, mo_ia_e, mo_ba_e, mo_za_e, mo_la_e, mo_aa_e, mo_le_e, mo_is_e, mo_bs_e, mo_zs_0, mo_zs_1, mo_ls_e, mo_as_e, mo_na_e, mo_aci_e, mo_acb_e, mo_acj_e, hp_gs, hp_gn, hp_ss, List.getElem?_cons_zero, List.getElem?_cons_succ, List.set_cons_zero, List.set_cons_succ]
theorem L_2 (hv : INV h X C) (hb : b < X) (hn : hp_g h b = none) (hs : h.2.2.2 = (b, N, xs)) (hN : N ≤ 3072) (hi : i + 6 ≤ N) : ∃ k, zz_Y 0 (254, [some (.ref b), some (.ref X), some (.ref (X + 57)), some (.int (nI i))], [], h) = zz_Y 0 (18, [some (.ref b), some (.ref X), some (.ref (X + 57)), some (.int (nI (i + 6)))], [], k) ∧ INV k X C ∧ keepS h k X := by
  obtain ⟨r, k, k', e1, e2, v, ks, kk⟩ := o_scheme hv
  have hnk := (kk.2 b hb).trans hn
  have hsk := kk.1.trans hs
  refine ⟨k', ?_, v, ks⟩
  simp (disch := first | assumption | exact zz_nl_i _ | exact zz_nl_r _ | exact zz_nl_n | exact okv_i _ | exact okv_j _ | exact okv_0 | exact okv_1 | exact okv_o _ _ | exact okv_a _ _ | exact bI_okr _ | omega | exact llt_0 | ((repeat apply llt_s) <;> exact llt_0) | fail) only [x0_p0, x0_p1, x0_p2, x0_p3, x0_p4, x0_p5, x0_p6, x0_p7, x0_p8, x0_p9, x0_p10, x0_p11, x0_p12, xb0, hn, rd_x hs hN, nI_add, e1, hnk, rd_x hsk hN, e2, eq_self, if_true, mo_k_v, mo_k_n, mo_v_e, mo_gf_e, mo_pf_e, mo_ia_e, mo_ba_e, mo_za_e, mo_la_e, mo_aa_e, mo_le_e, mo_is_e, mo_bs_e, mo_zs_0, mo_zs_1, mo_ls_e, mo_as_e, mo_na_e, mo_aci_e, mo_acb_e, mo_acj_e, hp_gs, hp_gn, hp_ss, List.getElem?_cons_zero, List.getElem?_cons_succ, List.set_cons_zero, List.set_cons_succ]
theorem L_3 (hv : INV h X C) (hb : b < X) (hn : hp_g h b = none) (hs : h.2.2.2 = (b, N, xs)) (hN : N ≤ 3072) (hi : i + 6 ≤ N) : ∃ k, zz_Y 0 (267, [some (.ref b), some (.ref X), some (.ref (X + 57)), some (.int (nI i))], [], h) = zz_Y 0 (18, [some (.ref b), some (.ref X), some (.ref (X + 57)), some (.int (nI (i + 6)))], [], k) ∧ INV k X C ∧ keepS h k X := by
  obtain ⟨r, k, k', e1, e2, v, ks, kk⟩ := o_ask hv
  have hnk := (kk.2 b hb).trans hn
  have hsk := kk.1.trans hs
  refine ⟨k', ?_, v, ks⟩
  simp (disch := first | assumption | exact zz_nl_i _ | exact zz_nl_r _ | exact zz_nl_n | exact okv_i _ | exact okv_j _ | exact okv_0 | exact okv_1 | exact okv_o _ _ | exact okv_a _ _ | exact bI_okr _ | omega | exact llt_0 | ((repeat apply llt_s) <;> exact llt_0) | fail) only [x0_p0, x0_p1, x0_p2, x0_p3, x0_p4, x0_p5, x0_p6, x0_p7, x0_p8, x0_p9, x0_p10, x0_p11, x0_p12, xb0, hn, rd_x hs hN, nI_add, e1, hnk, rd_x hsk hN, e2, eq_self, if_true, mo_k_v, mo_k_n, mo_v_e, mo_gf_e, mo_pf_e, mo_ia_e, mo_ba_e, mo_za_e, mo_la_e, mo_aa_e, mo_le_e, mo_is_e, mo_bs_e, mo_zs_0, mo_zs_1, mo_ls_e, mo_as_e, mo_na_e, mo_aci_e, mo_acb_e, mo_acj_e, hp_gs, hp_gn, hp_ss, List.getElem?_cons_zero, List.getElem?_cons_succ, List.set_cons_zero, List.set_cons_succ]
theorem L_4 (hv : INV h X C) (hb : b < X) (hn : hp_g h b = none) (hs : h.2.2.2 = (b, N, xs)) (hN : N ≤ 3072) (hi : i + 6 ≤ N) : ∃ k, zz_Y 0 (280, [some (.ref b), some (.ref X), some (.ref (X + 57)), some (.int (nI i))], [], h) = zz_Y 0 (18, [some (.ref b), some (.ref X), some (.ref (X + 57)), some (.int (nI (i + 6)))], [], k) ∧ INV k X C ∧ keepS h k X := by
  obtain ⟨r, k, k', e1, e2, v, ks, kk⟩ := o_asked hv (xs (i + 1))
  have hnk := (kk.2 b hb).trans hn
  have hsk := kk.1.trans hs
  refine ⟨k', ?_, v, ks⟩
  simp (disch := first | assumption | exact zz_nl_i _ | exact zz_nl_r _ | exact zz_nl_n | exact okv_i _ | exact okv_j _ | exact okv_0 | exact okv_1 | exact okv_o _ _ | exact okv_a _ _ | exact bI_okr _ | omega | exact llt_0 | ((repeat apply llt_s) <;> exact llt_0) | fail) only [x0_p0, x0_p1, x0_p2, x0_p3, x0_p4, x0_p5, x0_p6, x0_p7, x0_p8, x0_p9, x0_p10, x0_p11, x0_p12, xb0, hn, rd_x hs hN, nI_add, e1, hnk, rd_x hsk hN, e2, eq_self, if_true, mo_k_v, mo_k_n, mo_v_e, mo_gf_e, mo_pf_e, mo_ia_e, mo_ba_e, mo_za_e, mo_la_e, mo_aa_e, mo_le_e, mo_is_e, mo_bs_e, mo_zs_0, mo_zs_1, mo_ls_e, mo_as_e, mo_na_e, mo_aci_e, mo_acb_e, mo_acj_e, hp_gs, hp_gn, hp_ss, List.getElem?_cons_zero, List.getElem?_cons_succ, List.set_cons_zero, List.set_cons_succ]
theorem L_5 (hv : INV h X C) (hb : b < X) (hn : hp_g h b = none) (hs : h.2.2.2 = (b, N, xs)) (hN : N ≤ 3072) (hi : i + 6 ≤ N) : ∃ k, zz_Y 0 (303, [some (.ref b), some (.ref X), some (.ref (X + 57)), some (.int (nI i))], [], h) = zz_Y 0 (18, [some (.ref b), some (.ref X), some (.ref (X + 57)), some (.int (nI (i + 6)))], [], k) ∧ INV k X C ∧ keepS h k X := by
  obtain ⟨r, k, k', e1, e2, v, ks, kk⟩ := o_fault hv (xs (i + 1))
  have hnk := (kk.2 b hb).trans hn
  have hsk := kk.1.trans hs
  refine ⟨k', ?_, v, ks⟩
  simp (disch := first | assumption | exact zz_nl_i _ | exact zz_nl_r _ | exact zz_nl_n | exact okv_i _ | exact okv_j _ | exact okv_0 | exact okv_1 | exact okv_o _ _ | exact okv_a _ _ | exact bI_okr _ | omega | exact llt_0 | ((repeat apply llt_s) <;> exact llt_0) | fail) only [x0_p0, x0_p1, x0_p2, x0_p3, x0_p4, x0_p5, x0_p6, x0_p7, x0_p8, x0_p9, x0_p10, x0_p11, x0_p12, xb0, hn, rd_x hs hN, nI_add, e1, hnk, rd_x hsk hN, e2, eq_self, if_true, mo_k_v, mo_k_n, mo_v_e, mo_gf_e, mo_pf_e, mo_ia_e, mo_ba_e, mo_za_e, mo_la_e, mo_aa_e, mo_le_e, mo_is_e, mo_bs_e, mo_zs_0, mo_zs_1, mo_ls_e, mo_as_e, mo_na_e, mo_aci_e, mo_acb_e, mo_acj_e, hp_gs, hp_gn, hp_ss, List.getElem?_cons_zero, List.getElem?_cons_succ, List.set_cons_zero, List.set_cons_succ]
theorem L_6 (hv : INV h X C) (hb : b < X) (hn : hp_g h b = none) (hs : h.2.2.2 = (b, N, xs)) (hN : N ≤ 3072) (hi : i + 6 ≤ N) : ∃ k, zz_Y 0 (326, [some (.ref b), some (.ref X), some (.ref (X + 57)), some (.int (nI i))], [], h) = zz_Y 0 (18, [some (.ref b), some (.ref X), some (.ref (X + 57)), some (.int (nI (i + 6)))], [], k) ∧ INV k X C ∧ keepS h k X := by
  obtain ⟨r, k, k', e1, e2, v, ks, kk⟩ := o_add hv (xs (i + 1)) (xs (i + 2))
  have hnk := (kk.2 b hb).trans hn
  have hsk := kk.1.trans hs
  refine ⟨k', ?_, v, ks⟩
  simp (disch := first | assumption | exact zz_nl_i _ | exact zz_nl_r _ | exact zz_nl_n | exact okv_i _ | exact okv_j _ | exact okv_0 | exact okv_1 | exact okv_o _ _ | exact okv_a _ _ | exact bI_okr _ | omega | exact llt_0 | ((repeat apply llt_s) <;> exact llt_0) | fail) only [x0_p0, x0_p1, x0_p2, x0_p3, x0_p4, x0_p5, x0_p6, x0_p7, x0_p8, x0_p9, x0_p10, x0_p11, x0_p12, xb0, hn, rd_x hs hN, nI_add, e1, hnk, rd_x hsk hN, e2, eq_self, if_true, mo_k_v, mo_k_n, mo_v_e, mo_gf_e, mo_pf_e, mo_ia_e, mo_ba_e, mo_za_e, mo_la_e, mo_aa_e, mo_le_e, mo_is_e, mo_bs_e, mo_zs_0, mo_zs_1, mo_ls_e, mo_as_e, mo_na_e, mo_aci_e, mo_acb_e, mo_acj_e, hp_gs, hp_gn, hp_ss, List.getElem?_cons_zero, List.getElem?_cons_succ, List.set_cons_zero, List.set_cons_succ]
theorem L_7 (hv : INV h X C) (hb : b < X) (hn : hp_g h b = none) (hs : h.2.2.2 = (b, N, xs)) (hN : N ≤ 3072) (hi : i + 6 ≤ N) : ∃ k, zz_Y 0 (359, [some (.ref b), some (.ref X), some (.ref (X + 57)), some (.int (nI i))], [], h) = zz_Y 0 (18, [some (.ref b), some (.ref X), some (.ref (X + 57)), some (.int (nI (i + 6)))], [], k) ∧ INV k X C ∧ keepS h k X := by
  obtain ⟨r, k, k', e1, e2, v, ks, kk⟩ := o_drop hv (xs (i + 1))
  have hnk := (kk.2 b hb).trans hn
  have hsk := kk.1.trans hs
  refine ⟨k', ?_, v, ks⟩
  simp (disch := first | assumption | exact zz_nl_i _ | exact zz_nl_r _ | exact zz_nl_n | exact okv_i _ | exact okv_j _ | exact okv_0 | exact okv_1 | exact okv_o _ _ | exact okv_a _ _ | exact bI_okr _ | omega | exact llt_0 | ((repeat apply llt_s) <;> exact llt_0) | fail) only [x0_p0, x0_p1, x0_p2, x0_p3, x0_p4, x0_p5, x0_p6, x0_p7, x0_p8, x0_p9, x0_p10, x0_p11, x0_p12, xb0, hn, rd_x hs hN, nI_add, e1, hnk, rd_x hsk hN, e2, eq_self, if_true, mo_k_v, mo_k_n, mo_v_e, mo_gf_e, mo_pf_e, mo_ia_e, mo_ba_e, mo_za_e, mo_la_e, mo_aa_e, mo_le_e, mo_is_e, mo_bs_e, mo_zs_0, mo_zs_1, mo_ls_e, mo_as_e, mo_na_e, mo_aci_e, mo_acb_e, mo_acj_e, hp_gs, hp_gn, hp_ss, List.getElem?_cons_zero, List.getElem?_cons_succ, List.set_cons_zero, List.set_cons_succ]
theorem L_8 (hv : INV h X C) (hb : b < X) (hn : hp_g h b = none) (hs : h.2.2.2 = (b, N, xs)) (hN : N ≤ 3072) (hi : i + 6 ≤ N) : ∃ k, zz_Y 0 (382, [some (.ref b), some (.ref X), some (.ref (X + 57)), some (.int (nI i))], [], h) = zz_Y 0 (18, [some (.ref b), some (.ref X), some (.ref (X + 57)), some (.int (nI (i + 6)))], [], k) ∧ INV k X C ∧ keepS h k X := by
  obtain ⟨r, k, k', e1, e2, v, ks, kk⟩ := o_tag hv (xs (i + 1)) (xs (i + 2))
  have hnk := (kk.2 b hb).trans hn
  have hsk := kk.1.trans hs
  refine ⟨k', ?_, v, ks⟩
  simp (disch := first | assumption | exact zz_nl_i _ | exact zz_nl_r _ | exact zz_nl_n | exact okv_i _ | exact okv_j _ | exact okv_0 | exact okv_1 | exact okv_o _ _ | exact okv_a _ _ | exact bI_okr _ | omega | exact llt_0 | ((repeat apply llt_s) <;> exact llt_0) | fail) only [x0_p0, x0_p1, x0_p2, x0_p3, x0_p4, x0_p5, x0_p6, x0_p7, x0_p8, x0_p9, x0_p10, x0_p11, x0_p12, xb0, hn, rd_x hs hN, nI_add, e1, hnk, rd_x hsk hN, e2, eq_self, if_true, mo_k_v, mo_k_n, mo_v_e, mo_gf_e, mo_pf_e, mo_ia_e, mo_ba_e, mo_za_e, mo_la_e, mo_aa_e, mo_le_e, mo_is_e, mo_bs_e, mo_zs_0, mo_zs_1, mo_ls_e, mo_as_e, mo_na_e, mo_aci_e, mo_acb_e, mo_acj_e, hp_gs, hp_gn, hp_ss, List.getElem?_cons_zero, List.getElem?_cons_succ, List.set_cons_zero, List.set_cons_succ]
theorem L_9 (hv : INV h X C) (hb : b < X) (hn : hp_g h b = none) (hs : h.2.2.2 = (b, N, xs)) (hN : N ≤ 3072) (hi : i + 6 ≤ N) : ∃ k, zz_Y 0 (415, [some (.ref b), some (.ref X), some (.ref (X + 57)), some (.int (nI i))], [], h) = zz_Y 0 (18, [some (.ref b), some (.ref X), some (.ref (X + 57)), some (.int (nI (i + 6)))], [], k) ∧ INV k X C ∧ keepS h k X := by
  obtain ⟨r, k, k', e1, e2, v, ks, kk⟩ := o_untag hv (xs (i + 1)) (xs (i + 2))
  have hnk := (kk.2 b hb).trans hn
  have hsk := kk.1.trans hs
  refine ⟨k', ?_, v, ks⟩
  simp (disch := first | assumption | exact zz_nl_i _ | exact zz_nl_r _ | exact zz_nl_n | exact okv_i _ | exact okv_j _ | exact okv_0 | exact okv_1 | exact okv_o _ _ | exact okv_a _ _ | exact bI_okr _ | omega | exact llt_0 | ((repeat apply llt_s) <;> exact llt_0) | fail) only [x0_p0, x0_p1, x0_p2, x0_p3, x0_p4, x0_p5, x0_p6, x0_p7, x0_p8, x0_p9, x0_p10, x0_p11, x0_p12, xb0, hn, rd_x hs hN, nI_add, e1, hnk, rd_x hsk hN, e2, eq_self, if_true, mo_k_v, mo_k_n, mo_v_e, mo_gf_e, mo_pf_e, mo_ia_e, mo_ba_e, mo_za_e, mo_la_e, mo_aa_e, mo_le_e, mo_is_e, mo_bs_e, mo_zs_0, mo_zs_1, mo_ls_e, mo_as_e, mo_na_e, mo_aci_e, mo_acb_e, mo_acj_e, hp_gs, hp_gn, hp_ss, List.getElem?_cons_zero, List.getElem?_cons_succ, List.set_cons_zero, List.set_cons_succ]
theorem L_10 (hv : INV h X C) (hb : b < X) (hn : hp_g h b = none) (hs : h.2.2.2 = (b, N, xs)) (hN : N ≤ 3072) (hi : i + 6 ≤ N) : ∃ k, zz_Y 0 (448, [some (.ref b), some (.ref X), some (.ref (X + 57)), some (.int (nI i))], [], h) = zz_Y 0 (18, [some (.ref b), some (.ref X), some (.ref (X + 57)), some (.int (nI (i + 6)))], [], k) ∧ INV k X C ∧ keepS h k X := by
  obtain ⟨r, k, k', e1, e2, v, ks, kk⟩ := o_rank hv (xs (i + 1)) (xs (i + 2))
  have hnk := (kk.2 b hb).trans hn
  have hsk := kk.1.trans hs
  refine ⟨k', ?_, v, ks⟩
  simp (disch := first | assumption | exact zz_nl_i _ | exact zz_nl_r _ | exact zz_nl_n | exact okv_i _ | exact okv_j _ | exact okv_0 | exact okv_1 | exact okv_o _ _ | exact okv_a _ _ | exact bI_okr _ | omega | exact llt_0 | ((repeat apply llt_s) <;> exact llt_0) | fail) only [x0_p0, x0_p1, x0_p2, x0_p3, x0_p4, x0_p5, x0_p6, x0_p7, x0_p8, x0_p9, x0_p10, x0_p11, x0_p12, xb0, hn, rd_x hs hN, nI_add, e1, hnk, rd_x hsk hN, e2, eq_self, if_true, mo_k_v, mo_k_n, mo_v_e, mo_gf_e, mo_pf_e, mo_ia_e, mo_ba_e, mo_za_e, mo_la_e, mo_aa_e, mo_le_e, mo_is_e, mo_bs_e, mo_zs_0, mo_zs_1, mo_ls_e, mo_as_e, mo_na_e, mo_aci_e, mo_acb_e, mo_acj_e, hp_gs, hp_gn, hp_ss, List.getElem?_cons_zero, List.getElem?_cons_succ, List.set_cons_zero, List.set_cons_succ]
theorem L_11 (hv : INV h X C) (hb : b < X) (hn : hp_g h b = none) (hs : h.2.2.2 = (b, N, xs)) (hN : N ≤ 3072) (hi : i + 6 ≤ N) : ∃ k, zz_Y 0 (481, [some (.ref b), some (.ref X), some (.ref (X + 57)), some (.int (nI i))], [], h) = zz_Y 0 (18, [some (.ref b), some (.ref X), some (.ref (X + 57)), some (.int (nI (i + 6)))], [], k) ∧ INV k X C ∧ keepS h k X := by
  obtain ⟨r, k, k', e1, e2, v, ks, kk⟩ := o_choose hv (xs (i + 1)) (xs (i + 2))
  have hnk := (kk.2 b hb).trans hn
  have hsk := kk.1.trans hs
  refine ⟨k', ?_, v, ks⟩
  simp (disch := first | assumption | exact zz_nl_i _ | exact zz_nl_r _ | exact zz_nl_n | exact okv_i _ | exact okv_j _ | exact okv_0 | exact okv_1 | exact okv_o _ _ | exact okv_a _ _ | exact bI_okr _ | omega | exact llt_0 | ((repeat apply llt_s) <;> exact llt_0) | fail) only [x0_p0, x0_p1, x0_p2, x0_p3, x0_p4, x0_p5, x0_p6, x0_p7, x0_p8, x0_p9, x0_p10, x0_p11, x0_p12, xb0, hn, rd_x hs hN, nI_add, e1, hnk, rd_x hsk hN, e2, eq_self, if_true, mo_k_v, mo_k_n, mo_v_e, mo_gf_e, mo_pf_e, mo_ia_e, mo_ba_e, mo_za_e, mo_la_e, mo_aa_e, mo_le_e, mo_is_e, mo_bs_e, mo_zs_0, mo_zs_1, mo_ls_e, mo_as_e, mo_na_e, mo_aci_e, mo_acb_e, mo_acj_e, hp_gs, hp_gn, hp_ss, List.getElem?_cons_zero, List.getElem?_cons_succ, List.set_cons_zero, List.set_cons_succ]
theorem L_12 (hv : INV h X C) (hb : b < X) (hn : hp_g h b = none) (hs : h.2.2.2 = (b, N, xs)) (hN : N ≤ 3072) (hi : i + 6 ≤ N) : ∃ k, zz_Y 0 (514, [some (.ref b), some (.ref X), some (.ref (X + 57)), some (.int (nI i))], [], h) = zz_Y 0 (18, [some (.ref b), some (.ref X), some (.ref (X + 57)), some (.int (nI (i + 6)))], [], k) ∧ INV k X C ∧ keepS h k X := by
  by_cases c : xs (i + 2) = nI 0
  · obtain ⟨r, k, k', e1, e2, v, ks, kk⟩ := o_go hv (xs (i + 1)) false
    rw [bI_f] at e1 e2
    have hnk := (kk.2 b hb).trans hn
    have hsk := kk.1.trans hs
    refine ⟨k', ?_, v, ks⟩
    simp (disch := first | assumption | exact zz_nl_i _ | exact zz_nl_r _ | exact zz_nl_n | exact okv_i _ | exact okv_j _ | exact okv_0 | exact okv_1 | exact okv_o _ _ | exact okv_a _ _ | exact bI_okr _ | omega | exact llt_0 | ((repeat apply llt_s) <;> exact llt_0) | fail) only [x0_p0, x0_p1, x0_p2, x0_p3, x0_p4, x0_p5, x0_p6, x0_p7, x0_p8, x0_p9, x0_p10, x0_p11, x0_p12, xb0, hn, rd_x hs hN, nI_add, e1, hnk, rd_x hsk hN, e2, eq_self, if_true, eq_true c, mo_k_v, mo_k_n, mo_v_e, mo_gf_e, mo_pf_e, mo_ia_e, mo_ba_e, mo_za_e, mo_la_e, mo_aa_e, mo_le_e, mo_is_e, mo_bs_e, mo_zs_0, mo_zs_1, mo_ls_e, mo_as_e, mo_na_e, mo_aci_e, mo_acb_e, mo_acj_e, hp_gs, hp_gn, hp_ss, List.getElem?_cons_zero, List.getElem?_cons_succ, List.set_cons_zero, List.set_cons_succ]
  · obtain ⟨r, k, k', e1, e2, v, ks, kk⟩ := o_go hv (xs (i + 1)) true
    rw [bI_t] at e1 e2
    have hnk := (kk.2 b hb).trans hn
    have hsk := kk.1.trans hs
    refine ⟨k', ?_, v, ks⟩
    simp (disch := first | assumption | exact zz_nl_i _ | exact zz_nl_r _ | exact zz_nl_n | exact okv_i _ | exact okv_j _ | exact okv_0 | exact okv_1 | exact okv_o _ _ | exact okv_a _ _ | exact bI_okr _ | omega | exact llt_0 | ((repeat apply llt_s) <;> exact llt_0) | fail) only [x0_p0, x0_p1, x0_p2, x0_p3, x0_p4, x0_p5, x0_p6, x0_p7, x0_p8, x0_p9, x0_p10, x0_p11, x0_p12, xb0, hn, rd_x hs hN, nI_add, e1, hnk, rd_x hsk hN, e2, eq_self, if_true, c, if_false, mo_k_v, mo_k_n, mo_v_e, mo_gf_e, mo_pf_e, mo_ia_e, mo_ba_e, mo_za_e, mo_la_e, mo_aa_e, mo_le_e, mo_is_e, mo_bs_e, mo_zs_0, mo_zs_1, mo_ls_e, mo_as_e, mo_na_e, mo_aci_e, mo_acb_e, mo_acj_e, hp_gs, hp_gn, hp_ss, List.getElem?_cons_zero, List.getElem?_cons_succ, List.set_cons_zero, List.set_cons_succ]
theorem L_13 (hv : INV h X C) (hb : b < X) (hn : hp_g h b = none) (hs : h.2.2.2 = (b, N, xs)) (hN : N ≤ 3072) (hi : i + 6 ≤ N) : ∃ k, zz_Y 0 (563, [some (.ref b), some (.ref X), some (.ref (X + 57)), some (.int (nI i))], [], h) = zz_Y 0 (18, [some (.ref b), some (.ref X), some (.ref (X + 57)), some (.int (nI (i + 6)))], [], k) ∧ INV k X C ∧ keepS h k X := by
  obtain ⟨r, k, k', e1, e2, v, ks, kk⟩ := o_why hv (xs (i + 1)) (xs (i + 2))
  have hnk := (kk.2 b hb).trans hn
  have hsk := kk.1.trans hs
  refine ⟨k', ?_, v, ks⟩
  simp (disch := first | assumption | exact zz_nl_i _ | exact zz_nl_r _ | exact zz_nl_n | exact okv_i _ | exact okv_j _ | exact okv_0 | exact okv_1 | exact okv_o _ _ | exact okv_a _ _ | exact bI_okr _ | omega | exact llt_0 | ((repeat apply llt_s) <;> exact llt_0) | fail) only [x0_p0, x0_p1, x0_p2, x0_p3, x0_p4, x0_p5, x0_p6, x0_p7, x0_p8, x0_p9, x0_p10, x0_p11, x0_p12, xb0, hn, rd_x hs hN, nI_add, e1, hnk, rd_x hsk hN, e2, eq_self, if_true, mo_k_v, mo_k_n, mo_v_e, mo_gf_e, mo_pf_e, mo_ia_e, mo_ba_e, mo_za_e, mo_la_e, mo_aa_e, mo_le_e, mo_is_e, mo_bs_e, mo_zs_0, mo_zs_1, mo_ls_e, mo_as_e, mo_na_e, mo_aci_e, mo_acb_e, mo_acj_e, hp_gs, hp_gn, hp_ss, List.getElem?_cons_zero, List.getElem?_cons_succ, List.set_cons_zero, List.set_cons_succ]
theorem L_14 (hv : INV h X C) (hb : b < X) (hn : hp_g h b = none) (hs : h.2.2.2 = (b, N, xs)) (hN : N ≤ 3072) (hi : i + 6 ≤ N) : ∃ k, zz_Y 0 (596, [some (.ref b), some (.ref X), some (.ref (X + 57)), some (.int (nI i))], [], h) = zz_Y 0 (18, [some (.ref b), some (.ref X), some (.ref (X + 57)), some (.int (nI (i + 6)))], [], k) ∧ INV k X C ∧ keepS h k X := by
  obtain ⟨r, k, k', e1, e2, v, ks, kk⟩ := o_undo hv
  have hnk := (kk.2 b hb).trans hn
  have hsk := kk.1.trans hs
  refine ⟨k', ?_, v, ks⟩
  simp (disch := first | assumption | exact zz_nl_i _ | exact zz_nl_r _ | exact zz_nl_n | exact okv_i _ | exact okv_j _ | exact okv_0 | exact okv_1 | exact okv_o _ _ | exact okv_a _ _ | exact bI_okr _ | omega | exact llt_0 | ((repeat apply llt_s) <;> exact llt_0) | fail) only [x0_p0, x0_p1, x0_p2, x0_p3, x0_p4, x0_p5, x0_p6, x0_p7, x0_p8, x0_p9, x0_p10, x0_p11, x0_p12, xb0, hn, rd_x hs hN, nI_add, e1, hnk, rd_x hsk hN, e2, eq_self, if_true, mo_k_v, mo_k_n, mo_v_e, mo_gf_e, mo_pf_e, mo_ia_e, mo_ba_e, mo_za_e, mo_la_e, mo_aa_e, mo_le_e, mo_is_e, mo_bs_e, mo_zs_0, mo_zs_1, mo_ls_e, mo_as_e, mo_na_e, mo_aci_e, mo_acb_e, mo_acj_e, hp_gs, hp_gn, hp_ss, List.getElem?_cons_zero, List.getElem?_cons_succ, List.set_cons_zero, List.set_cons_succ]
theorem L_15 (hv : INV h X C) (hb : b < X) (hn : hp_g h b = none) (hs : h.2.2.2 = (b, N, xs)) (hN : N ≤ 3072) (hi : i + 6 ≤ N) : ∃ k, zz_Y 0 (609, [some (.ref b), some (.ref X), some (.ref (X + 57)), some (.int (nI i))], [], h) = zz_Y 0 (18, [some (.ref b), some (.ref X), some (.ref (X + 57)), some (.int (nI (i + 6)))], [], k) ∧ INV k X C ∧ keepS h k X := by
  obtain ⟨r, k, k', e1, e2, v, ks, kk⟩ := o_count hv (xs (i + 1))
  have hnk := (kk.2 b hb).trans hn
  have hsk := kk.1.trans hs
  refine ⟨k', ?_, v, ks⟩
  simp (disch := first | assumption | exact zz_nl_i _ | exact zz_nl_r _ | exact zz_nl_n | exact okv_i _ | exact okv_j _ | exact okv_0 | exact okv_1 | exact okv_o _ _ | exact okv_a _ _ | exact bI_okr _ | omega | exact llt_0 | ((repeat apply llt_s) <;> exact llt_0) | fail) only [x0_p0, x0_p1, x0_p2, x0_p3, x0_p4, x0_p5, x0_p6, x0_p7, x0_p8, x0_p9, x0_p10, x0_p11, x0_p12, xb0, hn, rd_x hs hN, nI_add, e1, hnk, rd_x hsk hN, e2, eq_self, if_true, mo_k_v, mo_k_n, mo_v_e, mo_gf_e, mo_pf_e, mo_ia_e, mo_ba_e, mo_za_e, mo_la_e, mo_aa_e, mo_le_e, mo_is_e, mo_bs_e, mo_zs_0, mo_zs_1, mo_ls_e, mo_as_e, mo_na_e, mo_aci_e, mo_acb_e, mo_acj_e, hp_gs, hp_gn, hp_ss, List.getElem?_cons_zero, List.getElem?_cons_succ, List.set_cons_zero, List.set_cons_succ]
theorem L_16 (hv : INV h X C) (hb : b < X) (hn : hp_g h b = none) (hs : h.2.2.2 = (b, N, xs)) (hN : N ≤ 3072) (hi : i + 6 ≤ N) : ∃ k, zz_Y 0 (632, [some (.ref b), some (.ref X), some (.ref (X + 57)), some (.int (nI i))], [], h) = zz_Y 0 (18, [some (.ref b), some (.ref X), some (.ref (X + 57)), some (.int (nI (i + 6)))], [], k) ∧ INV k X C ∧ keepS h k X := by
  obtain ⟨r, k, k', e1, e2, v, ks, kk⟩ := o_head hv (xs (i + 1)) (xs (i + 2))
  have hnk := (kk.2 b hb).trans hn
  have hsk := kk.1.trans hs
  refine ⟨k', ?_, v, ks⟩
  simp (disch := first | assumption | exact zz_nl_i _ | exact zz_nl_r _ | exact zz_nl_n | exact okv_i _ | exact okv_j _ | exact okv_0 | exact okv_1 | exact okv_o _ _ | exact okv_a _ _ | exact bI_okr _ | omega | exact llt_0 | ((repeat apply llt_s) <;> exact llt_0) | fail) only [x0_p0, x0_p1, x0_p2, x0_p3, x0_p4, x0_p5, x0_p6, x0_p7, x0_p8, x0_p9, x0_p10, x0_p11, x0_p12, xb0, hn, rd_x hs hN, nI_add, e1, hnk, rd_x hsk hN, e2, eq_self, if_true, mo_k_v, mo_k_n, mo_v_e, mo_gf_e, mo_pf_e, mo_ia_e, mo_ba_e, mo_za_e, mo_la_e, mo_aa_e, mo_le_e, mo_is_e, mo_bs_e, mo_zs_0, mo_zs_1, mo_ls_e, mo_as_e, mo_na_e, mo_aci_e, mo_acb_e, mo_acj_e, hp_gs, hp_gn, hp_ss, List.getElem?_cons_zero, List.getElem?_cons_succ, List.set_cons_zero, List.set_cons_succ]
theorem L_17 (hv : INV h X C) (hb : b < X) (hn : hp_g h b = none) (hs : h.2.2.2 = (b, N, xs)) (hN : N ≤ 3072) (hi : i + 6 ≤ N) : ∃ k, zz_Y 0 (665, [some (.ref b), some (.ref X), some (.ref (X + 57)), some (.int (nI i))], [], h) = zz_Y 0 (18, [some (.ref b), some (.ref X), some (.ref (X + 57)), some (.int (nI (i + 6)))], [], k) ∧ INV k X C ∧ keepS h k X := by
  obtain ⟨r, k, k', e1, e2, v, ks, kk⟩ := o_value hv (xs (i + 1)) (xs (i + 2))
  have hnk := (kk.2 b hb).trans hn
  have hsk := kk.1.trans hs
  refine ⟨k', ?_, v, ks⟩
  simp (disch := first | assumption | exact zz_nl_i _ | exact zz_nl_r _ | exact zz_nl_n | exact okv_i _ | exact okv_j _ | exact okv_0 | exact okv_1 | exact okv_o _ _ | exact okv_a _ _ | exact bI_okr _ | omega | exact llt_0 | ((repeat apply llt_s) <;> exact llt_0) | fail) only [x0_p0, x0_p1, x0_p2, x0_p3, x0_p4, x0_p5, x0_p6, x0_p7, x0_p8, x0_p9, x0_p10, x0_p11, x0_p12, xb0, hn, rd_x hs hN, nI_add, e1, hnk, rd_x hsk hN, e2, eq_self, if_true, mo_k_v, mo_k_n, mo_v_e, mo_gf_e, mo_pf_e, mo_ia_e, mo_ba_e, mo_za_e, mo_la_e, mo_aa_e, mo_le_e, mo_is_e, mo_bs_e, mo_zs_0, mo_zs_1, mo_ls_e, mo_as_e, mo_na_e, mo_aci_e, mo_acb_e, mo_acj_e, hp_gs, hp_gn, hp_ss, List.getElem?_cons_zero, List.getElem?_cons_succ, List.set_cons_zero, List.set_cons_succ]
theorem L_18 (hv : INV h X C) (hb : b < X) (hn : hp_g h b = none) (hs : h.2.2.2 = (b, N, xs)) (hN : N ≤ 3072) (hi : i + 6 ≤ N) : ∃ k, zz_Y 0 (698, [some (.ref b), some (.ref X), some (.ref (X + 57)), some (.int (nI i))], [], h) = zz_Y 0 (18, [some (.ref b), some (.ref X), some (.ref (X + 57)), some (.int (nI (i + 6)))], [], k) ∧ INV k X C ∧ keepS h k X := by
  obtain ⟨r, k, k', e1, e2, v, ks, kk⟩ := o_box hv (xs (i + 1)) (xs (i + 2)) (xs (i + 3))
  have hnk := (kk.2 b hb).trans hn
  have hsk := kk.1.trans hs
  refine ⟨k', ?_, v, ks⟩
  simp (disch := first | assumption | exact zz_nl_i _ | exact zz_nl_r _ | exact zz_nl_n | exact okv_i _ | exact okv_j _ | exact okv_0 | exact okv_1 | exact okv_o _ _ | exact okv_a _ _ | exact bI_okr _ | omega | exact llt_0 | ((repeat apply llt_s) <;> exact llt_0) | fail) only [x0_p0, x0_p1, x0_p2, x0_p3, x0_p4, x0_p5, x0_p6, x0_p7, x0_p8, x0_p9, x0_p10, x0_p11, x0_p12, xb0, hn, rd_x hs hN, nI_add, e1, hnk, rd_x hsk hN, e2, eq_self, if_true, mo_k_v, mo_k_n, mo_v_e, mo_gf_e, mo_pf_e, mo_ia_e, mo_ba_e, mo_za_e, mo_la_e, mo_aa_e, mo_le_e, mo_is_e, mo_bs_e, mo_zs_0, mo_zs_1, mo_ls_e, mo_as_e, mo_na_e, mo_aci_e, mo_acb_e, mo_acj_e, hp_gs, hp_gn, hp_ss, List.getElem?_cons_zero, List.getElem?_cons_succ, List.set_cons_zero, List.set_cons_succ]
theorem L_19 (hv : INV h X C) (hb : b < X) (hn : hp_g h b = none) (hs : h.2.2.2 = (b, N, xs)) (hN : N ≤ 3072) (hi : i + 6 ≤ N) : ∃ k, zz_Y 0 (741, [some (.ref b), some (.ref X), some (.ref (X + 57)), some (.int (nI i))], [], h) = zz_Y 0 (18, [some (.ref b), some (.ref X), some (.ref (X + 57)), some (.int (nI (i + 6)))], [], k) ∧ INV k X C ∧ keepS h k X := by
  obtain ⟨r, k, k', e1, e2, v, ks, kk⟩ := o_record hv (xs (i + 1)) (xs (i + 2))
  have hnk := (kk.2 b hb).trans hn
  have hsk := kk.1.trans hs
  refine ⟨k', ?_, v, ks⟩
  simp (disch := first | assumption | exact zz_nl_i _ | exact zz_nl_r _ | exact zz_nl_n | exact okv_i _ | exact okv_j _ | exact okv_0 | exact okv_1 | exact okv_o _ _ | exact okv_a _ _ | exact bI_okr _ | omega | exact llt_0 | ((repeat apply llt_s) <;> exact llt_0) | fail) only [x0_p0, x0_p1, x0_p2, x0_p3, x0_p4, x0_p5, x0_p6, x0_p7, x0_p8, x0_p9, x0_p10, x0_p11, x0_p12, xb0, hn, rd_x hs hN, nI_add, e1, hnk, rd_x hsk hN, e2, eq_self, if_true, mo_k_v, mo_k_n, mo_v_e, mo_gf_e, mo_pf_e, mo_ia_e, mo_ba_e, mo_za_e, mo_la_e, mo_aa_e, mo_le_e, mo_is_e, mo_bs_e, mo_zs_0, mo_zs_1, mo_ls_e, mo_as_e, mo_na_e, mo_aci_e, mo_acb_e, mo_acj_e, hp_gs, hp_gn, hp_ss, List.getElem?_cons_zero, List.getElem?_cons_succ, List.set_cons_zero, List.set_cons_succ]
theorem L_20 (hv : INV h X C) (hb : b < X) (hn : hp_g h b = none) (hs : h.2.2.2 = (b, N, xs)) (hN : N ≤ 3072) (hi : i + 6 ≤ N) : ∃ k, zz_Y 0 (774, [some (.ref b), some (.ref X), some (.ref (X + 57)), some (.int (nI i))], [], h) = zz_Y 0 (18, [some (.ref b), some (.ref X), some (.ref (X + 57)), some (.int (nI (i + 6)))], [], k) ∧ INV k X C ∧ keepS h k X := by
  obtain ⟨r, k, k', e1, e2, v, ks, kk⟩ := o_has hv (xs (i + 1)) (xs (i + 2))
  have hnk := (kk.2 b hb).trans hn
  have hsk := kk.1.trans hs
  refine ⟨k', ?_, v, ks⟩
  simp (disch := first | assumption | exact zz_nl_i _ | exact zz_nl_r _ | exact zz_nl_n | exact okv_i _ | exact okv_j _ | exact okv_0 | exact okv_1 | exact okv_o _ _ | exact okv_a _ _ | exact bI_okr _ | omega | exact llt_0 | ((repeat apply llt_s) <;> exact llt_0) | fail) only [x0_p0, x0_p1, x0_p2, x0_p3, x0_p4, x0_p5, x0_p6, x0_p7, x0_p8, x0_p9, x0_p10, x0_p11, x0_p12, xb0, hn, rd_x hs hN, nI_add, e1, hnk, rd_x hsk hN, e2, eq_self, if_true, mo_k_v, mo_k_n, mo_v_e, mo_gf_e, mo_pf_e, mo_ia_e, mo_ba_e, mo_za_e, mo_la_e, mo_aa_e, mo_le_e, mo_is_e, mo_bs_e, mo_zs_0, mo_zs_1, mo_ls_e, mo_as_e, mo_na_e, mo_aci_e, mo_acb_e, mo_acj_e, hp_gs, hp_gn, hp_ss, List.getElem?_cons_zero, List.getElem?_cons_succ, List.set_cons_zero, List.set_cons_succ]
theorem L_21 (hv : INV h X C) (hb : b < X) (hn : hp_g h b = none) (hs : h.2.2.2 = (b, N, xs)) (hN : N ≤ 3072) (hi : i + 6 ≤ N) : ∃ k, zz_Y 0 (807, [some (.ref b), some (.ref X), some (.ref (X + 57)), some (.int (nI i))], [], h) = zz_Y 0 (18, [some (.ref b), some (.ref X), some (.ref (X + 57)), some (.int (nI (i + 6)))], [], k) ∧ INV k X C ∧ keepS h k X := by
  by_cases c : xs (i + 2) = nI 0
  · obtain ⟨r, k, k', e1, e2, v, ks, kk⟩ := o_left hv (xs (i + 1)) false
    rw [bI_f] at e1 e2
    have hnk := (kk.2 b hb).trans hn
    have hsk := kk.1.trans hs
    refine ⟨k', ?_, v, ks⟩
    simp (disch := first | assumption | exact zz_nl_i _ | exact zz_nl_r _ | exact zz_nl_n | exact okv_i _ | exact okv_j _ | exact okv_0 | exact okv_1 | exact okv_o _ _ | exact okv_a _ _ | exact bI_okr _ | omega | exact llt_0 | ((repeat apply llt_s) <;> exact llt_0) | fail) only [x0_p0, x0_p1, x0_p2, x0_p3, x0_p4, x0_p5, x0_p6, x0_p7, x0_p8, x0_p9, x0_p10, x0_p11, x0_p12, xb0, hn, rd_x hs hN, nI_add, e1, hnk, rd_x hsk hN, e2, eq_self, if_true, eq_true c, mo_k_v, mo_k_n, mo_v_e, mo_gf_e, mo_pf_e, mo_ia_e, mo_ba_e, mo_za_e, mo_la_e, mo_aa_e, mo_le_e, mo_is_e, mo_bs_e, mo_zs_0, mo_zs_1, mo_ls_e, mo_as_e, mo_na_e, mo_aci_e, mo_acb_e, mo_acj_e, hp_gs, hp_gn, hp_ss, List.getElem?_cons_zero, List.getElem?_cons_succ, List.set_cons_zero, List.set_cons_succ]
  · obtain ⟨r, k, k', e1, e2, v, ks, kk⟩ := o_left hv (xs (i + 1)) true
    rw [bI_t] at e1 e2
    have hnk := (kk.2 b hb).trans hn
    have hsk := kk.1.trans hs
    refine ⟨k', ?_, v, ks⟩
    simp (disch := first | assumption | exact zz_nl_i _ | exact zz_nl_r _ | exact zz_nl_n | exact okv_i _ | exact okv_j _ | exact okv_0 | exact okv_1 | exact okv_o _ _ | exact okv_a _ _ | exact bI_okr _ | omega | exact llt_0 | ((repeat apply llt_s) <;> exact llt_0) | fail) only [x0_p0, x0_p1, x0_p2, x0_p3, x0_p4, x0_p5, x0_p6, x0_p7, x0_p8, x0_p9, x0_p10, x0_p11, x0_p12, xb0, hn, rd_x hs hN, nI_add, e1, hnk, rd_x hsk hN, e2, eq_self, if_true, c, if_false, mo_k_v, mo_k_n, mo_v_e, mo_gf_e, mo_pf_e, mo_ia_e, mo_ba_e, mo_za_e, mo_la_e, mo_aa_e, mo_le_e, mo_is_e, mo_bs_e, mo_zs_0, mo_zs_1, mo_ls_e, mo_as_e, mo_na_e, mo_aci_e, mo_acb_e, mo_acj_e, hp_gs, hp_gn, hp_ss, List.getElem?_cons_zero, List.getElem?_cons_succ, List.set_cons_zero, List.set_cons_succ]
theorem L_22 (hv : INV h X C) (hb : b < X) (hn : hp_g h b = none) (hs : h.2.2.2 = (b, N, xs)) (hN : N ≤ 3072) (hi : i + 6 ≤ N) : ∃ k, zz_Y 0 (856, [some (.ref b), some (.ref X), some (.ref (X + 57)), some (.int (nI i))], [], h) = zz_Y 0 (18, [some (.ref b), some (.ref X), some (.ref (X + 57)), some (.int (nI (i + 6)))], [], k) ∧ INV k X C ∧ keepS h k X := by
  by_cases c : xs (i + 2) = nI 0
  · obtain ⟨r, k, k', e1, e2, v, ks, kk⟩ := o_told hv (xs (i + 1)) false
    rw [bI_f] at e1 e2
    have hnk := (kk.2 b hb).trans hn
    have hsk := kk.1.trans hs
    refine ⟨k', ?_, v, ks⟩
    simp (disch := first | assumption | exact zz_nl_i _ | exact zz_nl_r _ | exact zz_nl_n | exact okv_i _ | exact okv_j _ | exact okv_0 | exact okv_1 | exact okv_o _ _ | exact okv_a _ _ | exact bI_okr _ | omega | exact llt_0 | ((repeat apply llt_s) <;> exact llt_0) | fail) only [x0_p0, x0_p1, x0_p2, x0_p3, x0_p4, x0_p5, x0_p6, x0_p7, x0_p8, x0_p9, x0_p10, x0_p11, x0_p12, xb0, hn, rd_x hs hN, nI_add, e1, hnk, rd_x hsk hN, e2, eq_self, if_true, eq_true c, mo_k_v, mo_k_n, mo_v_e, mo_gf_e, mo_pf_e, mo_ia_e, mo_ba_e, mo_za_e, mo_la_e, mo_aa_e, mo_le_e, mo_is_e, mo_bs_e, mo_zs_0, mo_zs_1, mo_ls_e, mo_as_e, mo_na_e, mo_aci_e, mo_acb_e, mo_acj_e, hp_gs, hp_gn, hp_ss, List.getElem?_cons_zero, List.getElem?_cons_succ, List.set_cons_zero, List.set_cons_succ]
  · obtain ⟨r, k, k', e1, e2, v, ks, kk⟩ := o_told hv (xs (i + 1)) true
    rw [bI_t] at e1 e2
    have hnk := (kk.2 b hb).trans hn
    have hsk := kk.1.trans hs
    refine ⟨k', ?_, v, ks⟩
    simp (disch := first | assumption | exact zz_nl_i _ | exact zz_nl_r _ | exact zz_nl_n | exact okv_i _ | exact okv_j _ | exact okv_0 | exact okv_1 | exact okv_o _ _ | exact okv_a _ _ | exact bI_okr _ | omega | exact llt_0 | ((repeat apply llt_s) <;> exact llt_0) | fail) only [x0_p0, x0_p1, x0_p2, x0_p3, x0_p4, x0_p5, x0_p6, x0_p7, x0_p8, x0_p9, x0_p10, x0_p11, x0_p12, xb0, hn, rd_x hs hN, nI_add, e1, hnk, rd_x hsk hN, e2, eq_self, if_true, c, if_false, mo_k_v, mo_k_n, mo_v_e, mo_gf_e, mo_pf_e, mo_ia_e, mo_ba_e, mo_za_e, mo_la_e, mo_aa_e, mo_le_e, mo_is_e, mo_bs_e, mo_zs_0, mo_zs_1, mo_ls_e, mo_as_e, mo_na_e, mo_aci_e, mo_acb_e, mo_acj_e, hp_gs, hp_gn, hp_ss, List.getElem?_cons_zero, List.getElem?_cons_succ, List.set_cons_zero, List.set_cons_succ]
theorem L_23 (hv : INV h X C) (hb : b < X) (hn : hp_g h b = none) (hs : h.2.2.2 = (b, N, xs)) (hN : N ≤ 3072) (hi : i + 6 ≤ N) : ∃ k, zz_Y 0 (905, [some (.ref b), some (.ref X), some (.ref (X + 57)), some (.int (nI i))], [], h) = zz_Y 0 (18, [some (.ref b), some (.ref X), some (.ref (X + 57)), some (.int (nI (i + 6)))], [], k) ∧ INV k X C ∧ keepS h k X := by
  obtain ⟨r, k, k', e1, e2, v, ks, kk⟩ := o_both hv (xs (i + 1)) (xs (i + 2)) (xs (i + 3))
  have hnk := (kk.2 b hb).trans hn
  have hsk := kk.1.trans hs
  refine ⟨k', ?_, v, ks⟩
  simp (disch := first | assumption | exact zz_nl_i _ | exact zz_nl_r _ | exact zz_nl_n | exact okv_i _ | exact okv_j _ | exact okv_0 | exact okv_1 | exact okv_o _ _ | exact okv_a _ _ | exact bI_okr _ | omega | exact llt_0 | ((repeat apply llt_s) <;> exact llt_0) | fail) only [x0_p0, x0_p1, x0_p2, x0_p3, x0_p4, x0_p5, x0_p6, x0_p7, x0_p8, x0_p9, x0_p10, x0_p11, x0_p12, xb0, hn, rd_x hs hN, nI_add, e1, hnk, rd_x hsk hN, e2, eq_self, if_true, mo_k_v, mo_k_n, mo_v_e, mo_gf_e, mo_pf_e, mo_ia_e, mo_ba_e, mo_za_e, mo_la_e, mo_aa_e, mo_le_e, mo_is_e, mo_bs_e, mo_zs_0, mo_zs_1, mo_ls_e, mo_as_e, mo_na_e, mo_aci_e, mo_acb_e, mo_acj_e, hp_gs, hp_gn, hp_ss, List.getElem?_cons_zero, List.getElem?_cons_succ, List.set_cons_zero, List.set_cons_succ]
theorem L_24 (hv : INV h X C) (hb : b < X) (hn : hp_g h b = none) (hs : h.2.2.2 = (b, N, xs)) (hN : N ≤ 3072) (hi : i + 6 ≤ N) : ∃ k, zz_Y 0 (948, [some (.ref b), some (.ref X), some (.ref (X + 57)), some (.int (nI i))], [], h) = zz_Y 0 (18, [some (.ref b), some (.ref X), some (.ref (X + 57)), some (.int (nI (i + 6)))], [], k) ∧ INV k X C ∧ keepS h k X := by
  obtain ⟨r, k, k', e1, e2, v, ks, kk⟩ := o_alike hv (xs (i + 1))
  have hnk := (kk.2 b hb).trans hn
  have hsk := kk.1.trans hs
  refine ⟨k', ?_, v, ks⟩
  simp (disch := first | assumption | exact zz_nl_i _ | exact zz_nl_r _ | exact zz_nl_n | exact okv_i _ | exact okv_j _ | exact okv_0 | exact okv_1 | exact okv_o _ _ | exact okv_a _ _ | exact bI_okr _ | omega | exact llt_0 | ((repeat apply llt_s) <;> exact llt_0) | fail) only [x0_p0, x0_p1, x0_p2, x0_p3, x0_p4, x0_p5, x0_p6, x0_p7, x0_p8, x0_p9, x0_p10, x0_p11, x0_p12, xb0, hn, rd_x hs hN, nI_add, e1, hnk, rd_x hsk hN, e2, eq_self, if_true, mo_k_v, mo_k_n, mo_v_e, mo_gf_e, mo_pf_e, mo_ia_e, mo_ba_e, mo_za_e, mo_la_e, mo_aa_e, mo_le_e, mo_is_e, mo_bs_e, mo_zs_0, mo_zs_1, mo_ls_e, mo_as_e, mo_na_e, mo_aci_e, mo_acb_e, mo_acj_e, hp_gs, hp_gn, hp_ss, List.getElem?_cons_zero, List.getElem?_cons_succ, List.set_cons_zero, List.set_cons_succ]
theorem L_25 (hv : INV h X C) (hb : b < X) (hn : hp_g h b = none) (hs : h.2.2.2 = (b, N, xs)) (hN : N ≤ 3072) (hi : i + 6 ≤ N) : ∃ k, zz_Y 0 (971, [some (.ref b), some (.ref X), some (.ref (X + 57)), some (.int (nI i))], [], h) = zz_Y 0 (18, [some (.ref b), some (.ref X), some (.ref (X + 57)), some (.int (nI (i + 6)))], [], k) ∧ INV k X C ∧ keepS h k X := by
  obtain ⟨r, k, k', e1, e2, v, ks, kk⟩ := o_named hv (xs (i + 1)) (xs (i + 2))
  have hnk := (kk.2 b hb).trans hn
  have hsk := kk.1.trans hs
  refine ⟨k', ?_, v, ks⟩
  simp (disch := first | assumption | exact zz_nl_i _ | exact zz_nl_r _ | exact zz_nl_n | exact okv_i _ | exact okv_j _ | exact okv_0 | exact okv_1 | exact okv_o _ _ | exact okv_a _ _ | exact bI_okr _ | omega | exact llt_0 | ((repeat apply llt_s) <;> exact llt_0) | fail) only [x0_p0, x0_p1, x0_p2, x0_p3, x0_p4, x0_p5, x0_p6, x0_p7, x0_p8, x0_p9, x0_p10, x0_p11, x0_p12, xb0, hn, rd_x hs hN, nI_add, e1, hnk, rd_x hsk hN, e2, eq_self, if_true, mo_k_v, mo_k_n, mo_v_e, mo_gf_e, mo_pf_e, mo_ia_e, mo_ba_e, mo_za_e, mo_la_e, mo_aa_e, mo_le_e, mo_is_e, mo_bs_e, mo_zs_0, mo_zs_1, mo_ls_e, mo_as_e, mo_na_e, mo_aci_e, mo_acb_e, mo_acj_e, hp_gs, hp_gn, hp_ss, List.getElem?_cons_zero, List.getElem?_cons_succ, List.set_cons_zero, List.set_cons_succ]
theorem L_26 (hv : INV h X C) (hb : b < X) (hn : hp_g h b = none) (hs : h.2.2.2 = (b, N, xs)) (hN : N ≤ 3072) (hi : i + 6 ≤ N) : ∃ k, zz_Y 0 (1004, [some (.ref b), some (.ref X), some (.ref (X + 57)), some (.int (nI i))], [], h) = zz_Y 0 (18, [some (.ref b), some (.ref X), some (.ref (X + 57)), some (.int (nI (i + 6)))], [], k) ∧ INV k X C ∧ keepS h k X := by
  obtain ⟨r, k, k', e1, e2, v, ks, kk⟩ := o_likes hv (xs (i + 1))
  have hnk := (kk.2 b hb).trans hn
  have hsk := kk.1.trans hs
  refine ⟨k', ?_, v, ks⟩
  simp (disch := first | assumption | exact zz_nl_i _ | exact zz_nl_r _ | exact zz_nl_n | exact okv_i _ | exact okv_j _ | exact okv_0 | exact okv_1 | exact okv_o _ _ | exact okv_a _ _ | exact bI_okr _ | omega | exact llt_0 | ((repeat apply llt_s) <;> exact llt_0) | fail) only [x0_p0, x0_p1, x0_p2, x0_p3, x0_p4, x0_p5, x0_p6, x0_p7, x0_p8, x0_p9, x0_p10, x0_p11, x0_p12, xb0, hn, rd_x hs hN, nI_add, e1, hnk, rd_x hsk hN, e2, eq_self, if_true, mo_k_v, mo_k_n, mo_v_e, mo_gf_e, mo_pf_e, mo_ia_e, mo_ba_e, mo_za_e, mo_la_e, mo_aa_e, mo_le_e, mo_is_e, mo_bs_e, mo_zs_0, mo_zs_1, mo_ls_e, mo_as_e, mo_na_e, mo_aci_e, mo_acb_e, mo_acj_e, hp_gs, hp_gn, hp_ss, List.getElem?_cons_zero, List.getElem?_cons_succ, List.set_cons_zero, List.set_cons_succ]
theorem L_27 (hv : INV h X C) (hb : b < X) (hn : hp_g h b = none) (hs : h.2.2.2 = (b, N, xs)) (hN : N ≤ 3072) (hi : i + 6 ≤ N) : ∃ k, zz_Y 0 (1027, [some (.ref b), some (.ref X), some (.ref (X + 57)), some (.int (nI i))], [], h) = zz_Y 0 (18, [some (.ref b), some (.ref X), some (.ref (X + 57)), some (.int (nI (i + 6)))], [], k) ∧ INV k X C ∧ keepS h k X := by
  obtain ⟨r, k, k', e1, e2, v, ks, kk⟩ := o_spread hv (xs (i + 1))
  have hnk := (kk.2 b hb).trans hn
  have hsk := kk.1.trans hs
  refine ⟨k', ?_, v, ks⟩
  simp (disch := first | assumption | exact zz_nl_i _ | exact zz_nl_r _ | exact zz_nl_n | exact okv_i _ | exact okv_j _ | exact okv_0 | exact okv_1 | exact okv_o _ _ | exact okv_a _ _ | exact bI_okr _ | omega | exact llt_0 | ((repeat apply llt_s) <;> exact llt_0) | fail) only [x0_p0, x0_p1, x0_p2, x0_p3, x0_p4, x0_p5, x0_p6, x0_p7, x0_p8, x0_p9, x0_p10, x0_p11, x0_p12, xb0, hn, rd_x hs hN, nI_add, e1, hnk, rd_x hsk hN, e2, eq_self, if_true, mo_k_v, mo_k_n, mo_v_e, mo_gf_e, mo_pf_e, mo_ia_e, mo_ba_e, mo_za_e, mo_la_e, mo_aa_e, mo_le_e, mo_is_e, mo_bs_e, mo_zs_0, mo_zs_1, mo_ls_e, mo_as_e, mo_na_e, mo_aci_e, mo_acb_e, mo_acj_e, hp_gs, hp_gn, hp_ss, List.getElem?_cons_zero, List.getElem?_cons_succ, List.set_cons_zero, List.set_cons_succ]
theorem L_28 (hv : INV h X C) (hb : b < X) (hn : hp_g h b = none) (hs : h.2.2.2 = (b, N, xs)) (hN : N ≤ 3072) (hi : i + 6 ≤ N) : ∃ k, zz_Y 0 (1050, [some (.ref b), some (.ref X), some (.ref (X + 57)), some (.int (nI i))], [], h) = zz_Y 0 (18, [some (.ref b), some (.ref X), some (.ref (X + 57)), some (.int (nI (i + 6)))], [], k) ∧ INV k X C ∧ keepS h k X := by
  obtain ⟨r, k, k', e1, e2, v, ks, kk⟩ := o_image hv (xs (i + 1))
  have hnk := (kk.2 b hb).trans hn
  have hsk := kk.1.trans hs
  refine ⟨k', ?_, v, ks⟩
  simp (disch := first | assumption | exact zz_nl_i _ | exact zz_nl_r _ | exact zz_nl_n | exact okv_i _ | exact okv_j _ | exact okv_0 | exact okv_1 | exact okv_o _ _ | exact okv_a _ _ | exact bI_okr _ | omega | exact llt_0 | ((repeat apply llt_s) <;> exact llt_0) | fail) only [x0_p0, x0_p1, x0_p2, x0_p3, x0_p4, x0_p5, x0_p6, x0_p7, x0_p8, x0_p9, x0_p10, x0_p11, x0_p12, xb0, hn, rd_x hs hN, nI_add, e1, hnk, rd_x hsk hN, e2, eq_self, if_true, mo_k_v, mo_k_n, mo_v_e, mo_gf_e, mo_pf_e, mo_ia_e, mo_ba_e, mo_za_e, mo_la_e, mo_aa_e, mo_le_e, mo_is_e, mo_bs_e, mo_zs_0, mo_zs_1, mo_ls_e, mo_as_e, mo_na_e, mo_aci_e, mo_acb_e, mo_acj_e, hp_gs, hp_gn, hp_ss, List.getElem?_cons_zero, List.getElem?_cons_succ, List.set_cons_zero, List.set_cons_succ]
theorem L_29 (hv : INV h X C) (hb : b < X) (hn : hp_g h b = none) (hs : h.2.2.2 = (b, N, xs)) (hN : N ≤ 3072) (hi : i + 6 ≤ N) : ∃ k, zz_Y 0 (1073, [some (.ref b), some (.ref X), some (.ref (X + 57)), some (.int (nI i))], [], h) = zz_Y 0 (18, [some (.ref b), some (.ref X), some (.ref (X + 57)), some (.int (nI (i + 6)))], [], k) ∧ INV k X C ∧ keepS h k X := by
  obtain ⟨r, k, k', e1, e2, v, ks, kk⟩ := o_again hv (xs (i + 1))
  have hnk := (kk.2 b hb).trans hn
  have hsk := kk.1.trans hs
  refine ⟨k', ?_, v, ks⟩
  simp (disch := first | assumption | exact zz_nl_i _ | exact zz_nl_r _ | exact zz_nl_n | exact okv_i _ | exact okv_j _ | exact okv_0 | exact okv_1 | exact okv_o _ _ | exact okv_a _ _ | exact bI_okr _ | omega | exact llt_0 | ((repeat apply llt_s) <;> exact llt_0) | fail) only [x0_p0, x0_p1, x0_p2, x0_p3, x0_p4, x0_p5, x0_p6, x0_p7, x0_p8, x0_p9, x0_p10, x0_p11, x0_p12, xb0, hn, rd_x hs hN, nI_add, e1, hnk, rd_x hsk hN, e2, eq_self, if_true, mo_k_v, mo_k_n, mo_v_e, mo_gf_e, mo_pf_e, mo_ia_e, mo_ba_e, mo_za_e, mo_la_e, mo_aa_e, mo_le_e, mo_is_e, mo_bs_e, mo_zs_0, mo_zs_1, mo_ls_e, mo_as_e, mo_na_e, mo_aci_e, mo_acb_e, mo_acj_e, hp_gs, hp_gn, hp_ss, List.getElem?_cons_zero, List.getElem?_cons_succ, List.set_cons_zero, List.set_cons_succ]
theorem L_cmp {N i : Nat} (hN : N ≤ 3072) (hi : i ≤ 4000) : (nI N - nI 6 < nI i) = (N < i + 6) := by
  by_cases c : 6 ≤ N
  · rw [show nI N - nI 6 = nI (N - 6) from pk_sub (by omega), nI_ltI (by omega) (by omega)]
    exact propext ⟨fun z => by omega, fun z => by omega⟩
  · have hz : nI N - nI 6 < nI 0 := by
      rcases (show N = 0 ∨ N = 1 ∨ N = 2 ∨ N = 3 ∨ N = 4 ∨ N = 5 by omega) with z | z | z | z | z | z <;> subst z <;> decide +kernel
    exact propext ⟨fun _ => by omega, fun _ => Int32.lt_of_lt_of_le hz (Int32.not_lt.mp (nI_nlt0 (by omega)))⟩
theorem L_end (hn : hp_g h b = none) (hs : h.2.2.2 = (b, N, xs)) (hN : N ≤ 3072) (hi : i ≤ 4000) (he : N < i + 6) : zz_Y 0 (18, [some (.ref b), some (.ref X), some (.ref (X + 57)), some (.int (nI i))], [], h) = some (some (.int (nI 1)), h) := by
  rw [x0_c18]
  simp (disch := first | assumption | exact zz_nl_i _ | exact zz_nl_r _ | exact zz_nl_n | exact okv_i _ | exact okv_j _ | exact okv_0 | exact okv_1 | exact okv_o _ _ | exact okv_a _ _ | exact bI_okr _ | omega | exact llt_0 | ((repeat apply llt_s) <;> exact llt_0) | fail) only [x0_p0, x0_p1, x0_p2, x0_p3, x0_p4, x0_p5, x0_p6, x0_p7, x0_p8, x0_p9, x0_p10, x0_p11, x0_p12, xb0, hn, le_x hs, L_cmp hN hi, he, if_true, mo_k_v, mo_k_n, mo_v_e, mo_gf_e, mo_pf_e, mo_ia_e, mo_ba_e, mo_za_e, mo_la_e, mo_aa_e, mo_le_e, mo_is_e, mo_bs_e, mo_zs_0, mo_zs_1, mo_ls_e, mo_as_e, mo_na_e, mo_aci_e, mo_acb_e, mo_acj_e, hp_gs, hp_gn, hp_ss, List.getElem?_cons_zero, List.getElem?_cons_succ, List.set_cons_zero, List.set_cons_succ]
theorem L_head (hn : hp_g h b = none) (hs : h.2.2.2 = (b, N, xs)) (hN : N ≤ 3072) (hi : i + 6 ≤ N) : zz_Y 0 (18, [some (.ref b), some (.ref X), some (.ref (X + 57)), some (.int (nI i))], [], h) = zz_Y 0 (zz_sw [(nI 0, 168), (nI 1, 231), (nI 2, 254), (nI 3, 267), (nI 4, 280), (nI 5, 303), (nI 6, 326), (nI 7, 359), (nI 8, 382), (nI 9, 415), (nI 10, 448), (nI 11, 481), (nI 12, 514), (nI 13, 563), (nI 14, 596), (nI 15, 609), (nI 16, 632), (nI 17, 665), (nI 18, 698), (nI 19, 741), (nI 20, 774), (nI 21, 807), (nI 22, 856), (nI 23, 905), (nI 24, 948), (nI 25, 971), (nI 26, 1004), (nI 27, 1027), (nI 28, 1050), (nI 29, 1073)] 1096 (xs i &&& nI 31), [some (.ref b), some (.ref X), some (.ref (X + 57)), some (.int (nI i))], [], h) := by
  have he : ¬ N < i + 6 := by omega
  have hi4 : i ≤ 4000 := by omega
  rw [x0_c18]
  simp (disch := first | assumption | exact zz_nl_i _ | exact zz_nl_r _ | exact zz_nl_n | exact okv_i _ | exact okv_j _ | exact okv_0 | exact okv_1 | exact okv_o _ _ | exact okv_a _ _ | exact bI_okr _ | omega | exact llt_0 | ((repeat apply llt_s) <;> exact llt_0) | fail) only [x0_p0, x0_p1, x0_p2, x0_p3, x0_p4, x0_p5, x0_p6, x0_p7, x0_p8, x0_p9, x0_p10, x0_p11, x0_p12, xb0, hn, le_x hs, L_cmp hN hi4, he, if_false, rd_x hs hN, mo_k_v, mo_k_n, mo_v_e, mo_gf_e, mo_pf_e, mo_ia_e, mo_ba_e, mo_za_e, mo_la_e, mo_aa_e, mo_le_e, mo_is_e, mo_bs_e, mo_zs_0, mo_zs_1, mo_ls_e, mo_as_e, mo_na_e, mo_aci_e, mo_acb_e, mo_acj_e, hp_gs, hp_gn, hp_ss, List.getElem?_cons_zero, List.getElem?_cons_succ, List.set_cons_zero, List.set_cons_succ]
theorem L_step (hv : INV h X C) (hb : b < X) (hn : hp_g h b = none) (hs : h.2.2.2 = (b, N, xs)) (hN : N ≤ 3072) (hi : i + 6 ≤ N) : ∃ k, zz_Y 0 (18, [some (.ref b), some (.ref X), some (.ref (X + 57)), some (.int (nI i))], [], h) = zz_Y 0 (18, [some (.ref b), some (.ref X), some (.ref (X + 57)), some (.int (nI (i + 6)))], [], k) ∧ INV k X C ∧ keepS h k X := by
  rw [L_head hn hs hN hi]
  generalize xs i &&& nI 31 = x
  by_cases n0 : x = nI 0
  · rw [n0, show zz_sw [(nI 0, 168), (nI 1, 231), (nI 2, 254), (nI 3, 267), (nI 4, 280), (nI 5, 303), (nI 6, 326), (nI 7, 359), (nI 8, 382), (nI 9, 415), (nI 10, 448), (nI 11, 481), (nI 12, 514), (nI 13, 563), (nI 14, 596), (nI 15, 609), (nI 16, 632), (nI 17, 665), (nI 18, 698), (nI 19, 741), (nI 20, 774), (nI 21, 807), (nI 22, 856), (nI 23, 905), (nI 24, 948), (nI 25, 971), (nI 26, 1004), (nI 27, 1027), (nI 28, 1050), (nI 29, 1073)] 1096 (nI 0) = 168 by decide +kernel]
    exact L_0 hv hb hn hs hN hi
  by_cases n1 : x = nI 1
  · rw [n1, show zz_sw [(nI 0, 168), (nI 1, 231), (nI 2, 254), (nI 3, 267), (nI 4, 280), (nI 5, 303), (nI 6, 326), (nI 7, 359), (nI 8, 382), (nI 9, 415), (nI 10, 448), (nI 11, 481), (nI 12, 514), (nI 13, 563), (nI 14, 596), (nI 15, 609), (nI 16, 632), (nI 17, 665), (nI 18, 698), (nI 19, 741), (nI 20, 774), (nI 21, 807), (nI 22, 856), (nI 23, 905), (nI 24, 948), (nI 25, 971), (nI 26, 1004), (nI 27, 1027), (nI 28, 1050), (nI 29, 1073)] 1096 (nI 1) = 231 by decide +kernel]
    exact L_1 hv hb hn hs hN hi
  by_cases n2 : x = nI 2
  · rw [n2, show zz_sw [(nI 0, 168), (nI 1, 231), (nI 2, 254), (nI 3, 267), (nI 4, 280), (nI 5, 303), (nI 6, 326), (nI 7, 359), (nI 8, 382), (nI 9, 415), (nI 10, 448), (nI 11, 481), (nI 12, 514), (nI 13, 563), (nI 14, 596), (nI 15, 609), (nI 16, 632), (nI 17, 665), (nI 18, 698), (nI 19, 741), (nI 20, 774), (nI 21, 807), (nI 22, 856), (nI 23, 905), (nI 24, 948), (nI 25, 971), (nI 26, 1004), (nI 27, 1027), (nI 28, 1050), (nI 29, 1073)] 1096 (nI 2) = 254 by decide +kernel]
    exact L_2 hv hb hn hs hN hi
  by_cases n3 : x = nI 3
  · rw [n3, show zz_sw [(nI 0, 168), (nI 1, 231), (nI 2, 254), (nI 3, 267), (nI 4, 280), (nI 5, 303), (nI 6, 326), (nI 7, 359), (nI 8, 382), (nI 9, 415), (nI 10, 448), (nI 11, 481), (nI 12, 514), (nI 13, 563), (nI 14, 596), (nI 15, 609), (nI 16, 632), (nI 17, 665), (nI 18, 698), (nI 19, 741), (nI 20, 774), (nI 21, 807), (nI 22, 856), (nI 23, 905), (nI 24, 948), (nI 25, 971), (nI 26, 1004), (nI 27, 1027), (nI 28, 1050), (nI 29, 1073)] 1096 (nI 3) = 267 by decide +kernel]
    exact L_3 hv hb hn hs hN hi
  by_cases n4 : x = nI 4
  · rw [n4, show zz_sw [(nI 0, 168), (nI 1, 231), (nI 2, 254), (nI 3, 267), (nI 4, 280), (nI 5, 303), (nI 6, 326), (nI 7, 359), (nI 8, 382), (nI 9, 415), (nI 10, 448), (nI 11, 481), (nI 12, 514), (nI 13, 563), (nI 14, 596), (nI 15, 609), (nI 16, 632), (nI 17, 665), (nI 18, 698), (nI 19, 741), (nI 20, 774), (nI 21, 807), (nI 22, 856), (nI 23, 905), (nI 24, 948), (nI 25, 971), (nI 26, 1004), (nI 27, 1027), (nI 28, 1050), (nI 29, 1073)] 1096 (nI 4) = 280 by decide +kernel]
    exact L_4 hv hb hn hs hN hi
  by_cases n5 : x = nI 5
  · rw [n5, show zz_sw [(nI 0, 168), (nI 1, 231), (nI 2, 254), (nI 3, 267), (nI 4, 280), (nI 5, 303), (nI 6, 326), (nI 7, 359), (nI 8, 382), (nI 9, 415), (nI 10, 448), (nI 11, 481), (nI 12, 514), (nI 13, 563), (nI 14, 596), (nI 15, 609), (nI 16, 632), (nI 17, 665), (nI 18, 698), (nI 19, 741), (nI 20, 774), (nI 21, 807), (nI 22, 856), (nI 23, 905), (nI 24, 948), (nI 25, 971), (nI 26, 1004), (nI 27, 1027), (nI 28, 1050), (nI 29, 1073)] 1096 (nI 5) = 303 by decide +kernel]
    exact L_5 hv hb hn hs hN hi
  by_cases n6 : x = nI 6
  · rw [n6, show zz_sw [(nI 0, 168), (nI 1, 231), (nI 2, 254), (nI 3, 267), (nI 4, 280), (nI 5, 303), (nI 6, 326), (nI 7, 359), (nI 8, 382), (nI 9, 415), (nI 10, 448), (nI 11, 481), (nI 12, 514), (nI 13, 563), (nI 14, 596), (nI 15, 609), (nI 16, 632), (nI 17, 665), (nI 18, 698), (nI 19, 741), (nI 20, 774), (nI 21, 807), (nI 22, 856), (nI 23, 905), (nI 24, 948), (nI 25, 971), (nI 26, 1004), (nI 27, 1027), (nI 28, 1050), (nI 29, 1073)] 1096 (nI 6) = 326 by decide +kernel]
    exact L_6 hv hb hn hs hN hi
  by_cases n7 : x = nI 7
  · rw [n7, show zz_sw [(nI 0, 168), (nI 1, 231), (nI 2, 254), (nI 3, 267), (nI 4, 280), (nI 5, 303), (nI 6, 326), (nI 7, 359), (nI 8, 382), (nI 9, 415), (nI 10, 448), (nI 11, 481), (nI 12, 514), (nI 13, 563), (nI 14, 596), (nI 15, 609), (nI 16, 632), (nI 17, 665), (nI 18, 698), (nI 19, 741), (nI 20, 774), (nI 21, 807), (nI 22, 856), (nI 23, 905), (nI 24, 948), (nI 25, 971), (nI 26, 1004), (nI 27, 1027), (nI 28, 1050), (nI 29, 1073)] 1096 (nI 7) = 359 by decide +kernel]
    exact L_7 hv hb hn hs hN hi
  by_cases n8 : x = nI 8
  · rw [n8, show zz_sw [(nI 0, 168), (nI 1, 231), (nI 2, 254), (nI 3, 267), (nI 4, 280), (nI 5, 303), (nI 6, 326), (nI 7, 359), (nI 8, 382), (nI 9, 415), (nI 10, 448), (nI 11, 481), (nI 12, 514), (nI 13, 563), (nI 14, 596), (nI 15, 609), (nI 16, 632), (nI 17, 665), (nI 18, 698), (nI 19, 741), (nI 20, 774), (nI 21, 807), (nI 22, 856), (nI 23, 905), (nI 24, 948), (nI 25, 971), (nI 26, 1004), (nI 27, 1027), (nI 28, 1050), (nI 29, 1073)] 1096 (nI 8) = 382 by decide +kernel]
    exact L_8 hv hb hn hs hN hi
  by_cases n9 : x = nI 9
  · rw [n9, show zz_sw [(nI 0, 168), (nI 1, 231), (nI 2, 254), (nI 3, 267), (nI 4, 280), (nI 5, 303), (nI 6, 326), (nI 7, 359), (nI 8, 382), (nI 9, 415), (nI 10, 448), (nI 11, 481), (nI 12, 514), (nI 13, 563), (nI 14, 596), (nI 15, 609), (nI 16, 632), (nI 17, 665), (nI 18, 698), (nI 19, 741), (nI 20, 774), (nI 21, 807), (nI 22, 856), (nI 23, 905), (nI 24, 948), (nI 25, 971), (nI 26, 1004), (nI 27, 1027), (nI 28, 1050), (nI 29, 1073)] 1096 (nI 9) = 415 by decide +kernel]
    exact L_9 hv hb hn hs hN hi
  by_cases n10 : x = nI 10
  · rw [n10, show zz_sw [(nI 0, 168), (nI 1, 231), (nI 2, 254), (nI 3, 267), (nI 4, 280), (nI 5, 303), (nI 6, 326), (nI 7, 359), (nI 8, 382), (nI 9, 415), (nI 10, 448), (nI 11, 481), (nI 12, 514), (nI 13, 563), (nI 14, 596), (nI 15, 609), (nI 16, 632), (nI 17, 665), (nI 18, 698), (nI 19, 741), (nI 20, 774), (nI 21, 807), (nI 22, 856), (nI 23, 905), (nI 24, 948), (nI 25, 971), (nI 26, 1004), (nI 27, 1027), (nI 28, 1050), (nI 29, 1073)] 1096 (nI 10) = 448 by decide +kernel]
    exact L_10 hv hb hn hs hN hi
  by_cases n11 : x = nI 11
  · rw [n11, show zz_sw [(nI 0, 168), (nI 1, 231), (nI 2, 254), (nI 3, 267), (nI 4, 280), (nI 5, 303), (nI 6, 326), (nI 7, 359), (nI 8, 382), (nI 9, 415), (nI 10, 448), (nI 11, 481), (nI 12, 514), (nI 13, 563), (nI 14, 596), (nI 15, 609), (nI 16, 632), (nI 17, 665), (nI 18, 698), (nI 19, 741), (nI 20, 774), (nI 21, 807), (nI 22, 856), (nI 23, 905), (nI 24, 948), (nI 25, 971), (nI 26, 1004), (nI 27, 1027), (nI 28, 1050), (nI 29, 1073)] 1096 (nI 11) = 481 by decide +kernel]
    exact L_11 hv hb hn hs hN hi
  by_cases n12 : x = nI 12
  · rw [n12, show zz_sw [(nI 0, 168), (nI 1, 231), (nI 2, 254), (nI 3, 267), (nI 4, 280), (nI 5, 303), (nI 6, 326), (nI 7, 359), (nI 8, 382), (nI 9, 415), (nI 10, 448), (nI 11, 481), (nI 12, 514), (nI 13, 563), (nI 14, 596), (nI 15, 609), (nI 16, 632), (nI 17, 665), (nI 18, 698), (nI 19, 741), (nI 20, 774), (nI 21, 807), (nI 22, 856), (nI 23, 905), (nI 24, 948), (nI 25, 971), (nI 26, 1004), (nI 27, 1027), (nI 28, 1050), (nI 29, 1073)] 1096 (nI 12) = 514 by decide +kernel]
    exact L_12 hv hb hn hs hN hi
  by_cases n13 : x = nI 13
  · rw [n13, show zz_sw [(nI 0, 168), (nI 1, 231), (nI 2, 254), (nI 3, 267), (nI 4, 280), (nI 5, 303), (nI 6, 326), (nI 7, 359), (nI 8, 382), (nI 9, 415), (nI 10, 448), (nI 11, 481), (nI 12, 514), (nI 13, 563), (nI 14, 596), (nI 15, 609), (nI 16, 632), (nI 17, 665), (nI 18, 698), (nI 19, 741), (nI 20, 774), (nI 21, 807), (nI 22, 856), (nI 23, 905), (nI 24, 948), (nI 25, 971), (nI 26, 1004), (nI 27, 1027), (nI 28, 1050), (nI 29, 1073)] 1096 (nI 13) = 563 by decide +kernel]
    exact L_13 hv hb hn hs hN hi
  by_cases n14 : x = nI 14
  · rw [n14, show zz_sw [(nI 0, 168), (nI 1, 231), (nI 2, 254), (nI 3, 267), (nI 4, 280), (nI 5, 303), (nI 6, 326), (nI 7, 359), (nI 8, 382), (nI 9, 415), (nI 10, 448), (nI 11, 481), (nI 12, 514), (nI 13, 563), (nI 14, 596), (nI 15, 609), (nI 16, 632), (nI 17, 665), (nI 18, 698), (nI 19, 741), (nI 20, 774), (nI 21, 807), (nI 22, 856), (nI 23, 905), (nI 24, 948), (nI 25, 971), (nI 26, 1004), (nI 27, 1027), (nI 28, 1050), (nI 29, 1073)] 1096 (nI 14) = 596 by decide +kernel]
    exact L_14 hv hb hn hs hN hi
  by_cases n15 : x = nI 15
  · rw [n15, show zz_sw [(nI 0, 168), (nI 1, 231), (nI 2, 254), (nI 3, 267), (nI 4, 280), (nI 5, 303), (nI 6, 326), (nI 7, 359), (nI 8, 382), (nI 9, 415), (nI 10, 448), (nI 11, 481), (nI 12, 514), (nI 13, 563), (nI 14, 596), (nI 15, 609), (nI 16, 632), (nI 17, 665), (nI 18, 698), (nI 19, 741), (nI 20, 774), (nI 21, 807), (nI 22, 856), (nI 23, 905), (nI 24, 948), (nI 25, 971), (nI 26, 1004), (nI 27, 1027), (nI 28, 1050), (nI 29, 1073)] 1096 (nI 15) = 609 by decide +kernel]
    exact L_15 hv hb hn hs hN hi
  by_cases n16 : x = nI 16
  · rw [n16, show zz_sw [(nI 0, 168), (nI 1, 231), (nI 2, 254), (nI 3, 267), (nI 4, 280), (nI 5, 303), (nI 6, 326), (nI 7, 359), (nI 8, 382), (nI 9, 415), (nI 10, 448), (nI 11, 481), (nI 12, 514), (nI 13, 563), (nI 14, 596), (nI 15, 609), (nI 16, 632), (nI 17, 665), (nI 18, 698), (nI 19, 741), (nI 20, 774), (nI 21, 807), (nI 22, 856), (nI 23, 905), (nI 24, 948), (nI 25, 971), (nI 26, 1004), (nI 27, 1027), (nI 28, 1050), (nI 29, 1073)] 1096 (nI 16) = 632 by decide +kernel]
    exact L_16 hv hb hn hs hN hi
  by_cases n17 : x = nI 17
  · rw [n17, show zz_sw [(nI 0, 168), (nI 1, 231), (nI 2, 254), (nI 3, 267), (nI 4, 280), (nI 5, 303), (nI 6, 326), (nI 7, 359), (nI 8, 382), (nI 9, 415), (nI 10, 448), (nI 11, 481), (nI 12, 514), (nI 13, 563), (nI 14, 596), (nI 15, 609), (nI 16, 632), (nI 17, 665), (nI 18, 698), (nI 19, 741), (nI 20, 774), (nI 21, 807), (nI 22, 856), (nI 23, 905), (nI 24, 948), (nI 25, 971), (nI 26, 1004), (nI 27, 1027), (nI 28, 1050), (nI 29, 1073)] 1096 (nI 17) = 665 by decide +kernel]
    exact L_17 hv hb hn hs hN hi
  by_cases n18 : x = nI 18
  · rw [n18, show zz_sw [(nI 0, 168), (nI 1, 231), (nI 2, 254), (nI 3, 267), (nI 4, 280), (nI 5, 303), (nI 6, 326), (nI 7, 359), (nI 8, 382), (nI 9, 415), (nI 10, 448), (nI 11, 481), (nI 12, 514), (nI 13, 563), (nI 14, 596), (nI 15, 609), (nI 16, 632), (nI 17, 665), (nI 18, 698), (nI 19, 741), (nI 20, 774), (nI 21, 807), (nI 22, 856), (nI 23, 905), (nI 24, 948), (nI 25, 971), (nI 26, 1004), (nI 27, 1027), (nI 28, 1050), (nI 29, 1073)] 1096 (nI 18) = 698 by decide +kernel]
    exact L_18 hv hb hn hs hN hi
  by_cases n19 : x = nI 19
  · rw [n19, show zz_sw [(nI 0, 168), (nI 1, 231), (nI 2, 254), (nI 3, 267), (nI 4, 280), (nI 5, 303), (nI 6, 326), (nI 7, 359), (nI 8, 382), (nI 9, 415), (nI 10, 448), (nI 11, 481), (nI 12, 514), (nI 13, 563), (nI 14, 596), (nI 15, 609), (nI 16, 632), (nI 17, 665), (nI 18, 698), (nI 19, 741), (nI 20, 774), (nI 21, 807), (nI 22, 856), (nI 23, 905), (nI 24, 948), (nI 25, 971), (nI 26, 1004), (nI 27, 1027), (nI 28, 1050), (nI 29, 1073)] 1096 (nI 19) = 741 by decide +kernel]
    exact L_19 hv hb hn hs hN hi
  by_cases n20 : x = nI 20
  · rw [n20, show zz_sw [(nI 0, 168), (nI 1, 231), (nI 2, 254), (nI 3, 267), (nI 4, 280), (nI 5, 303), (nI 6, 326), (nI 7, 359), (nI 8, 382), (nI 9, 415), (nI 10, 448), (nI 11, 481), (nI 12, 514), (nI 13, 563), (nI 14, 596), (nI 15, 609), (nI 16, 632), (nI 17, 665), (nI 18, 698), (nI 19, 741), (nI 20, 774), (nI 21, 807), (nI 22, 856), (nI 23, 905), (nI 24, 948), (nI 25, 971), (nI 26, 1004), (nI 27, 1027), (nI 28, 1050), (nI 29, 1073)] 1096 (nI 20) = 774 by decide +kernel]
    exact L_20 hv hb hn hs hN hi
  by_cases n21 : x = nI 21
  · rw [n21, show zz_sw [(nI 0, 168), (nI 1, 231), (nI 2, 254), (nI 3, 267), (nI 4, 280), (nI 5, 303), (nI 6, 326), (nI 7, 359), (nI 8, 382), (nI 9, 415), (nI 10, 448), (nI 11, 481), (nI 12, 514), (nI 13, 563), (nI 14, 596), (nI 15, 609), (nI 16, 632), (nI 17, 665), (nI 18, 698), (nI 19, 741), (nI 20, 774), (nI 21, 807), (nI 22, 856), (nI 23, 905), (nI 24, 948), (nI 25, 971), (nI 26, 1004), (nI 27, 1027), (nI 28, 1050), (nI 29, 1073)] 1096 (nI 21) = 807 by decide +kernel]
    exact L_21 hv hb hn hs hN hi
  by_cases n22 : x = nI 22
  · rw [n22, show zz_sw [(nI 0, 168), (nI 1, 231), (nI 2, 254), (nI 3, 267), (nI 4, 280), (nI 5, 303), (nI 6, 326), (nI 7, 359), (nI 8, 382), (nI 9, 415), (nI 10, 448), (nI 11, 481), (nI 12, 514), (nI 13, 563), (nI 14, 596), (nI 15, 609), (nI 16, 632), (nI 17, 665), (nI 18, 698), (nI 19, 741), (nI 20, 774), (nI 21, 807), (nI 22, 856), (nI 23, 905), (nI 24, 948), (nI 25, 971), (nI 26, 1004), (nI 27, 1027), (nI 28, 1050), (nI 29, 1073)] 1096 (nI 22) = 856 by decide +kernel]
    exact L_22 hv hb hn hs hN hi
  by_cases n23 : x = nI 23
  · rw [n23, show zz_sw [(nI 0, 168), (nI 1, 231), (nI 2, 254), (nI 3, 267), (nI 4, 280), (nI 5, 303), (nI 6, 326), (nI 7, 359), (nI 8, 382), (nI 9, 415), (nI 10, 448), (nI 11, 481), (nI 12, 514), (nI 13, 563), (nI 14, 596), (nI 15, 609), (nI 16, 632), (nI 17, 665), (nI 18, 698), (nI 19, 741), (nI 20, 774), (nI 21, 807), (nI 22, 856), (nI 23, 905), (nI 24, 948), (nI 25, 971), (nI 26, 1004), (nI 27, 1027), (nI 28, 1050), (nI 29, 1073)] 1096 (nI 23) = 905 by decide +kernel]
    exact L_23 hv hb hn hs hN hi
  by_cases n24 : x = nI 24
  · rw [n24, show zz_sw [(nI 0, 168), (nI 1, 231), (nI 2, 254), (nI 3, 267), (nI 4, 280), (nI 5, 303), (nI 6, 326), (nI 7, 359), (nI 8, 382), (nI 9, 415), (nI 10, 448), (nI 11, 481), (nI 12, 514), (nI 13, 563), (nI 14, 596), (nI 15, 609), (nI 16, 632), (nI 17, 665), (nI 18, 698), (nI 19, 741), (nI 20, 774), (nI 21, 807), (nI 22, 856), (nI 23, 905), (nI 24, 948), (nI 25, 971), (nI 26, 1004), (nI 27, 1027), (nI 28, 1050), (nI 29, 1073)] 1096 (nI 24) = 948 by decide +kernel]
    exact L_24 hv hb hn hs hN hi
  by_cases n25 : x = nI 25
  · rw [n25, show zz_sw [(nI 0, 168), (nI 1, 231), (nI 2, 254), (nI 3, 267), (nI 4, 280), (nI 5, 303), (nI 6, 326), (nI 7, 359), (nI 8, 382), (nI 9, 415), (nI 10, 448), (nI 11, 481), (nI 12, 514), (nI 13, 563), (nI 14, 596), (nI 15, 609), (nI 16, 632), (nI 17, 665), (nI 18, 698), (nI 19, 741), (nI 20, 774), (nI 21, 807), (nI 22, 856), (nI 23, 905), (nI 24, 948), (nI 25, 971), (nI 26, 1004), (nI 27, 1027), (nI 28, 1050), (nI 29, 1073)] 1096 (nI 25) = 971 by decide +kernel]
    exact L_25 hv hb hn hs hN hi
  by_cases n26 : x = nI 26
  · rw [n26, show zz_sw [(nI 0, 168), (nI 1, 231), (nI 2, 254), (nI 3, 267), (nI 4, 280), (nI 5, 303), (nI 6, 326), (nI 7, 359), (nI 8, 382), (nI 9, 415), (nI 10, 448), (nI 11, 481), (nI 12, 514), (nI 13, 563), (nI 14, 596), (nI 15, 609), (nI 16, 632), (nI 17, 665), (nI 18, 698), (nI 19, 741), (nI 20, 774), (nI 21, 807), (nI 22, 856), (nI 23, 905), (nI 24, 948), (nI 25, 971), (nI 26, 1004), (nI 27, 1027), (nI 28, 1050), (nI 29, 1073)] 1096 (nI 26) = 1004 by decide +kernel]
    exact L_26 hv hb hn hs hN hi
  by_cases n27 : x = nI 27
  · rw [n27, show zz_sw [(nI 0, 168), (nI 1, 231), (nI 2, 254), (nI 3, 267), (nI 4, 280), (nI 5, 303), (nI 6, 326), (nI 7, 359), (nI 8, 382), (nI 9, 415), (nI 10, 448), (nI 11, 481), (nI 12, 514), (nI 13, 563), (nI 14, 596), (nI 15, 609), (nI 16, 632), (nI 17, 665), (nI 18, 698), (nI 19, 741), (nI 20, 774), (nI 21, 807), (nI 22, 856), (nI 23, 905), (nI 24, 948), (nI 25, 971), (nI 26, 1004), (nI 27, 1027), (nI 28, 1050), (nI 29, 1073)] 1096 (nI 27) = 1027 by decide +kernel]
    exact L_27 hv hb hn hs hN hi
  by_cases n28 : x = nI 28
  · rw [n28, show zz_sw [(nI 0, 168), (nI 1, 231), (nI 2, 254), (nI 3, 267), (nI 4, 280), (nI 5, 303), (nI 6, 326), (nI 7, 359), (nI 8, 382), (nI 9, 415), (nI 10, 448), (nI 11, 481), (nI 12, 514), (nI 13, 563), (nI 14, 596), (nI 15, 609), (nI 16, 632), (nI 17, 665), (nI 18, 698), (nI 19, 741), (nI 20, 774), (nI 21, 807), (nI 22, 856), (nI 23, 905), (nI 24, 948), (nI 25, 971), (nI 26, 1004), (nI 27, 1027), (nI 28, 1050), (nI 29, 1073)] 1096 (nI 28) = 1050 by decide +kernel]
    exact L_28 hv hb hn hs hN hi
  by_cases n29 : x = nI 29
  · rw [n29, show zz_sw [(nI 0, 168), (nI 1, 231), (nI 2, 254), (nI 3, 267), (nI 4, 280), (nI 5, 303), (nI 6, 326), (nI 7, 359), (nI 8, 382), (nI 9, 415), (nI 10, 448), (nI 11, 481), (nI 12, 514), (nI 13, 563), (nI 14, 596), (nI 15, 609), (nI 16, 632), (nI 17, 665), (nI 18, 698), (nI 19, 741), (nI 20, 774), (nI 21, 807), (nI 22, 856), (nI 23, 905), (nI 24, 948), (nI 25, 971), (nI 26, 1004), (nI 27, 1027), (nI 28, 1050), (nI 29, 1073)] 1096 (nI 29) = 1073 by decide +kernel]
    exact L_29 hv hb hn hs hN hi
  have sw : zz_sw [(nI 0, 168), (nI 1, 231), (nI 2, 254), (nI 3, 267), (nI 4, 280), (nI 5, 303), (nI 6, 326), (nI 7, 359), (nI 8, 382), (nI 9, 415), (nI 10, 448), (nI 11, 481), (nI 12, 514), (nI 13, 563), (nI 14, 596), (nI 15, 609), (nI 16, 632), (nI 17, 665), (nI 18, 698), (nI 19, 741), (nI 20, 774), (nI 21, 807), (nI 22, 856), (nI 23, 905), (nI 24, 948), (nI 25, 971), (nI 26, 1004), (nI 27, 1027), (nI 28, 1050), (nI 29, 1073)] 1096 x = 1096 := by rw [zz_sw, if_neg n0, zz_sw, if_neg n1, zz_sw, if_neg n2, zz_sw, if_neg n3, zz_sw, if_neg n4, zz_sw, if_neg n5, zz_sw, if_neg n6, zz_sw, if_neg n7, zz_sw, if_neg n8, zz_sw, if_neg n9, zz_sw, if_neg n10, zz_sw, if_neg n11, zz_sw, if_neg n12, zz_sw, if_neg n13, zz_sw, if_neg n14, zz_sw, if_neg n15, zz_sw, if_neg n16, zz_sw, if_neg n17, zz_sw, if_neg n18, zz_sw, if_neg n19, zz_sw, if_neg n20, zz_sw, if_neg n21, zz_sw, if_neg n22, zz_sw, if_neg n23, zz_sw, if_neg n24, zz_sw, if_neg n25, zz_sw, if_neg n26, zz_sw, if_neg n27, zz_sw, if_neg n28, zz_sw, if_neg n29, zz_sw]
  rw [sw]
  exact ⟨h, L_1096 (by omega), hv, rfl, fun _ _ => rfl⟩
theorem L_loop (hb : b < X) (hN : N ≤ 3072) : ∀ n i (h : zz_H), i ≤ 4000 → N ≤ i + n → INV h X C → hp_g h b = none → h.2.2.2 = (b, N, xs) → ∃ k, zz_Y 0 (18, [some (.ref b), some (.ref X), some (.ref (X + 57)), some (.int (nI i))], [], h) = some (some (.int (nI 1)), k) ∧ INV k X C := by
  intro n
  induction n with
  | zero =>
    intro i h h4 hi hv hn hs
    exact ⟨h, L_end hn hs hN h4 (by omega), hv⟩
  | succ n ih =>
    intro i h h4 hi hv hn hs
    by_cases c : N < i + 6
    · exact ⟨h, L_end hn hs hN h4 c, hv⟩
    · obtain ⟨k, e, v, s⟩ := L_step (i := i) hv hb hn hs hN (by omega)
      obtain ⟨k2, e2, v2⟩ := ih (i + 6) k (by omega) (by omega) v ((s.2 b hb).trans hn) (s.1.trans hs)
      exact ⟨k2, e.trans e2, v2⟩
theorem ni_le (im : Nat → Option Nat) : ni im ≤ 3 := by
  have q : ∀ c : Bool, b2n c ≤ 1 := fun c => by cases c <;> decide
  have := q (im 0).isSome
  have := q (im 1).isSome
  have := q (im 2).isSome
  unfold ni
  omega
theorem L_run (n b L : Nat) (xs : Nat → Int32) (hb : b < n) (hL : L ≤ 3072) : ∃ h' : zz_H, zz_Y 0 (0, [some (.ref b), none, none, none], [], (n, 0, fun _ => none, (b, L, xs))) = some (some (.int 1), h') ∧ h'.1 ≤ n + 600000 ∧ h'.2.1 ≤ 7302250 := by
  obtain ⟨k1, k2, e1, n1, e2, v, s1, s2⟩ := inv_new (n, 0, fun _ => none, (b, L, xs))
  dsimp only at e1 n1 e2 v s1 s2
  obtain ⟨k, e, v2⟩ := L_loop (X := n) (C := 0 + 17356) (b := b) (N := L) (xs := xs) hb hL L 0 k2 (by omega) (by omega) v (s2 b hb) s1
  refine ⟨k, ?_, ?_, ?_⟩
  · simp (disch := first | assumption | exact zz_nl_i _ | exact zz_nl_r _ | exact zz_nl_n | exact okv_i _ | exact okv_j _ | exact okv_0 | exact okv_1 | exact okv_o _ _ | exact okv_a _ _ | exact bI_okr _ | omega | exact llt_0 | ((repeat apply llt_s) <;> exact llt_0) | fail) only [x0_p0, x0_p1, x0_p2, x0_p3, x0_p4, x0_p5, x0_p6, x0_p7, x0_p8, x0_p9, x0_p10, x0_p11, x0_p12, xb0, e1, n1, e2, mo_k_v, mo_k_n, mo_v_e, mo_gf_e, mo_pf_e, mo_ia_e, mo_ba_e, mo_za_e, mo_la_e, mo_aa_e, mo_le_e, mo_is_e, mo_bs_e, mo_zs_0, mo_zs_1, mo_ls_e, mo_as_e, mo_na_e, mo_aci_e, mo_acb_e, mo_acj_e, hp_gs, hp_gn, hp_ss, List.getElem?_cons_zero, List.getElem?_cons_succ, List.set_cons_zero, List.set_cons_succ]
    rw [e]
    rfl
  · obtain ⟨E, J, im, A, T, I, mt, mk, mp, mu, hw, hm, hE, hJ, hi, h1, h2⟩ := v2
    have := ni_le im
    omega
  · obtain ⟨E, J, im, A, T, I, mt, mk, mp, mu, hw, hm, hE, hJ, hi, h1, h2⟩ := v2
    have := ni_le im
    omega
end
