section CP
variable {Ω : AO} {d : Nat} {Q : Option Value → AH → Prop} {I I' : Nat → Nat → Int32} {J : Nat → Nat → Int64} {A A' : Nat → Nat → Option Nat} {S S' : Nat → Nat × Nat} {n n' z t m : Nat}
theorem rLC_lt : ∀ e ∈ rLC, e.1 < 42 ∧ e.1 ≠ 9 ∧ e.1 ≠ 6 := by decide
theorem rLM_eq : ∀ e ∈ rLM, e.1 = 46 := by decide
theorem LC_al (h : LC A S n) (hn : n ≤ n') (hA : ∀ a, a < 42 → a ≠ 9 → a ≠ 6 → a ≠ 16 → A' a = A a) (hA2 : ∀ k, k ≠ 2 → k ≠ 3 → A' 16 k = A 16 k) (hS : ∀ a, a < 68 → S' a = S a) : LC A' S' n' := by
  refine ⟨Nat.le_trans h.1 hn, fun a ha => by rw [hS a (by omega)]; exact h.2.1 a ha, fun e he => ?_⟩
  have h1 := rLC_lt e he
  by_cases e16 : e.1 = 16
  · have h3 : e.2.1 ≠ 2 ∧ e.2.1 ≠ 3 := (by decide : ∀ e ∈ rLC, e.1 = 16 → e.2.1 ≠ 2 ∧ e.2.1 ≠ 3) e he e16
    have h4 := h.2.2 e he
    rw [e16] at h4 ⊢
    rw [hA2 _ h3.1 h3.2]
    exact h4
  · rw [hA e.1 h1.1 h1.2.1 h1.2.2 e16]
    exact h.2.2 e he
theorem LM_al (h : LM A S n) (hn : n ≤ n') (hA : A' 46 = A 46) (hS : ∀ a, a < 68 → S' a = S a) : LM A' S' n' := by
  refine ⟨Nat.le_trans h.1 hn, fun a ha => by rw [hS (46 + a) (by omega)]; exact h.2.1 a ha, fun e he => ?_⟩
  have h4 := h.2.2 e he
  rw [rLM_eq e he] at h4 ⊢
  rw [hA]
  exact h4
theorem IvL_al (h : IvL A S n) (hn : n ≤ n') (hA : ∀ a, a < 42 → a ≠ 9 → a ≠ 6 → A' a = A a) (hA2 : A' 46 = A 46) (hS : ∀ a, a < 68 → S' a = S a) : IvL A' S' n' :=
  ⟨LC_al h.1 hn (fun a h1 h2 h3 _ => hA a h1 h2 h3) (fun k _ _ => by rw [hA 16 (by decide) (by decide) (by decide)]) hS, LM_al h.2.1 hn hA2 hS, by rw [hA 16 (by decide) (by decide) (by decide)]; exact h.2.2⟩
theorem IvT_al (h : IvT I A S n t) (hn : n ≤ n') (e1 : I' 5 1 = I 5 1) (e2 : I' 46 9 = I 46 9) (e3 : I' 2 3 = I 2 3) (e4 : I' 46 10 = I 46 10) (e5 : ∀ r, okA r n → I' r = I r) (e6 : I' 52 = I 52) (e7 : I' 53 = I 53) (e8 : I' 54 = I 54) (f1 : A' 6 = A 6) (f2 : ∀ r, okA r n → A' r = A r) (f3 : ∀ r, okA r n → S' r = S r) : IvT I' A' S' n' t := by
  obtain ⟨h1, h2, h3, h4, ⟨f, h5, h6, h7⟩, h8⟩ := h
  refine ⟨h1, h2, by rw [e1]; exact h3, by rw [e2]; exact h4, ⟨f, h5, by rw [e3]; exact h6, by rw [e4]; exact h7⟩, fun k hk => ?_⟩
  obtain ⟨a, g1, g2, g3, g4⟩ := h8 k hk
  refine ⟨a, by rw [f1]; exact g1, ⟨Nat.lt_of_lt_of_le g2.1 hn, g2.2⟩, by rw [f3 a g2]; exact g3, fun w hw => ?_⟩
  obtain ⟨r, k1, k2, k3, k4, k5⟩ := g4 w hw
  refine ⟨r, by rw [f2 a g2]; exact k1, ⟨Nat.lt_of_lt_of_le k2.1 hn, k2.2⟩, by rw [f3 r k2]; exact k3, by rw [f3 r k2]; exact k4, ?_⟩
  have k6 := PtR_fr k5 (e5 r k2) e6 e7 e8
  unfold PtR at k6 ⊢
  rw [f3 r k2]
  exact k6
theorem Doing_init {a : Nat} {x y : Int32} (ha : a < n) (hs : S a = (1, 0)) : T Ω d 3 0 [.ref a, .int x, .int y] [] (I, J, A, S, n, z) Q = Q none (wr (wr I a 0 x) a 1 y, J, A, S, n, z) := by
  simp only [s3_0, s3_1, s3_4, s3_5, s3_6, s3_9, s3_10, s3_11, s3_14, isR_ref, isR_nul, isR_ra, nl_int, nl_ref, nl_jk, nl_ra, nl_nul, rf_some, rf_none, nc_nil, nc_i, nc_l, nc_r, nc_n, nc_x, true_and, and_true, and_self, if_true, if_false, ite_true, ite_false, Option.toList_some, Option.toList_none, List.cons_append, List.nil_append, nar_b1, nar_b0, T_ite, reduceIte, reduceCtorEq, one_ne, eq_self, mkC_t, hn_t, va_up_same, not_true_eq_false, not_false_eq_true, Nat.reduceLeDiff, Nat.reduceAdd, Nat.reduceEqDiff, Nat.reduceMul, Nat.reduceSub, Nat.reduceDiv, Nat.reduceMod, Nat.reduceLT, false_and, and_false, false_or, or_false, true_or, or_true, Nat.add_zero, Nat.zero_add, Nat.mul_zero, Nat.zero_mul, Nat.add_left_cancel_iff, Nat.add_right_cancel_iff, ha, hs]
theorem Journey_add (hL : LC A S n) {a m : Nat} (hm : I 1 3 = nI m) (h8 : m < 8) (ha : a < n) (hs : (S a).1 = 1) : T Ω d 15 0 [.ref 1, .ref a, jk] [] (I, J, A, S, n, z) Q = Q (some (.int (nI m))) (wr I 1 3 (nI (m + 1)), J, wr A 9 m (some a), S, n, z) := by
  simp only [s15_0, s15_1, s15_4, s15_5, s15_6, s15_9, s15_10, s15_11, s15_12, s15_13, s15_14, s15_17, s15_18, s15_19, s15_22, s15_23, isR_ref, isR_nul, isR_ra, nl_int, nl_ref, nl_jk, nl_ra, nl_nul, rf_some, rf_none, nc_nil, nc_i, nc_l, nc_r, nc_n, nc_x, true_and, and_true, and_self, if_true, if_false, ite_true, ite_false, Option.toList_some, Option.toList_none, List.cons_append, List.nil_append, nar_b1, nar_b0, T_ite, reduceIte, reduceCtorEq, one_ne, eq_self, mkC_t, hn_t, va_up_same, not_true_eq_false, not_false_eq_true, Nat.reduceLeDiff, Nat.reduceAdd, Nat.reduceEqDiff, Nat.reduceMul, Nat.reduceSub, Nat.reduceDiv, Nat.reduceMod, Nat.reduceLT, false_and, and_false, false_or, or_false, true_or, or_true, Nat.add_zero, Nat.zero_add, Nat.mul_zero, Nat.zero_mul, Nat.add_left_cancel_iff, Nat.add_right_cancel_iff, LCS_0 hL, LCn_0 hL, LCS_1 hL, LCn_1 hL, LCS_2 hL, LCn_2 hL, LCS_3 hL, LCn_3 hL, LCS_4 hL, LCn_4 hL, LCS_5 hL, LCn_5 hL, LCS_6 hL, LCn_6 hL, LCS_7 hL, LCn_7 hL, LCS_8 hL, LCn_8 hL, LCS_9 hL, LCn_9 hL, LCS_10 hL, LCn_10 hL, LCS_11 hL, LCn_11 hL, LCS_12 hL, LCn_12 hL, LCS_13 hL, LCn_13 hL, LCS_14 hL, LCn_14 hL, LCS_15 hL, LCn_15 hL, LCS_16 hL, LCn_16 hL, LCS_17 hL, LCn_17 hL, LCS_18 hL, LCn_18 hL, LCS_19 hL, LCn_19 hL, LCS_20 hL, LCn_20 hL, LCS_21 hL, LCn_21 hL, LCS_22 hL, LCn_22 hL, LCS_23 hL, LCn_23 hL, LCS_24 hL, LCn_24 hL, LCS_25 hL, LCn_25 hL, LCS_26 hL, LCn_26 hL, LCS_27 hL, LCn_27 hL, LCS_28 hL, LCn_28 hL, LCS_29 hL, LCn_29 hL, LCS_30 hL, LCn_30 hL, LCS_31 hL, LCn_31 hL, LCS_32 hL, LCn_32 hL, LCS_33 hL, LCn_33 hL, LCS_34 hL, LCn_34 hL, LCS_35 hL, LCn_35 hL, LCS_36 hL, LCn_36 hL, LCS_37 hL, LCn_37 hL, LCS_38 hL, LCn_38 hL, LCS_39 hL, LCn_39 hL, LCS_40 hL, LCn_40 hL, LCS_41 hL, LCn_41 hL, LCA_0_0 hL, LCA_0_1 hL, LCA_0_2 hL, LCA_0_3 hL, LCA_0_4 hL, LCA_0_5 hL, LCA_1_0 hL, LCA_1_1 hL, LCA_1_2 hL, LCA_2_0 hL, LCA_2_1 hL, LCA_5_0 hL, LCA_5_2 hL, LCA_5_3 hL, LCA_10_0 hL, LCA_10_2 hL, LCA_10_3 hL, LCA_10_4 hL, LCA_10_8 hL, LCA_16_0 hL, LCA_16_1 hL, LCA_16_4 hL, LCA_17_0 hL, LCA_17_1 hL, LCA_17_2 hL, LCA_24_0 hL, LCA_24_1 hL, LCA_25_0 hL, LCA_25_1 hL, LCA_25_2 hL, LCA_30_0 hL, LCA_30_1 hL, LCA_30_2 hL, LCA_30_3 hL, LCA_31_0 hL, LCA_31_1 hL, LCA_34_0 hL, LCA_36_0 hL, LCA_38_0 hL, LCA_40_0 hL, hm, ha, hs, vpin (show m < 2147483648 by omega), nI_cl (show m < 2147483648 by omega), h8, nI_1, aCl, wr_rd]
theorem RD_doing_ok (hL : LC A S n) {k e m : Nat} (h68 : 68 ≤ n) (hk : k ≤ 5) (he : e ≤ 9) (hm : I 1 3 = nI m) (h8 : m < 8) : T Ω (d + 1) 82 0 [.ref 0, .int (nI k), .int (nI e)] [] (I, J, A, S, n, z) Q = Q (some (.int (nI m))) (wr (wr (wr (va_up I n (fun _ => 0)) n 0 (nI k)) n 1 (nI e)) 1 3 (nI (m + 1)), va_up J n (fun _ => 0), wr (va_up A n (fun _ => none)) 9 m (some n), va_up S n (1, 0), n + 1, z + 2) := by
  have e1 : 0 ≤ nI k ∧ nI k < 6 := ⟨nI_pos' (by omega), nI_lt (b := 6) (by omega) (by decide)⟩
  have e2 : ¬ nI e < 0 := nI_pos (by omega)
  have e3 : nI e ≤ 9 := nI_le (b := 9) he (by decide)
  have e4 : ¬ 8 ≤ nI m := nI_ge (b := 8) h8 (by decide)
  have hL2 : LC (va_up A n (fun _ => none)) (va_up S n (1, 0)) (n + 1) := LC_al hL (Nat.le_succ n) (fun a h1 _ _ _ => va_up_ne _ _ (by omega)) (fun k _ _ => by rw [va_up_ne _ _ (by omega)]) (fun a h1 => va_up_ne _ _ (by omega))
  simp only [s82_0, s82_1, s82_4, s82_7, s82_8, s82_11, s82_12, s82_14, s82_17, s82_19, s82_20, s82_21, s82_24, s82_27, s82_29, s82_32, s82_33, s82_36, s82_39, s82_40, s82_41, s82_42, s82_45, s82_48, s82_51, s82_53, isR_ref, isR_nul, isR_ra, nl_int, nl_ref, nl_jk, nl_ra, nl_nul, rf_some, rf_none, nc_nil, nc_i, nc_l, nc_r, nc_n, nc_x, true_and, and_true, and_self, if_true, if_false, ite_true, ite_false, Option.toList_some, Option.toList_none, List.cons_append, List.nil_append, nar_b1, nar_b0, T_ite, reduceIte, reduceCtorEq, one_ne, eq_self, mkC_t, hn_t, va_up_same, not_true_eq_false, not_false_eq_true, Nat.reduceLeDiff, Nat.reduceAdd, Nat.reduceEqDiff, Nat.reduceMul, Nat.reduceSub, Nat.reduceDiv, Nat.reduceMod, Nat.reduceLT, false_and, and_false, false_or, or_false, true_or, or_true, Nat.add_zero, Nat.zero_add, Nat.mul_zero, Nat.zero_mul, Nat.add_left_cancel_iff, Nat.add_right_cancel_iff, LCS_0 hL, LCn_0 hL, LCS_1 hL, LCn_1 hL, LCS_2 hL, LCn_2 hL, LCS_3 hL, LCn_3 hL, LCS_4 hL, LCn_4 hL, LCS_5 hL, LCn_5 hL, LCS_6 hL, LCn_6 hL, LCS_7 hL, LCn_7 hL, LCS_8 hL, LCn_8 hL, LCS_9 hL, LCn_9 hL, LCS_10 hL, LCn_10 hL, LCS_11 hL, LCn_11 hL, LCS_12 hL, LCn_12 hL, LCS_13 hL, LCn_13 hL, LCS_14 hL, LCn_14 hL, LCS_15 hL, LCn_15 hL, LCS_16 hL, LCn_16 hL, LCS_17 hL, LCn_17 hL, LCS_18 hL, LCn_18 hL, LCS_19 hL, LCn_19 hL, LCS_20 hL, LCn_20 hL, LCS_21 hL, LCn_21 hL, LCS_22 hL, LCn_22 hL, LCS_23 hL, LCn_23 hL, LCS_24 hL, LCn_24 hL, LCS_25 hL, LCn_25 hL, LCS_26 hL, LCn_26 hL, LCS_27 hL, LCn_27 hL, LCS_28 hL, LCn_28 hL, LCS_29 hL, LCn_29 hL, LCS_30 hL, LCn_30 hL, LCS_31 hL, LCn_31 hL, LCS_32 hL, LCn_32 hL, LCS_33 hL, LCn_33 hL, LCS_34 hL, LCn_34 hL, LCS_35 hL, LCn_35 hL, LCS_36 hL, LCn_36 hL, LCS_37 hL, LCn_37 hL, LCS_38 hL, LCn_38 hL, LCS_39 hL, LCn_39 hL, LCS_40 hL, LCn_40 hL, LCS_41 hL, LCn_41 hL, LCA_0_0 hL, LCA_0_1 hL, LCA_0_2 hL, LCA_0_3 hL, LCA_0_4 hL, LCA_0_5 hL, LCA_1_0 hL, LCA_1_1 hL, LCA_1_2 hL, LCA_2_0 hL, LCA_2_1 hL, LCA_5_0 hL, LCA_5_2 hL, LCA_5_3 hL, LCA_10_0 hL, LCA_10_2 hL, LCA_10_3 hL, LCA_10_4 hL, LCA_10_8 hL, LCA_16_0 hL, LCA_16_1 hL, LCA_16_4 hL, LCA_17_0 hL, LCA_17_1 hL, LCA_17_2 hL, LCA_24_0 hL, LCA_24_1 hL, LCA_25_0 hL, LCA_25_1 hL, LCA_25_2 hL, LCA_30_0 hL, LCA_30_1 hL, LCA_30_2 hL, LCA_30_3 hL, LCA_31_0 hL, LCA_31_1 hL, LCA_34_0 hL, LCA_36_0 hL, LCA_38_0 hL, LCA_40_0 hL, C_isKind, b01_0, hm, e1, e2, e3, e4]
  rw [Doing_init (Nat.lt_succ_self n) va_up_same]
  simp only [s82_0, s82_1, s82_4, s82_7, s82_8, s82_11, s82_12, s82_14, s82_17, s82_19, s82_20, s82_21, s82_24, s82_27, s82_29, s82_32, s82_33, s82_36, s82_39, s82_40, s82_41, s82_42, s82_45, s82_48, s82_51, s82_53, isR_ref, isR_nul, isR_ra, nl_int, nl_ref, nl_jk, nl_ra, nl_nul, rf_some, rf_none, nc_nil, nc_i, nc_l, nc_r, nc_n, nc_x, true_and, and_true, and_self, if_true, if_false, ite_true, ite_false, Option.toList_some, Option.toList_none, List.cons_append, List.nil_append, nar_b1, nar_b0, T_ite, reduceIte, reduceCtorEq, one_ne, eq_self, mkC_t, hn_t, va_up_same, not_true_eq_false, not_false_eq_true, Nat.reduceLeDiff, Nat.reduceAdd, Nat.reduceEqDiff, Nat.reduceMul, Nat.reduceSub, Nat.reduceDiv, Nat.reduceMod, Nat.reduceLT, false_and, and_false, false_or, or_false, true_or, or_true, Nat.add_zero, Nat.zero_add, Nat.mul_zero, Nat.zero_mul, Nat.add_left_cancel_iff, Nat.add_right_cancel_iff, LCS_0 hL2, LCn_0 hL2, LCS_1 hL2, LCn_1 hL2, LCS_2 hL2, LCn_2 hL2, LCS_3 hL2, LCn_3 hL2, LCS_4 hL2, LCn_4 hL2, LCS_5 hL2, LCn_5 hL2, LCS_6 hL2, LCn_6 hL2, LCS_7 hL2, LCn_7 hL2, LCS_8 hL2, LCn_8 hL2, LCS_9 hL2, LCn_9 hL2, LCS_10 hL2, LCn_10 hL2, LCS_11 hL2, LCn_11 hL2, LCS_12 hL2, LCn_12 hL2, LCS_13 hL2, LCn_13 hL2, LCS_14 hL2, LCn_14 hL2, LCS_15 hL2, LCn_15 hL2, LCS_16 hL2, LCn_16 hL2, LCS_17 hL2, LCn_17 hL2, LCS_18 hL2, LCn_18 hL2, LCS_19 hL2, LCn_19 hL2, LCS_20 hL2, LCn_20 hL2, LCS_21 hL2, LCn_21 hL2, LCS_22 hL2, LCn_22 hL2, LCS_23 hL2, LCn_23 hL2, LCS_24 hL2, LCn_24 hL2, LCS_25 hL2, LCn_25 hL2, LCS_26 hL2, LCn_26 hL2, LCS_27 hL2, LCn_27 hL2, LCS_28 hL2, LCn_28 hL2, LCS_29 hL2, LCn_29 hL2, LCS_30 hL2, LCn_30 hL2, LCS_31 hL2, LCn_31 hL2, LCS_32 hL2, LCn_32 hL2, LCS_33 hL2, LCn_33 hL2, LCS_34 hL2, LCn_34 hL2, LCS_35 hL2, LCn_35 hL2, LCS_36 hL2, LCn_36 hL2, LCS_37 hL2, LCn_37 hL2, LCS_38 hL2, LCn_38 hL2, LCS_39 hL2, LCn_39 hL2, LCS_40 hL2, LCn_40 hL2, LCS_41 hL2, LCn_41 hL2, LCA_0_0 hL2, LCA_0_1 hL2, LCA_0_2 hL2, LCA_0_3 hL2, LCA_0_4 hL2, LCA_0_5 hL2, LCA_1_0 hL2, LCA_1_1 hL2, LCA_1_2 hL2, LCA_2_0 hL2, LCA_2_1 hL2, LCA_5_0 hL2, LCA_5_2 hL2, LCA_5_3 hL2, LCA_10_0 hL2, LCA_10_2 hL2, LCA_10_3 hL2, LCA_10_4 hL2, LCA_10_8 hL2, LCA_16_0 hL2, LCA_16_1 hL2, LCA_16_4 hL2, LCA_17_0 hL2, LCA_17_1 hL2, LCA_17_2 hL2, LCA_24_0 hL2, LCA_24_1 hL2, LCA_25_0 hL2, LCA_25_1 hL2, LCA_25_2 hL2, LCA_30_0 hL2, LCA_30_1 hL2, LCA_30_2 hL2, LCA_30_3 hL2, LCA_31_0 hL2, LCA_31_1 hL2, LCA_34_0 hL2, LCA_36_0 hL2, LCA_38_0 hL2, LCA_40_0 hL2]
  rw [Journey_add hL2 (m := m) (by rw [wr_rd, wr_rd, va_up_ne _ _ (by omega), if_neg (by omega), if_neg (by omega)]; exact hm) h8 (Nat.lt_succ_self n) (by rw [va_up_same])]
  simp only [s82_0, s82_1, s82_4, s82_7, s82_8, s82_11, s82_12, s82_14, s82_17, s82_19, s82_20, s82_21, s82_24, s82_27, s82_29, s82_32, s82_33, s82_36, s82_39, s82_40, s82_41, s82_42, s82_45, s82_48, s82_51, s82_53, isR_ref, isR_nul, isR_ra, nl_int, nl_ref, nl_jk, nl_ra, nl_nul, rf_some, rf_none, nc_nil, nc_i, nc_l, nc_r, nc_n, nc_x, true_and, and_true, and_self, if_true, if_false, ite_true, ite_false, Option.toList_some, Option.toList_none, List.cons_append, List.nil_append, nar_b1, nar_b0, T_ite, reduceIte, reduceCtorEq, one_ne, eq_self, mkC_t, hn_t, va_up_same, not_true_eq_false, not_false_eq_true, Nat.reduceLeDiff, Nat.reduceAdd, Nat.reduceEqDiff, Nat.reduceMul, Nat.reduceSub, Nat.reduceDiv, Nat.reduceMod, Nat.reduceLT, false_and, and_false, false_or, or_false, true_or, or_true, Nat.add_zero, Nat.zero_add, Nat.mul_zero, Nat.zero_mul, Nat.add_left_cancel_iff, Nat.add_right_cancel_iff]
theorem RD_doing_full (hL : LC A S n) {k e : Nat} (hk : k ≤ 5) (he : e ≤ 9) (hm : I 1 3 = nI 8) : T Ω (d + 1) 82 0 [.ref 0, .int (nI k), .int (nI e)] [] (I, J, A, S, n, z) Q = Q (some (.int (-4))) (I, J, A, S, n, z) := by
  have e1 : 0 ≤ nI k ∧ nI k < 6 := ⟨nI_pos' (by omega), nI_lt (b := 6) (by omega) (by decide)⟩
  have e2 : ¬ nI e < 0 := nI_pos (by omega)
  have e3 : nI e ≤ 9 := nI_le (b := 9) he (by decide)
  have e4 : 8 ≤ nI 8 := by decide
  simp only [s82_0, s82_1, s82_4, s82_7, s82_8, s82_11, s82_12, s82_14, s82_17, s82_19, s82_20, s82_21, s82_24, s82_27, s82_29, s82_32, s82_33, s82_36, s82_39, s82_40, s82_41, s82_42, s82_45, s82_48, s82_51, s82_53, isR_ref, isR_nul, isR_ra, nl_int, nl_ref, nl_jk, nl_ra, nl_nul, rf_some, rf_none, nc_nil, nc_i, nc_l, nc_r, nc_n, nc_x, true_and, and_true, and_self, if_true, if_false, ite_true, ite_false, Option.toList_some, Option.toList_none, List.cons_append, List.nil_append, nar_b1, nar_b0, T_ite, reduceIte, reduceCtorEq, one_ne, eq_self, mkC_t, hn_t, va_up_same, not_true_eq_false, not_false_eq_true, Nat.reduceLeDiff, Nat.reduceAdd, Nat.reduceEqDiff, Nat.reduceMul, Nat.reduceSub, Nat.reduceDiv, Nat.reduceMod, Nat.reduceLT, false_and, and_false, false_or, or_false, true_or, or_true, Nat.add_zero, Nat.zero_add, Nat.mul_zero, Nat.zero_mul, Nat.add_left_cancel_iff, Nat.add_right_cancel_iff, LCS_0 hL, LCn_0 hL, LCS_1 hL, LCn_1 hL, LCS_2 hL, LCn_2 hL, LCS_3 hL, LCn_3 hL, LCS_4 hL, LCn_4 hL, LCS_5 hL, LCn_5 hL, LCS_6 hL, LCn_6 hL, LCS_7 hL, LCn_7 hL, LCS_8 hL, LCn_8 hL, LCS_9 hL, LCn_9 hL, LCS_10 hL, LCn_10 hL, LCS_11 hL, LCn_11 hL, LCS_12 hL, LCn_12 hL, LCS_13 hL, LCn_13 hL, LCS_14 hL, LCn_14 hL, LCS_15 hL, LCn_15 hL, LCS_16 hL, LCn_16 hL, LCS_17 hL, LCn_17 hL, LCS_18 hL, LCn_18 hL, LCS_19 hL, LCn_19 hL, LCS_20 hL, LCn_20 hL, LCS_21 hL, LCn_21 hL, LCS_22 hL, LCn_22 hL, LCS_23 hL, LCn_23 hL, LCS_24 hL, LCn_24 hL, LCS_25 hL, LCn_25 hL, LCS_26 hL, LCn_26 hL, LCS_27 hL, LCn_27 hL, LCS_28 hL, LCn_28 hL, LCS_29 hL, LCn_29 hL, LCS_30 hL, LCn_30 hL, LCS_31 hL, LCn_31 hL, LCS_32 hL, LCn_32 hL, LCS_33 hL, LCn_33 hL, LCS_34 hL, LCn_34 hL, LCS_35 hL, LCn_35 hL, LCS_36 hL, LCn_36 hL, LCS_37 hL, LCn_37 hL, LCS_38 hL, LCn_38 hL, LCS_39 hL, LCn_39 hL, LCS_40 hL, LCn_40 hL, LCS_41 hL, LCn_41 hL, LCA_0_0 hL, LCA_0_1 hL, LCA_0_2 hL, LCA_0_3 hL, LCA_0_4 hL, LCA_0_5 hL, LCA_1_0 hL, LCA_1_1 hL, LCA_1_2 hL, LCA_2_0 hL, LCA_2_1 hL, LCA_5_0 hL, LCA_5_2 hL, LCA_5_3 hL, LCA_10_0 hL, LCA_10_2 hL, LCA_10_3 hL, LCA_10_4 hL, LCA_10_8 hL, LCA_16_0 hL, LCA_16_1 hL, LCA_16_4 hL, LCA_17_0 hL, LCA_17_1 hL, LCA_17_2 hL, LCA_24_0 hL, LCA_24_1 hL, LCA_25_0 hL, LCA_25_1 hL, LCA_25_2 hL, LCA_30_0 hL, LCA_30_1 hL, LCA_30_2 hL, LCA_30_3 hL, LCA_31_0 hL, LCA_31_1 hL, LCA_34_0 hL, LCA_36_0 hL, LCA_38_0 hL, LCA_40_0 hL, C_isKind, b01_0, hm, e1, e2, e3, e4]
theorem RD_doing_bad (hL : LC A S n) {x y : Int32} (hb : ¬ ((0 ≤ x ∧ x < 6) ∧ (0 ≤ y ∧ y ≤ 9))) : T Ω (d + 1) 82 0 [.ref 0, .int x, .int y] [] (I, J, A, S, n, z) Q = Q (some (.int (-2))) (I, J, A, S, n, z) := by
  simp only [s82_0, s82_1, s82_4, s82_7, s82_8, s82_11, s82_12, s82_14, s82_17, s82_19, isR_ref, isR_nul, isR_ra, nl_int, nl_ref, nl_jk, nl_ra, nl_nul, rf_some, rf_none, nc_nil, nc_i, nc_l, nc_r, nc_n, nc_x, true_and, and_true, and_self, if_true, if_false, ite_true, ite_false, Option.toList_some, Option.toList_none, List.cons_append, List.nil_append, nar_b1, nar_b0, T_ite, reduceIte, reduceCtorEq, one_ne, eq_self, mkC_t, hn_t, va_up_same, not_true_eq_false, not_false_eq_true, Nat.reduceLeDiff, Nat.reduceAdd, Nat.reduceEqDiff, Nat.reduceMul, Nat.reduceSub, Nat.reduceDiv, Nat.reduceMod, Nat.reduceLT, false_and, and_false, false_or, or_false, true_or, or_true, Nat.add_zero, Nat.zero_add, Nat.mul_zero, Nat.zero_mul, Nat.add_left_cancel_iff, Nat.add_right_cancel_iff, LCS_0 hL, LCn_0 hL, LCS_1 hL, LCn_1 hL, LCS_2 hL, LCn_2 hL, LCS_3 hL, LCn_3 hL, LCS_4 hL, LCn_4 hL, LCS_5 hL, LCn_5 hL, LCS_6 hL, LCn_6 hL, LCS_7 hL, LCn_7 hL, LCS_8 hL, LCn_8 hL, LCS_9 hL, LCn_9 hL, LCS_10 hL, LCn_10 hL, LCS_11 hL, LCn_11 hL, LCS_12 hL, LCn_12 hL, LCS_13 hL, LCn_13 hL, LCS_14 hL, LCn_14 hL, LCS_15 hL, LCn_15 hL, LCS_16 hL, LCn_16 hL, LCS_17 hL, LCn_17 hL, LCS_18 hL, LCn_18 hL, LCS_19 hL, LCn_19 hL, LCS_20 hL, LCn_20 hL, LCS_21 hL, LCn_21 hL, LCS_22 hL, LCn_22 hL, LCS_23 hL, LCn_23 hL, LCS_24 hL, LCn_24 hL, LCS_25 hL, LCn_25 hL, LCS_26 hL, LCn_26 hL, LCS_27 hL, LCn_27 hL, LCS_28 hL, LCn_28 hL, LCS_29 hL, LCn_29 hL, LCS_30 hL, LCn_30 hL, LCS_31 hL, LCn_31 hL, LCS_32 hL, LCn_32 hL, LCS_33 hL, LCn_33 hL, LCS_34 hL, LCn_34 hL, LCS_35 hL, LCn_35 hL, LCS_36 hL, LCn_36 hL, LCS_37 hL, LCn_37 hL, LCS_38 hL, LCn_38 hL, LCS_39 hL, LCn_39 hL, LCS_40 hL, LCn_40 hL, LCS_41 hL, LCn_41 hL, LCA_0_0 hL, LCA_0_1 hL, LCA_0_2 hL, LCA_0_3 hL, LCA_0_4 hL, LCA_0_5 hL, LCA_1_0 hL, LCA_1_1 hL, LCA_1_2 hL, LCA_2_0 hL, LCA_2_1 hL, LCA_5_0 hL, LCA_5_2 hL, LCA_5_3 hL, LCA_10_0 hL, LCA_10_2 hL, LCA_10_3 hL, LCA_10_4 hL, LCA_10_8 hL, LCA_16_0 hL, LCA_16_1 hL, LCA_16_4 hL, LCA_17_0 hL, LCA_17_1 hL, LCA_17_2 hL, LCA_24_0 hL, LCA_24_1 hL, LCA_25_0 hL, LCA_25_1 hL, LCA_25_2 hL, LCA_30_0 hL, LCA_30_1 hL, LCA_30_2 hL, LCA_30_3 hL, LCA_31_0 hL, LCA_31_1 hL, LCA_34_0 hL, LCA_36_0 hL, LCA_38_0 hL, LCA_40_0 hL, C_isKind, b01_0]
  by_cases h1 : 0 ≤ x ∧ x < 6
  · rw [if_neg (by simpa using h1)]
    by_cases h2 : y < 0
    · rw [if_pos h2]
    · rw [if_neg h2, if_neg (fun q => hb ⟨h1, Int32.not_lt.mp h2, q⟩)]
  · rw [if_pos h1]
set_option maxHeartbeats 1000000 in
theorem cpl_doing {x y : Int32} : cplI Ω (d + 2) Inv 82 124 [.ref 0, .int x, .int y] [.ref 46, .int x, .int y] := by
  rintro ⟨I, J, A, S, n, z⟩ ⟨p, m, t, s, iL, iP, iD, iT, iB, iI, iS⟩
  simp only [hn, hI, hA, hSh] at iL iP iD iT iB iI iS
  have lc := iL.1
  have lm := iL.2.1
  obtain ⟨p1, p2, p3, p4, p5⟩ := id iP
  obtain ⟨d1, d2, d3, d4⟩ := id iD
  have h68 : 68 ≤ n := lm.1
  by_cases hb : (0 ≤ x ∧ x < 6) ∧ (0 ≤ y ∧ y ≤ 9)
  · obtain ⟨k, hk, rfl⟩ := (oor_or x 5).resolve_left (fun q => oor_lt (N := 5) (by decide) q hb.1)
    obtain ⟨e, he, rfl⟩ := (oor_or y 9).resolve_left (fun q => oor_in (N := 9) (by decide) q hb.2)
    by_cases h8 : m < 8
    · rw [RD_doing_ok lc h68 hk he d2 h8]
      have iL2 : IvL (wr (va_up A n (fun _ => none)) 9 m (some n)) (va_up S n (1, 0)) (n + 1) := IvL_al iL (Nat.le_succ n) (fun a h1 h2 h3 => by rw [wr_ne h2, va_up_ne _ _ (by omega)]) (by rw [wr_ne (by decide), va_up_ne _ _ (by omega)]) (fun a h1 => va_up_ne _ _ (by omega))
      have lm2 := iL2.2.1
      refine ⟨_, rfl, (see46 lm2).1, (see46 lm2).2, ?_⟩
      rw [M_doing lm2 (m := m) (by rw [wr_rd, wr_rd, wr_rd, va_up_ne _ _ (by omega), if_neg (by omega), if_neg (by omega), if_neg (by omega)]; exact d3) d1 hk he, if_neg (by omega)]
      have hI1 : ∀ a, a ≠ n → a ≠ 1 → wr (wr (wr (va_up I n (fun _ => 0)) n 0 (nI k)) n 1 (nI e)) 1 3 (nI (m + 1)) a = I a := fun a h1 h2 => by rw [wr_ne h2, wr_ne h1, wr_ne h1, va_up_ne _ _ h1]
      have hI2 : ∀ a, a ≠ n → a ≠ 1 → a ≠ 46 → a ≠ 49 → a ≠ 50 → wr (wr (wr (wr (wr (wr (va_up I n (fun _ => 0)) n 0 (nI k)) n 1 (nI e)) 1 3 (nI (m + 1))) 49 m (nI k)) 50 m (nI e)) 46 4 (nI (m + 1)) a = I a := fun a h1 h2 h3 h4 h5 => by rw [wr_ne h3, wr_ne h5, wr_ne h4]; exact hI1 a h1 h2
      have h46 : ∀ j, j ≠ 4 → wr (wr (wr (wr (wr (wr (va_up I n (fun _ => 0)) n 0 (nI k)) n 1 (nI e)) 1 3 (nI (m + 1))) 49 m (nI k)) 50 m (nI e)) 46 4 (nI (m + 1)) 46 j = I 46 j := fun j hj => by rw [wr_at_ne hj, wr_ne (by decide), wr_ne (by decide), hI1 46 (by omega) (by decide)]
      refine ⟨rfl, ⟨p, m + 1, t, s, iL2, ?_, ⟨by omega, ?_, ?_, ?_⟩, ?_, ?_, ?_, ?_⟩, ?_, ?_⟩ <;> simp only [hI, hA, hSh, hn, hz]
      · exact IvP_fr iP (by rw [hI2 2 (by omega) (by decide) (by decide) (by decide) (by decide)]) (h46 1 (by decide)) (hI2 3 (by omega) (by decide) (by decide) (by decide) (by decide)) (hI2 47 (by omega) (by decide) (by decide) (by decide) (by decide)) (hI2 4 (by omega) (by decide) (by decide) (by decide) (by decide)) (hI2 48 (by omega) (by decide) (by decide) (by decide) (by decide))
      · rw [wr_ne (by decide), wr_ne (by decide), wr_ne (by decide), wr_at]
      · rw [wr_at]
      · intro i hi
        by_cases him : i < m
        · obtain ⟨a, k0, e0, g1, g2, g3, g4, g5, g6, g7, g8, g9, g10⟩ := d4 i him
          refine ⟨a, k0, e0, ?_, g2, by omega, ?_, g5, g6, ?_, ?_, ?_, ?_⟩
          · rw [wr_at_ne (by omega), va_up_ne _ _ (by omega)]; exact g1
          · rw [va_up_ne _ _ (by omega)]; exact g4
          · rw [hI2 a (by omega) (by omega) (by omega) (by omega) (by omega)]; exact g7
          · rw [hI2 a (by omega) (by omega) (by omega) (by omega) (by omega)]; exact g8
          · rw [wr_ne (by decide), wr_ne (by decide), wr_at_ne (by omega), hI1 49 (by omega) (by decide)]; exact g9
          · rw [wr_ne (by decide), wr_at_ne (by omega), wr_ne (by decide), hI1 50 (by omega) (by decide)]; exact g10
        · obtain rfl : i = m := by omega
          refine ⟨n, k, e, by rw [wr_at], h68, by omega, by rw [va_up_same], hk, he, ?_, ?_, ?_, ?_⟩
          · rw [wr_ne (by omega), wr_ne (by omega), wr_ne (by omega), wr_ne (by omega), wr_at_ne (by decide), wr_at]
          · rw [wr_ne (by omega), wr_ne (by omega), wr_ne (by omega), wr_ne (by omega), wr_at]
          · rw [wr_ne (by decide), wr_ne (by decide), wr_at]
          · rw [wr_ne (by decide), wr_at]
      · refine IvT_al iT (Nat.le_succ n) ?_ (h46 9 (by decide)) ?_ (h46 10 (by decide)) (fun r hr => ?_) ?_ ?_ ?_ ?_ (fun r hr => ?_) (fun r hr => ?_)
        · rw [hI2 5 (by omega) (by decide) (by decide) (by decide) (by decide)]
        · rw [hI2 2 (by omega) (by decide) (by decide) (by decide) (by decide)]
        · have := hr.1; have := hr.2
          exact hI2 r (by omega) (by omega) (by omega) (by omega) (by omega)
        · exact hI2 52 (by omega) (by decide) (by decide) (by decide) (by decide)
        · exact hI2 53 (by omega) (by decide) (by decide) (by decide) (by decide)
        · exact hI2 54 (by omega) (by decide) (by decide) (by decide) (by decide)
        · rw [wr_ne (by decide), va_up_ne _ _ (by omega)]
        · have := hr.1; have := hr.2
          rw [wr_ne (by omega), va_up_ne _ _ (by omega)]
        · have := hr.1
          rw [va_up_ne _ _ (by omega)]
      · exact IvB_fr iB (by rw [hI2 10 (by omega) (by decide) (by decide) (by decide) (by decide)]) (h46 8 (by decide)) (hI2 11 (by omega) (by decide) (by decide) (by decide) (by decide)) (hI2 51 (by omega) (by decide) (by decide) (by decide) (by decide)) (hI2 57 (by omega) (by decide) (by decide) (by decide) (by decide)) (hI2 58 (by omega) (by decide) (by decide) (by decide) (by decide))
      · exact IvI_fr iI (by rw [hI2 0 (by omega) (by decide) (by decide) (by decide) (by decide)]) (h46 28 (by decide)) (hI2 31 (by omega) (by decide) (by decide) (by decide) (by decide)) (h46 29 (by decide)) (h46 30 (by decide)) (hI2 32 (by omega) (by decide) (by decide) (by decide) (by decide)) (hI2 62 (by omega) (by decide) (by decide) (by decide) (by decide)) (hI2 33 (by omega) (by decide) (by decide) (by decide) (by decide)) (hI2 63 (by omega) (by decide) (by decide) (by decide) (by decide))
      · exact IvS_fr iS (fun a h1 h2 => hI2 a (by omega) (by omega) (by omega) (by omega) (by omega)) (hI2 64 (by omega) (by decide) (by decide) (by decide) (by decide)) (hI2 65 (by omega) (by decide) (by decide) (by decide) (by decide)) (hI2 66 (by omega) (by decide) (by decide) (by decide) (by decide))
      · omega
      · omega
    · have hm8 : m = 8 := by omega
      rw [RD_doing_full lc hk he (by rw [d2, hm8])]
      refine ⟨_, rfl, by first | exact (see46 lm).1 | exact Nat.lt_of_lt_of_le (by decide) lm.1, by first | exact (see46 lm).2 | (show (S 46).1 = 11; rw [LMS_46 lm]), ?_⟩
      rw [M_doing lm d3 d1 hk he, if_pos hm8]
      exact ⟨rfl, ⟨p, m, t, s, iL, iP, iD, iT, iB, iI, iS⟩, Nat.le_add_right _ _, Nat.le_add_right _ _⟩
  · rw [RD_doing_bad lc hb]
    refine ⟨_, rfl, by first | exact (see46 lm).1 | exact Nat.lt_of_lt_of_le (by decide) lm.1, by first | exact (see46 lm).2 | (show (S 46).1 = 11; rw [LMS_46 lm]), ?_⟩
    rw [M_doing_bad lm (fun q => hb ⟨⟨q.1.1, Int32.lt_of_le_of_lt q.1.2 (by decide)⟩, q.2⟩)]
    exact ⟨rfl, ⟨p, m, t, s, iL, iP, iD, iT, iB, iI, iS⟩, Nat.le_add_right _ _, Nat.le_add_right _ _⟩
end CP
