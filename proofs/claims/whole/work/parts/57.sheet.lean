section CP
variable {Ω : AO} {d : Nat} {Q : Option Value → AH → Prop} {I I' : Nat → Nat → Int32} {J J' : Nat → Nat → Int64} {A A' : Nat → Nat → Option Nat} {S : Nat → Nat × Nat} {n z z' : Nat}
def kp (a : Nat) : Prop := a ≤ 6 ∨ a = 9 ∨ a = 11 ∨ a = 31 ∨ a = 32 ∨ a = 33 ∨ (42 ≤ a ∧ a ≤ 45) ∨ (47 ≤ a ∧ a ≤ 54) ∨ a = 57 ∨ a = 58 ∨ a = 62 ∨ a = 63 ∨ 68 ≤ a
theorem IvD_A {m : Nat} (h : IvD I A S n m) (e : A' 9 = A 9) : IvD I A' S n m := by
  unfold IvD at *
  rw [e]
  exact h
theorem IvT_A {t : Nat} (h : IvT I A S n t) (e : ∀ a, a ≠ 16 → A' a = A a) : IvT I A' S n t := by
  obtain ⟨h1, h2, h3, h4, h5, h8⟩ := h
  refine ⟨h1, h2, h3, h4, h5, fun k hk => ?_⟩
  obtain ⟨a, g1, g2, g3, g4⟩ := h8 k hk
  have := g2.2
  refine ⟨a, by rw [e 6 (by decide)]; exact g1, g2, g3, fun w hw => ?_⟩
  rw [e a (by omega)]
  exact g4 w hw
theorem Inv_gen {p m t s : Nat} (iL' : IvL A' S n) (hAe : ∀ a, a ≠ 16 → A' a = A a) (iP : IvP I p) (iD : IvD I A S n m) (iT : IvT I A S n t) (iB : IvB I s) (iI : IvI I p t) (iS' : IvS I') (e : ∀ a, kp a → I' a = I a) (e46 : I' 46 = I 46) (e10 : I' 10 = I 10) : Inv (I', J', A', S, n, z') := by
  refine ⟨p, m, t, s, iL', ?_, ?_, ?_, ?_, ?_, iS'⟩ <;> simp only [hI, hA, hSh, hn]
  · exact IvP_fr iP (by rw [e 2 (by unfold kp; omega)]) (by rw [e46]) (e 3 (by unfold kp; omega)) (e 47 (by unfold kp; omega)) (e 4 (by unfold kp; omega)) (e 48 (by unfold kp; omega))
  · exact IvD_A (IvD_fr iD (by rw [e 1 (by unfold kp; omega)]) (by rw [e46]) (e 49 (by unfold kp; omega)) (e 50 (by unfold kp; omega)) (fun a ha => e a (by unfold kp; omega))) (hAe 9 (by decide))
  · exact IvT_A (IvT_fr iT (by rw [e 5 (by unfold kp; omega)]) (by rw [e46]) (by rw [e 2 (by unfold kp; omega)]) (by rw [e46]) (fun r hr => e r (by unfold kp; omega)) (e 52 (by unfold kp; omega)) (e 53 (by unfold kp; omega)) (e 54 (by unfold kp; omega))) hAe
  · exact IvB_fr iB (by rw [e10]) (by rw [e46]) (e 11 (by unfold kp; omega)) (e 51 (by unfold kp; omega)) (e 57 (by unfold kp; omega)) (e 58 (by unfold kp; omega))
  · exact IvI_fr iI (by rw [e 0 (by unfold kp; omega)]) (by rw [e46]) (e 31 (by unfold kp; omega)) (by rw [e46]) (by rw [e46]) (e 32 (by unfold kp; omega)) (e 62 (by unfold kp; omega)) (e 33 (by unfold kp; omega)) (e 63 (by unfold kp; omega))
theorem ySh (hL : LC A S n) {q : Nat} (hq : q < 4) : A 30 q = some (34 + 2 * q) ∧ S (34 + 2 * q) = (8, 0) ∧ 34 + 2 * q < n ∧ A (34 + 2 * q) 0 = some (35 + 2 * q) ∧ S (35 + 2 * q) = (13, 40) ∧ 35 + 2 * q < n := by
  have h42 := hL.1
  rcases (show q = 0 ∨ q = 1 ∨ q = 2 ∨ q = 3 by omega) with rfl | rfl | rfl | rfl
  · exact ⟨LCA_30_0 hL, LCS_34 hL, by omega, LCA_34_0 hL, LCS_35 hL, by omega⟩
  · exact ⟨LCA_30_1 hL, LCS_36 hL, by omega, LCA_36_0 hL, LCS_37 hL, by omega⟩
  · exact ⟨LCA_30_2 hL, LCS_38 hL, by omega, LCA_38_0 hL, LCS_39 hL, by omega⟩
  · exact ⟨LCA_30_3 hL, LCS_40 hL, by omega, LCA_40_0 hL, LCS_41 hL, by omega⟩
theorem IvS_up {q : Nat} (h : IvS I) (e : ∀ r, r < 4 → r ≠ q → I' (34 + 2 * r) = I (34 + 2 * r) ∧ I' (35 + 2 * r) = I (35 + 2 * r) ∧ I' 64 r = I 64 r ∧ I' 65 r = I 65 r ∧ ∀ i, i < 40 → I' 66 (40 * r + i) = I 66 (40 * r + i)) (hn : (I' (34 + 2 * q) 1 = -1 ∧ I' 64 q = -1) ∨ ∃ so sz, so ≤ 2 ∧ sz ≤ 40 ∧ I' (34 + 2 * q) 1 = nI so ∧ I' 64 q = nI so ∧ I' (34 + 2 * q) 2 = nI sz ∧ I' 65 q = nI sz ∧ ∀ i, i < sz → I' (35 + 2 * q) i = I' 66 (40 * q + i)) : IvS I' := by
  intro r hr
  by_cases hq : r = q
  · subst hq; exact hn
  · obtain ⟨e1, e2, e3, e4, e5⟩ := e r hr hq
    rw [e1, e2, e3, e4]
    rcases h r hr with h1 | ⟨so, sz, h1, h2, h3, h4, h5, h6, h7⟩
    · exact Or.inl h1
    · exact Or.inr ⟨so, sz, h1, h2, h3, h4, h5, h6, fun i hi => by rw [e5 i (by omega)]; exact h7 i hi⟩
theorem fill2_l {r N : Nat} {v : Int32} (hr : r < n) (hs : S r = (13, N)) (hN : N < 100000) : ∀ (k i : Nat) (I : Nat → Nat → Int32), i + k = N → T Ω d 210 5 [.ref r, .int v, .int (nI i), .int (nI N)] [] (I, J, A, S, n, z) Q = Q none (wrs I r i (fun _ => v) k, J, A, S, n, z) := by
  intro k
  induction k with
  | zero =>
    intro i I hi
    obtain rfl : i = N := by omega
    rw [s210_5]
    simp only [s210_6, s210_7, s210_10, s210_11, s210_12, s210_13, s210_14, s210_17, s210_20, isR_ref, isR_nul, isR_ra, nl_int, nl_ref, nl_jk, nl_ra, nl_nul, rf_some, rf_none, nc_nil, nc_i, nc_l, nc_r, nc_n, nc_x, true_and, and_true, and_self, if_true, if_false, ite_true, ite_false, Option.toList_some, Option.toList_none, List.cons_append, List.nil_append, nar_b1, nar_b0, T_ite, reduceIte, reduceCtorEq, one_ne, eq_self, mkC_t, hn_t, va_up_same, not_true_eq_false, not_false_eq_true, Nat.reduceLeDiff, Nat.reduceAdd, Nat.reduceEqDiff, Nat.reduceMul, Nat.reduceSub, Nat.reduceDiv, Nat.reduceMod, Nat.reduceLT, false_and, and_false, false_or, or_false, true_or, or_true, Nat.add_zero, Nat.zero_add, Nat.mul_zero, Nat.zero_mul, Nat.add_left_cancel_iff, Nat.add_right_cancel_iff, hs, hr, b01_0, b01_n, wr_rd, swf, ti_0, ti_1, ti_2, ti_3, ti_4, ti_5, ti_6, ti_7, ti_8, ti_9, ti_10, ti_11, ti_12, ti_13, ti_14, ti_15, ti_16, ti_17, ti_18, ti_19, ti_20, ti_21, ti_22, ti_23, ti_24, ti_25, ti_26, ti_27, ti_28, ti_29, ti_30, ti_31, Int.reduceAdd]
    try simp (disch := omega) only [lit_0, lit_1, lit_2, lit_3, lit_4, lit_5, lit_6, lit_7, lit_8, lit_9, lit_10, lit_11, lit_12, lit_13, lit_14, lit_15, lit_16, lit_17, lit_18, lit_19, lit_20, lit_31, lit_32, lit_37, lit_40, lit_41, lit_42, lit_43, lit_45, lit_47, lit_48, lit_49, lit_57, lit_59, lit_60, lit_61, lit_63, lit_64, lit_97, lit_99, lit_100, lit_122, lit_160, lit_161, lit_170, lit_255, lit_343, lit_427, lit_991, lit_999, lit_1020, lit_1190, lit_5551, lit_9999, lit_1000000, nI_add, pk_mul, nI_subs, nI_div, nI_rem, nI_lt', nI_le', nI_eq', nI_cl, vpin, wr_rd, hs, hr, isR_ref, isR_nul, isR_ra, nl_int, nl_ref, nl_jk, nl_ra, nl_nul, rf_some, rf_none, nc_nil, nc_i, nc_l, nc_r, nc_n, nc_x, true_and, and_true, and_self, if_true, if_false, ite_true, ite_false, Option.toList_some, Option.toList_none, List.cons_append, List.nil_append, nar_b1, nar_b0, T_ite, reduceIte, reduceCtorEq, one_ne, eq_self, mkC_t, hn_t, va_up_same, not_true_eq_false, not_false_eq_true, Nat.reduceLeDiff, Nat.reduceAdd, Nat.reduceEqDiff, Nat.reduceMul, Nat.reduceSub, Nat.reduceDiv, Nat.reduceMod, Nat.reduceLT, false_and, and_false, false_or, or_false, true_or, or_true, Nat.add_zero, Nat.zero_add, Nat.mul_zero, Nat.zero_mul, Nat.add_left_cancel_iff, Nat.add_right_cancel_iff]
    rw [if_pos (Nat.le_refl _)]
    rfl
  | succ k ih =>
    intro i I hi
    rw [s210_5]
    simp only [s210_6, s210_7, s210_10, s210_11, s210_12, s210_13, s210_14, s210_17, s210_20, isR_ref, isR_nul, isR_ra, nl_int, nl_ref, nl_jk, nl_ra, nl_nul, rf_some, rf_none, nc_nil, nc_i, nc_l, nc_r, nc_n, nc_x, true_and, and_true, and_self, if_true, if_false, ite_true, ite_false, Option.toList_some, Option.toList_none, List.cons_append, List.nil_append, nar_b1, nar_b0, T_ite, reduceIte, reduceCtorEq, one_ne, eq_self, mkC_t, hn_t, va_up_same, not_true_eq_false, not_false_eq_true, Nat.reduceLeDiff, Nat.reduceAdd, Nat.reduceEqDiff, Nat.reduceMul, Nat.reduceSub, Nat.reduceDiv, Nat.reduceMod, Nat.reduceLT, false_and, and_false, false_or, or_false, true_or, or_true, Nat.add_zero, Nat.zero_add, Nat.mul_zero, Nat.zero_mul, Nat.add_left_cancel_iff, Nat.add_right_cancel_iff, hs, hr, b01_0, b01_n, wr_rd, swf, ti_0, ti_1, ti_2, ti_3, ti_4, ti_5, ti_6, ti_7, ti_8, ti_9, ti_10, ti_11, ti_12, ti_13, ti_14, ti_15, ti_16, ti_17, ti_18, ti_19, ti_20, ti_21, ti_22, ti_23, ti_24, ti_25, ti_26, ti_27, ti_28, ti_29, ti_30, ti_31, Int.reduceAdd]
    try simp (disch := omega) only [lit_0, lit_1, lit_2, lit_3, lit_4, lit_5, lit_6, lit_7, lit_8, lit_9, lit_10, lit_11, lit_12, lit_13, lit_14, lit_15, lit_16, lit_17, lit_18, lit_19, lit_20, lit_31, lit_32, lit_37, lit_40, lit_41, lit_42, lit_43, lit_45, lit_47, lit_48, lit_49, lit_57, lit_59, lit_60, lit_61, lit_63, lit_64, lit_97, lit_99, lit_100, lit_122, lit_160, lit_161, lit_170, lit_255, lit_343, lit_427, lit_991, lit_999, lit_1020, lit_1190, lit_5551, lit_9999, lit_1000000, nI_add, pk_mul, nI_subs, nI_div, nI_rem, nI_lt', nI_le', nI_eq', nI_cl, vpin, wr_rd, hs, hr, isR_ref, isR_nul, isR_ra, nl_int, nl_ref, nl_jk, nl_ra, nl_nul, rf_some, rf_none, nc_nil, nc_i, nc_l, nc_r, nc_n, nc_x, true_and, and_true, and_self, if_true, if_false, ite_true, ite_false, Option.toList_some, Option.toList_none, List.cons_append, List.nil_append, nar_b1, nar_b0, T_ite, reduceIte, reduceCtorEq, one_ne, eq_self, mkC_t, hn_t, va_up_same, not_true_eq_false, not_false_eq_true, Nat.reduceLeDiff, Nat.reduceAdd, Nat.reduceEqDiff, Nat.reduceMul, Nat.reduceSub, Nat.reduceDiv, Nat.reduceMod, Nat.reduceLT, false_and, and_false, false_or, or_false, true_or, or_true, Nat.add_zero, Nat.zero_add, Nat.mul_zero, Nat.zero_mul, Nat.add_left_cancel_iff, Nat.add_right_cancel_iff]
    rw [if_neg (by omega)]
    have e1 : i < N := by omega
    simp only [e1, true_and]
    rw [ih (i + 1) _ (by omega), wrs]
theorem fill2 {r N : Nat} {v : Int32} (hr : r < n) (hs : S r = (13, N)) (hN : N < 100000) : T Ω d 210 0 [.ref r, .int v, jk, jk] [] (I, J, A, S, n, z) Q = Q none (wrs I r 0 (fun _ => v) N, J, A, S, n, z) := by
  simp only [s210_0, s210_1, s210_2, s210_3, s210_4, isR_ref, isR_nul, isR_ra, nl_int, nl_ref, nl_jk, nl_ra, nl_nul, rf_some, rf_none, nc_nil, nc_i, nc_l, nc_r, nc_n, nc_x, true_and, and_true, and_self, if_true, if_false, ite_true, ite_false, Option.toList_some, Option.toList_none, List.cons_append, List.nil_append, nar_b1, nar_b0, T_ite, reduceIte, reduceCtorEq, one_ne, eq_self, mkC_t, hn_t, va_up_same, not_true_eq_false, not_false_eq_true, Nat.reduceLeDiff, Nat.reduceAdd, Nat.reduceEqDiff, Nat.reduceMul, Nat.reduceSub, Nat.reduceDiv, Nat.reduceMod, Nat.reduceLT, false_and, and_false, false_or, or_false, true_or, or_true, Nat.add_zero, Nat.zero_add, Nat.mul_zero, Nat.zero_mul, Nat.add_left_cancel_iff, Nat.add_right_cancel_iff, hs, hr]
  rw [show (0 : Int32) = nI 0 from rfl, fill2_l hr hs hN N 0 _ (by omega)]
theorem Sheet_remake (hL : LC A S n) {q : Nat} (hq : q < 4) {x y : Int32} : T Ω (d + 1) 73 0 [.ref (34 + 2 * q), .int x, .int y] [] (I, J, A, S, n, z) Q = Q none (wrs (wr (wr I (34 + 2 * q) 1 x) (34 + 2 * q) 2 y) (35 + 2 * q) 0 (fun _ => 0) 40, J, A, S, n, z) := by
  obtain ⟨y1, y2, y3, y4, y5, y6⟩ := ySh hL hq
  simp only [s73_0, s73_1, s73_2, s73_5, s73_6, s73_7, s73_10, s73_11, s73_14, s73_15, s73_18, isR_ref, isR_nul, isR_ra, nl_int, nl_ref, nl_jk, nl_ra, nl_nul, rf_some, rf_none, nc_nil, nc_i, nc_l, nc_r, nc_n, nc_x, true_and, and_true, and_self, if_true, if_false, ite_true, ite_false, Option.toList_some, Option.toList_none, List.cons_append, List.nil_append, nar_b1, nar_b0, T_ite, reduceIte, reduceCtorEq, one_ne, eq_self, mkC_t, hn_t, va_up_same, not_true_eq_false, not_false_eq_true, Nat.reduceLeDiff, Nat.reduceAdd, Nat.reduceEqDiff, Nat.reduceMul, Nat.reduceSub, Nat.reduceDiv, Nat.reduceMod, Nat.reduceLT, false_and, and_false, false_or, or_false, true_or, or_true, Nat.add_zero, Nat.zero_add, Nat.mul_zero, Nat.zero_mul, Nat.add_left_cancel_iff, Nat.add_right_cancel_iff, y1, y2, y3, y4, y5, y6, fill2 y6 y5 (by decide)]
theorem RD_sheet_bad (hL : LC A S n) {x y w : Int32} (h : ¬ ((0 ≤ x ∧ x < 4) ∧ (y = -1 ∨ (0 ≤ y ∧ y < 3)))) : T Ω (d + 2) 112 0 [.ref 0, .int x, .int y, .int w] [] (I, J, A, S, n, z) Q = Q (some (.int (-2))) (I, J, A, S, n, z) := by
  simp only [s112_0, s112_1, s112_4, s112_7, s112_8, s112_9, s112_12, s112_13, s112_16, s112_19, s112_21, isR_ref, isR_nul, isR_ra, nl_int, nl_ref, nl_jk, nl_ra, nl_nul, rf_some, rf_none, nc_nil, nc_i, nc_l, nc_r, nc_n, nc_x, true_and, and_true, and_self, if_true, if_false, ite_true, ite_false, Option.toList_some, Option.toList_none, List.cons_append, List.nil_append, nar_b1, nar_b0, T_ite, reduceIte, reduceCtorEq, one_ne, eq_self, mkC_t, hn_t, va_up_same, not_true_eq_false, not_false_eq_true, Nat.reduceLeDiff, Nat.reduceAdd, Nat.reduceEqDiff, Nat.reduceMul, Nat.reduceSub, Nat.reduceDiv, Nat.reduceMod, Nat.reduceLT, false_and, and_false, false_or, or_false, true_or, or_true, Nat.add_zero, Nat.zero_add, Nat.mul_zero, Nat.zero_mul, Nat.add_left_cancel_iff, Nat.add_right_cancel_iff, C_isSheet, C_isSort, b01_0]
  grind
theorem RD_sheet_off (hL : LC A S n) {q : Nat} (hq : q < 4) {w : Int32} : T Ω (d + 2) 112 0 [.ref 0, .int (nI q), .int (-1), .int w] [] (I, J, A, S, n, z) Q = Q (some (.int 1)) (wrs (wr (wr I (34 + 2 * q) 1 (-1)) (34 + 2 * q) 2 0) (35 + 2 * q) 0 (fun _ => 0) 40, J, A, S, n, z) := by
  obtain ⟨y1, y2, y3, y4, y5, y6⟩ := ySh hL hq
  have e1 : 0 ≤ nI q ∧ nI q < 4 := ⟨nI_pos' (by omega), nI_lt (b := 4) hq (by decide)⟩
  simp only [s112_0, s112_1, s112_4, s112_7, s112_8, s112_9, s112_12, s112_13, s112_16, s112_19, s112_21, s112_22, s112_23, s112_24, s112_27, s112_28, s112_31, s112_32, s112_33, s112_34, s112_35, s112_38, s112_39, s112_40, s112_41, s112_43, s112_46, s112_48, s112_49, s112_50, s112_53, s112_55, s112_56, s112_57, s112_60, s112_61, s112_62, s112_63, s112_64, s112_67, s112_68, isR_ref, isR_nul, isR_ra, nl_int, nl_ref, nl_jk, nl_ra, nl_nul, rf_some, rf_none, nc_nil, nc_i, nc_l, nc_r, nc_n, nc_x, true_and, and_true, and_self, if_true, if_false, ite_true, ite_false, Option.toList_some, Option.toList_none, List.cons_append, List.nil_append, nar_b1, nar_b0, T_ite, reduceIte, reduceCtorEq, one_ne, eq_self, mkC_t, hn_t, va_up_same, not_true_eq_false, not_false_eq_true, Nat.reduceLeDiff, Nat.reduceAdd, Nat.reduceEqDiff, Nat.reduceMul, Nat.reduceSub, Nat.reduceDiv, Nat.reduceMod, Nat.reduceLT, false_and, and_false, false_or, or_false, true_or, or_true, Nat.add_zero, Nat.zero_add, Nat.mul_zero, Nat.zero_mul, Nat.add_left_cancel_iff, Nat.add_right_cancel_iff, LCS_0 hL, LCn_0 hL, LCS_1 hL, LCn_1 hL, LCS_2 hL, LCn_2 hL, LCS_3 hL, LCn_3 hL, LCS_4 hL, LCn_4 hL, LCS_5 hL, LCn_5 hL, LCS_6 hL, LCn_6 hL, LCS_7 hL, LCn_7 hL, LCS_8 hL, LCn_8 hL, LCS_9 hL, LCn_9 hL, LCS_10 hL, LCn_10 hL, LCS_11 hL, LCn_11 hL, LCS_12 hL, LCn_12 hL, LCS_13 hL, LCn_13 hL, LCS_14 hL, LCn_14 hL, LCS_15 hL, LCn_15 hL, LCS_16 hL, LCn_16 hL, LCS_17 hL, LCn_17 hL, LCS_18 hL, LCn_18 hL, LCS_19 hL, LCn_19 hL, LCS_20 hL, LCn_20 hL, LCS_21 hL, LCn_21 hL, LCS_22 hL, LCn_22 hL, LCS_23 hL, LCn_23 hL, LCS_24 hL, LCn_24 hL, LCS_25 hL, LCn_25 hL, LCS_26 hL, LCn_26 hL, LCS_27 hL, LCn_27 hL, LCS_28 hL, LCn_28 hL, LCS_29 hL, LCn_29 hL, LCS_30 hL, LCn_30 hL, LCS_31 hL, LCn_31 hL, LCS_32 hL, LCn_32 hL, LCS_33 hL, LCn_33 hL, LCS_34 hL, LCn_34 hL, LCS_35 hL, LCn_35 hL, LCS_36 hL, LCn_36 hL, LCS_37 hL, LCn_37 hL, LCS_38 hL, LCn_38 hL, LCS_39 hL, LCn_39 hL, LCS_40 hL, LCn_40 hL, LCS_41 hL, LCn_41 hL, LCA_0_0 hL, LCA_0_1 hL, LCA_0_2 hL, LCA_0_3 hL, LCA_0_4 hL, LCA_0_5 hL, LCA_1_0 hL, LCA_1_1 hL, LCA_1_2 hL, LCA_2_0 hL, LCA_2_1 hL, LCA_5_0 hL, LCA_5_2 hL, LCA_5_3 hL, LCA_10_0 hL, LCA_10_2 hL, LCA_10_3 hL, LCA_10_4 hL, LCA_10_8 hL, LCA_16_0 hL, LCA_16_1 hL, LCA_16_4 hL, LCA_17_0 hL, LCA_17_1 hL, LCA_17_2 hL, LCA_24_0 hL, LCA_24_1 hL, LCA_25_0 hL, LCA_25_1 hL, LCA_25_2 hL, LCA_30_0 hL, LCA_30_1 hL, LCA_30_2 hL, LCA_30_3 hL, LCA_31_0 hL, LCA_31_1 hL, LCA_34_0 hL, LCA_36_0 hL, LCA_38_0 hL, LCA_40_0 hL, C_isSheet, C_isSort, b01_0, e1, vpin (show q < 2147483648 by omega), nI_cl (show q < 2147483648 by omega), hq, y1, y2, y3, Sheet_remake hL hq]
theorem RD_sheet_on (hL : LC A S n) {q so : Nat} (hq : q < 4) (hso : so ≤ 2) {w : Int32} : T Ω (d + 2) 112 0 [.ref 0, .int (nI q), .int (nI so), .int w] [] (I, J, A, S, n, z) Q = if w ≤ 40 then (if 0 ≤ w then Q (some (.int 1)) (wrs (wr (wr I (34 + 2 * q) 1 (nI so)) (34 + 2 * q) 2 w) (35 + 2 * q) 0 (fun _ => 0) 40, J, A, S, n, z) else Q (some (.int (-14))) (I, J, A, S, n, z)) else Q (some (.int (-2))) (I, J, A, S, n, z) := by
  obtain ⟨y1, y2, y3, y4, y5, y6⟩ := ySh hL hq
  have e1 : 0 ≤ nI q ∧ nI q < 4 := ⟨nI_pos' (by omega), nI_lt (b := 4) hq (by decide)⟩
  have e2 : 0 ≤ nI so ∧ nI so < 3 := ⟨nI_pos' (by omega), nI_lt (b := 3) (by omega) (by decide)⟩
  have e3 : ¬ nI so = -1 := fun h => absurd (h ▸ nI_pos (show so < 2147483648 by omega)) (by decide)
  simp only [s112_0, s112_1, s112_4, s112_7, s112_8, s112_9, s112_12, s112_13, s112_16, s112_19, s112_21, s112_22, s112_23, s112_24, s112_27, s112_28, s112_31, s112_32, s112_33, s112_34, s112_35, s112_38, s112_39, s112_40, s112_41, s112_43, s112_46, s112_48, s112_49, s112_50, s112_53, s112_55, s112_56, s112_57, s112_60, s112_61, s112_62, s112_63, s112_64, s112_67, s112_68, isR_ref, isR_nul, isR_ra, nl_int, nl_ref, nl_jk, nl_ra, nl_nul, rf_some, rf_none, nc_nil, nc_i, nc_l, nc_r, nc_n, nc_x, true_and, and_true, and_self, if_true, if_false, ite_true, ite_false, Option.toList_some, Option.toList_none, List.cons_append, List.nil_append, nar_b1, nar_b0, T_ite, reduceIte, reduceCtorEq, one_ne, eq_self, mkC_t, hn_t, va_up_same, not_true_eq_false, not_false_eq_true, Nat.reduceLeDiff, Nat.reduceAdd, Nat.reduceEqDiff, Nat.reduceMul, Nat.reduceSub, Nat.reduceDiv, Nat.reduceMod, Nat.reduceLT, false_and, and_false, false_or, or_false, true_or, or_true, Nat.add_zero, Nat.zero_add, Nat.mul_zero, Nat.zero_mul, Nat.add_left_cancel_iff, Nat.add_right_cancel_iff, LCS_0 hL, LCn_0 hL, LCS_1 hL, LCn_1 hL, LCS_2 hL, LCn_2 hL, LCS_3 hL, LCn_3 hL, LCS_4 hL, LCn_4 hL, LCS_5 hL, LCn_5 hL, LCS_6 hL, LCn_6 hL, LCS_7 hL, LCn_7 hL, LCS_8 hL, LCn_8 hL, LCS_9 hL, LCn_9 hL, LCS_10 hL, LCn_10 hL, LCS_11 hL, LCn_11 hL, LCS_12 hL, LCn_12 hL, LCS_13 hL, LCn_13 hL, LCS_14 hL, LCn_14 hL, LCS_15 hL, LCn_15 hL, LCS_16 hL, LCn_16 hL, LCS_17 hL, LCn_17 hL, LCS_18 hL, LCn_18 hL, LCS_19 hL, LCn_19 hL, LCS_20 hL, LCn_20 hL, LCS_21 hL, LCn_21 hL, LCS_22 hL, LCn_22 hL, LCS_23 hL, LCn_23 hL, LCS_24 hL, LCn_24 hL, LCS_25 hL, LCn_25 hL, LCS_26 hL, LCn_26 hL, LCS_27 hL, LCn_27 hL, LCS_28 hL, LCn_28 hL, LCS_29 hL, LCn_29 hL, LCS_30 hL, LCn_30 hL, LCS_31 hL, LCn_31 hL, LCS_32 hL, LCn_32 hL, LCS_33 hL, LCn_33 hL, LCS_34 hL, LCn_34 hL, LCS_35 hL, LCn_35 hL, LCS_36 hL, LCn_36 hL, LCS_37 hL, LCn_37 hL, LCS_38 hL, LCn_38 hL, LCS_39 hL, LCn_39 hL, LCS_40 hL, LCn_40 hL, LCS_41 hL, LCn_41 hL, LCA_0_0 hL, LCA_0_1 hL, LCA_0_2 hL, LCA_0_3 hL, LCA_0_4 hL, LCA_0_5 hL, LCA_1_0 hL, LCA_1_1 hL, LCA_1_2 hL, LCA_2_0 hL, LCA_2_1 hL, LCA_5_0 hL, LCA_5_2 hL, LCA_5_3 hL, LCA_10_0 hL, LCA_10_2 hL, LCA_10_3 hL, LCA_10_4 hL, LCA_10_8 hL, LCA_16_0 hL, LCA_16_1 hL, LCA_16_4 hL, LCA_17_0 hL, LCA_17_1 hL, LCA_17_2 hL, LCA_24_0 hL, LCA_24_1 hL, LCA_25_0 hL, LCA_25_1 hL, LCA_25_2 hL, LCA_30_0 hL, LCA_30_1 hL, LCA_30_2 hL, LCA_30_3 hL, LCA_31_0 hL, LCA_31_1 hL, LCA_34_0 hL, LCA_36_0 hL, LCA_38_0 hL, LCA_40_0 hL, C_isSheet, C_isSort, b01_0, e1, e2, e3, vpin (show q < 2147483648 by omega), nI_cl (show q < 2147483648 by omega), hq, y1, y2, y3, Sheet_remake hL hq]
theorem M_sheet_bad (hL : LM A S n) {x y w : Int32} (h : ¬ ((0 ≤ x ∧ x ≤ 3) ∧ (-1 ≤ y ∧ y ≤ 2))) : T Ω (d + 2) 185 0 [.ref 46, .int x, .int y, .int w, jk] [] (I, J, A, S, n, z) Q = Q (some (.int (-2))) (I, J, A, S, n, z) := by
  simp only [s185_0, s185_1, s185_4, s185_7, s185_8, s185_9, s185_10, s185_13, s185_16, s185_18, isR_ref, isR_nul, isR_ra, nl_int, nl_ref, nl_jk, nl_ra, nl_nul, rf_some, rf_none, nc_nil, nc_i, nc_l, nc_r, nc_n, nc_x, true_and, and_true, and_self, if_true, if_false, ite_true, ite_false, Option.toList_some, Option.toList_none, List.cons_append, List.nil_append, nar_b1, nar_b0, T_ite, reduceIte, reduceCtorEq, one_ne, eq_self, mkC_t, hn_t, va_up_same, not_true_eq_false, not_false_eq_true, Nat.reduceLeDiff, Nat.reduceAdd, Nat.reduceEqDiff, Nat.reduceMul, Nat.reduceSub, Nat.reduceDiv, Nat.reduceMod, Nat.reduceLT, false_and, and_false, false_or, or_false, true_or, or_true, Nat.add_zero, Nat.zero_add, Nat.mul_zero, Nat.zero_mul, Nat.add_left_cancel_iff, Nat.add_right_cancel_iff, M_isSheet, M_in, b01_0]
  grind
theorem M_sheet_off (hL : LM A S n) {q : Nat} (hq : q < 4) {w : Int32} : T Ω (d + 2) 185 0 [.ref 46, .int (nI q), .int (-1), .int w, jk] [] (I, J, A, S, n, z) Q = Q (some (.int 1)) (wr I 64 q (-1), J, A, S, n, z) := by
  have e1 : 0 ≤ nI q ∧ nI q ≤ 3 := ⟨nI_pos' (by omega), nI_le (b := 3) (by omega) (by decide)⟩
  have e2 : (-1 : Int32) ≤ -1 ∧ (-1 : Int32) ≤ 2 := by decide
  simp only [s185_0, s185_1, s185_4, s185_7, s185_8, s185_9, s185_10, s185_13, s185_16, s185_18, s185_19, s185_20, s185_21, s185_24, s185_25, s185_28, s185_29, s185_30, s185_31, s185_32, isR_ref, isR_nul, isR_ra, nl_int, nl_ref, nl_jk, nl_ra, nl_nul, rf_some, rf_none, nc_nil, nc_i, nc_l, nc_r, nc_n, nc_x, true_and, and_true, and_self, if_true, if_false, ite_true, ite_false, Option.toList_some, Option.toList_none, List.cons_append, List.nil_append, nar_b1, nar_b0, T_ite, reduceIte, reduceCtorEq, one_ne, eq_self, mkC_t, hn_t, va_up_same, not_true_eq_false, not_false_eq_true, Nat.reduceLeDiff, Nat.reduceAdd, Nat.reduceEqDiff, Nat.reduceMul, Nat.reduceSub, Nat.reduceDiv, Nat.reduceMod, Nat.reduceLT, false_and, and_false, false_or, or_false, true_or, or_true, Nat.add_zero, Nat.zero_add, Nat.mul_zero, Nat.zero_mul, Nat.add_left_cancel_iff, Nat.add_right_cancel_iff, LMS_46 hL, LMn_46 hL, LMS_47 hL, LMn_47 hL, LMS_48 hL, LMn_48 hL, LMS_49 hL, LMn_49 hL, LMS_50 hL, LMn_50 hL, LMS_51 hL, LMn_51 hL, LMS_52 hL, LMn_52 hL, LMS_53 hL, LMn_53 hL, LMS_54 hL, LMn_54 hL, LMS_55 hL, LMn_55 hL, LMS_56 hL, LMn_56 hL, LMS_57 hL, LMn_57 hL, LMS_58 hL, LMn_58 hL, LMS_59 hL, LMn_59 hL, LMS_60 hL, LMn_60 hL, LMS_61 hL, LMn_61 hL, LMS_62 hL, LMn_62 hL, LMS_63 hL, LMn_63 hL, LMS_64 hL, LMn_64 hL, LMS_65 hL, LMn_65 hL, LMS_66 hL, LMn_66 hL, LMS_67 hL, LMn_67 hL, LMA_46_2 hL, LMA_46_3 hL, LMA_46_5 hL, LMA_46_6 hL, LMA_46_7 hL, LMA_46_11 hL, LMA_46_12 hL, LMA_46_13 hL, LMA_46_21 hL, LMA_46_22 hL, LMA_46_23 hL, LMA_46_24 hL, LMA_46_25 hL, LMA_46_26 hL, LMA_46_27 hL, LMA_46_31 hL, LMA_46_32 hL, LMA_46_33 hL, LMA_46_34 hL, LMA_46_35 hL, LMA_46_36 hL, M_isSheet, M_in, b01_0, e1, e2, vpin (show q < 2147483648 by omega), nI_cl (show q < 2147483648 by omega), hq]
theorem M_sheet_l (hL : LM A S n) {q sz : Nat} (hq : q < 4) (hz : sz ≤ 40) {y : Int32} : ∀ (k i : Nat) (I : Nat → Nat → Int32), i + k = sz → T Ω d 185 66 [.ref 46, .int (nI q), .int y, .int (nI sz), .int (nI i)] [] (I, J, A, S, n, z) Q = Q (some (.int 1)) (wrs I 66 (40 * q + i) (fun _ => 0) k, J, A, S, n, z) := by
  intro k
  induction k with
  | zero =>
    intro i I hi
    obtain rfl : i = sz := by omega
    rw [s185_66]
    simp only [s185_68, s185_69, s185_72, s185_73, s185_76, s185_78, s185_79, s185_80, s185_82, s185_83, s185_84, s185_85, s185_88, s185_91, s185_92, isR_ref, isR_nul, isR_ra, nl_int, nl_ref, nl_jk, nl_ra, nl_nul, rf_some, rf_none, nc_nil, nc_i, nc_l, nc_r, nc_n, nc_x, true_and, and_true, and_self, if_true, if_false, ite_true, ite_false, Option.toList_some, Option.toList_none, List.cons_append, List.nil_append, nar_b1, nar_b0, T_ite, reduceIte, reduceCtorEq, one_ne, eq_self, mkC_t, hn_t, va_up_same, not_true_eq_false, not_false_eq_true, Nat.reduceLeDiff, Nat.reduceAdd, Nat.reduceEqDiff, Nat.reduceMul, Nat.reduceSub, Nat.reduceDiv, Nat.reduceMod, Nat.reduceLT, false_and, and_false, false_or, or_false, true_or, or_true, Nat.add_zero, Nat.zero_add, Nat.mul_zero, Nat.zero_mul, Nat.add_left_cancel_iff, Nat.add_right_cancel_iff, LMS_46 hL, LMn_46 hL, LMS_47 hL, LMn_47 hL, LMS_48 hL, LMn_48 hL, LMS_49 hL, LMn_49 hL, LMS_50 hL, LMn_50 hL, LMS_51 hL, LMn_51 hL, LMS_52 hL, LMn_52 hL, LMS_53 hL, LMn_53 hL, LMS_54 hL, LMn_54 hL, LMS_55 hL, LMn_55 hL, LMS_56 hL, LMn_56 hL, LMS_57 hL, LMn_57 hL, LMS_58 hL, LMn_58 hL, LMS_59 hL, LMn_59 hL, LMS_60 hL, LMn_60 hL, LMS_61 hL, LMn_61 hL, LMS_62 hL, LMn_62 hL, LMS_63 hL, LMn_63 hL, LMS_64 hL, LMn_64 hL, LMS_65 hL, LMn_65 hL, LMS_66 hL, LMn_66 hL, LMS_67 hL, LMn_67 hL, LMA_46_2 hL, LMA_46_3 hL, LMA_46_5 hL, LMA_46_6 hL, LMA_46_7 hL, LMA_46_11 hL, LMA_46_12 hL, LMA_46_13 hL, LMA_46_21 hL, LMA_46_22 hL, LMA_46_23 hL, LMA_46_24 hL, LMA_46_25 hL, LMA_46_26 hL, LMA_46_27 hL, LMA_46_31 hL, LMA_46_32 hL, LMA_46_33 hL, LMA_46_34 hL, LMA_46_35 hL, LMA_46_36 hL, b01_0, b01_n, wr_rd, swf, ti_0, ti_1, ti_2, ti_3, ti_4, ti_5, ti_6, ti_7, ti_8, ti_9, ti_10, ti_11, ti_12, ti_13, ti_14, ti_15, ti_16, ti_17, ti_18, ti_19, ti_20, ti_21, ti_22, ti_23, ti_24, ti_25, ti_26, ti_27, ti_28, ti_29, ti_30, ti_31, Int.reduceAdd]
    try simp (disch := omega) only [lit_0, lit_1, lit_2, lit_3, lit_4, lit_5, lit_6, lit_7, lit_8, lit_9, lit_10, lit_11, lit_12, lit_13, lit_14, lit_15, lit_16, lit_17, lit_18, lit_19, lit_20, lit_31, lit_32, lit_37, lit_40, lit_41, lit_42, lit_43, lit_45, lit_47, lit_48, lit_49, lit_57, lit_59, lit_60, lit_61, lit_63, lit_64, lit_97, lit_99, lit_100, lit_122, lit_160, lit_161, lit_170, lit_255, lit_343, lit_427, lit_991, lit_999, lit_1020, lit_1190, lit_5551, lit_9999, lit_1000000, nI_add, pk_mul, nI_subs, nI_div, nI_rem, nI_lt', nI_le', nI_eq', nI_cl, vpin, wr_rd, isR_ref, isR_nul, isR_ra, nl_int, nl_ref, nl_jk, nl_ra, nl_nul, rf_some, rf_none, nc_nil, nc_i, nc_l, nc_r, nc_n, nc_x, true_and, and_true, and_self, if_true, if_false, ite_true, ite_false, Option.toList_some, Option.toList_none, List.cons_append, List.nil_append, nar_b1, nar_b0, T_ite, reduceIte, reduceCtorEq, one_ne, eq_self, mkC_t, hn_t, va_up_same, not_true_eq_false, not_false_eq_true, Nat.reduceLeDiff, Nat.reduceAdd, Nat.reduceEqDiff, Nat.reduceMul, Nat.reduceSub, Nat.reduceDiv, Nat.reduceMod, Nat.reduceLT, false_and, and_false, false_or, or_false, true_or, or_true, Nat.add_zero, Nat.zero_add, Nat.mul_zero, Nat.zero_mul, Nat.add_left_cancel_iff, Nat.add_right_cancel_iff]
    rw [if_pos (Nat.le_refl _)]
    rfl
  | succ k ih =>
    intro i I hi
    rw [s185_66]
    simp only [s185_68, s185_69, s185_72, s185_73, s185_76, s185_78, s185_79, s185_80, s185_82, s185_83, s185_84, s185_85, s185_88, s185_91, s185_92, isR_ref, isR_nul, isR_ra, nl_int, nl_ref, nl_jk, nl_ra, nl_nul, rf_some, rf_none, nc_nil, nc_i, nc_l, nc_r, nc_n, nc_x, true_and, and_true, and_self, if_true, if_false, ite_true, ite_false, Option.toList_some, Option.toList_none, List.cons_append, List.nil_append, nar_b1, nar_b0, T_ite, reduceIte, reduceCtorEq, one_ne, eq_self, mkC_t, hn_t, va_up_same, not_true_eq_false, not_false_eq_true, Nat.reduceLeDiff, Nat.reduceAdd, Nat.reduceEqDiff, Nat.reduceMul, Nat.reduceSub, Nat.reduceDiv, Nat.reduceMod, Nat.reduceLT, false_and, and_false, false_or, or_false, true_or, or_true, Nat.add_zero, Nat.zero_add, Nat.mul_zero, Nat.zero_mul, Nat.add_left_cancel_iff, Nat.add_right_cancel_iff, LMS_46 hL, LMn_46 hL, LMS_47 hL, LMn_47 hL, LMS_48 hL, LMn_48 hL, LMS_49 hL, LMn_49 hL, LMS_50 hL, LMn_50 hL, LMS_51 hL, LMn_51 hL, LMS_52 hL, LMn_52 hL, LMS_53 hL, LMn_53 hL, LMS_54 hL, LMn_54 hL, LMS_55 hL, LMn_55 hL, LMS_56 hL, LMn_56 hL, LMS_57 hL, LMn_57 hL, LMS_58 hL, LMn_58 hL, LMS_59 hL, LMn_59 hL, LMS_60 hL, LMn_60 hL, LMS_61 hL, LMn_61 hL, LMS_62 hL, LMn_62 hL, LMS_63 hL, LMn_63 hL, LMS_64 hL, LMn_64 hL, LMS_65 hL, LMn_65 hL, LMS_66 hL, LMn_66 hL, LMS_67 hL, LMn_67 hL, LMA_46_2 hL, LMA_46_3 hL, LMA_46_5 hL, LMA_46_6 hL, LMA_46_7 hL, LMA_46_11 hL, LMA_46_12 hL, LMA_46_13 hL, LMA_46_21 hL, LMA_46_22 hL, LMA_46_23 hL, LMA_46_24 hL, LMA_46_25 hL, LMA_46_26 hL, LMA_46_27 hL, LMA_46_31 hL, LMA_46_32 hL, LMA_46_33 hL, LMA_46_34 hL, LMA_46_35 hL, LMA_46_36 hL, b01_0, b01_n, wr_rd, swf, ti_0, ti_1, ti_2, ti_3, ti_4, ti_5, ti_6, ti_7, ti_8, ti_9, ti_10, ti_11, ti_12, ti_13, ti_14, ti_15, ti_16, ti_17, ti_18, ti_19, ti_20, ti_21, ti_22, ti_23, ti_24, ti_25, ti_26, ti_27, ti_28, ti_29, ti_30, ti_31, Int.reduceAdd]
    try simp (disch := omega) only [lit_0, lit_1, lit_2, lit_3, lit_4, lit_5, lit_6, lit_7, lit_8, lit_9, lit_10, lit_11, lit_12, lit_13, lit_14, lit_15, lit_16, lit_17, lit_18, lit_19, lit_20, lit_31, lit_32, lit_37, lit_40, lit_41, lit_42, lit_43, lit_45, lit_47, lit_48, lit_49, lit_57, lit_59, lit_60, lit_61, lit_63, lit_64, lit_97, lit_99, lit_100, lit_122, lit_160, lit_161, lit_170, lit_255, lit_343, lit_427, lit_991, lit_999, lit_1020, lit_1190, lit_5551, lit_9999, lit_1000000, nI_add, pk_mul, nI_subs, nI_div, nI_rem, nI_lt', nI_le', nI_eq', nI_cl, vpin, wr_rd, isR_ref, isR_nul, isR_ra, nl_int, nl_ref, nl_jk, nl_ra, nl_nul, rf_some, rf_none, nc_nil, nc_i, nc_l, nc_r, nc_n, nc_x, true_and, and_true, and_self, if_true, if_false, ite_true, ite_false, Option.toList_some, Option.toList_none, List.cons_append, List.nil_append, nar_b1, nar_b0, T_ite, reduceIte, reduceCtorEq, one_ne, eq_self, mkC_t, hn_t, va_up_same, not_true_eq_false, not_false_eq_true, Nat.reduceLeDiff, Nat.reduceAdd, Nat.reduceEqDiff, Nat.reduceMul, Nat.reduceSub, Nat.reduceDiv, Nat.reduceMod, Nat.reduceLT, false_and, and_false, false_or, or_false, true_or, or_true, Nat.add_zero, Nat.zero_add, Nat.mul_zero, Nat.zero_mul, Nat.add_left_cancel_iff, Nat.add_right_cancel_iff]
    rw [if_neg (by omega)]
    have e1 : 40 * q + i < 160 := by omega
    simp only [e1, true_and]
    rw [ih (i + 1) _ (by omega), wrs]
    rfl
theorem M_sheet_on (hL : LM A S n) {q so : Nat} (hq : q < 4) (hso : so ≤ 2) {w : Int32} : T Ω (d + 2) 185 0 [.ref 46, .int (nI q), .int (nI so), .int w, jk] [] (I, J, A, S, n, z) Q = if w ≤ 40 then (if 0 ≤ w then Q (some (.int 1)) (wrs (wr (wr I 64 q (nI so)) 65 q w) 66 (40 * q) (fun _ => 0) w.toNatClampNeg, J, A, S, n, z) else Q (some (.int (-14))) (I, J, A, S, n, z)) else Q (some (.int (-2))) (I, J, A, S, n, z) := by
  have e1 : 0 ≤ nI q ∧ nI q ≤ 3 := ⟨nI_pos' (by omega), nI_le (b := 3) (by omega) (by decide)⟩
  have e2 : (-1 : Int32) ≤ nI so ∧ nI so ≤ 2 := ⟨Int32.le_trans (by decide) (nI_pos' (by omega)), nI_le (b := 2) (by omega) (by decide)⟩
  have e3 : ¬ nI so = -1 := fun h => absurd (h ▸ nI_pos (show so < 2147483648 by omega)) (by decide)
  simp only [s185_0, s185_1, s185_4, s185_7, s185_8, s185_9, s185_10, s185_13, s185_16, s185_18, s185_19, s185_20, s185_21, s185_24, s185_25, s185_28, s185_29, s185_30, s185_31, s185_32, s185_33, s185_34, s185_36, s185_39, s185_41, s185_42, s185_43, s185_46, s185_48, s185_49, s185_50, s185_53, s185_54, s185_55, s185_56, s185_57, s185_60, s185_61, s185_62, s185_63, s185_64, isR_ref, isR_nul, isR_ra, nl_int, nl_ref, nl_jk, nl_ra, nl_nul, rf_some, rf_none, nc_nil, nc_i, nc_l, nc_r, nc_n, nc_x, true_and, and_true, and_self, if_true, if_false, ite_true, ite_false, Option.toList_some, Option.toList_none, List.cons_append, List.nil_append, nar_b1, nar_b0, T_ite, reduceIte, reduceCtorEq, one_ne, eq_self, mkC_t, hn_t, va_up_same, not_true_eq_false, not_false_eq_true, Nat.reduceLeDiff, Nat.reduceAdd, Nat.reduceEqDiff, Nat.reduceMul, Nat.reduceSub, Nat.reduceDiv, Nat.reduceMod, Nat.reduceLT, false_and, and_false, false_or, or_false, true_or, or_true, Nat.add_zero, Nat.zero_add, Nat.mul_zero, Nat.zero_mul, Nat.add_left_cancel_iff, Nat.add_right_cancel_iff, LMS_46 hL, LMn_46 hL, LMS_47 hL, LMn_47 hL, LMS_48 hL, LMn_48 hL, LMS_49 hL, LMn_49 hL, LMS_50 hL, LMn_50 hL, LMS_51 hL, LMn_51 hL, LMS_52 hL, LMn_52 hL, LMS_53 hL, LMn_53 hL, LMS_54 hL, LMn_54 hL, LMS_55 hL, LMn_55 hL, LMS_56 hL, LMn_56 hL, LMS_57 hL, LMn_57 hL, LMS_58 hL, LMn_58 hL, LMS_59 hL, LMn_59 hL, LMS_60 hL, LMn_60 hL, LMS_61 hL, LMn_61 hL, LMS_62 hL, LMn_62 hL, LMS_63 hL, LMn_63 hL, LMS_64 hL, LMn_64 hL, LMS_65 hL, LMn_65 hL, LMS_66 hL, LMn_66 hL, LMS_67 hL, LMn_67 hL, LMA_46_2 hL, LMA_46_3 hL, LMA_46_5 hL, LMA_46_6 hL, LMA_46_7 hL, LMA_46_11 hL, LMA_46_12 hL, LMA_46_13 hL, LMA_46_21 hL, LMA_46_22 hL, LMA_46_23 hL, LMA_46_24 hL, LMA_46_25 hL, LMA_46_26 hL, LMA_46_27 hL, LMA_46_31 hL, LMA_46_32 hL, LMA_46_33 hL, LMA_46_34 hL, LMA_46_35 hL, LMA_46_36 hL, M_isSheet, M_in, b01_0, e1, e2, e3, vpin (show q < 2147483648 by omega), nI_cl (show q < 2147483648 by omega), hq]
  split
  · next h40 =>
    split
    · next h0 =>
      obtain ⟨k, hk, rfl⟩ := w10 (N := 40) (by decide) h0 h40
      rw [show (0 : Int32) = nI 0 from rfl, M_sheet_l hL hq hk k 0 _ (by omega), nI_cl (by omega)]
      rfl
    · rfl
  · rfl
set_option maxHeartbeats 1000000 in
theorem cpl_sheet {x y w : Int32} : cplI Ω (d + 2) Inv 112 185 [.ref 0, .int x, .int y, .int w] [.ref 46, .int x, .int y, .int w, jk] := by
  rintro ⟨I, J, A, S, n, z⟩ ⟨p, m, t, s, iL, iP, iD, iT, iB, iI, iS⟩
  simp only [hn, hI, hA, hSh] at iL iP iD iT iB iI iS
  have lc := iL.1
  have lm := iL.2.1
  obtain ⟨p1, p2, p3, p4, p5⟩ := id iP
  rcases oor_or x 3 with hx | ⟨q, hq, rfl⟩
  · have e1 := oor_lt (N := 3) (by decide) hx
    have e2 := oor_in (N := 3) (by decide) hx
    rw [RD_sheet_bad lc (fun q => e1 q.1)]
    refine ⟨_, rfl, by first | exact (see46 lm).1 | exact Nat.lt_of_lt_of_le (by decide) lm.1, by first | exact (see46 lm).2 | (show (S 46).1 = 11; rw [LMS_46 lm]), ?_⟩
    rw [M_sheet_bad lm (fun q => e2 q.1)]
    exact ⟨rfl, ⟨p, m, t, s, iL, iP, iD, iT, iB, iI, iS⟩, Nat.le_add_right _ _, Nat.le_add_right _ _⟩
  · by_cases hy : y = -1
    · subst hy
      rw [RD_sheet_off lc (show q < 4 by omega)]
      refine ⟨_, rfl, by first | exact (see46 lm).1 | exact Nat.lt_of_lt_of_le (by decide) lm.1, by first | exact (see46 lm).2 | (show (S 46).1 = 11; rw [LMS_46 lm]), ?_⟩
      rw [M_sheet_off lm (show q < 4 by omega)]
      refine ⟨rfl, Inv_gen iL (fun _ _ => rfl) iP iD iT iB iI (IvS_up (q := q) iS (fun r h1 h2 => ⟨?_, ?_, ?_, ?_, fun i hi => ?_⟩) (Or.inl ⟨?_, ?_⟩)) (fun a ha => ?_) ?_ ?_, Nat.le_add_right _ _, Nat.le_add_right _ _⟩
      iterate 4 (simp (disch := omega) only [wr_ne, wrs_ne, wr_at_ne])
      · simp (disch := omega) only [wr_ne, wrs_ne, wr_at_ne]
      · simp (disch := omega) only [wr_ne, wrs_ne, wr_at_ne, wr_at]
      · simp (disch := omega) only [wr_at]
      · unfold kp at ha
        simp (disch := omega) only [wr_ne, wrs_ne]
      · simp (disch := omega) only [wr_ne, wrs_ne]
      · simp (disch := omega) only [wr_ne, wrs_ne]
    · rcases oor_or y 2 with hy2 | ⟨so, hso, rfl⟩
      · have e1 := oor_lt (N := 2) (by decide) hy2
        have e2 := oor_in (N := 2) (by decide) hy2
        rw [RD_sheet_bad lc (fun q => q.2.elim hy e1)]
        refine ⟨_, rfl, by first | exact (see46 lm).1 | exact Nat.lt_of_lt_of_le (by decide) lm.1, by first | exact (see46 lm).2 | (show (S 46).1 = 11; rw [LMS_46 lm]), ?_⟩
        rw [M_sheet_bad lm (fun q => e2 ⟨by
          have h3 := q.2.1
          rw [Int32.le_iff_toInt_le] at h3 ⊢
          have : y.toInt ≠ -1 := fun h => hy (Int32.toInt_inj.mp h)
          have e4 : (-1 : Int32).toInt = -1 := rfl
          have e5 : (0 : Int32).toInt = 0 := rfl
          omega, q.2.2⟩)]
        exact ⟨rfl, ⟨p, m, t, s, iL, iP, iD, iT, iB, iI, iS⟩, Nat.le_add_right _ _, Nat.le_add_right _ _⟩
      · rw [RD_sheet_on lc (show q < 4 by omega) hso]
        by_cases h40 : w ≤ 40
        · by_cases h0 : 0 ≤ w
          · rw [if_pos h40, if_pos h0]
            refine ⟨_, rfl, by first | exact (see46 lm).1 | exact Nat.lt_of_lt_of_le (by decide) lm.1, by first | exact (see46 lm).2 | (show (S 46).1 = 11; rw [LMS_46 lm]), ?_⟩
            rw [M_sheet_on lm (show q < 4 by omega) hso, if_pos h40, if_pos h0]
            obtain ⟨k, hk, rfl⟩ := w10 (N := 40) (by decide) h0 h40
            rw [nI_cl (by omega)]
            refine ⟨rfl, Inv_gen iL (fun _ _ => rfl) iP iD iT iB iI (IvS_up (q := q) iS (fun r h1 h2 => ⟨?_, ?_, ?_, ?_, fun i hi => ?_⟩) (Or.inr ⟨so, k, hso, hk, ?_, ?_, ?_, ?_, fun i hi => ?_⟩)) (fun a ha => ?_) ?_ ?_, Nat.le_add_right _ _, Nat.le_add_right _ _⟩
            iterate 4 (simp (disch := omega) only [wr_ne, wrs_ne, wr_at_ne])
            · rw [wrs_rd, if_neg (by omega)]
              simp (disch := omega) only [wr_ne, wrs_ne, wr_at_ne]
            · simp (disch := omega) only [wr_ne, wrs_ne, wr_at_ne, wr_at]
            · simp (disch := omega) only [wr_ne, wrs_ne, wr_at_ne, wr_at]
            · simp (disch := omega) only [wr_ne, wrs_ne, wr_at_ne, wr_at]
            · simp (disch := omega) only [wr_ne, wrs_ne, wr_at_ne, wr_at]
            · rw [wrs_ne (by omega), wr_ne (by omega), wr_ne (by omega), wrs_rd, if_pos (by omega), wrs_rd, if_pos (by omega)]
            · unfold kp at ha
              simp (disch := omega) only [wr_ne, wrs_ne]
            · simp (disch := omega) only [wr_ne, wrs_ne]
            · simp (disch := omega) only [wr_ne, wrs_ne]
          · rw [if_pos h40, if_neg h0]
            refine ⟨_, rfl, by first | exact (see46 lm).1 | exact Nat.lt_of_lt_of_le (by decide) lm.1, by first | exact (see46 lm).2 | (show (S 46).1 = 11; rw [LMS_46 lm]), ?_⟩
            rw [M_sheet_on lm (show q < 4 by omega) hso, if_pos h40, if_neg h0]
            exact ⟨rfl, ⟨p, m, t, s, iL, iP, iD, iT, iB, iI, iS⟩, Nat.le_add_right _ _, Nat.le_add_right _ _⟩
        · rw [if_neg h40]
          refine ⟨_, rfl, by first | exact (see46 lm).1 | exact Nat.lt_of_lt_of_le (by decide) lm.1, by first | exact (see46 lm).2 | (show (S 46).1 = 11; rw [LMS_46 lm]), ?_⟩
          rw [M_sheet_on lm (show q < 4 by omega) hso, if_neg h40]
          exact ⟨rfl, ⟨p, m, t, s, iL, iP, iD, iT, iB, iI, iS⟩, Nat.le_add_right _ _, Nat.le_add_right _ _⟩
end CP
