section EV
variable {Ω : AO} {d : Nat} {L st : List Value} {h : AH} {Q : Option Value → AH → Prop} {I I' I'' I0 : Nat → Nat → Int32} {J J' : Nat → Nat → Int64} {A A' : Nat → Nat → Option Nat} {S : Nat → Nat × Nat} {n z z' : Nat} {x y b : Int32} {t : Nat → Nat} {s i e : Nat}
/-- the strings -/
def sv (j k : Nat) : Nat := ((sBy.getD j []).getD k 0).toNatClampNeg
def sl (j : Nat) : Nat := (sBy.getD j []).length
theorem sv_at : ∀ j, j < 14 → ∀ k, k < 100 → (sBy.getD j []).getD k 0 = nI (sv j k) ∧ sv j k < 128 := by decide +kernel
theorem sl_le : ∀ j, j < 14 → sl j ≤ 100 := by decide +kernel
theorem xAs {j : Nat} (hj : j < 14) : xA Ω (16 + j + 16) = some (.byte, sl j, fun k => .int ((sBy.getD j []).getD k 0)) := by
  unfold xA sl
  rw [if_neg (by omega), if_neg (by omega), if_neg (by omega), if_pos (by omega), show 16 + j + 16 - 32 = j by omega]
theorem shr0 (x : Int32) : x >>> ((0 : Int32) &&& 31) = x := by
  rw [show ((0 : Int32) &&& 31) = 0 from by decide]
  apply Int32.toBitVec_inj.mp
  simp
theorem Str_len {r j : Nat} (hr : r = 16 + j) (hj : j < 14) : T Ω (d + 1) 192 0 [.retAddr r] [] h Q = Q (some (.int (nI (sl j)))) h := by
  subst hr
  have g : 16 ≤ 16 + j ∧ 16 + j < 30 := by omega
  simp only [s192_0, s192_1, s192_4, s192_5, s192_6, s192_9, s192_10, s193_0, s193_3, s193_6, s193_7, s193_10, s193_13, s193_14, s192_4x (xAs hj), isR_ref, isR_nul, isR_ra, nl_int, nl_ref, nl_jk, nl_ra, nl_nul, rf_some, rf_none, nc_nil, nc_i, nc_l, nc_r, nc_n, nc_x, true_and, and_true, and_self, if_true, if_false, ite_true, ite_false, Option.toList_some, Option.toList_none, List.cons_append, List.nil_append, nar_b1, nar_b0, T_ite, reduceIte, reduceCtorEq, one_ne, eq_self, mkC_t, hn_t, va_up_same, not_true_eq_false, not_false_eq_true, Nat.reduceLeDiff, Nat.reduceAdd, Nat.reduceEqDiff, Nat.reduceMul, Nat.reduceSub, Nat.reduceDiv, Nat.reduceMod, Nat.reduceLT, false_and, and_false, false_or, or_false, true_or, or_true, Nat.add_zero, Nat.zero_add, Nat.mul_zero, Nat.zero_mul, Nat.add_left_cancel_iff, Nat.add_right_cancel_iff, g, show ¬ (1 : Int32) = 0 from by decide, show (narrow .byte (.int 0) = .int 0) = True from eq_true rfl, shr0]
theorem Str_chr {r j k : Nat} (hr : r = 16 + j) (hj : j < 14) (hk : k < sl j) : T Ω (d + 4) 194 0 [.retAddr r, .int (nI k)] [] h Q = Q (some (.int (nI (sv j k)))) h := by
  subst hr
  have h100 := sl_le j hj
  have g : 16 ≤ 16 + j ∧ 16 + j < 30 := by omega
  obtain ⟨e1, e2⟩ := sv_at j hj k (by omega)
  have e3 : nI (sv j k) &&& 255 = nI (sv j k) := by
    rw [pk_andN (n := sv j k) (by omega) 8 (by decide), Nat.mod_eq_of_lt (by omega)]
  have e4 : ((nI (sv j k)).toUInt32 % 65536).toInt32 = nI (sv j k) := by
    rw [pk_char, pk_tn (by omega), Nat.mod_eq_of_lt (by omega)]
  have e5 : (narrow .char (.int (nI (sv j k))) = .int (nI (sv j k))) = True := eq_true (pk_charN (by omega)).1
  have g1 : ¬ nI k < 0 := nI_pos (by omega)
  have g2 : nI k < nI (sl j) := nI_lt hk (by omega)
  simp only [s194_0, s194_1, s194_4, s194_7, s194_8, s194_11, s194_12, s194_15, s195_0, s195_3, s195_6, s195_7, s195_10, s195_13, s195_14, s195_17, s195_18, s199_0, s199_1, s199_2, s199_3, s199_6, s199_7, s199_8, s199_9, s199_12, s199_13, s199_14, s196_0, s196_1, s196_2, s196_5, s196_8, s196_9, s203_0, s203_1, s203_4, s203_5, s203_6, s203_9, s203_10, s203_11, s203_16, s203_17, s199_2x (xAs hj), s199_8x (xAs hj), isR_ref, isR_nul, isR_ra, nl_int, nl_ref, nl_jk, nl_ra, nl_nul, rf_some, rf_none, nc_nil, nc_i, nc_l, nc_r, nc_n, nc_x, true_and, and_true, and_self, if_true, if_false, ite_true, ite_false, Option.toList_some, Option.toList_none, List.cons_append, List.nil_append, nar_b1, nar_b0, T_ite, reduceIte, reduceCtorEq, one_ne, eq_self, mkC_t, hn_t, va_up_same, not_true_eq_false, not_false_eq_true, Nat.reduceLeDiff, Nat.reduceAdd, Nat.reduceEqDiff, Nat.reduceMul, Nat.reduceSub, Nat.reduceDiv, Nat.reduceMod, Nat.reduceLT, false_and, and_false, false_or, or_false, true_or, or_true, Nat.add_zero, Nat.zero_add, Nat.mul_zero, Nat.zero_mul, Nat.add_left_cancel_iff, Nat.add_right_cancel_iff, g, show ¬ (1 : Int32) = 0 from by decide, g1, g2, vpin (show k < 2147483648 by omega), nI_cl (show k < 2147483648 by omega), hk, e1, e3, e4, e5]
/-- the tape, as the class keeps it -/
def CX (I : Nat → Nat → Int32) (t : Nat → Nat) (s : Nat) : Prop := s ≤ 160 ∧ I 10 1 = nI s ∧ ∀ i, i < s → I 11 i = nI (t i) ∧ t i < 256
theorem b01T {c : Bool} : (if c = true then (1 : Int32) else 0) = 0 ↔ ¬ c = true := by cases c <;> simp
theorem cBl {b : Nat} (hb : b < 256) : T Ω d 35 0 [.int (nI b)] [] h Q = Q (some (.int (if isBl b = true then 1 else 0))) h := by
  have e1 : (nI b = 32) = (b = 32) := nI_eq' (b := 32) (by omega) (by decide)
  have e2 : (nI b = 10) = (b = 10) := nI_eq' (b := 10) (by omega) (by decide)
  simp only [s35_0, s35_1, s35_3, s35_6, s35_7, s35_9, s35_12, s35_13, s35_16, s35_17, isR_ref, isR_nul, isR_ra, nl_int, nl_ref, nl_jk, nl_ra, nl_nul, rf_some, rf_none, nc_nil, nc_i, nc_l, nc_r, nc_n, nc_x, true_and, and_true, and_self, if_true, if_false, ite_true, ite_false, Option.toList_some, Option.toList_none, List.cons_append, List.nil_append, nar_b1, nar_b0, T_ite, reduceIte, reduceCtorEq, one_ne, eq_self, mkC_t, hn_t, va_up_same, not_true_eq_false, not_false_eq_true, Nat.reduceLeDiff, Nat.reduceAdd, Nat.reduceEqDiff, Nat.reduceMul, Nat.reduceSub, Nat.reduceDiv, Nat.reduceMod, Nat.reduceLT, false_and, and_false, false_or, or_false, true_or, or_true, Nat.add_zero, Nat.zero_add, Nat.mul_zero, Nat.zero_mul, Nat.add_left_cancel_iff, Nat.add_right_cancel_iff, e1, e2, isBl_iff]
  grind
theorem cLt {b : Nat} (hb : b < 256) : T Ω d 37 0 [.int (nI b)] [] h Q = Q (some (.int (if isL b = true then 1 else 0))) h := by
  have e1 : (nI b < 97) = (b < 97) := nI_lt' (b := 97) (by omega) (by decide)
  have e2 : ((122 : Int32) < nI b) = (122 < b) := nI_lt' (a := 122) (by decide) (by omega)
  simp only [s37_0, s37_1, s37_3, s37_6, s37_7, s37_9, s37_12, s37_13, s37_16, s37_17, isR_ref, isR_nul, isR_ra, nl_int, nl_ref, nl_jk, nl_ra, nl_nul, rf_some, rf_none, nc_nil, nc_i, nc_l, nc_r, nc_n, nc_x, true_and, and_true, and_self, if_true, if_false, ite_true, ite_false, Option.toList_some, Option.toList_none, List.cons_append, List.nil_append, nar_b1, nar_b0, T_ite, reduceIte, reduceCtorEq, one_ne, eq_self, mkC_t, hn_t, va_up_same, not_true_eq_false, not_false_eq_true, Nat.reduceLeDiff, Nat.reduceAdd, Nat.reduceEqDiff, Nat.reduceMul, Nat.reduceSub, Nat.reduceDiv, Nat.reduceMod, Nat.reduceLT, false_and, and_false, false_or, or_false, true_or, or_true, Nat.add_zero, Nat.zero_add, Nat.mul_zero, Nat.zero_mul, Nat.add_left_cancel_iff, Nat.add_right_cancel_iff, e1, e2, isL_iff]
  grind
theorem cDg {b : Nat} (hb : b < 256) : T Ω d 38 0 [.int (nI b)] [] h Q = Q (some (.int (if isG b = true then 1 else 0))) h := by
  have e1 : (nI b < 48) = (b < 48) := nI_lt' (b := 48) (by omega) (by decide)
  have e2 : ((57 : Int32) < nI b) = (57 < b) := nI_lt' (a := 57) (by decide) (by omega)
  simp only [s38_0, s38_1, s38_3, s38_6, s38_7, s38_9, s38_12, s38_13, s38_16, s38_17, isR_ref, isR_nul, isR_ra, nl_int, nl_ref, nl_jk, nl_ra, nl_nul, rf_some, rf_none, nc_nil, nc_i, nc_l, nc_r, nc_n, nc_x, true_and, and_true, and_self, if_true, if_false, ite_true, ite_false, Option.toList_some, Option.toList_none, List.cons_append, List.nil_append, nar_b1, nar_b0, T_ite, reduceIte, reduceCtorEq, one_ne, eq_self, mkC_t, hn_t, va_up_same, not_true_eq_false, not_false_eq_true, Nat.reduceLeDiff, Nat.reduceAdd, Nat.reduceEqDiff, Nat.reduceMul, Nat.reduceSub, Nat.reduceDiv, Nat.reduceMod, Nat.reduceLT, false_and, and_false, false_or, or_false, true_or, or_true, Nat.add_zero, Nat.zero_add, Nat.mul_zero, Nat.zero_mul, Nat.add_left_cancel_iff, Nat.add_right_cancel_iff, e1, e2, isG_iff]
  grind
theorem cCt (hL : LC A S n) (hX : CX I t s) (hi : i < s) : T Ω (d + 1) 36 0 [.ref 10, .int (nI i)] [] (I, J, A, S, n, z) Q = Q (some (.int (if ct t i = true then 1 else 0))) (I, J, A, S, n, z) := by
  obtain ⟨h1, h2, h3⟩ := hX
  obtain ⟨q1, q2⟩ := h3 i hi
  by_cases h0 : i = 0
  · subst h0
    have e : ¬ ct t 0 = true := by rw [ct_iff]; exact fun h => h.1 rfl
    simp only [s36_0, s36_1, s36_60, s36_61, isR_ref, isR_nul, isR_ra, nl_int, nl_ref, nl_jk, nl_ra, nl_nul, rf_some, rf_none, nc_nil, nc_i, nc_l, nc_r, nc_n, nc_x, true_and, and_true, and_self, if_true, if_false, ite_true, ite_false, Option.toList_some, Option.toList_none, List.cons_append, List.nil_append, nar_b1, nar_b0, T_ite, reduceIte, reduceCtorEq, one_ne, eq_self, mkC_t, hn_t, va_up_same, not_true_eq_false, not_false_eq_true, Nat.reduceLeDiff, Nat.reduceAdd, Nat.reduceEqDiff, Nat.reduceMul, Nat.reduceSub, Nat.reduceDiv, Nat.reduceMod, Nat.reduceLT, false_and, and_false, false_or, or_false, true_or, or_true, Nat.add_zero, Nat.zero_add, Nat.mul_zero, Nat.zero_mul, Nat.add_left_cancel_iff, Nat.add_right_cancel_iff, show nI 0 ≤ 0 from by decide, if_neg e]
  · obtain ⟨q3, q4⟩ := h3 (i - 1) (by omega)
    have g1 : ¬ nI i ≤ 0 := nI_nle (by omega) (by omega)
    have g2 : nI i - 1 = nI (i - 1) := nI_m1 (by omega)
    simp only [s36_0, s36_1, s36_4, s36_5, s36_8, s36_9, s36_10, s36_13, s36_16, s36_17, s36_20, s36_21, s36_22, s36_23, s36_24, s36_27, s36_30, s36_31, s36_34, s36_35, s36_36, s36_39, s36_42, s36_43, s36_46, s36_47, s36_48, s36_49, s36_50, s36_53, s36_56, s36_57, s36_60, s36_61, isR_ref, isR_nul, isR_ra, nl_int, nl_ref, nl_jk, nl_ra, nl_nul, rf_some, rf_none, nc_nil, nc_i, nc_l, nc_r, nc_n, nc_x, true_and, and_true, and_self, if_true, if_false, ite_true, ite_false, Option.toList_some, Option.toList_none, List.cons_append, List.nil_append, nar_b1, nar_b0, T_ite, reduceIte, reduceCtorEq, one_ne, eq_self, mkC_t, hn_t, va_up_same, not_true_eq_false, not_false_eq_true, Nat.reduceLeDiff, Nat.reduceAdd, Nat.reduceEqDiff, Nat.reduceMul, Nat.reduceSub, Nat.reduceDiv, Nat.reduceMod, Nat.reduceLT, false_and, and_false, false_or, or_false, true_or, or_true, Nat.add_zero, Nat.zero_add, Nat.mul_zero, Nat.zero_mul, Nat.add_left_cancel_iff, Nat.add_right_cancel_iff, LCS_0 hL, LCn_0 hL, LCS_1 hL, LCn_1 hL, LCS_2 hL, LCn_2 hL, LCS_3 hL, LCn_3 hL, LCS_4 hL, LCn_4 hL, LCS_5 hL, LCn_5 hL, LCS_6 hL, LCn_6 hL, LCS_7 hL, LCn_7 hL, LCS_8 hL, LCn_8 hL, LCS_9 hL, LCn_9 hL, LCS_10 hL, LCn_10 hL, LCS_11 hL, LCn_11 hL, LCS_12 hL, LCn_12 hL, LCS_13 hL, LCn_13 hL, LCS_14 hL, LCn_14 hL, LCS_15 hL, LCn_15 hL, LCS_16 hL, LCn_16 hL, LCS_17 hL, LCn_17 hL, LCS_18 hL, LCn_18 hL, LCS_19 hL, LCn_19 hL, LCS_20 hL, LCn_20 hL, LCS_21 hL, LCn_21 hL, LCS_22 hL, LCn_22 hL, LCS_23 hL, LCn_23 hL, LCS_24 hL, LCn_24 hL, LCS_25 hL, LCn_25 hL, LCS_26 hL, LCn_26 hL, LCS_27 hL, LCn_27 hL, LCS_28 hL, LCn_28 hL, LCS_29 hL, LCn_29 hL, LCS_30 hL, LCn_30 hL, LCS_31 hL, LCn_31 hL, LCS_32 hL, LCn_32 hL, LCS_33 hL, LCn_33 hL, LCS_34 hL, LCn_34 hL, LCS_35 hL, LCn_35 hL, LCS_36 hL, LCn_36 hL, LCS_37 hL, LCn_37 hL, LCS_38 hL, LCn_38 hL, LCS_39 hL, LCn_39 hL, LCS_40 hL, LCn_40 hL, LCS_41 hL, LCn_41 hL, LCA_0_0 hL, LCA_0_1 hL, LCA_0_2 hL, LCA_0_3 hL, LCA_0_4 hL, LCA_0_5 hL, LCA_1_0 hL, LCA_1_1 hL, LCA_1_2 hL, LCA_2_0 hL, LCA_2_1 hL, LCA_5_0 hL, LCA_5_2 hL, LCA_5_3 hL, LCA_10_0 hL, LCA_10_2 hL, LCA_10_3 hL, LCA_10_4 hL, LCA_10_8 hL, LCA_16_0 hL, LCA_16_1 hL, LCA_16_4 hL, LCA_17_0 hL, LCA_17_1 hL, LCA_17_2 hL, LCA_24_0 hL, LCA_24_1 hL, LCA_25_0 hL, LCA_25_1 hL, LCA_25_2 hL, LCA_30_0 hL, LCA_30_1 hL, LCA_30_2 hL, LCA_30_3 hL, LCA_31_0 hL, LCA_31_1 hL, LCA_34_0 hL, LCA_36_0 hL, LCA_38_0 hL, LCA_40_0 hL, g1, g2, vpin (show i < 2147483648 by omega), nI_cl (show i < 2147483648 by omega), show i < 160 by omega, vpin (show i - 1 < 2147483648 by omega), nI_cl (show i - 1 < 2147483648 by omega), show i - 1 < 160 by omega, q1, q3, cLt q2, cLt q4, cDg q2, cDg q4, b01_0]
    have e := ct_iff (t := t) (i := i)
    cases hc : ct t i <;> cases ha : isL (t i) <;> cases hb : isL (t (i - 1)) <;> cases hg : isG (t i) <;> cases hh : isG (t (i - 1)) <;> simp [hc, ha, hb, hg, hh, h0] at e <;> simp
theorem cEr_l (hL : LC A S n) (hX : CX I t s) {v1 : Int32} : ∀ (k q : Nat), q + k = s → T Ω (d + 2) 39 4 [.ref 10, .int v1, .int (nI q)] [] (I, J, A, S, n, z) Q = Q (some (.int (nI (erk t k q)))) (I, J, A, S, n, z) := by
  have h1 := hX.1
  intro k
  induction k with
  | zero =>
    intro q hq
    obtain rfl : q = s := by omega
    rw [s39_4]
    simp only [s39_5, s39_6, s39_9, s39_26, s39_27, isR_ref, isR_nul, isR_ra, nl_int, nl_ref, nl_jk, nl_ra, nl_nul, rf_some, rf_none, nc_nil, nc_i, nc_l, nc_r, nc_n, nc_x, true_and, and_true, and_self, if_true, if_false, ite_true, ite_false, Option.toList_some, Option.toList_none, List.cons_append, List.nil_append, nar_b1, nar_b0, T_ite, reduceIte, reduceCtorEq, one_ne, eq_self, mkC_t, hn_t, va_up_same, not_true_eq_false, not_false_eq_true, Nat.reduceLeDiff, Nat.reduceAdd, Nat.reduceEqDiff, Nat.reduceMul, Nat.reduceSub, Nat.reduceDiv, Nat.reduceMod, Nat.reduceLT, false_and, and_false, false_or, or_false, true_or, or_true, Nat.add_zero, Nat.zero_add, Nat.mul_zero, Nat.zero_mul, Nat.add_left_cancel_iff, Nat.add_right_cancel_iff, LCS_0 hL, LCn_0 hL, LCS_1 hL, LCn_1 hL, LCS_2 hL, LCn_2 hL, LCS_3 hL, LCn_3 hL, LCS_4 hL, LCn_4 hL, LCS_5 hL, LCn_5 hL, LCS_6 hL, LCn_6 hL, LCS_7 hL, LCn_7 hL, LCS_8 hL, LCn_8 hL, LCS_9 hL, LCn_9 hL, LCS_10 hL, LCn_10 hL, LCS_11 hL, LCn_11 hL, LCS_12 hL, LCn_12 hL, LCS_13 hL, LCn_13 hL, LCS_14 hL, LCn_14 hL, LCS_15 hL, LCn_15 hL, LCS_16 hL, LCn_16 hL, LCS_17 hL, LCn_17 hL, LCS_18 hL, LCn_18 hL, LCS_19 hL, LCn_19 hL, LCS_20 hL, LCn_20 hL, LCS_21 hL, LCn_21 hL, LCS_22 hL, LCn_22 hL, LCS_23 hL, LCn_23 hL, LCS_24 hL, LCn_24 hL, LCS_25 hL, LCn_25 hL, LCS_26 hL, LCn_26 hL, LCS_27 hL, LCn_27 hL, LCS_28 hL, LCn_28 hL, LCS_29 hL, LCn_29 hL, LCS_30 hL, LCn_30 hL, LCS_31 hL, LCn_31 hL, LCS_32 hL, LCn_32 hL, LCS_33 hL, LCn_33 hL, LCS_34 hL, LCn_34 hL, LCS_35 hL, LCn_35 hL, LCS_36 hL, LCn_36 hL, LCS_37 hL, LCn_37 hL, LCS_38 hL, LCn_38 hL, LCS_39 hL, LCn_39 hL, LCS_40 hL, LCn_40 hL, LCS_41 hL, LCn_41 hL, LCA_0_0 hL, LCA_0_1 hL, LCA_0_2 hL, LCA_0_3 hL, LCA_0_4 hL, LCA_0_5 hL, LCA_1_0 hL, LCA_1_1 hL, LCA_1_2 hL, LCA_2_0 hL, LCA_2_1 hL, LCA_5_0 hL, LCA_5_2 hL, LCA_5_3 hL, LCA_10_0 hL, LCA_10_2 hL, LCA_10_3 hL, LCA_10_4 hL, LCA_10_8 hL, LCA_16_0 hL, LCA_16_1 hL, LCA_16_4 hL, LCA_17_0 hL, LCA_17_1 hL, LCA_17_2 hL, LCA_24_0 hL, LCA_24_1 hL, LCA_25_0 hL, LCA_25_1 hL, LCA_25_2 hL, LCA_30_0 hL, LCA_30_1 hL, LCA_30_2 hL, LCA_30_3 hL, LCA_31_0 hL, LCA_31_1 hL, LCA_34_0 hL, LCA_36_0 hL, LCA_38_0 hL, LCA_40_0 hL, hX.2.1, Int32.le_refl, erk]
  | succ k ih =>
    intro q hq
    have g1 : ¬ nI s ≤ nI q := nI_ge (by omega) (by omega)
    rw [s39_4]
    simp only [s39_5, s39_6, s39_9, s39_12, s39_13, s39_14, s39_17, isR_ref, isR_nul, isR_ra, nl_int, nl_ref, nl_jk, nl_ra, nl_nul, rf_some, rf_none, nc_nil, nc_i, nc_l, nc_r, nc_n, nc_x, true_and, and_true, and_self, if_true, if_false, ite_true, ite_false, Option.toList_some, Option.toList_none, List.cons_append, List.nil_append, nar_b1, nar_b0, T_ite, reduceIte, reduceCtorEq, one_ne, eq_self, mkC_t, hn_t, va_up_same, not_true_eq_false, not_false_eq_true, Nat.reduceLeDiff, Nat.reduceAdd, Nat.reduceEqDiff, Nat.reduceMul, Nat.reduceSub, Nat.reduceDiv, Nat.reduceMod, Nat.reduceLT, false_and, and_false, false_or, or_false, true_or, or_true, Nat.add_zero, Nat.zero_add, Nat.mul_zero, Nat.zero_mul, Nat.add_left_cancel_iff, Nat.add_right_cancel_iff, LCS_0 hL, LCn_0 hL, LCS_1 hL, LCn_1 hL, LCS_2 hL, LCn_2 hL, LCS_3 hL, LCn_3 hL, LCS_4 hL, LCn_4 hL, LCS_5 hL, LCn_5 hL, LCS_6 hL, LCn_6 hL, LCS_7 hL, LCn_7 hL, LCS_8 hL, LCn_8 hL, LCS_9 hL, LCn_9 hL, LCS_10 hL, LCn_10 hL, LCS_11 hL, LCn_11 hL, LCS_12 hL, LCn_12 hL, LCS_13 hL, LCn_13 hL, LCS_14 hL, LCn_14 hL, LCS_15 hL, LCn_15 hL, LCS_16 hL, LCn_16 hL, LCS_17 hL, LCn_17 hL, LCS_18 hL, LCn_18 hL, LCS_19 hL, LCn_19 hL, LCS_20 hL, LCn_20 hL, LCS_21 hL, LCn_21 hL, LCS_22 hL, LCn_22 hL, LCS_23 hL, LCn_23 hL, LCS_24 hL, LCn_24 hL, LCS_25 hL, LCn_25 hL, LCS_26 hL, LCn_26 hL, LCS_27 hL, LCn_27 hL, LCS_28 hL, LCn_28 hL, LCS_29 hL, LCn_29 hL, LCS_30 hL, LCn_30 hL, LCS_31 hL, LCn_31 hL, LCS_32 hL, LCn_32 hL, LCS_33 hL, LCn_33 hL, LCS_34 hL, LCn_34 hL, LCS_35 hL, LCn_35 hL, LCS_36 hL, LCn_36 hL, LCS_37 hL, LCn_37 hL, LCS_38 hL, LCn_38 hL, LCS_39 hL, LCn_39 hL, LCS_40 hL, LCn_40 hL, LCS_41 hL, LCn_41 hL, LCA_0_0 hL, LCA_0_1 hL, LCA_0_2 hL, LCA_0_3 hL, LCA_0_4 hL, LCA_0_5 hL, LCA_1_0 hL, LCA_1_1 hL, LCA_1_2 hL, LCA_2_0 hL, LCA_2_1 hL, LCA_5_0 hL, LCA_5_2 hL, LCA_5_3 hL, LCA_10_0 hL, LCA_10_2 hL, LCA_10_3 hL, LCA_10_4 hL, LCA_10_8 hL, LCA_16_0 hL, LCA_16_1 hL, LCA_16_4 hL, LCA_17_0 hL, LCA_17_1 hL, LCA_17_2 hL, LCA_24_0 hL, LCA_24_1 hL, LCA_25_0 hL, LCA_25_1 hL, LCA_25_2 hL, LCA_30_0 hL, LCA_30_1 hL, LCA_30_2 hL, LCA_30_3 hL, LCA_31_0 hL, LCA_31_1 hL, LCA_34_0 hL, LCA_36_0 hL, LCA_38_0 hL, LCA_40_0 hL, hX.2.1, g1, cCt hL hX (show q < s by omega), b01_0, erk]
    by_cases hc : ct t q = true
    · rw [if_neg (by simpa using hc), if_pos hc]
      simp only [s39_20, s39_23, isR_ref, isR_nul, isR_ra, nl_int, nl_ref, nl_jk, nl_ra, nl_nul, rf_some, rf_none, nc_nil, nc_i, nc_l, nc_r, nc_n, nc_x, true_and, and_true, and_self, if_true, if_false, ite_true, ite_false, Option.toList_some, Option.toList_none, List.cons_append, List.nil_append, nar_b1, nar_b0, T_ite, reduceIte, reduceCtorEq, one_ne, eq_self, mkC_t, hn_t, va_up_same, not_true_eq_false, not_false_eq_true, Nat.reduceLeDiff, Nat.reduceAdd, Nat.reduceEqDiff, Nat.reduceMul, Nat.reduceSub, Nat.reduceDiv, Nat.reduceMod, Nat.reduceLT, false_and, and_false, false_or, or_false, true_or, or_true, Nat.add_zero, Nat.zero_add, Nat.mul_zero, Nat.zero_mul, Nat.add_left_cancel_iff, Nat.add_right_cancel_iff, nI_1]
      exact ih (q + 1) (by omega)
    · rw [if_pos hc, if_neg hc]
      simp only [s39_26, s39_27, isR_ref, isR_nul, isR_ra, nl_int, nl_ref, nl_jk, nl_ra, nl_nul, rf_some, rf_none, nc_nil, nc_i, nc_l, nc_r, nc_n, nc_x, true_and, and_true, and_self, if_true, if_false, ite_true, ite_false, Option.toList_some, Option.toList_none, List.cons_append, List.nil_append, nar_b1, nar_b0, T_ite, reduceIte, reduceCtorEq, one_ne, eq_self, mkC_t, hn_t, va_up_same, not_true_eq_false, not_false_eq_true, Nat.reduceLeDiff, Nat.reduceAdd, Nat.reduceEqDiff, Nat.reduceMul, Nat.reduceSub, Nat.reduceDiv, Nat.reduceMod, Nat.reduceLT, false_and, and_false, false_or, or_false, true_or, or_true, Nat.add_zero, Nat.zero_add, Nat.mul_zero, Nat.zero_mul, Nat.add_left_cancel_iff, Nat.add_right_cancel_iff]
theorem cEr (hL : LC A S n) (hX : CX I t s) (hi : i < s) : T Ω (d + 2) 39 0 [.ref 10, .int (nI i), jk] [] (I, J, A, S, n, z) Q = Q (some (.int (nI (eR t s i)))) (I, J, A, S, n, z) := by
  simp only [s39_0, s39_1, s39_2, s39_3, isR_ref, isR_nul, isR_ra, nl_int, nl_ref, nl_jk, nl_ra, nl_nul, rf_some, rf_none, nc_nil, nc_i, nc_l, nc_r, nc_n, nc_x, true_and, and_true, and_self, if_true, if_false, ite_true, ite_false, Option.toList_some, Option.toList_none, List.cons_append, List.nil_append, nar_b1, nar_b0, T_ite, reduceIte, reduceCtorEq, one_ne, eq_self, mkC_t, hn_t, va_up_same, not_true_eq_false, not_false_eq_true, Nat.reduceLeDiff, Nat.reduceAdd, Nat.reduceEqDiff, Nat.reduceMul, Nat.reduceSub, Nat.reduceDiv, Nat.reduceMod, Nat.reduceLT, false_and, and_false, false_or, or_false, true_or, or_true, Nat.add_zero, Nat.zero_add, Nat.mul_zero, Nat.zero_mul, Nat.add_left_cancel_iff, Nat.add_right_cancel_iff, nI_1]
  exact cEr_l hL hX (s - (i + 1)) (i + 1) (by omega)
theorem wd_sv : ∀ w, w < 12 → sl (w + 1) = (wdl.getD w []).length ∧ ∀ k, k < 8 → sv (w + 1) k = (wdl.getD w []).getD k 0 := by decide +kernel
theorem wd_len : ∀ w, w < 12 → (wdl.getD w []).length ≤ 6 := by decide
theorem cIw_l (hL : LC A S n) (hX : CX I t s) {w : Nat} (hw : w < 12) (hie : i ≤ e) (hes : e ≤ s) (hlen : e - i = (wdl.getD w []).length) : ∀ (k q : Nat), q + k = e → i ≤ q → T Ω (d + 5) 42 15 [.ref 10, .retAddr (16 + (w + 1)), .int (nI i), .int (nI e), .int (nI q)] [] (I, J, A, S, n, z) Q = Q (some (.int (if mF t i (wdl.getD w []) k q = true then 1 else 0))) (I, J, A, S, n, z) := by
  obtain ⟨x1, x2, x3⟩ := hX
  obtain ⟨l1, l2⟩ := wd_sv w hw
  have l3 := wd_len w hw
  intro k
  induction k with
  | zero =>
    intro q hq hiq
    obtain rfl : q = e := by omega
    rw [s42_15]
    simp only [s42_17, s42_18, s42_47, s42_48, isR_ref, isR_nul, isR_ra, nl_int, nl_ref, nl_jk, nl_ra, nl_nul, rf_some, rf_none, nc_nil, nc_i, nc_l, nc_r, nc_n, nc_x, true_and, and_true, and_self, if_true, if_false, ite_true, ite_false, Option.toList_some, Option.toList_none, List.cons_append, List.nil_append, nar_b1, nar_b0, T_ite, reduceIte, reduceCtorEq, one_ne, eq_self, mkC_t, hn_t, va_up_same, not_true_eq_false, not_false_eq_true, Nat.reduceLeDiff, Nat.reduceAdd, Nat.reduceEqDiff, Nat.reduceMul, Nat.reduceSub, Nat.reduceDiv, Nat.reduceMod, Nat.reduceLT, false_and, and_false, false_or, or_false, true_or, or_true, Nat.add_zero, Nat.zero_add, Nat.mul_zero, Nat.zero_mul, Nat.add_left_cancel_iff, Nat.add_right_cancel_iff, Int32.le_refl, mF]
  | succ k ih =>
    intro q hq hiq
    have g1 : ¬ nI e ≤ nI q := nI_ge (by omega) (by omega)
    have g2 : nI q - nI i = nI (q - i) := nI_subs hiq
    have g3 : 16 ≤ 16 + (w + 1) ∧ 16 + (w + 1) < 30 := by omega
    obtain ⟨q1, q2⟩ := x3 q (by omega)
    have hsv := (sv_at (w + 1) (by omega) (q - i) (by omega)).2
    rw [l2 (q - i) (by omega)] at hsv
    rw [s42_15]
    simp only [s42_17, s42_18, s42_21, s42_22, s42_25, s42_27, s42_28, s42_29, s42_31, s42_32, s42_33, s42_36, isR_ref, isR_nul, isR_ra, nl_int, nl_ref, nl_jk, nl_ra, nl_nul, rf_some, rf_none, nc_nil, nc_i, nc_l, nc_r, nc_n, nc_x, true_and, and_true, and_self, if_true, if_false, ite_true, ite_false, Option.toList_some, Option.toList_none, List.cons_append, List.nil_append, nar_b1, nar_b0, T_ite, reduceIte, reduceCtorEq, one_ne, eq_self, mkC_t, hn_t, va_up_same, not_true_eq_false, not_false_eq_true, Nat.reduceLeDiff, Nat.reduceAdd, Nat.reduceEqDiff, Nat.reduceMul, Nat.reduceSub, Nat.reduceDiv, Nat.reduceMod, Nat.reduceLT, false_and, and_false, false_or, or_false, true_or, or_true, Nat.add_zero, Nat.zero_add, Nat.mul_zero, Nat.zero_mul, Nat.add_left_cancel_iff, Nat.add_right_cancel_iff, LCS_0 hL, LCn_0 hL, LCS_1 hL, LCn_1 hL, LCS_2 hL, LCn_2 hL, LCS_3 hL, LCn_3 hL, LCS_4 hL, LCn_4 hL, LCS_5 hL, LCn_5 hL, LCS_6 hL, LCn_6 hL, LCS_7 hL, LCn_7 hL, LCS_8 hL, LCn_8 hL, LCS_9 hL, LCn_9 hL, LCS_10 hL, LCn_10 hL, LCS_11 hL, LCn_11 hL, LCS_12 hL, LCn_12 hL, LCS_13 hL, LCn_13 hL, LCS_14 hL, LCn_14 hL, LCS_15 hL, LCn_15 hL, LCS_16 hL, LCn_16 hL, LCS_17 hL, LCn_17 hL, LCS_18 hL, LCn_18 hL, LCS_19 hL, LCn_19 hL, LCS_20 hL, LCn_20 hL, LCS_21 hL, LCn_21 hL, LCS_22 hL, LCn_22 hL, LCS_23 hL, LCn_23 hL, LCS_24 hL, LCn_24 hL, LCS_25 hL, LCn_25 hL, LCS_26 hL, LCn_26 hL, LCS_27 hL, LCn_27 hL, LCS_28 hL, LCn_28 hL, LCS_29 hL, LCn_29 hL, LCS_30 hL, LCn_30 hL, LCS_31 hL, LCn_31 hL, LCS_32 hL, LCn_32 hL, LCS_33 hL, LCn_33 hL, LCS_34 hL, LCn_34 hL, LCS_35 hL, LCn_35 hL, LCS_36 hL, LCn_36 hL, LCS_37 hL, LCn_37 hL, LCS_38 hL, LCn_38 hL, LCS_39 hL, LCn_39 hL, LCS_40 hL, LCn_40 hL, LCS_41 hL, LCn_41 hL, LCA_0_0 hL, LCA_0_1 hL, LCA_0_2 hL, LCA_0_3 hL, LCA_0_4 hL, LCA_0_5 hL, LCA_1_0 hL, LCA_1_1 hL, LCA_1_2 hL, LCA_2_0 hL, LCA_2_1 hL, LCA_5_0 hL, LCA_5_2 hL, LCA_5_3 hL, LCA_10_0 hL, LCA_10_2 hL, LCA_10_3 hL, LCA_10_4 hL, LCA_10_8 hL, LCA_16_0 hL, LCA_16_1 hL, LCA_16_4 hL, LCA_17_0 hL, LCA_17_1 hL, LCA_17_2 hL, LCA_24_0 hL, LCA_24_1 hL, LCA_25_0 hL, LCA_25_1 hL, LCA_25_2 hL, LCA_30_0 hL, LCA_30_1 hL, LCA_30_2 hL, LCA_30_3 hL, LCA_31_0 hL, LCA_31_1 hL, LCA_34_0 hL, LCA_36_0 hL, LCA_38_0 hL, LCA_40_0 hL, g1, g2, g3, vpin (show q < 2147483648 by omega), nI_cl (show q < 2147483648 by omega), show q < 160 by omega, q1, Str_chr (j := w + 1) rfl (by omega) (show q - i < sl (w + 1) by rw [l1]; omega), l2 (q - i) (by omega), nI_eq' (show t q < 2147483648 by omega) (show (wdl.getD w []).getD (q - i) 0 < 2147483648 by omega)]
    have hm : mF t i (wdl.getD w []) (k + 1) q = true ↔ (t q = (wdl.getD w []).getD (q - i) 0 ∧ mF t i (wdl.getD w []) k (q + 1) = true) := by rw [mF, Bool.and_eq_true, beq_iff_eq]
    by_cases hc : t q = (wdl.getD w []).getD (q - i) 0
    · rw [if_pos hc]
      simp only [s42_41, s42_44, isR_ref, isR_nul, isR_ra, nl_int, nl_ref, nl_jk, nl_ra, nl_nul, rf_some, rf_none, nc_nil, nc_i, nc_l, nc_r, nc_n, nc_x, true_and, and_true, and_self, if_true, if_false, ite_true, ite_false, Option.toList_some, Option.toList_none, List.cons_append, List.nil_append, nar_b1, nar_b0, T_ite, reduceIte, reduceCtorEq, one_ne, eq_self, mkC_t, hn_t, va_up_same, not_true_eq_false, not_false_eq_true, Nat.reduceLeDiff, Nat.reduceAdd, Nat.reduceEqDiff, Nat.reduceMul, Nat.reduceSub, Nat.reduceDiv, Nat.reduceMod, Nat.reduceLT, false_and, and_false, false_or, or_false, true_or, or_true, Nat.add_zero, Nat.zero_add, Nat.mul_zero, Nat.zero_mul, Nat.add_left_cancel_iff, Nat.add_right_cancel_iff, nI_1]
      rw [ih (q + 1) (by omega) (by omega)]
      simp only [hm, hc, true_and]
    · rw [if_neg hc]
      simp only [s42_39, s42_40, isR_ref, isR_nul, isR_ra, nl_int, nl_ref, nl_jk, nl_ra, nl_nul, rf_some, rf_none, nc_nil, nc_i, nc_l, nc_r, nc_n, nc_x, true_and, and_true, and_self, if_true, if_false, ite_true, ite_false, Option.toList_some, Option.toList_none, List.cons_append, List.nil_append, nar_b1, nar_b0, T_ite, reduceIte, reduceCtorEq, one_ne, eq_self, mkC_t, hn_t, va_up_same, not_true_eq_false, not_false_eq_true, Nat.reduceLeDiff, Nat.reduceAdd, Nat.reduceEqDiff, Nat.reduceMul, Nat.reduceSub, Nat.reduceDiv, Nat.reduceMod, Nat.reduceLT, false_and, and_false, false_or, or_false, true_or, or_true, Nat.add_zero, Nat.zero_add, Nat.mul_zero, Nat.zero_mul, Nat.add_left_cancel_iff, Nat.add_right_cancel_iff]
      rw [if_neg (fun g => hc (hm.mp g).1)]
theorem cIw (hL : LC A S n) (hX : CX I t s) {r w : Nat} (hr : r = 16 + (w + 1)) (hw : w < 12) (hie : i ≤ e) (hes : e ≤ s) : T Ω (d + 5) 42 0 [.ref 10, .retAddr r, .int (nI i), .int (nI e), jk] [] (I, J, A, S, n, z) Q = Q (some (.int (if mW t i e w = true then 1 else 0))) (I, J, A, S, n, z) := by
  subst hr
  obtain ⟨l1, l2⟩ := wd_sv w hw
  have l3 := wd_len w hw
  have x1 := hX.1
  have g2 : nI e - nI i = nI (e - i) := nI_subs hie
  have g3 : 16 ≤ 16 + (w + 1) ∧ 16 + (w + 1) < 30 := by omega
  simp only [s42_0, s42_1, s42_2, s42_3, s42_4, s42_7, isR_ref, isR_nul, isR_ra, nl_int, nl_ref, nl_jk, nl_ra, nl_nul, rf_some, rf_none, nc_nil, nc_i, nc_l, nc_r, nc_n, nc_x, true_and, and_true, and_self, if_true, if_false, ite_true, ite_false, Option.toList_some, Option.toList_none, List.cons_append, List.nil_append, nar_b1, nar_b0, T_ite, reduceIte, reduceCtorEq, one_ne, eq_self, mkC_t, hn_t, va_up_same, not_true_eq_false, not_false_eq_true, Nat.reduceLeDiff, Nat.reduceAdd, Nat.reduceEqDiff, Nat.reduceMul, Nat.reduceSub, Nat.reduceDiv, Nat.reduceMod, Nat.reduceLT, false_and, and_false, false_or, or_false, true_or, or_true, Nat.add_zero, Nat.zero_add, Nat.mul_zero, Nat.zero_mul, Nat.add_left_cancel_iff, Nat.add_right_cancel_iff, g2, g3, Str_len (j := w + 1) rfl (by omega), l1, nI_eq' (show e - i < 2147483648 by omega) (show (wdl.getD w []).length < 2147483648 by omega)]
  unfold mW
  by_cases hc : e - i = (wdl.getD w []).length
  · rw [if_pos hc]
    simp only [s42_12, s42_13, isR_ref, isR_nul, isR_ra, nl_int, nl_ref, nl_jk, nl_ra, nl_nul, rf_some, rf_none, nc_nil, nc_i, nc_l, nc_r, nc_n, nc_x, true_and, and_true, and_self, if_true, if_false, ite_true, ite_false, Option.toList_some, Option.toList_none, List.cons_append, List.nil_append, nar_b1, nar_b0, T_ite, reduceIte, reduceCtorEq, one_ne, eq_self, mkC_t, hn_t, va_up_same, not_true_eq_false, not_false_eq_true, Nat.reduceLeDiff, Nat.reduceAdd, Nat.reduceEqDiff, Nat.reduceMul, Nat.reduceSub, Nat.reduceDiv, Nat.reduceMod, Nat.reduceLT, false_and, and_false, false_or, or_false, true_or, or_true, Nat.add_zero, Nat.zero_add, Nat.mul_zero, Nat.zero_mul, Nat.add_left_cancel_iff, Nat.add_right_cancel_iff]
    rw [cIw_l hL hX hw hie hes hc (e - i) i (by omega) (Nat.le_refl _)]
    simp only [hc, beq_self_eq_true, Bool.true_and]
  · rw [if_neg hc]
    simp only [s42_10, s42_11, isR_ref, isR_nul, isR_ra, nl_int, nl_ref, nl_jk, nl_ra, nl_nul, rf_some, rf_none, nc_nil, nc_i, nc_l, nc_r, nc_n, nc_x, true_and, and_true, and_self, if_true, if_false, ite_true, ite_false, Option.toList_some, Option.toList_none, List.cons_append, List.nil_append, nar_b1, nar_b0, T_ite, reduceIte, reduceCtorEq, one_ne, eq_self, mkC_t, hn_t, va_up_same, not_true_eq_false, not_false_eq_true, Nat.reduceLeDiff, Nat.reduceAdd, Nat.reduceEqDiff, Nat.reduceMul, Nat.reduceSub, Nat.reduceDiv, Nat.reduceMod, Nat.reduceLT, false_and, and_false, false_or, or_false, true_or, or_true, Nat.add_zero, Nat.zero_add, Nat.mul_zero, Nat.zero_mul, Nat.add_left_cancel_iff, Nat.add_right_cancel_iff]
    rw [if_neg (by simp only [Bool.and_eq_true, beq_iff_eq]; exact fun h => hc h.1)]
set_option maxHeartbeats 1000000 in
theorem cNm (hL : LC A S n) (hX : CX I t s) (hie : i ≤ e) (hes : e ≤ s) : T Ω (d + 6) 41 0 [.ref 10, .int (nI i), .int (nI e)] [] (I, J, A, S, n, z) Q = Q (some (.int (if wIx t i e < 6 then nI (wIx t i e) else -1))) (I, J, A, S, n, z) := by
  simp only [s41_0, s41_1, s41_3, s41_4, s41_5, s41_8, s41_11, s41_12, s41_13, s41_14, s41_16, s41_17, s41_18, s41_21, s41_24, s41_25, s41_26, s41_27, s41_29, s41_30, s41_31, s41_34, s41_37, s41_38, s41_39, s41_40, s41_42, s41_43, s41_44, s41_47, s41_50, s41_51, s41_52, s41_53, s41_55, s41_56, s41_57, s41_60, s41_63, s41_64, s41_65, s41_66, s41_68, s41_69, s41_70, s41_73, s41_76, s41_77, s41_78, s41_79, isR_ref, isR_nul, isR_ra, nl_int, nl_ref, nl_jk, nl_ra, nl_nul, rf_some, rf_none, nc_nil, nc_i, nc_l, nc_r, nc_n, nc_x, true_and, and_true, and_self, if_true, if_false, ite_true, ite_false, Option.toList_some, Option.toList_none, List.cons_append, List.nil_append, nar_b1, nar_b0, T_ite, reduceIte, reduceCtorEq, one_ne, eq_self, mkC_t, hn_t, va_up_same, not_true_eq_false, not_false_eq_true, Nat.reduceLeDiff, Nat.reduceAdd, Nat.reduceEqDiff, Nat.reduceMul, Nat.reduceSub, Nat.reduceDiv, Nat.reduceMod, Nat.reduceLT, false_and, and_false, false_or, or_false, true_or, or_true, Nat.add_zero, Nat.zero_add, Nat.mul_zero, Nat.zero_mul, Nat.add_left_cancel_iff, Nat.add_right_cancel_iff, LCS_0 hL, LCn_0 hL, LCS_1 hL, LCn_1 hL, LCS_2 hL, LCn_2 hL, LCS_3 hL, LCn_3 hL, LCS_4 hL, LCn_4 hL, LCS_5 hL, LCn_5 hL, LCS_6 hL, LCn_6 hL, LCS_7 hL, LCn_7 hL, LCS_8 hL, LCn_8 hL, LCS_9 hL, LCn_9 hL, LCS_10 hL, LCn_10 hL, LCS_11 hL, LCn_11 hL, LCS_12 hL, LCn_12 hL, LCS_13 hL, LCn_13 hL, LCS_14 hL, LCn_14 hL, LCS_15 hL, LCn_15 hL, LCS_16 hL, LCn_16 hL, LCS_17 hL, LCn_17 hL, LCS_18 hL, LCn_18 hL, LCS_19 hL, LCn_19 hL, LCS_20 hL, LCn_20 hL, LCS_21 hL, LCn_21 hL, LCS_22 hL, LCn_22 hL, LCS_23 hL, LCn_23 hL, LCS_24 hL, LCn_24 hL, LCS_25 hL, LCn_25 hL, LCS_26 hL, LCn_26 hL, LCS_27 hL, LCn_27 hL, LCS_28 hL, LCn_28 hL, LCS_29 hL, LCn_29 hL, LCS_30 hL, LCn_30 hL, LCS_31 hL, LCn_31 hL, LCS_32 hL, LCn_32 hL, LCS_33 hL, LCn_33 hL, LCS_34 hL, LCn_34 hL, LCS_35 hL, LCn_35 hL, LCS_36 hL, LCn_36 hL, LCS_37 hL, LCn_37 hL, LCS_38 hL, LCn_38 hL, LCS_39 hL, LCn_39 hL, LCS_40 hL, LCn_40 hL, LCS_41 hL, LCn_41 hL, LCA_0_0 hL, LCA_0_1 hL, LCA_0_2 hL, LCA_0_3 hL, LCA_0_4 hL, LCA_0_5 hL, LCA_1_0 hL, LCA_1_1 hL, LCA_1_2 hL, LCA_2_0 hL, LCA_2_1 hL, LCA_5_0 hL, LCA_5_2 hL, LCA_5_3 hL, LCA_10_0 hL, LCA_10_2 hL, LCA_10_3 hL, LCA_10_4 hL, LCA_10_8 hL, LCA_16_0 hL, LCA_16_1 hL, LCA_16_4 hL, LCA_17_0 hL, LCA_17_1 hL, LCA_17_2 hL, LCA_24_0 hL, LCA_24_1 hL, LCA_25_0 hL, LCA_25_1 hL, LCA_25_2 hL, LCA_30_0 hL, LCA_30_1 hL, LCA_30_2 hL, LCA_30_3 hL, LCA_31_0 hL, LCA_31_1 hL, LCA_34_0 hL, LCA_36_0 hL, LCA_38_0 hL, LCA_40_0 hL, cIw hL hX (r := 17) (w := 0) rfl (by decide) hie hes, cIw hL hX (r := 18) (w := 1) rfl (by decide) hie hes, cIw hL hX (r := 19) (w := 2) rfl (by decide) hie hes, cIw hL hX (r := 20) (w := 3) rfl (by decide) hie hes, cIw hL hX (r := 21) (w := 4) rfl (by decide) hie hes, cIw hL hX (r := 22) (w := 5) rfl (by decide) hie hes, b01_0]
  by_cases h0 : mW t i e 0 = true
  · simp [wIx, h0]; rfl
  by_cases h1 : mW t i e 1 = true
  · simp [wIx, h0, h1]; rfl
  by_cases h2 : mW t i e 2 = true
  · simp [wIx, h0, h1, h2]; rfl
  by_cases h3 : mW t i e 3 = true
  · simp [wIx, h0, h1, h2, h3]; rfl
  by_cases h4 : mW t i e 4 = true
  · simp [wIx, h0, h1, h2, h3, h4]; rfl
  by_cases h5 : mW t i e 5 = true
  · simp [wIx, h0, h1, h2, h3, h4, h5]; rfl
  have : ¬ wIx t i e < 6 := by
    unfold wIx
    rw [if_neg h0, if_neg h1, if_neg h2, if_neg h3, if_neg h4, if_neg h5]
    (repeat' split) <;> omega
  rw [if_neg this]
  simp [h0, h1, h2, h3, h4, h5]
set_option maxHeartbeats 1000000 in
theorem cKy (hL : LC A S n) (hX : CX I t s) (hie : i ≤ e) (hes : e ≤ s) (h6 : ¬ wIx t i e < 6) : T Ω (d + 6) 43 0 [.ref 10, .int (nI i), .int (nI e)] [] (I, J, A, S, n, z) Q = Q (some (.int (nI (if wIx t i e < 12 then wIx t i e - 1 else 4)))) (I, J, A, S, n, z) := by
  have h0 : ¬ mW t i e 0 = true := fun h => h6 (by unfold wIx; rw [if_pos h]; decide)
  have h1 : ¬ mW t i e 1 = true := fun h => h6 (by unfold wIx; rw [if_neg h0, if_pos h]; decide)
  have h2 : ¬ mW t i e 2 = true := fun h => h6 (by unfold wIx; rw [if_neg h0, if_neg h1, if_pos h]; decide)
  have h3 : ¬ mW t i e 3 = true := fun h => h6 (by unfold wIx; rw [if_neg h0, if_neg h1, if_neg h2, if_pos h]; decide)
  have h4 : ¬ mW t i e 4 = true := fun h => h6 (by unfold wIx; rw [if_neg h0, if_neg h1, if_neg h2, if_neg h3, if_pos h]; decide)
  have h5 : ¬ mW t i e 5 = true := fun h => h6 (by unfold wIx; rw [if_neg h0, if_neg h1, if_neg h2, if_neg h3, if_neg h4, if_pos h]; decide)
  have hw : wIx t i e = if mW t i e 6 = true then 6 else if mW t i e 7 = true then 7 else if mW t i e 8 = true then 8 else if mW t i e 9 = true then 9 else if mW t i e 10 = true then 10 else if mW t i e 11 = true then 11 else 12 := by
    unfold wIx
    rw [if_neg h0, if_neg h1, if_neg h2, if_neg h3, if_neg h4, if_neg h5]
  simp only [s43_0, s43_1, s43_3, s43_4, s43_5, s43_8, s43_11, s43_12, s43_13, s43_14, s43_16, s43_17, s43_18, s43_21, s43_24, s43_26, s43_27, s43_28, s43_30, s43_31, s43_32, s43_35, s43_38, s43_40, s43_41, s43_42, s43_44, s43_45, s43_46, s43_49, s43_52, s43_54, s43_55, s43_56, s43_58, s43_59, s43_60, s43_63, s43_66, s43_68, s43_69, s43_70, s43_72, s43_73, s43_74, s43_77, s43_80, s43_82, s43_83, s43_84, isR_ref, isR_nul, isR_ra, nl_int, nl_ref, nl_jk, nl_ra, nl_nul, rf_some, rf_none, nc_nil, nc_i, nc_l, nc_r, nc_n, nc_x, true_and, and_true, and_self, if_true, if_false, ite_true, ite_false, Option.toList_some, Option.toList_none, List.cons_append, List.nil_append, nar_b1, nar_b0, T_ite, reduceIte, reduceCtorEq, one_ne, eq_self, mkC_t, hn_t, va_up_same, not_true_eq_false, not_false_eq_true, Nat.reduceLeDiff, Nat.reduceAdd, Nat.reduceEqDiff, Nat.reduceMul, Nat.reduceSub, Nat.reduceDiv, Nat.reduceMod, Nat.reduceLT, false_and, and_false, false_or, or_false, true_or, or_true, Nat.add_zero, Nat.zero_add, Nat.mul_zero, Nat.zero_mul, Nat.add_left_cancel_iff, Nat.add_right_cancel_iff, LCS_0 hL, LCn_0 hL, LCS_1 hL, LCn_1 hL, LCS_2 hL, LCn_2 hL, LCS_3 hL, LCn_3 hL, LCS_4 hL, LCn_4 hL, LCS_5 hL, LCn_5 hL, LCS_6 hL, LCn_6 hL, LCS_7 hL, LCn_7 hL, LCS_8 hL, LCn_8 hL, LCS_9 hL, LCn_9 hL, LCS_10 hL, LCn_10 hL, LCS_11 hL, LCn_11 hL, LCS_12 hL, LCn_12 hL, LCS_13 hL, LCn_13 hL, LCS_14 hL, LCn_14 hL, LCS_15 hL, LCn_15 hL, LCS_16 hL, LCn_16 hL, LCS_17 hL, LCn_17 hL, LCS_18 hL, LCn_18 hL, LCS_19 hL, LCn_19 hL, LCS_20 hL, LCn_20 hL, LCS_21 hL, LCn_21 hL, LCS_22 hL, LCn_22 hL, LCS_23 hL, LCn_23 hL, LCS_24 hL, LCn_24 hL, LCS_25 hL, LCn_25 hL, LCS_26 hL, LCn_26 hL, LCS_27 hL, LCn_27 hL, LCS_28 hL, LCn_28 hL, LCS_29 hL, LCn_29 hL, LCS_30 hL, LCn_30 hL, LCS_31 hL, LCn_31 hL, LCS_32 hL, LCn_32 hL, LCS_33 hL, LCn_33 hL, LCS_34 hL, LCn_34 hL, LCS_35 hL, LCn_35 hL, LCS_36 hL, LCn_36 hL, LCS_37 hL, LCn_37 hL, LCS_38 hL, LCn_38 hL, LCS_39 hL, LCn_39 hL, LCS_40 hL, LCn_40 hL, LCS_41 hL, LCn_41 hL, LCA_0_0 hL, LCA_0_1 hL, LCA_0_2 hL, LCA_0_3 hL, LCA_0_4 hL, LCA_0_5 hL, LCA_1_0 hL, LCA_1_1 hL, LCA_1_2 hL, LCA_2_0 hL, LCA_2_1 hL, LCA_5_0 hL, LCA_5_2 hL, LCA_5_3 hL, LCA_10_0 hL, LCA_10_2 hL, LCA_10_3 hL, LCA_10_4 hL, LCA_10_8 hL, LCA_16_0 hL, LCA_16_1 hL, LCA_16_4 hL, LCA_17_0 hL, LCA_17_1 hL, LCA_17_2 hL, LCA_24_0 hL, LCA_24_1 hL, LCA_25_0 hL, LCA_25_1 hL, LCA_25_2 hL, LCA_30_0 hL, LCA_30_1 hL, LCA_30_2 hL, LCA_30_3 hL, LCA_31_0 hL, LCA_31_1 hL, LCA_34_0 hL, LCA_36_0 hL, LCA_38_0 hL, LCA_40_0 hL, cIw hL hX (r := 23) (w := 6) rfl (by decide) hie hes, cIw hL hX (r := 24) (w := 7) rfl (by decide) hie hes, cIw hL hX (r := 25) (w := 8) rfl (by decide) hie hes, cIw hL hX (r := 26) (w := 9) rfl (by decide) hie hes, cIw hL hX (r := 27) (w := 10) rfl (by decide) hie hes, cIw hL hX (r := 28) (w := 11) rfl (by decide) hie hes, b01_0]
  rw [hw]
  by_cases g6 : mW t i e 6 = true
  · simp [g6]; rfl
  by_cases g7 : mW t i e 7 = true
  · simp [g6, g7]; rfl
  by_cases g8 : mW t i e 8 = true
  · simp [g6, g7, g8]; rfl
  by_cases g9 : mW t i e 9 = true
  · simp [g6, g7, g8, g9]; rfl
  by_cases g10 : mW t i e 10 = true
  · simp [g6, g7, g8, g9, g10]; rfl
  by_cases g11 : mW t i e 11 = true
  · simp [g6, g7, g8, g9, g10, g11]; rfl
  simp [g6, g7, g8, g9, g10, g11]; rfl
theorem cNu_l (hL : LC A S n) (hX : CX I t s) (hes : e ≤ s) (hg : ∀ j, i ≤ j → j < e → isG (t j) = true) {v1 : Int32} : ∀ (k q u : Nat), q + k = e → i ≤ q → T Ω d 44 14 [.ref 10, .int v1, .int (nI e), .int (nI u), .int (nI q)] [] (I, J, A, S, n, z) Q = Q (some (.int (nI (nmk t k q u)))) (I, J, A, S, n, z) := by
  obtain ⟨x1, x2, x3⟩ := hX
  intro k
  induction k with
  | zero =>
    intro q u hq _
    obtain rfl : q = e := by omega
    rw [s44_14]
    simp only [s44_16, s44_17, s44_42, s44_43, isR_ref, isR_nul, isR_ra, nl_int, nl_ref, nl_jk, nl_ra, nl_nul, rf_some, rf_none, nc_nil, nc_i, nc_l, nc_r, nc_n, nc_x, true_and, and_true, and_self, if_true, if_false, ite_true, ite_false, Option.toList_some, Option.toList_none, List.cons_append, List.nil_append, nar_b1, nar_b0, T_ite, reduceIte, reduceCtorEq, one_ne, eq_self, mkC_t, hn_t, va_up_same, not_true_eq_false, not_false_eq_true, Nat.reduceLeDiff, Nat.reduceAdd, Nat.reduceEqDiff, Nat.reduceMul, Nat.reduceSub, Nat.reduceDiv, Nat.reduceMod, Nat.reduceLT, false_and, and_false, false_or, or_false, true_or, or_true, Nat.add_zero, Nat.zero_add, Nat.mul_zero, Nat.zero_mul, Nat.add_left_cancel_iff, Nat.add_right_cancel_iff, Int32.le_refl, nmk]
  | succ k ih =>
    intro q u hq hiq
    have g1 : ¬ nI e ≤ nI q := nI_ge (by omega) (by omega)
    obtain ⟨q1, q2⟩ := x3 q (by omega)
    have q3 := isG_iff.mp (hg q hiq (by omega))
    have e1 : nI (u * 10 + t q) - 48 = nI (u * 10 + (t q - 48)) := by
      have := nI_subs (a := u * 10 + t q) (b := 48) (by omega)
      rw [show u * 10 + t q - 48 = u * 10 + (t q - 48) by omega] at this
      exact this
    rw [s44_14]
    simp only [s44_16, s44_17, s44_20, s44_21, s44_23, s44_24, s44_25, s44_28, s44_30, s44_31, s44_32, s44_34, s44_35, s44_36, s44_39, isR_ref, isR_nul, isR_ra, nl_int, nl_ref, nl_jk, nl_ra, nl_nul, rf_some, rf_none, nc_nil, nc_i, nc_l, nc_r, nc_n, nc_x, true_and, and_true, and_self, if_true, if_false, ite_true, ite_false, Option.toList_some, Option.toList_none, List.cons_append, List.nil_append, nar_b1, nar_b0, T_ite, reduceIte, reduceCtorEq, one_ne, eq_self, mkC_t, hn_t, va_up_same, not_true_eq_false, not_false_eq_true, Nat.reduceLeDiff, Nat.reduceAdd, Nat.reduceEqDiff, Nat.reduceMul, Nat.reduceSub, Nat.reduceDiv, Nat.reduceMod, Nat.reduceLT, false_and, and_false, false_or, or_false, true_or, or_true, Nat.add_zero, Nat.zero_add, Nat.mul_zero, Nat.zero_mul, Nat.add_left_cancel_iff, Nat.add_right_cancel_iff, LCS_0 hL, LCn_0 hL, LCS_1 hL, LCn_1 hL, LCS_2 hL, LCn_2 hL, LCS_3 hL, LCn_3 hL, LCS_4 hL, LCn_4 hL, LCS_5 hL, LCn_5 hL, LCS_6 hL, LCn_6 hL, LCS_7 hL, LCn_7 hL, LCS_8 hL, LCn_8 hL, LCS_9 hL, LCn_9 hL, LCS_10 hL, LCn_10 hL, LCS_11 hL, LCn_11 hL, LCS_12 hL, LCn_12 hL, LCS_13 hL, LCn_13 hL, LCS_14 hL, LCn_14 hL, LCS_15 hL, LCn_15 hL, LCS_16 hL, LCn_16 hL, LCS_17 hL, LCn_17 hL, LCS_18 hL, LCn_18 hL, LCS_19 hL, LCn_19 hL, LCS_20 hL, LCn_20 hL, LCS_21 hL, LCn_21 hL, LCS_22 hL, LCn_22 hL, LCS_23 hL, LCn_23 hL, LCS_24 hL, LCn_24 hL, LCS_25 hL, LCn_25 hL, LCS_26 hL, LCn_26 hL, LCS_27 hL, LCn_27 hL, LCS_28 hL, LCn_28 hL, LCS_29 hL, LCn_29 hL, LCS_30 hL, LCn_30 hL, LCS_31 hL, LCn_31 hL, LCS_32 hL, LCn_32 hL, LCS_33 hL, LCn_33 hL, LCS_34 hL, LCn_34 hL, LCS_35 hL, LCn_35 hL, LCS_36 hL, LCn_36 hL, LCS_37 hL, LCn_37 hL, LCS_38 hL, LCn_38 hL, LCS_39 hL, LCn_39 hL, LCS_40 hL, LCn_40 hL, LCS_41 hL, LCn_41 hL, LCA_0_0 hL, LCA_0_1 hL, LCA_0_2 hL, LCA_0_3 hL, LCA_0_4 hL, LCA_0_5 hL, LCA_1_0 hL, LCA_1_1 hL, LCA_1_2 hL, LCA_2_0 hL, LCA_2_1 hL, LCA_5_0 hL, LCA_5_2 hL, LCA_5_3 hL, LCA_10_0 hL, LCA_10_2 hL, LCA_10_3 hL, LCA_10_4 hL, LCA_10_8 hL, LCA_16_0 hL, LCA_16_1 hL, LCA_16_4 hL, LCA_17_0 hL, LCA_17_1 hL, LCA_17_2 hL, LCA_24_0 hL, LCA_24_1 hL, LCA_25_0 hL, LCA_25_1 hL, LCA_25_2 hL, LCA_30_0 hL, LCA_30_1 hL, LCA_30_2 hL, LCA_30_3 hL, LCA_31_0 hL, LCA_31_1 hL, LCA_34_0 hL, LCA_36_0 hL, LCA_38_0 hL, LCA_40_0 hL, g1, vpin (show q < 2147483648 by omega), nI_cl (show q < 2147483648 by omega), show q < 160 by omega, q1, lit_10, pk_mul, nI_add, e1, nI_1, nmk]
    exact ih (q + 1) _ (by omega) (by omega)
theorem cNu (hL : LC A S n) (hX : CX I t s) (hie : i ≤ e) (hes : e ≤ s) (hg : ∀ j, i ≤ j → j < e → isG (t j) = true) : T Ω d 44 0 [.ref 10, .int (nI i), .int (nI e), jk, jk] [] (I, J, A, S, n, z) Q = Q (some (.int (if e - i ≤ 4 then nI (nmk t (e - i) i 0) else -1))) (I, J, A, S, n, z) := by
  have x1 := hX.1
  have g2 : nI e - nI i = nI (e - i) := nI_subs hie
  have g3 : (nI (e - i) ≤ 4) = (e - i ≤ 4) := nI_le' (b := 4) (by omega) (by decide)
  simp only [s44_0, s44_1, s44_2, s44_3, s44_4, s44_7, s44_8, isR_ref, isR_nul, isR_ra, nl_int, nl_ref, nl_jk, nl_ra, nl_nul, rf_some, rf_none, nc_nil, nc_i, nc_l, nc_r, nc_n, nc_x, true_and, and_true, and_self, if_true, if_false, ite_true, ite_false, Option.toList_some, Option.toList_none, List.cons_append, List.nil_append, nar_b1, nar_b0, T_ite, reduceIte, reduceCtorEq, one_ne, eq_self, mkC_t, hn_t, va_up_same, not_true_eq_false, not_false_eq_true, Nat.reduceLeDiff, Nat.reduceAdd, Nat.reduceEqDiff, Nat.reduceMul, Nat.reduceSub, Nat.reduceDiv, Nat.reduceMod, Nat.reduceLT, false_and, and_false, false_or, or_false, true_or, or_true, Nat.add_zero, Nat.zero_add, Nat.mul_zero, Nat.zero_mul, Nat.add_left_cancel_iff, Nat.add_right_cancel_iff, g2, g3]
  by_cases h4 : e - i ≤ 4
  · rw [if_pos h4, if_pos h4]
    simp only [s44_9, s44_10, s44_11, s44_12, isR_ref, isR_nul, isR_ra, nl_int, nl_ref, nl_jk, nl_ra, nl_nul, rf_some, rf_none, nc_nil, nc_i, nc_l, nc_r, nc_n, nc_x, true_and, and_true, and_self, if_true, if_false, ite_true, ite_false, Option.toList_some, Option.toList_none, List.cons_append, List.nil_append, nar_b1, nar_b0, T_ite, reduceIte, reduceCtorEq, one_ne, eq_self, mkC_t, hn_t, va_up_same, not_true_eq_false, not_false_eq_true, Nat.reduceLeDiff, Nat.reduceAdd, Nat.reduceEqDiff, Nat.reduceMul, Nat.reduceSub, Nat.reduceDiv, Nat.reduceMod, Nat.reduceLT, false_and, and_false, false_or, or_false, true_or, or_true, Nat.add_zero, Nat.zero_add, Nat.mul_zero, Nat.zero_mul, Nat.add_left_cancel_iff, Nat.add_right_cancel_iff]
    have := cNu_l (Ω := Ω) (d := d) (J := J) (z := z) (Q := Q) (v1 := nI i) hL hX hes hg (e - i) i 0 (by omega) (Nat.le_refl _)
    exact this
  · rw [if_neg h4, if_neg h4]
def sgL : List Nat := [40, 41, 59, 43, 45, 42, 60, 61]
theorem sg_sv : sl 13 = 8 ∧ ∀ k, k < 8 → sv 13 k = sgL.getD k 0 := by decide +kernel
theorem cIx_l {b : Nat} (hb : b < 256) {v1 v2 : Int32} : ∀ (k q : Nat), q + k = 8 → (∀ j, j < q → ¬ b = sgL.getD j 0) → T Ω d 202 7 [.retAddr (16 + 13 + 16), .int v1, .int v2, .int (nI 8), .int (nI b).toInt8.toInt32, .int (nI q)] [] h Q = Q (some (.int (if isSg b = true then nI (sgL.idxOf b) else -1))) h := by
  intro k
  induction k with
  | zero =>
    intro q hq hn
    obtain rfl : q = 8 := by omega
    have e : ¬ isSg b = true := by
      have h0 := hn 0 (by decide)
      have h1 := hn 1 (by decide)
      have h2 := hn 2 (by decide)
      have h3 := hn 3 (by decide)
      have h4 := hn 4 (by decide)
      have h5 := hn 5 (by decide)
      have h6 := hn 6 (by decide)
      have h7 := hn 7 (by decide)
      simp [sgL] at h0 h1 h2 h3 h4 h5 h6 h7
      simp [isSg, h0, h1, h2, h3, h4, h5, h6, h7]
    rw [s202_7]
    simp only [s202_9, s202_10, s202_31, s202_32, isR_ref, isR_nul, isR_ra, nl_int, nl_ref, nl_jk, nl_ra, nl_nul, rf_some, rf_none, nc_nil, nc_i, nc_l, nc_r, nc_n, nc_x, true_and, and_true, and_self, if_true, if_false, ite_true, ite_false, Option.toList_some, Option.toList_none, List.cons_append, List.nil_append, nar_b1, nar_b0, T_ite, reduceIte, reduceCtorEq, one_ne, eq_self, mkC_t, hn_t, va_up_same, not_true_eq_false, not_false_eq_true, Nat.reduceLeDiff, Nat.reduceAdd, Nat.reduceEqDiff, Nat.reduceMul, Nat.reduceSub, Nat.reduceDiv, Nat.reduceMod, Nat.reduceLT, false_and, and_false, false_or, or_false, true_or, or_true, Nat.add_zero, Nat.zero_add, Nat.mul_zero, Nat.zero_mul, Nat.add_left_cancel_iff, Nat.add_right_cancel_iff, Int32.le_refl, if_neg e]
  | succ k ih =>
    intro q hq hn
    have g1 : ¬ nI 8 ≤ nI q := nI_ge (by omega) (by omega)
    have hs := (sv_at 13 (by decide) q (by omega)).1
    rw [sg_sv.2 q (by omega)] at hs
    have hdec : ∀ b, b < 256 → ∀ q, q < 8 → (nI (sgL.getD q 0) = (nI b).toInt8.toInt32 ↔ b = sgL.getD q 0) := by decide +kernel
    have hq8 : q < sl 13 := by rw [sg_sv.1]; omega
    rw [s202_7]
    simp only [s202_9, s202_10, s202_13, s202_14, s202_16, s202_17, s202_19, s202_16x (xAs (show 13 < 14 by decide)), isR_ref, isR_nul, isR_ra, nl_int, nl_ref, nl_jk, nl_ra, nl_nul, rf_some, rf_none, nc_nil, nc_i, nc_l, nc_r, nc_n, nc_x, true_and, and_true, and_self, if_true, if_false, ite_true, ite_false, Option.toList_some, Option.toList_none, List.cons_append, List.nil_append, nar_b1, nar_b0, T_ite, reduceIte, reduceCtorEq, one_ne, eq_self, mkC_t, hn_t, va_up_same, not_true_eq_false, not_false_eq_true, Nat.reduceLeDiff, Nat.reduceAdd, Nat.reduceEqDiff, Nat.reduceMul, Nat.reduceSub, Nat.reduceDiv, Nat.reduceMod, Nat.reduceLT, false_and, and_false, false_or, or_false, true_or, or_true, Nat.add_zero, Nat.zero_add, Nat.mul_zero, Nat.zero_mul, Nat.add_left_cancel_iff, Nat.add_right_cancel_iff, g1, vpin (show q < 2147483648 by omega), nI_cl (show q < 2147483648 by omega), hq8, hs]
    by_cases hc : b = sgL.getD q 0
    · rw [if_pos ((hdec b hb q (by omega)).mpr hc)]
      simp only [s202_22, s202_24, isR_ref, isR_nul, isR_ra, nl_int, nl_ref, nl_jk, nl_ra, nl_nul, rf_some, rf_none, nc_nil, nc_i, nc_l, nc_r, nc_n, nc_x, true_and, and_true, and_self, if_true, if_false, ite_true, ite_false, Option.toList_some, Option.toList_none, List.cons_append, List.nil_append, nar_b1, nar_b0, T_ite, reduceIte, reduceCtorEq, one_ne, eq_self, mkC_t, hn_t, va_up_same, not_true_eq_false, not_false_eq_true, Nat.reduceLeDiff, Nat.reduceAdd, Nat.reduceEqDiff, Nat.reduceMul, Nat.reduceSub, Nat.reduceDiv, Nat.reduceMod, Nat.reduceLT, false_and, and_false, false_or, or_false, true_or, or_true, Nat.add_zero, Nat.zero_add, Nat.mul_zero, Nat.zero_mul, Nat.add_left_cancel_iff, Nat.add_right_cancel_iff]
      have hx : ∀ q, q < 8 → isSg (sgL.getD q 0) = true ∧ sgL.idxOf (sgL.getD q 0) = q := by decide
      rw [hc, if_pos (hx q (by omega)).1, (hx q (by omega)).2]
    · rw [if_neg (fun g => hc ((hdec b hb q (by omega)).mp g))]
      simp only [s202_25, s202_28, isR_ref, isR_nul, isR_ra, nl_int, nl_ref, nl_jk, nl_ra, nl_nul, rf_some, rf_none, nc_nil, nc_i, nc_l, nc_r, nc_n, nc_x, true_and, and_true, and_self, if_true, if_false, ite_true, ite_false, Option.toList_some, Option.toList_none, List.cons_append, List.nil_append, nar_b1, nar_b0, T_ite, reduceIte, reduceCtorEq, one_ne, eq_self, mkC_t, hn_t, va_up_same, not_true_eq_false, not_false_eq_true, Nat.reduceLeDiff, Nat.reduceAdd, Nat.reduceEqDiff, Nat.reduceMul, Nat.reduceSub, Nat.reduceDiv, Nat.reduceMod, Nat.reduceLT, false_and, and_false, false_or, or_false, true_or, or_true, Nat.add_zero, Nat.zero_add, Nat.mul_zero, Nat.zero_mul, Nat.add_left_cancel_iff, Nat.add_right_cancel_iff, nI_1]
      refine ih (q + 1) (by omega) (fun j hj => ?_)
      by_cases hjq : j = q
      · subst hjq; exact hc
      · exact hn j (by omega)
theorem cIx {b : Nat} (hb : b < 256) : T Ω (d + 4) 197 0 [.retAddr 29, .int (nI b)] [] h Q = Q (some (.int (if isSg b = true then nI (sgL.idxOf b) else -1))) h := by
  have g1 : ¬ nI b < 0 := nI_pos (by omega)
  have g2 : ¬ (255 : Int32) < nI b := nI_nlt (a := 255) (by omega) (by decide)
  have g3 : (if (0 : Int32) < 0 then (0 : Int32) else 0) = 0 := by decide
  have g4 : (if nI (sl 13) < nI (sl 13) then nI (sl 13) else nI (sl 13)) = nI 8 := by rw [sg_sv.1]; decide
  have key := fun (Q : Option Value → AH → Prop) => cIx_l (Ω := Ω) (d := d + 1) (h := h) (Q := Q) (v1 := nI b) (v2 := 0) hb 8 0 (by decide) (fun j hj => by omega)
  have ls := fun (Q : Option Value → AH → Prop) => Str_len (Ω := Ω) (d := d + 1) (h := h) (Q := Q) (r := 29) (j := 13) rfl (by decide)
  simp only [s197_0, s197_1, s197_2, s197_3, s197_6, s198_0, s198_1, s198_4, s198_7, s198_8, s198_11, s198_12, s198_13, s198_14, s198_17, s198_20, s198_36, s195_0, s195_3, s195_6, s195_7, s195_10, s195_13, s195_14, s195_17, s195_18, isR_ref, isR_nul, isR_ra, nl_int, nl_ref, nl_jk, nl_ra, nl_nul, rf_some, rf_none, nc_nil, nc_i, nc_l, nc_r, nc_n, nc_x, true_and, and_true, and_self, if_true, if_false, ite_true, ite_false, Option.toList_some, Option.toList_none, List.cons_append, List.nil_append, nar_b1, nar_b0, T_ite, reduceIte, reduceCtorEq, one_ne, eq_self, mkC_t, hn_t, va_up_same, not_true_eq_false, not_false_eq_true, Nat.reduceLeDiff, Nat.reduceAdd, Nat.reduceEqDiff, Nat.reduceMul, Nat.reduceSub, Nat.reduceDiv, Nat.reduceMod, Nat.reduceLT, false_and, and_false, false_or, or_false, true_or, or_true, Nat.add_zero, Nat.zero_add, Nat.mul_zero, Nat.zero_mul, Nat.add_left_cancel_iff, Nat.add_right_cancel_iff, show ¬ (1 : Int32) = 0 from by decide, ls]
  simp only [s200_0, s200_1, s200_4, s200_7, s200_8, s200_9, s200_10, s200_11, s200_14, s200_15, s200_16, s200_17, s200_18, s200_21, s200_22, s200_23, s200_24, s200_27, s200_28, s200_29, s200_30, s200_31, s200_32, s200_33, s200_36, s201_0, s201_1, s201_4, s201_5, s201_8, s201_11, s201_12, s201_15, s201_16, s200_17x (xAs (show 13 < 14 by decide)), s202_0, s202_1, s202_2, s202_4, s202_5, isR_ref, isR_nul, isR_ra, nl_int, nl_ref, nl_jk, nl_ra, nl_nul, rf_some, rf_none, nc_nil, nc_i, nc_l, nc_r, nc_n, nc_x, true_and, and_true, and_self, if_true, if_false, ite_true, ite_false, Option.toList_some, Option.toList_none, List.cons_append, List.nil_append, nar_b1, nar_b0, T_ite, reduceIte, reduceCtorEq, one_ne, eq_self, mkC_t, hn_t, va_up_same, not_true_eq_false, not_false_eq_true, Nat.reduceLeDiff, Nat.reduceAdd, Nat.reduceEqDiff, Nat.reduceMul, Nat.reduceSub, Nat.reduceDiv, Nat.reduceMod, Nat.reduceLT, false_and, and_false, false_or, or_false, true_or, or_true, Nat.add_zero, Nat.zero_add, Nat.mul_zero, Nat.zero_mul, Nat.add_left_cancel_iff, Nat.add_right_cancel_iff, g1, g2, g3, g4, show (0 : Int32) < nI 8 from by decide, show ¬ (1 : Int32) = 0 from by decide]
  refine (key _).trans ?_
  simp only [s200_36, s198_36, s197_6, isR_ref, isR_nul, isR_ra, nl_int, nl_ref, nl_jk, nl_ra, nl_nul, rf_some, rf_none, nc_nil, nc_i, nc_l, nc_r, nc_n, nc_x, true_and, and_true, and_self, if_true, if_false, ite_true, ite_false, Option.toList_some, Option.toList_none, List.cons_append, List.nil_append, nar_b1, nar_b0, T_ite, reduceIte, reduceCtorEq, one_ne, eq_self, mkC_t, hn_t, va_up_same, not_true_eq_false, not_false_eq_true, Nat.reduceLeDiff, Nat.reduceAdd, Nat.reduceEqDiff, Nat.reduceMul, Nat.reduceSub, Nat.reduceDiv, Nat.reduceMod, Nat.reduceLT, false_and, and_false, false_or, or_false, true_or, or_true, Nat.add_zero, Nat.zero_add, Nat.mul_zero, Nat.zero_mul, Nat.add_left_cancel_iff, Nat.add_right_cancel_iff]
end EV
