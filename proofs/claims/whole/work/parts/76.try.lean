section EV
variable {Ω : AO} {d : Nat} {L st : List Value} {h : AH} {Q : Option Value → AH → Prop} {I I' I'' : Nat → Nat → Int32} {J J' : Nat → Nat → Int64} {A A' : Nat → Nat → Option Nat} {S : Nat → Nat × Nat} {n z z' : Nat} {x y a b : Int32}
/-- the planner's rows: here, next -/
def HN (A : Nat → Nat → Option Nat) (hc nc : Nat) : Prop := A 16 2 = some hc ∧ A 16 3 = some nc ∧ ((hc = 21 ∧ nc = 22) ∨ (hc = 22 ∧ nc = 21))
theorem HN_S (hL : LC A S n) {hc nc : Nat} (h : HN A hc nc) : S hc = (13, 343) ∧ S nc = (13, 343) ∧ hc < n ∧ nc < n := by
  have h42 := hL.1
  rcases h.2.2 with ⟨rfl, rfl⟩ | ⟨rfl, rfl⟩
  · exact ⟨LCS_21 hL, LCS_22 hL, by omega, by omega⟩
  · exact ⟨LCS_22 hL, LCS_21 hL, by omega, by omega⟩
set_option maxHeartbeats 800000 in
theorem try_b (hL : LC A S n) {hc nc : Nat} (hA : HN A hc nc) {i q hi mt h l bo w r : Nat} {X : Nat → Nat × Nat} {Y : Nat → Nat} {v4 : Value} (hbo : bo ≤ 6) (hq : q < 12) (hi8 : i < 8) (hh : h ≤ hi) (hi48 : hi ≤ 48) (hl : l ≤ 48) (hr : r ≤ 100) (hw : w ≤ 99) (hJ : ∀ b k, b < 7 → k ≤ b → J 18 (b * 7 + k) = lN (cs k b r)) (hM : ∀ b, b ≤ bo → Y b ≤ 59995) (hX : ∀ b, b ≤ bo → (X b).1 ≤ 59995) :
    ∀ (k b : Nat) (I : Nat → Nat → Int32) (v10 : Value), b + k = bo + 1 → I 16 6 = nI bo → (∀ b', b' ≤ bo → I nc (b' * 49 + l) = ri (Y b')) → (∀ b', b ≤ b' → b' ≤ bo → I hc (b' * 49 + h) = ri (X b').1) → (h = hi → b ≤ bo → I 23 q = ri (X bo).2) →
    (∀ (I' : Nat → Nat → Int32) (v10 : Value), (∀ a, a ≠ hc → a ≠ 23 → I' a = I a) → (∀ j, j ≠ q → I' 23 j = I 23 j) → (∀ j, (∀ b', b ≤ b' → b' ≤ bo → j ≠ b' * 49 + h) → I' hc j = I hc j) → (∀ b', b ≤ b' → b' ≤ bo → I' hc (b' * 49 + h) = ri (stx r w i b' Y (X b')).1) → (h = hi → b ≤ bo → I' 23 q = ri (stx r w i bo Y (X bo)).2) → ((h ≠ hi ∨ bo < b) → I' 23 q = I 23 q) → T Ω (d + 2) 27 146 [.ref 16, .int (nI i), .int (nI q), .int (nI (10 * w)), v4, .int (nI hi), .int (nI mt), .int (nI h), .int (nI l), .int (nI (bo + 1)), v10] [] (I', J, A, S, n, z) Q) →
    T Ω (d + 2) 27 64 [.ref 16, .int (nI i), .int (nI q), .int (nI (10 * w)), v4, .int (nI hi), .int (nI mt), .int (nI h), .int (nI l), .int (nI b), v10] [] (I, J, A, S, n, z) Q := by
  obtain ⟨s1, s2, s3, s4⟩ := HN_S hL hA
  obtain ⟨a1, a2, a3⟩ := hA
  have e1 : hc ≠ 23 ∧ nc ≠ hc ∧ nc ≠ 23 ∧ hc ≠ 16 ∧ nc ≠ 16 := by omega
  intro k
  induction k with
  | zero =>
    intro b I v10 hb h6 hN hH hC hQ
    obtain rfl : b = bo + 1 := by omega
    have g1 : nI bo < nI (bo + 1) := nI_lt (by omega) (by omega)
    rw [s27_64]
    simp only [s27_66, s27_67, s27_70, isR_ref, isR_nul, isR_ra, nl_int, nl_ref, nl_jk, nl_ra, nl_nul, rf_some, rf_none, nc_nil, nc_i, nc_l, nc_r, nc_n, nc_x, true_and, and_true, and_self, if_true, if_false, ite_true, ite_false, Option.toList_some, Option.toList_none, List.cons_append, List.nil_append, nar_b1, nar_b0, T_ite, reduceIte, reduceCtorEq, one_ne, eq_self, mkC_t, hn_t, va_up_same, not_true_eq_false, not_false_eq_true, Nat.reduceLeDiff, Nat.reduceAdd, Nat.reduceEqDiff, Nat.reduceMul, Nat.reduceSub, Nat.reduceDiv, Nat.reduceMod, Nat.reduceLT, false_and, and_false, false_or, or_false, true_or, or_true, Nat.add_zero, Nat.zero_add, Nat.mul_zero, Nat.zero_mul, Nat.add_left_cancel_iff, Nat.add_right_cancel_iff, LCS_0 hL, LCn_0 hL, LCS_1 hL, LCn_1 hL, LCS_2 hL, LCn_2 hL, LCS_3 hL, LCn_3 hL, LCS_4 hL, LCn_4 hL, LCS_5 hL, LCn_5 hL, LCS_6 hL, LCn_6 hL, LCS_7 hL, LCn_7 hL, LCS_8 hL, LCn_8 hL, LCS_9 hL, LCn_9 hL, LCS_10 hL, LCn_10 hL, LCS_11 hL, LCn_11 hL, LCS_12 hL, LCn_12 hL, LCS_13 hL, LCn_13 hL, LCS_14 hL, LCn_14 hL, LCS_15 hL, LCn_15 hL, LCS_16 hL, LCn_16 hL, LCS_17 hL, LCn_17 hL, LCS_18 hL, LCn_18 hL, LCS_19 hL, LCn_19 hL, LCS_20 hL, LCn_20 hL, LCS_21 hL, LCn_21 hL, LCS_22 hL, LCn_22 hL, LCS_23 hL, LCn_23 hL, LCS_24 hL, LCn_24 hL, LCS_25 hL, LCn_25 hL, LCS_26 hL, LCn_26 hL, LCS_27 hL, LCn_27 hL, LCS_28 hL, LCn_28 hL, LCS_29 hL, LCn_29 hL, LCS_30 hL, LCn_30 hL, LCS_31 hL, LCn_31 hL, LCS_32 hL, LCn_32 hL, LCS_33 hL, LCn_33 hL, LCS_34 hL, LCn_34 hL, LCS_35 hL, LCn_35 hL, LCS_36 hL, LCn_36 hL, LCS_37 hL, LCn_37 hL, LCS_38 hL, LCn_38 hL, LCS_39 hL, LCn_39 hL, LCS_40 hL, LCn_40 hL, LCS_41 hL, LCn_41 hL, LCA_0_0 hL, LCA_0_1 hL, LCA_0_2 hL, LCA_0_3 hL, LCA_0_4 hL, LCA_0_5 hL, LCA_1_0 hL, LCA_1_1 hL, LCA_1_2 hL, LCA_2_0 hL, LCA_2_1 hL, LCA_5_0 hL, LCA_5_2 hL, LCA_5_3 hL, LCA_10_0 hL, LCA_10_2 hL, LCA_10_3 hL, LCA_10_4 hL, LCA_10_8 hL, LCA_16_0 hL, LCA_16_1 hL, LCA_16_4 hL, LCA_17_0 hL, LCA_17_1 hL, LCA_17_2 hL, LCA_24_0 hL, LCA_24_1 hL, LCA_25_0 hL, LCA_25_1 hL, LCA_25_2 hL, LCA_30_0 hL, LCA_30_1 hL, LCA_30_2 hL, LCA_30_3 hL, LCA_31_0 hL, LCA_31_1 hL, LCA_34_0 hL, LCA_36_0 hL, LCA_38_0 hL, LCA_40_0 hL, h6, g1]
    exact hQ I v10 (fun _ _ _ => rfl) (fun _ _ => rfl) (fun _ _ => rfl) (fun b' h1 h2 => by omega) (fun h1 h2 => by omega) (fun _ => rfl)
  | succ k ih =>
    intro b I v10 hb h6 hN hH hC hQ
    have g1 : ¬ nI bo < nI b := nI_nlt (by omega) (by omega)
    have g2 := ex_le (M := 59994) (w := w) (Y := Y) (b := b) hr (by omega) (fun j hj => hM j (by omega))
    have g3 := hX b (by omega)
    rw [s27_64]
    simp only [s27_66, s27_67, s27_70, s27_73, s27_74, s27_76, s27_78, s27_79, s27_82, s27_84, s27_86, s27_87, s27_90, s27_92, s27_94, s27_95, s27_97, s27_98, isR_ref, isR_nul, isR_ra, nl_int, nl_ref, nl_jk, nl_ra, nl_nul, rf_some, rf_none, nc_nil, nc_i, nc_l, nc_r, nc_n, nc_x, true_and, and_true, and_self, if_true, if_false, ite_true, ite_false, Option.toList_some, Option.toList_none, List.cons_append, List.nil_append, nar_b1, nar_b0, T_ite, reduceIte, reduceCtorEq, one_ne, eq_self, mkC_t, hn_t, va_up_same, not_true_eq_false, not_false_eq_true, Nat.reduceLeDiff, Nat.reduceAdd, Nat.reduceEqDiff, Nat.reduceMul, Nat.reduceSub, Nat.reduceDiv, Nat.reduceMod, Nat.reduceLT, false_and, and_false, false_or, or_false, true_or, or_true, Nat.add_zero, Nat.zero_add, Nat.mul_zero, Nat.zero_mul, Nat.add_left_cancel_iff, Nat.add_right_cancel_iff, LCS_0 hL, LCn_0 hL, LCS_1 hL, LCn_1 hL, LCS_2 hL, LCn_2 hL, LCS_3 hL, LCn_3 hL, LCS_4 hL, LCn_4 hL, LCS_5 hL, LCn_5 hL, LCS_6 hL, LCn_6 hL, LCS_7 hL, LCn_7 hL, LCS_8 hL, LCn_8 hL, LCS_9 hL, LCn_9 hL, LCS_10 hL, LCn_10 hL, LCS_11 hL, LCn_11 hL, LCS_12 hL, LCn_12 hL, LCS_13 hL, LCn_13 hL, LCS_14 hL, LCn_14 hL, LCS_15 hL, LCn_15 hL, LCS_16 hL, LCn_16 hL, LCS_17 hL, LCn_17 hL, LCS_18 hL, LCn_18 hL, LCS_19 hL, LCn_19 hL, LCS_20 hL, LCn_20 hL, LCS_21 hL, LCn_21 hL, LCS_22 hL, LCn_22 hL, LCS_23 hL, LCn_23 hL, LCS_24 hL, LCn_24 hL, LCS_25 hL, LCn_25 hL, LCS_26 hL, LCn_26 hL, LCS_27 hL, LCn_27 hL, LCS_28 hL, LCn_28 hL, LCS_29 hL, LCn_29 hL, LCS_30 hL, LCn_30 hL, LCS_31 hL, LCn_31 hL, LCS_32 hL, LCn_32 hL, LCS_33 hL, LCn_33 hL, LCS_34 hL, LCn_34 hL, LCS_35 hL, LCn_35 hL, LCS_36 hL, LCn_36 hL, LCS_37 hL, LCn_37 hL, LCS_38 hL, LCn_38 hL, LCS_39 hL, LCn_39 hL, LCS_40 hL, LCn_40 hL, LCS_41 hL, LCn_41 hL, LCA_0_0 hL, LCA_0_1 hL, LCA_0_2 hL, LCA_0_3 hL, LCA_0_4 hL, LCA_0_5 hL, LCA_1_0 hL, LCA_1_1 hL, LCA_1_2 hL, LCA_2_0 hL, LCA_2_1 hL, LCA_5_0 hL, LCA_5_2 hL, LCA_5_3 hL, LCA_10_0 hL, LCA_10_2 hL, LCA_10_3 hL, LCA_10_4 hL, LCA_10_8 hL, LCA_16_0 hL, LCA_16_1 hL, LCA_16_4 hL, LCA_17_0 hL, LCA_17_1 hL, LCA_17_2 hL, LCA_24_0 hL, LCA_24_1 hL, LCA_25_0 hL, LCA_25_1 hL, LCA_25_2 hL, LCA_30_0 hL, LCA_30_1 hL, LCA_30_2 hL, LCA_30_3 hL, LCA_31_0 hL, LCA_31_1 hL, LCA_34_0 hL, LCA_36_0 hL, LCA_38_0 hL, LCA_40_0 hL, h6, g1, a1, s1, s3, expd (w := w) hL a2 s2 s4 (show b ≤ 6 by omega) hl hr hw (fun k hk => hN k (by omega)) (fun k hk => hM k (by omega)) hJ, lit_49, pk_mul, nI_add, vpin (show b * 49 + h < 2147483648 by omega), nI_cl (show b * 49 + h < 2147483648 by omega), show b * 49 + h < 343 by omega, hH b (Nat.le_refl _) (by omega)]
    rw [s27_99]
    simp only [ri_le (show ex r w b Y < 2 ^ 30 by omega) (show (X b).1 < 2 ^ 30 by omega)]
    by_cases hg : ex r w b Y ≤ (X b).1
    · have hst : stx r w i b Y (X b) = X b := by unfold stx; rw [if_neg (by omega)]
      rw [if_pos hg]
      simp only [s27_140, s27_143, isR_ref, isR_nul, isR_ra, nl_int, nl_ref, nl_jk, nl_ra, nl_nul, rf_some, rf_none, nc_nil, nc_i, nc_l, nc_r, nc_n, nc_x, true_and, and_true, and_self, if_true, if_false, ite_true, ite_false, Option.toList_some, Option.toList_none, List.cons_append, List.nil_append, nar_b1, nar_b0, T_ite, reduceIte, reduceCtorEq, one_ne, eq_self, mkC_t, hn_t, va_up_same, not_true_eq_false, not_false_eq_true, Nat.reduceLeDiff, Nat.reduceAdd, Nat.reduceEqDiff, Nat.reduceMul, Nat.reduceSub, Nat.reduceDiv, Nat.reduceMod, Nat.reduceLT, false_and, and_false, false_or, or_false, true_or, or_true, Nat.add_zero, Nat.zero_add, Nat.mul_zero, Nat.zero_mul, Nat.add_left_cancel_iff, Nat.add_right_cancel_iff, nI_1]
      refine ih (b + 1) I _ (by omega) h6 hN (fun b' h1 h2 => hH b' (by omega) h2) (fun h1 h2 => hC h1 (by omega)) (fun I' v f1 f2 f3 f4 f5 f6 => hQ I' v f1 f2 (fun j hj => f3 j (fun b' h1 h2 => hj b' (by omega) h2)) (fun b' h1 h2 => ?_) (fun h1 h2 => ?_) (fun h1 => ?_))
      · by_cases hb' : b' = b
        · subst hb'
          rw [f3 _ (fun b'' g1 g2 => by omega), hst]
          exact hH b' (Nat.le_refl _) h2
        · exact f4 b' (by omega) h2
      · by_cases hbb : b = bo
        · subst hbb
          rw [f6 (Or.inr (by omega)), hst]
          exact hC h1 h2
        · exact f5 h1 (by omega)
      · rcases h1 with h1 | h1
        · exact f6 (Or.inl h1)
        · omega
    · have hst : stx r w i b Y (X b) = (ex r w b Y, i + 1) := by unfold stx; rw [if_pos (by omega)]
      have e2 : ∀ {v : Int32}, wr I hc (b * 49 + h) v 16 6 = nI bo := fun {v} => by rw [wr_ne (fun e => e1.2.2.2.1 e.symm)]; exact h6
      rw [if_neg hg]
      simp only [s27_102, s27_103, s27_106, s27_108, s27_110, s27_111, s27_113, s27_114, s27_116, s27_117, s27_119, s27_120, s27_123, isR_ref, isR_nul, isR_ra, nl_int, nl_ref, nl_jk, nl_ra, nl_nul, rf_some, rf_none, nc_nil, nc_i, nc_l, nc_r, nc_n, nc_x, true_and, and_true, and_self, if_true, if_false, ite_true, ite_false, Option.toList_some, Option.toList_none, List.cons_append, List.nil_append, nar_b1, nar_b0, T_ite, reduceIte, reduceCtorEq, one_ne, eq_self, mkC_t, hn_t, va_up_same, not_true_eq_false, not_false_eq_true, Nat.reduceLeDiff, Nat.reduceAdd, Nat.reduceEqDiff, Nat.reduceMul, Nat.reduceSub, Nat.reduceDiv, Nat.reduceMod, Nat.reduceLT, false_and, and_false, false_or, or_false, true_or, or_true, Nat.add_zero, Nat.zero_add, Nat.mul_zero, Nat.zero_mul, Nat.add_left_cancel_iff, Nat.add_right_cancel_iff, LCS_0 hL, LCn_0 hL, LCS_1 hL, LCn_1 hL, LCS_2 hL, LCn_2 hL, LCS_3 hL, LCn_3 hL, LCS_4 hL, LCn_4 hL, LCS_5 hL, LCn_5 hL, LCS_6 hL, LCn_6 hL, LCS_7 hL, LCn_7 hL, LCS_8 hL, LCn_8 hL, LCS_9 hL, LCn_9 hL, LCS_10 hL, LCn_10 hL, LCS_11 hL, LCn_11 hL, LCS_12 hL, LCn_12 hL, LCS_13 hL, LCn_13 hL, LCS_14 hL, LCn_14 hL, LCS_15 hL, LCn_15 hL, LCS_16 hL, LCn_16 hL, LCS_17 hL, LCn_17 hL, LCS_18 hL, LCn_18 hL, LCS_19 hL, LCn_19 hL, LCS_20 hL, LCn_20 hL, LCS_21 hL, LCn_21 hL, LCS_22 hL, LCn_22 hL, LCS_23 hL, LCn_23 hL, LCS_24 hL, LCn_24 hL, LCS_25 hL, LCn_25 hL, LCS_26 hL, LCn_26 hL, LCS_27 hL, LCn_27 hL, LCS_28 hL, LCn_28 hL, LCS_29 hL, LCn_29 hL, LCS_30 hL, LCn_30 hL, LCS_31 hL, LCn_31 hL, LCS_32 hL, LCn_32 hL, LCS_33 hL, LCn_33 hL, LCS_34 hL, LCn_34 hL, LCS_35 hL, LCn_35 hL, LCS_36 hL, LCn_36 hL, LCS_37 hL, LCn_37 hL, LCS_38 hL, LCn_38 hL, LCS_39 hL, LCn_39 hL, LCS_40 hL, LCn_40 hL, LCS_41 hL, LCn_41 hL, LCA_0_0 hL, LCA_0_1 hL, LCA_0_2 hL, LCA_0_3 hL, LCA_0_4 hL, LCA_0_5 hL, LCA_1_0 hL, LCA_1_1 hL, LCA_1_2 hL, LCA_2_0 hL, LCA_2_1 hL, LCA_5_0 hL, LCA_5_2 hL, LCA_5_3 hL, LCA_10_0 hL, LCA_10_2 hL, LCA_10_3 hL, LCA_10_4 hL, LCA_10_8 hL, LCA_16_0 hL, LCA_16_1 hL, LCA_16_4 hL, LCA_17_0 hL, LCA_17_1 hL, LCA_17_2 hL, LCA_24_0 hL, LCA_24_1 hL, LCA_25_0 hL, LCA_25_1 hL, LCA_25_2 hL, LCA_30_0 hL, LCA_30_1 hL, LCA_30_2 hL, LCA_30_3 hL, LCA_31_0 hL, LCA_31_1 hL, LCA_34_0 hL, LCA_36_0 hL, LCA_38_0 hL, LCA_40_0 hL, h6, a1, s1, s3, lit_49, pk_mul, nI_add, vpin (show b * 49 + h < 2147483648 by omega), nI_cl (show b * 49 + h < 2147483648 by omega), show b * 49 + h < 343 by omega, e2, nI_eq' (show b < 2147483648 by omega) (show bo < 2147483648 by omega)]
      by_cases hbb : b = bo
      · subst hbb
        rw [if_pos rfl]
        simp only [s27_126, s27_128, s27_130, isR_ref, isR_nul, isR_ra, nl_int, nl_ref, nl_jk, nl_ra, nl_nul, rf_some, rf_none, nc_nil, nc_i, nc_l, nc_r, nc_n, nc_x, true_and, and_true, and_self, if_true, if_false, ite_true, ite_false, Option.toList_some, Option.toList_none, List.cons_append, List.nil_append, nar_b1, nar_b0, T_ite, reduceIte, reduceCtorEq, one_ne, eq_self, mkC_t, hn_t, va_up_same, not_true_eq_false, not_false_eq_true, Nat.reduceLeDiff, Nat.reduceAdd, Nat.reduceEqDiff, Nat.reduceMul, Nat.reduceSub, Nat.reduceDiv, Nat.reduceMod, Nat.reduceLT, false_and, and_false, false_or, or_false, true_or, or_true, Nat.add_zero, Nat.zero_add, Nat.mul_zero, Nat.zero_mul, Nat.add_left_cancel_iff, Nat.add_right_cancel_iff, nI_eq' (show h < 2147483648 by omega) (show hi < 2147483648 by omega)]
        by_cases hhh : h = hi
        · rw [if_pos hhh]
          simp only [s27_133, s27_134, s27_137, s27_138, s27_139, s27_140, s27_143, isR_ref, isR_nul, isR_ra, nl_int, nl_ref, nl_jk, nl_ra, nl_nul, rf_some, rf_none, nc_nil, nc_i, nc_l, nc_r, nc_n, nc_x, true_and, and_true, and_self, if_true, if_false, ite_true, ite_false, Option.toList_some, Option.toList_none, List.cons_append, List.nil_append, nar_b1, nar_b0, T_ite, reduceIte, reduceCtorEq, one_ne, eq_self, mkC_t, hn_t, va_up_same, not_true_eq_false, not_false_eq_true, Nat.reduceLeDiff, Nat.reduceAdd, Nat.reduceEqDiff, Nat.reduceMul, Nat.reduceSub, Nat.reduceDiv, Nat.reduceMod, Nat.reduceLT, false_and, and_false, false_or, or_false, true_or, or_true, Nat.add_zero, Nat.zero_add, Nat.mul_zero, Nat.zero_mul, Nat.add_left_cancel_iff, Nat.add_right_cancel_iff, LCS_0 hL, LCn_0 hL, LCS_1 hL, LCn_1 hL, LCS_2 hL, LCn_2 hL, LCS_3 hL, LCn_3 hL, LCS_4 hL, LCn_4 hL, LCS_5 hL, LCn_5 hL, LCS_6 hL, LCn_6 hL, LCS_7 hL, LCn_7 hL, LCS_8 hL, LCn_8 hL, LCS_9 hL, LCn_9 hL, LCS_10 hL, LCn_10 hL, LCS_11 hL, LCn_11 hL, LCS_12 hL, LCn_12 hL, LCS_13 hL, LCn_13 hL, LCS_14 hL, LCn_14 hL, LCS_15 hL, LCn_15 hL, LCS_16 hL, LCn_16 hL, LCS_17 hL, LCn_17 hL, LCS_18 hL, LCn_18 hL, LCS_19 hL, LCn_19 hL, LCS_20 hL, LCn_20 hL, LCS_21 hL, LCn_21 hL, LCS_22 hL, LCn_22 hL, LCS_23 hL, LCn_23 hL, LCS_24 hL, LCn_24 hL, LCS_25 hL, LCn_25 hL, LCS_26 hL, LCn_26 hL, LCS_27 hL, LCn_27 hL, LCS_28 hL, LCn_28 hL, LCS_29 hL, LCn_29 hL, LCS_30 hL, LCn_30 hL, LCS_31 hL, LCn_31 hL, LCS_32 hL, LCn_32 hL, LCS_33 hL, LCn_33 hL, LCS_34 hL, LCn_34 hL, LCS_35 hL, LCn_35 hL, LCS_36 hL, LCn_36 hL, LCS_37 hL, LCn_37 hL, LCS_38 hL, LCn_38 hL, LCS_39 hL, LCn_39 hL, LCS_40 hL, LCn_40 hL, LCS_41 hL, LCn_41 hL, LCA_0_0 hL, LCA_0_1 hL, LCA_0_2 hL, LCA_0_3 hL, LCA_0_4 hL, LCA_0_5 hL, LCA_1_0 hL, LCA_1_1 hL, LCA_1_2 hL, LCA_2_0 hL, LCA_2_1 hL, LCA_5_0 hL, LCA_5_2 hL, LCA_5_3 hL, LCA_10_0 hL, LCA_10_2 hL, LCA_10_3 hL, LCA_10_4 hL, LCA_10_8 hL, LCA_16_0 hL, LCA_16_1 hL, LCA_16_4 hL, LCA_17_0 hL, LCA_17_1 hL, LCA_17_2 hL, LCA_24_0 hL, LCA_24_1 hL, LCA_25_0 hL, LCA_25_1 hL, LCA_25_2 hL, LCA_30_0 hL, LCA_30_1 hL, LCA_30_2 hL, LCA_30_3 hL, LCA_31_0 hL, LCA_31_1 hL, LCA_34_0 hL, LCA_36_0 hL, LCA_38_0 hL, LCA_40_0 hL, vpin (show q < 2147483648 by omega), nI_cl (show q < 2147483648 by omega), hq, nI_1]
          refine ih (b + 1) _ _ (by omega) (by rw [wr_ne (by decide)]; exact e2) (fun b' hb' => by rw [wr_ne e1.2.2.1, wr_ne e1.2.1]; exact hN b' hb') (fun b' h1 h2 => by omega) (fun h1 h2 => by omega) (fun I' v f1 f2 f3 f4 f5 f6 => hQ I' v (fun a h1 h2 => by rw [f1 a h1 h2, wr_ne h2, wr_ne h1]) (fun j hj => by rw [f2 j hj, wr_at_ne hj, wr_ne (fun e => e1.1 e.symm)]) (fun j hj => by rw [f3 j (fun b' h1 h2 => by omega), wr_ne e1.1, wr_at_ne (hj b (Nat.le_refl _) (Nat.le_refl _))]) (fun b' h1 h2 => ?_) (fun h1 h2 => ?_) (fun h1 => ?_))
          · obtain rfl : b' = b := by omega
            rw [f3 _ (fun b'' g1 g2 => by omega), wr_ne e1.1, wr_at, hst]
          · rw [f6 (Or.inr (by omega)), wr_at, hst, ri_s]
          · omega
        · rw [if_neg hhh]
          simp only [s27_140, s27_143, isR_ref, isR_nul, isR_ra, nl_int, nl_ref, nl_jk, nl_ra, nl_nul, rf_some, rf_none, nc_nil, nc_i, nc_l, nc_r, nc_n, nc_x, true_and, and_true, and_self, if_true, if_false, ite_true, ite_false, Option.toList_some, Option.toList_none, List.cons_append, List.nil_append, nar_b1, nar_b0, T_ite, reduceIte, reduceCtorEq, one_ne, eq_self, mkC_t, hn_t, va_up_same, not_true_eq_false, not_false_eq_true, Nat.reduceLeDiff, Nat.reduceAdd, Nat.reduceEqDiff, Nat.reduceMul, Nat.reduceSub, Nat.reduceDiv, Nat.reduceMod, Nat.reduceLT, false_and, and_false, false_or, or_false, true_or, or_true, Nat.add_zero, Nat.zero_add, Nat.mul_zero, Nat.zero_mul, Nat.add_left_cancel_iff, Nat.add_right_cancel_iff, nI_1]
          refine ih (b + 1) _ _ (by omega) e2 (fun b' hb' => by rw [wr_ne e1.2.1]; exact hN b' hb') (fun b' h1 h2 => by omega) (fun h1 h2 => by omega) (fun I' v f1 f2 f3 f4 f5 f6 => hQ I' v (fun a h1 h2 => by rw [f1 a h1 h2, wr_ne h1]) (fun j hj => by rw [f2 j hj, wr_ne (fun e => e1.1 e.symm)]) (fun j hj => by rw [f3 j (fun b' h1 h2 => by omega), wr_at_ne (hj b (Nat.le_refl _) (Nat.le_refl _))]) (fun b' h1 h2 => ?_) (fun h1 h2 => ?_) (fun h1 => ?_))
          · obtain rfl : b' = b := by omega
            rw [f3 _ (fun b'' g1 g2 => by omega), wr_at, hst]
          · exact absurd h1 hhh
          · rw [f6 (Or.inl hhh), wr_ne (fun e => e1.1 e.symm)]
      · rw [if_neg hbb]
        simp only [s27_140, s27_143, isR_ref, isR_nul, isR_ra, nl_int, nl_ref, nl_jk, nl_ra, nl_nul, rf_some, rf_none, nc_nil, nc_i, nc_l, nc_r, nc_n, nc_x, true_and, and_true, and_self, if_true, if_false, ite_true, ite_false, Option.toList_some, Option.toList_none, List.cons_append, List.nil_append, nar_b1, nar_b0, T_ite, reduceIte, reduceCtorEq, one_ne, eq_self, mkC_t, hn_t, va_up_same, not_true_eq_false, not_false_eq_true, Nat.reduceLeDiff, Nat.reduceAdd, Nat.reduceEqDiff, Nat.reduceMul, Nat.reduceSub, Nat.reduceDiv, Nat.reduceMod, Nat.reduceLT, false_and, and_false, false_or, or_false, true_or, or_true, Nat.add_zero, Nat.zero_add, Nat.mul_zero, Nat.zero_mul, Nat.add_left_cancel_iff, Nat.add_right_cancel_iff, nI_1]
        refine ih (b + 1) _ _ (by omega) e2 (fun b' hb' => by rw [wr_ne e1.2.1]; exact hN b' hb') (fun b' h1 h2 => by rw [wr_at_ne (by omega)]; exact hH b' (by omega) h2) (fun h1 h2 => by rw [wr_ne (fun e => e1.1 e.symm)]; exact hC h1 (by omega)) (fun I' v f1 f2 f3 f4 f5 f6 => hQ I' v (fun a h1 h2 => by rw [f1 a h1 h2, wr_ne h1]) (fun j hj => by rw [f2 j hj, wr_ne (fun e => e1.1 e.symm)]) (fun j hj => by rw [f3 j (fun b' h1 h2 => hj b' (by omega) h2), wr_at_ne (hj b (Nat.le_refl _) (by omega))]) (fun b' h1 h2 => ?_) (fun h1 h2 => ?_) (fun h1 => ?_))
        · by_cases hb' : b' = b
          · subst hb'
            rw [f3 _ (fun b'' g1 g2 => by omega), wr_at, hst]
          · exact f4 b' (by omega) h2
        · exact f5 h1 (by omega)
        · rcases h1 with h1 | h1
          · rw [f6 (Or.inl h1), wr_ne (fun e => e1.1 e.symm)]
          · omega
set_option maxHeartbeats 800000 in
theorem try_h (hL : LC A S n) {hc nc : Nat} (hA : HN A hc nc) {i q hi mt tk bo w r : Nat} {X : Nat → Nat → Nat × Nat} {Y : Nat → Nat → Nat} (hbo : bo ≤ 6) (hq : q < 12) (hi8 : i < 8) (hi48 : hi ≤ 48) (hmt : mt ≤ 48) (htk : tk ≤ 4) (hr : r ≤ 100) (hw : w ≤ 99) (hJ : ∀ b k, b < 7 → k ≤ b → J 18 (b * 7 + k) = lN (cs k b r)) (hM : ∀ b h, b ≤ bo → Y b h ≤ 59995) (hX : ∀ b h, b ≤ bo → (X b h).1 ≤ 59995) :
    ∀ (k h : Nat) (I : Nat → Nat → Int32) (v8 v9 v10 : Value), hi + 1 - h = k → h ≤ 60 → tk ≤ h → I 16 6 = nI bo → (∀ h', h ≤ h' → h' ≤ hi → ∀ b', b' ≤ bo → I nc (b' * 49 + min (h' - tk) mt) = ri (Y b' (h' - tk))) → (∀ b' h', b' ≤ bo → h ≤ h' → h' ≤ hi → I hc (b' * 49 + h') = ri (X b' h').1) → I 23 q = ri (X bo hi).2 →
    (∀ (I' : Nat → Nat → Int32), (∀ a, a ≠ hc → a ≠ 23 → I' a = I a) → (∀ j, j ≠ q → I' 23 j = I 23 j) → (∀ j, (∀ b' h', b' ≤ bo → h ≤ h' → h' ≤ hi → j ≠ b' * 49 + h') → I' hc j = I hc j) → (∀ b' h', b' ≤ bo → h ≤ h' → h' ≤ hi → I' hc (b' * 49 + h') = ri (stx r w i b' (fun k => Y k (h' - tk)) (X b' h')).1) → (h ≤ hi → I' 23 q = ri (stx r w i bo (fun k => Y k (hi - tk)) (X bo hi)).2) → (hi < h → I' 23 q = I 23 q) → Q none (I', J, A, S, n, z)) →
    T Ω (d + 2) 27 42 [.ref 16, .int (nI i), .int (nI q), .int (nI (10 * w)), .int (nI tk), .int (nI hi), .int (nI mt), .int (nI h), v8, v9, v10] [] (I, J, A, S, n, z) Q := by
  obtain ⟨s1, s2, s3, s4⟩ := HN_S hL hA
  obtain ⟨a1, a2, a3⟩ := id hA
  have e1 : hc ≠ 23 ∧ nc ≠ hc ∧ nc ≠ 23 ∧ hc ≠ 16 ∧ nc ≠ 16 := by omega
  intro k
  induction k with
  | zero =>
    intro h I v8 v9 v10 hk h60 ht h6 hN hH hC hQ
    have g1 : nI hi < nI h := nI_lt (by omega) (by omega)
    rw [s27_42]
    simp only [s27_44, s27_46, s27_152, isR_ref, isR_nul, isR_ra, nl_int, nl_ref, nl_jk, nl_ra, nl_nul, rf_some, rf_none, nc_nil, nc_i, nc_l, nc_r, nc_n, nc_x, true_and, and_true, and_self, if_true, if_false, ite_true, ite_false, Option.toList_some, Option.toList_none, List.cons_append, List.nil_append, nar_b1, nar_b0, T_ite, reduceIte, reduceCtorEq, one_ne, eq_self, mkC_t, hn_t, va_up_same, not_true_eq_false, not_false_eq_true, Nat.reduceLeDiff, Nat.reduceAdd, Nat.reduceEqDiff, Nat.reduceMul, Nat.reduceSub, Nat.reduceDiv, Nat.reduceMod, Nat.reduceLT, false_and, and_false, false_or, or_false, true_or, or_true, Nat.add_zero, Nat.zero_add, Nat.mul_zero, Nat.zero_mul, Nat.add_left_cancel_iff, Nat.add_right_cancel_iff, g1]
    exact hQ I (fun _ _ _ => rfl) (fun _ _ => rfl) (fun _ _ => rfl) (fun b' h' h1 h2 h3 => by omega) (fun h1 => by omega) (fun _ => rfl)
  | succ k ih =>
    intro h I v8 v9 v10 hk h60 ht h6 hN hH hC hQ
    have g1 : ¬ nI hi < nI h := nI_nlt (by omega) (by omega)
    have g2 : nI h - nI tk = nI (h - tk) := nI_subs ht
    rw [s27_42]
    simp only [s27_44, s27_46, s27_49, s27_51, s27_53, s27_54, s27_56, s27_59, s27_61, s27_62, isR_ref, isR_nul, isR_ra, nl_int, nl_ref, nl_jk, nl_ra, nl_nul, rf_some, rf_none, nc_nil, nc_i, nc_l, nc_r, nc_n, nc_x, true_and, and_true, and_self, if_true, if_false, ite_true, ite_false, Option.toList_some, Option.toList_none, List.cons_append, List.nil_append, nar_b1, nar_b0, T_ite, reduceIte, reduceCtorEq, one_ne, eq_self, mkC_t, hn_t, va_up_same, not_true_eq_false, not_false_eq_true, Nat.reduceLeDiff, Nat.reduceAdd, Nat.reduceEqDiff, Nat.reduceMul, Nat.reduceSub, Nat.reduceDiv, Nat.reduceMod, Nat.reduceLT, false_and, and_false, false_or, or_false, true_or, or_true, Nat.add_zero, Nat.zero_add, Nat.mul_zero, Nat.zero_mul, Nat.add_left_cancel_iff, Nat.add_right_cancel_iff, g1, g2, minN (show mt < 2147483648 by omega) (show h - tk < 2147483648 by omega)]
    refine try_b hL hA (X := fun b => X b h) (Y := fun k => Y k (h - tk)) hbo hq hi8 (show h ≤ hi by omega) hi48 (show min (h - tk) mt ≤ 48 by omega) hr hw hJ (fun b hb => hM b _ hb) (fun b hb => hX b _ hb) (bo + 1) 0 I _ (by omega) h6 (fun b' hb' => hN h (Nat.le_refl _) (by omega) b' hb') (fun b' _ h2 => hH b' h h2 (Nat.le_refl _) (by omega)) (fun h1 _ => by rw [hC, h1]) (fun I1 v1 f1 f2 f3 f4 f5 f6 => ?_)
    have hc16 : I1 16 = I 16 := f1 16 (fun e => e1.2.2.2.1 e.symm) (by decide)
    have hcnc : I1 nc = I nc := f1 nc e1.2.1 e1.2.2.1
    simp only [s27_146, s27_149, isR_ref, isR_nul, isR_ra, nl_int, nl_ref, nl_jk, nl_ra, nl_nul, rf_some, rf_none, nc_nil, nc_i, nc_l, nc_r, nc_n, nc_x, true_and, and_true, and_self, if_true, if_false, ite_true, ite_false, Option.toList_some, Option.toList_none, List.cons_append, List.nil_append, nar_b1, nar_b0, T_ite, reduceIte, reduceCtorEq, one_ne, eq_self, mkC_t, hn_t, va_up_same, not_true_eq_false, not_false_eq_true, Nat.reduceLeDiff, Nat.reduceAdd, Nat.reduceEqDiff, Nat.reduceMul, Nat.reduceSub, Nat.reduceDiv, Nat.reduceMod, Nat.reduceLT, false_and, and_false, false_or, or_false, true_or, or_true, Nat.add_zero, Nat.zero_add, Nat.mul_zero, Nat.zero_mul, Nat.add_left_cancel_iff, Nat.add_right_cancel_iff, nI_1]
    by_cases hlast : h = hi
    · have g3 : nI hi < nI (h + 1) := nI_lt (by omega) (by omega)
      rw [s27_42]
      simp only [s27_44, s27_46, s27_152, isR_ref, isR_nul, isR_ra, nl_int, nl_ref, nl_jk, nl_ra, nl_nul, rf_some, rf_none, nc_nil, nc_i, nc_l, nc_r, nc_n, nc_x, true_and, and_true, and_self, if_true, if_false, ite_true, ite_false, Option.toList_some, Option.toList_none, List.cons_append, List.nil_append, nar_b1, nar_b0, T_ite, reduceIte, reduceCtorEq, one_ne, eq_self, mkC_t, hn_t, va_up_same, not_true_eq_false, not_false_eq_true, Nat.reduceLeDiff, Nat.reduceAdd, Nat.reduceEqDiff, Nat.reduceMul, Nat.reduceSub, Nat.reduceDiv, Nat.reduceMod, Nat.reduceLT, false_and, and_false, false_or, or_false, true_or, or_true, Nat.add_zero, Nat.zero_add, Nat.mul_zero, Nat.zero_mul, Nat.add_left_cancel_iff, Nat.add_right_cancel_iff, g3]
      refine hQ I1 f1 f2 (fun j hj => f3 j (fun b' _ h2 => hj b' h h2 (Nat.le_refl _) (by omega))) (fun b' h' h1 h2 h3 => ?_) (fun _ => ?_) (fun h1 => by omega)
      · obtain rfl : h' = h := by omega
        exact f4 b' (Nat.zero_le _) h1
      · subst hlast
        exact f5 rfl (Nat.zero_le _)
    · refine ih (h + 1) I1 _ _ _ (by omega) (by omega) (by omega) (by rw [hc16]; exact h6) (fun h' h1 h2 b' h3 => by rw [hcnc]; exact hN h' (by omega) h2 b' h3) (fun b' h' h1 h2 h3 => by rw [f3 _ (fun b'' g1 g2 => by omega)]; exact hH b' h' h1 (by omega) h3) (by rw [f6 (Or.inl hlast)]; exact hC) (fun I2 k1 k2 k3 k4 k5 k6 => hQ I2 (fun a h1 h2 => by rw [k1 a h1 h2, f1 a h1 h2]) (fun j hj => by rw [k2 j hj, f2 j hj]) (fun j hj => by rw [k3 j (fun b' h' h1 h2 h3 => hj b' h' h1 (by omega) h3), f3 j (fun b' _ h2 => hj b' h h2 (Nat.le_refl _) (by omega))]) (fun b' h' h1 h2 h3 => ?_) (fun h1 => k5 (by omega)) (fun h1 => by omega))
      by_cases hh' : h' = h
      · subst hh'
        rw [k3 _ (fun b'' h'' g1 g2 g3 => by omega)]
        exact f4 b' (Nat.zero_le _) h1
      · exact k4 b' h' h1 (by omega) h3
end EV
