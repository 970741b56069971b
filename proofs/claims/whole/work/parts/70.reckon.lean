section EV
variable {Ω : AO} {d : Nat} {L st : List Value} {h : AH} {Q : Option Value → AH → Prop} {I I' I'' : Nat → Nat → Int32} {J J' : Nat → Nat → Int64} {A A' : Nat → Nat → Option Nat} {S : Nat → Nat × Nat} {n z z' : Nat} {x y a b : Int32}
/-- a Cases of the class: the object and its three rows -/
def CO (A : Nat → Nat → Option Nat) (S : Nat → Nat × Nat) (n c w sv ls : Nat) : Prop := c < n ∧ S c = (0, 0) ∧ A c 0 = some w ∧ A c 1 = some sv ∧ A c 2 = some ls ∧ w < n ∧ sv < n ∧ ls < n ∧ S w = (14, 49) ∧ S sv = (14, 7) ∧ S ls = (14, 7) ∧ w ≠ sv ∧ w ≠ ls ∧ sv ≠ ls
theorem CO_f (hL : LC A S n) : CO A S n 25 26 27 28 := by
  have h42 := hL.1
  exact ⟨by omega, LCS_25 hL, LCA_25_0 hL, LCA_25_1 hL, LCA_25_2 hL, by omega, by omega, by omega, LCS_26 hL, LCS_27 hL, LCS_28 hL, by decide, by decide, by decide⟩
theorem CO_p (hL : LC A S n) : CO A S n 17 18 19 20 := by
  have h42 := hL.1
  exact ⟨by omega, LCS_17 hL, LCA_17_0 hL, LCA_17_1 hL, LCA_17_2 hL, by omega, by omega, by omega, LCS_18 hL, LCS_19 hL, LCS_20 hL, by decide, by decide, by decide⟩
theorem reckon_1 {c w sv ls r : Nat} (hC : CO A S n c w sv ls) (hr : r ≤ 100) : ∀ (k i : Nat) (J : Nat → Nat → Int64), i + k = 7 → 1 ≤ i → (∀ j, j < i → J sv j = lN ((100 - r) ^ j)) → (∀ j, j < i → J ls j = lN (r ^ j)) → (∀ J' : Nat → Nat → Int64, (∀ a, a ≠ sv → a ≠ ls → J' a = J a) → (∀ j, j < 7 → J' sv j = lN ((100 - r) ^ j)) → (∀ j, j < 7 → J' ls j = lN (r ^ j)) → T Ω d 1 65 [.ref c, .int (nI r), .int (nI 7), jk] [] (I, J', A, S, n, z) Q) → T Ω d 1 16 [.ref c, .int (nI r), .int (nI i), jk] [] (I, J, A, S, n, z) Q := by
  obtain ⟨c1, c2, c3, c4, c5, c6, c7, c8, c9, c10, c11, c12, c13, c14⟩ := hC
  intro k
  induction k with
  | zero =>
    intro i J hi h1 hs hl hQ
    obtain rfl : i = 7 := by omega
    rw [s1_16]
    simp only [s1_17, s1_19, isR_ref, isR_nul, isR_ra, nl_int, nl_ref, nl_jk, nl_ra, nl_nul, rf_some, rf_none, nc_nil, nc_i, nc_l, nc_r, nc_n, nc_x, true_and, and_true, and_self, if_true, if_false, ite_true, ite_false, Option.toList_some, Option.toList_none, List.cons_append, List.nil_append, nar_b1, nar_b0, T_ite, reduceIte, reduceCtorEq, one_ne, eq_self, mkC_t, hn_t, va_up_same, not_true_eq_false, not_false_eq_true, Nat.reduceLeDiff, Nat.reduceAdd, Nat.reduceEqDiff, Nat.reduceMul, Nat.reduceSub, Nat.reduceDiv, Nat.reduceMod, Nat.reduceLT, false_and, and_false, false_or, or_false, true_or, or_true, Nat.add_zero, Nat.zero_add, Nat.mul_zero, Nat.zero_mul, Nat.add_left_cancel_iff, Nat.add_right_cancel_iff, show (7 : Int32) ≤ nI 7 from by decide]
    exact hQ J (fun _ _ _ => rfl) hs hl
  | succ k ih =>
    intro i J hi h1 hs hl hQ
    have g1 : ¬ (7 : Int32) ≤ nI i := nI_ge (b := 7) (by omega) (by decide)
    have g2 : 100 - nI r = nI (100 - r) := nI_subs (a := 100) (by omega)
    have g3 : nI i - 1 = nI (i - 1) := nI_m1 (by omega)
    have e1 : lN ((100 - r) ^ (i - 1)) * lN (100 - r) = lN ((100 - r) ^ i) := by
      rw [lN_mul, ← Nat.pow_succ, show (i - 1).succ = i by omega]
    have e2 : lN (r ^ (i - 1)) * lN r = lN (r ^ i) := by
      rw [lN_mul, ← Nat.pow_succ, show (i - 1).succ = i by omega]
    rw [s1_16]
    simp only [s1_17, s1_19, s1_22, s1_23, s1_26, s1_27, s1_28, s1_31, s1_32, s1_33, s1_34, s1_35, s1_37, s1_38, s1_39, s1_40, s1_41, s1_42, s1_43, s1_46, s1_47, s1_48, s1_51, s1_52, s1_53, s1_54, s1_55, s1_56, s1_57, s1_58, s1_59, s1_62, isR_ref, isR_nul, isR_ra, nl_int, nl_ref, nl_jk, nl_ra, nl_nul, rf_some, rf_none, nc_nil, nc_i, nc_l, nc_r, nc_n, nc_x, true_and, and_true, and_self, if_true, if_false, ite_true, ite_false, Option.toList_some, Option.toList_none, List.cons_append, List.nil_append, nar_b1, nar_b0, T_ite, reduceIte, reduceCtorEq, one_ne, eq_self, mkC_t, hn_t, va_up_same, not_true_eq_false, not_false_eq_true, Nat.reduceLeDiff, Nat.reduceAdd, Nat.reduceEqDiff, Nat.reduceMul, Nat.reduceSub, Nat.reduceDiv, Nat.reduceMod, Nat.reduceLT, false_and, and_false, false_or, or_false, true_or, or_true, Nat.add_zero, Nat.zero_add, Nat.mul_zero, Nat.zero_mul, Nat.add_left_cancel_iff, Nat.add_right_cancel_iff, g1, g2, g3, c1, c2, c3, c4, c5, c6, c7, c8, c9, c10, c11, nI_1, vpin (show i < 2147483648 by omega), nI_cl (show i < 2147483648 by omega), vpin (show i - 1 < 2147483648 by omega), nI_cl (show i - 1 < 2147483648 by omega), show i < 7 by omega, show i - 1 < 7 by omega, hs (i - 1) (by omega), wr_ne (show ls ≠ sv from fun e => c14 e.symm), hl (i - 1) (by omega), nI_l (show 100 - r < 2147483648 by omega), nI_l (show r < 2147483648 by omega), e1, e2]
    refine ih (i + 1) _ (by omega) (by omega) (fun j hj => ?_) (fun j hj => ?_) (fun J' f1 f2 f3 => hQ J' (fun a g1 g2 => by rw [f1 a g1 g2, wr_ne g2, wr_ne g1]) f2 f3)
    · rw [wr_ne c14, wr_rd]
      by_cases hji : j = i
      · subst hji; simp
      · rw [if_neg (by omega)]; exact hs j (by omega)
    · rw [wr_rd]
      by_cases hji : j = i
      · subst hji; simp
      · rw [if_neg (by omega), wr_ne (fun e => c14 e.symm)]; exact hl j (by omega)
theorem reckon_2 {c w sv ls r b : Nat} (hC : CO A S n c w sv ls) (hr : r ≤ 100) (hb : b ≤ 6) : ∀ (e k : Nat) (J : Nat → Nat → Int64), k + e = b + 1 → (∀ j, j < 7 → J sv j = lN ((100 - r) ^ j)) → (∀ j, j < 7 → J ls j = lN (r ^ j)) → (∀ J' : Nat → Nat → Int64, (∀ a, a ≠ w → J' a = J a) → (∀ j, (j < b * 7 + k ∨ b * 7 + b < j) → J' w j = J w j) → (∀ j, k ≤ j → j ≤ b → J' w (b * 7 + j) = lN (cs j b r)) → T Ω d 1 124 [.ref c, .int (nI r), .int (nI b), .int (nI (b + 1))] [] (I, J', A, S, n, z) Q) → T Ω d 1 75 [.ref c, .int (nI r), .int (nI b), .int (nI k)] [] (I, J, A, S, n, z) Q := by
  obtain ⟨c1, c2, c3, c4, c5, c6, c7, c8, c9, c10, c11, c12, c13, c14⟩ := hC
  intro e
  induction e with
  | zero =>
    intro k J hk hs hl hQ
    obtain rfl : k = b + 1 := by omega
    have g1 : nI b < nI (b + 1) := nI_lt (by omega) (by omega)
    rw [s1_75]
    simp only [s1_76, s1_77, isR_ref, isR_nul, isR_ra, nl_int, nl_ref, nl_jk, nl_ra, nl_nul, rf_some, rf_none, nc_nil, nc_i, nc_l, nc_r, nc_n, nc_x, true_and, and_true, and_self, if_true, if_false, ite_true, ite_false, Option.toList_some, Option.toList_none, List.cons_append, List.nil_append, nar_b1, nar_b0, T_ite, reduceIte, reduceCtorEq, one_ne, eq_self, mkC_t, hn_t, va_up_same, not_true_eq_false, not_false_eq_true, Nat.reduceLeDiff, Nat.reduceAdd, Nat.reduceEqDiff, Nat.reduceMul, Nat.reduceSub, Nat.reduceDiv, Nat.reduceMod, Nat.reduceLT, false_and, and_false, false_or, or_false, true_or, or_true, Nat.add_zero, Nat.zero_add, Nat.mul_zero, Nat.zero_mul, Nat.add_left_cancel_iff, Nat.add_right_cancel_iff, g1]
    exact hQ J (fun _ _ => rfl) (fun _ _ => rfl) (fun j h1 h2 => by omega)
  | succ e ih =>
    intro k J hk hs hl hQ
    have g1 : ¬ nI b < nI k := nI_nlt (by omega) (by omega)
    have g2 : nI b - nI k = nI (b - k) := nI_subs (by omega)
    have e1 : lN (chN (b * 7 + k)) * lN ((100 - r) ^ k) * lN (r ^ (b - k)) = lN (cs k b r) := by
      rw [lN_mul, lN_mul, cs, Nat.mul_comm b 7]
    have hch := chN_le (b * 7 + k) (by omega)
    rw [s1_75]
    simp only [s1_76, s1_77, s1_80, s1_81, s1_84, s1_85, s1_87, s1_88, s1_89, s1_90, s1_93, s1_94, s1_96, s1_97, s1_98, s1_99, s1_100, s1_101, s1_102, s1_105, s1_106, s1_107, s1_108, s1_109, s1_112, s1_113, s1_114, s1_115, s1_116, s1_117, s1_118, s1_121, s1_99x xA3, isR_ref, isR_nul, isR_ra, nl_int, nl_ref, nl_jk, nl_ra, nl_nul, rf_some, rf_none, nc_nil, nc_i, nc_l, nc_r, nc_n, nc_x, true_and, and_true, and_self, if_true, if_false, ite_true, ite_false, Option.toList_some, Option.toList_none, List.cons_append, List.nil_append, nar_b1, nar_b0, T_ite, reduceIte, reduceCtorEq, one_ne, eq_self, mkC_t, hn_t, va_up_same, not_true_eq_false, not_false_eq_true, Nat.reduceLeDiff, Nat.reduceAdd, Nat.reduceEqDiff, Nat.reduceMul, Nat.reduceSub, Nat.reduceDiv, Nat.reduceMod, Nat.reduceLT, false_and, and_false, false_or, or_false, true_or, or_true, Nat.add_zero, Nat.zero_add, Nat.mul_zero, Nat.zero_mul, Nat.add_left_cancel_iff, Nat.add_right_cancel_iff, g1, g2, c1, c2, c3, c4, c5, c6, c7, c8, c9, c10, c11, nI_1, lit_7, pk_mul, nI_add, vpin (show b * 7 + k < 2147483648 by omega), nI_cl (show b * 7 + k < 2147483648 by omega), show b * 7 + k < 49 by omega, chc_eq (b * 7 + k) (by omega), nI_l (show chN (b * 7 + k) < 2147483648 by omega), vpin (show k < 2147483648 by omega), nI_cl (show k < 2147483648 by omega), show k < 7 by omega, vpin (show b - k < 2147483648 by omega), nI_cl (show b - k < 2147483648 by omega), show b - k < 7 by omega, hs k (by omega), hl (b - k) (by omega), e1]
    refine ih (k + 1) _ (by omega) (fun j hj => by rw [wr_ne (fun e => c12 e.symm)]; exact hs j hj) (fun j hj => by rw [wr_ne (fun e => c13 e.symm)]; exact hl j hj) (fun J' f1 f2 f3 => hQ J' (fun a g1 => by rw [f1 a g1, wr_ne g1]) (fun j hj => ?_) (fun j h1 h2 => ?_))
    · rw [f2 j (by omega), wr_at_ne (by omega)]
    · by_cases hjk : j = k
      · subst hjk
        rw [f2 _ (by omega), wr_at]
      · exact f3 j (by omega) h2
theorem reckon_3 {c w sv ls r : Nat} (hC : CO A S n c w sv ls) (hr : r ≤ 100) : ∀ (e b : Nat) (v3 : Value) (J : Nat → Nat → Int64), b + e = 7 → (∀ j, j < 7 → J sv j = lN ((100 - r) ^ j)) → (∀ j, j < 7 → J ls j = lN (r ^ j)) → (∀ b' k, b' < b → k ≤ b' → J w (b' * 7 + k) = lN (cs k b' r)) → (∀ J' : Nat → Nat → Int64, (∀ a, a ≠ w → J' a = J a) → (∀ b' k, b' < 7 → k ≤ b' → J' w (b' * 7 + k) = lN (cs k b' r)) → Q none (I, J', A, S, n, z)) → T Ω d 1 67 [.ref c, .int (nI r), .int (nI b), v3] [] (I, J, A, S, n, z) Q := by
  obtain ⟨c1, c2, c3, c4, c5, c6, c7, c8, c9, c10, c11, c12, c13, c14⟩ := id hC
  intro e
  induction e with
  | zero =>
    intro b v3 J hb hs hl hw hQ
    obtain rfl : b = 7 := by omega
    rw [s1_67]
    simp only [s1_68, s1_70, s1_130, isR_ref, isR_nul, isR_ra, nl_int, nl_ref, nl_jk, nl_ra, nl_nul, rf_some, rf_none, nc_nil, nc_i, nc_l, nc_r, nc_n, nc_x, true_and, and_true, and_self, if_true, if_false, ite_true, ite_false, Option.toList_some, Option.toList_none, List.cons_append, List.nil_append, nar_b1, nar_b0, T_ite, reduceIte, reduceCtorEq, one_ne, eq_self, mkC_t, hn_t, va_up_same, not_true_eq_false, not_false_eq_true, Nat.reduceLeDiff, Nat.reduceAdd, Nat.reduceEqDiff, Nat.reduceMul, Nat.reduceSub, Nat.reduceDiv, Nat.reduceMod, Nat.reduceLT, false_and, and_false, false_or, or_false, true_or, or_true, Nat.add_zero, Nat.zero_add, Nat.mul_zero, Nat.zero_mul, Nat.add_left_cancel_iff, Nat.add_right_cancel_iff, show (7 : Int32) ≤ nI 7 from by decide]
    exact hQ J (fun _ _ => rfl) (fun b' k h1 h2 => hw b' k h1 h2)
  | succ e ih =>
    intro b v3 J hb hs hl hw hQ
    have g1 : ¬ (7 : Int32) ≤ nI b := nI_ge (b := 7) (by omega) (by decide)
    rw [s1_67]
    simp only [s1_68, s1_70, s1_73, s1_74, isR_ref, isR_nul, isR_ra, nl_int, nl_ref, nl_jk, nl_ra, nl_nul, rf_some, rf_none, nc_nil, nc_i, nc_l, nc_r, nc_n, nc_x, true_and, and_true, and_self, if_true, if_false, ite_true, ite_false, Option.toList_some, Option.toList_none, List.cons_append, List.nil_append, nar_b1, nar_b0, T_ite, reduceIte, reduceCtorEq, one_ne, eq_self, mkC_t, hn_t, va_up_same, not_true_eq_false, not_false_eq_true, Nat.reduceLeDiff, Nat.reduceAdd, Nat.reduceEqDiff, Nat.reduceMul, Nat.reduceSub, Nat.reduceDiv, Nat.reduceMod, Nat.reduceLT, false_and, and_false, false_or, or_false, true_or, or_true, Nat.add_zero, Nat.zero_add, Nat.mul_zero, Nat.zero_mul, Nat.add_left_cancel_iff, Nat.add_right_cancel_iff, g1]
    refine reckon_2 hC hr (by omega) (b + 1) 0 J (by omega) hs hl (fun J' f1 f2 f3 => ?_)
    simp only [s1_124, s1_127, isR_ref, isR_nul, isR_ra, nl_int, nl_ref, nl_jk, nl_ra, nl_nul, rf_some, rf_none, nc_nil, nc_i, nc_l, nc_r, nc_n, nc_x, true_and, and_true, and_self, if_true, if_false, ite_true, ite_false, Option.toList_some, Option.toList_none, List.cons_append, List.nil_append, nar_b1, nar_b0, T_ite, reduceIte, reduceCtorEq, one_ne, eq_self, mkC_t, hn_t, va_up_same, not_true_eq_false, not_false_eq_true, Nat.reduceLeDiff, Nat.reduceAdd, Nat.reduceEqDiff, Nat.reduceMul, Nat.reduceSub, Nat.reduceDiv, Nat.reduceMod, Nat.reduceLT, false_and, and_false, false_or, or_false, true_or, or_true, Nat.add_zero, Nat.zero_add, Nat.mul_zero, Nat.zero_mul, Nat.add_left_cancel_iff, Nat.add_right_cancel_iff, nI_1]
    refine ih (b + 1) _ J' (by omega) (fun j hj => by rw [f1 _ (fun e => c12 e.symm)]; exact hs j hj) (fun j hj => by rw [f1 _ (fun e => c13 e.symm)]; exact hl j hj) (fun b' k h1 h2 => ?_) (fun J'' k1 k2 => hQ J'' (fun a g1 => by rw [k1 a g1, f1 a g1]) k2)
    by_cases hb' : b' = b
    · subst hb'
      exact f3 k (Nat.zero_le _) h2
    · rw [f2 _ (by omega)]
      exact hw b' k (by omega) h2
theorem reckon {c w sv ls r : Nat} (hC : CO A S n c w sv ls) (hr : r ≤ 100) (hQ : ∀ J' : Nat → Nat → Int64, (∀ a, a ≠ w → a ≠ sv → a ≠ ls → J' a = J a) → (∀ b k, b < 7 → k ≤ b → J' w (b * 7 + k) = lN (cs k b r)) → Q none (I, J', A, S, n, z)) : T Ω d 1 0 [.ref c, .int (nI r), jk, jk] [] (I, J, A, S, n, z) Q := by
  obtain ⟨c1, c2, c3, c4, c5, c6, c7, c8, c9, c10, c11, c12, c13, c14⟩ := id hC
  simp only [s1_0, s1_1, s1_4, s1_5, s1_6, s1_7, s1_8, s1_11, s1_12, s1_13, s1_14, s1_15, isR_ref, isR_nul, isR_ra, nl_int, nl_ref, nl_jk, nl_ra, nl_nul, rf_some, rf_none, nc_nil, nc_i, nc_l, nc_r, nc_n, nc_x, true_and, and_true, and_self, if_true, if_false, ite_true, ite_false, Option.toList_some, Option.toList_none, List.cons_append, List.nil_append, nar_b1, nar_b0, T_ite, reduceIte, reduceCtorEq, one_ne, eq_self, mkC_t, hn_t, va_up_same, not_true_eq_false, not_false_eq_true, Nat.reduceLeDiff, Nat.reduceAdd, Nat.reduceEqDiff, Nat.reduceMul, Nat.reduceSub, Nat.reduceDiv, Nat.reduceMod, Nat.reduceLT, false_and, and_false, false_or, or_false, true_or, or_true, Nat.add_zero, Nat.zero_add, Nat.mul_zero, Nat.zero_mul, Nat.add_left_cancel_iff, Nat.add_right_cancel_iff, c1, c2, c3, c4, c5, c6, c7, c8, c9, c10, c11, show vp_in 0 7 from vpin (k := 0) (by decide) ▸ (by decide), show (0 : Int32).toNatClampNeg = 0 from rfl]
  rw [show (1 : Int32) = nI 1 from rfl]
  refine reckon_1 hC hr 6 1 _ (by decide) (by decide) (fun j hj => ?_) (fun j hj => ?_) (fun J' f1 f2 f3 => ?_)
  · obtain rfl : j = 0 := by omega
    rw [wr_ne c14, wr_at, Nat.pow_zero]; rfl
  · obtain rfl : j = 0 := by omega
    rw [wr_at, Nat.pow_zero]; rfl
  · simp only [s1_65, s1_66, isR_ref, isR_nul, isR_ra, nl_int, nl_ref, nl_jk, nl_ra, nl_nul, rf_some, rf_none, nc_nil, nc_i, nc_l, nc_r, nc_n, nc_x, true_and, and_true, and_self, if_true, if_false, ite_true, ite_false, Option.toList_some, Option.toList_none, List.cons_append, List.nil_append, nar_b1, nar_b0, T_ite, reduceIte, reduceCtorEq, one_ne, eq_self, mkC_t, hn_t, va_up_same, not_true_eq_false, not_false_eq_true, Nat.reduceLeDiff, Nat.reduceAdd, Nat.reduceEqDiff, Nat.reduceMul, Nat.reduceSub, Nat.reduceDiv, Nat.reduceMod, Nat.reduceLT, false_and, and_false, false_or, or_false, true_or, or_true, Nat.add_zero, Nat.zero_add, Nat.mul_zero, Nat.zero_mul, Nat.add_left_cancel_iff, Nat.add_right_cancel_iff]
    refine reckon_3 hC hr 7 0 _ J' (by decide) f2 f3 (fun b' k h1 h2 => by omega) (fun J'' k1 k2 => ?_)
    exact hQ J'' (fun a h1 h2 h3 => by rw [k1 a h1, f1 a h2 h3, wr_ne h3, wr_ne h2]) k2
theorem Cases_of {c w sv ls b k : Nat} (hC : CO A S n c w sv ls) (hb : b < 7) (hk : k < 7) : T Ω d 2 0 [.ref c, .int (nI k), .int (nI b)] [] (I, J, A, S, n, z) Q = Q (some (.long (J w (b * 7 + k)))) (I, J, A, S, n, z) := by
  obtain ⟨c1, c2, c3, c4, c5, c6, c7, c8, c9, c10, c11, c12, c13, c14⟩ := hC
  simp only [s2_0, s2_1, s2_4, s2_5, s2_7, s2_8, s2_9, s2_10, s2_11, isR_ref, isR_nul, isR_ra, nl_int, nl_ref, nl_jk, nl_ra, nl_nul, rf_some, rf_none, nc_nil, nc_i, nc_l, nc_r, nc_n, nc_x, true_and, and_true, and_self, if_true, if_false, ite_true, ite_false, Option.toList_some, Option.toList_none, List.cons_append, List.nil_append, nar_b1, nar_b0, T_ite, reduceIte, reduceCtorEq, one_ne, eq_self, mkC_t, hn_t, va_up_same, not_true_eq_false, not_false_eq_true, Nat.reduceLeDiff, Nat.reduceAdd, Nat.reduceEqDiff, Nat.reduceMul, Nat.reduceSub, Nat.reduceDiv, Nat.reduceMod, Nat.reduceLT, false_and, and_false, false_or, or_false, true_or, or_true, Nat.add_zero, Nat.zero_add, Nat.mul_zero, Nat.zero_mul, Nat.add_left_cancel_iff, Nat.add_right_cancel_iff, c1, c2, c3, c6, c9, lit_7, pk_mul, nI_add, vpin (show b * 7 + k < 2147483648 by omega), nI_cl (show b * 7 + k < 2147483648 by omega), show b * 7 + k < 49 by omega]
/-- one place passed: what the parts come to -/
def psI (r b w : Nat) : Nat → Nat → (Nat → Nat) → Nat → Nat
  | 0, _, P => P
  | c + 1, k, P => psI r b w c (k + 1) (va_up (va_up P k (P k + w * cs k b r / 100 ^ b)) b (P b - w * cs k b r / 100 ^ b))
def psO (r : Nat) : Nat → Nat → (Nat → Nat) → Nat → Nat
  | 0, _, P => P
  | c + 1, b, P => psO r c (b + 1) (psI r b (P b) b 0 P)
def tot (P : Nat → Nat) : Nat := P 0 + P 1 + P 2 + P 3 + P 4 + P 5 + P 6
def sS (r b w : Nat) : Nat → Nat
  | 0 => 0
  | k + 1 => sS r b w k + w * cs k b r / 100 ^ b
def sC (r b : Nat) : Nat → Nat
  | 0 => 0
  | k + 1 => sC r b k + cs k b r
theorem sC_le0 : ∀ r, r < 101 → ∀ b, b < 7 → sC r b b ≤ 100 ^ b := by decide +kernel
theorem sS_mul {r b w : Nat} : ∀ k, sS r b w k * 100 ^ b ≤ w * sC r b k := by
  intro k
  induction k with
  | zero => simp [sS]
  | succ k ih =>
    rw [sS, sC, Nat.add_mul, Nat.mul_add]
    exact Nat.add_le_add ih (Nat.div_mul_le_self _ _)
theorem sS_mono {r b w : Nat} {i : Nat} : ∀ j, sS r b w i ≤ sS r b w (i + j) := by
  intro j
  induction j with
  | zero => exact Nat.le_refl _
  | succ j ih => exact Nat.le_trans ih (Nat.le_add_right _ _)
theorem sS_le {r b w : Nat} (hr : r ≤ 100) (hb : b ≤ 6) {k : Nat} (hk : k ≤ b) : sS r b w k ≤ w := by
  have h1 : sS r b w b * 100 ^ b ≤ w * 100 ^ b := Nat.le_trans (sS_mul b) (Nat.mul_le_mul_left w (sC_le0 r (by omega) b (by omega)))
  have h2 := Nat.le_of_mul_le_mul_right h1 (p100p b)
  have h3 := sS_mono (r := r) (b := b) (w := w) (i := k) (b - k)
  rw [show k + (b - k) = b by omega] at h3
  omega
theorem tot_mv {P : Nat → Nat} {k b s : Nat} (hb : b ≤ 6) (hk : k < b) (hs : s ≤ P b) : tot (va_up (va_up P k (P k + s)) b (P b - s)) = tot P := by
  unfold tot
  rcases (show b = 1 ∨ b = 2 ∨ b = 3 ∨ b = 4 ∨ b = 5 ∨ b = 6 by omega) with rfl | rfl | rfl | rfl | rfl | rfl <;>
  rcases (show k = 0 ∨ k = 1 ∨ k = 2 ∨ k = 3 ∨ k = 4 ∨ k = 5 by omega) with rfl | rfl | rfl | rfl | rfl | rfl <;>
  first | omega | (simp [va_up_rd]; omega)
theorem tot_le {P : Nat → Nat} {T0 : Nat} (h : tot P = T0) {b : Nat} (hb : b ≤ 6) : P b ≤ T0 := by
  unfold tot at h
  rcases (show b = 0 ∨ b = 1 ∨ b = 2 ∨ b = 3 ∨ b = 4 ∨ b = 5 ∨ b = 6 by omega) with rfl | rfl | rfl | rfl | rfl | rfl | rfl <;> omega
/-- what stands in b while its boats are shared out -/
theorem psI_inv {r b w : Nat} (hr : r ≤ 100) (hb : b ≤ 6) : ∀ (c k : Nat) (P : Nat → Nat), k + c = b → P b + sS r b w k = w → tot (psI r b w c k P) = tot P := by
  intro c
  induction c with
  | zero => intro k P _ _; rfl
  | succ c ih =>
    intro k P hk hP
    have h1 := sS_le (w := w) hr hb (show k + 1 ≤ b by omega)
    rw [sS] at h1
    rw [psI, ih (k + 1) _ (by omega) (by rw [va_up_same, sS]; omega)]
    exact tot_mv hb (by omega) (by omega)
theorem psO_tot {r : Nat} (hr : r ≤ 100) : ∀ (c b : Nat) (P : Nat → Nat), b + c = 7 → tot (psO r c b P) = tot P := by
  intro c
  induction c with
  | zero => intro b P _; rfl
  | succ c ih =>
    intro b P hb
    rw [psO, ih (b + 1) _ (by omega)]
    exact psI_inv hr (by omega) b 0 P (by omega) (by rw [sS]; omega)
end EV
