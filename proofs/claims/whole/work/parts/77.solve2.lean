section EV
variable {Ω : AO} {d : Nat} {L st : List Value} {h : AH} {Q : Option Value → AH → Prop} {I I' I'' I0 : Nat → Nat → Int32} {J J' : Nat → Nat → Int64} {A A' : Nat → Nat → Option Nat} {S : Nat → Nat × Nat} {n z z' : Nat} {x y a b : Int32}
def ml (H p q : Nat) : Nat := min H (4 * (p - q))
def ll (H p fi q : Nat) : Nat := min (ml H p q) (H - 4 * (q - fi))
set_option maxHeartbeats 800000 in
theorem tryD (hL : LC A S n) {hc nc m : Nat} (hA : HN A hc nc) (iD : IvD I0 A S n m) (hE : EA I0 I) {i q p bo w r H fi : Nat} {X : Nat → Nat → Nat × Nat} {Y : Nat → Nat → Nat} (him : i < m) (hqp : q < p) (p12 : p ≤ 12) (h60 : H ≤ 60) (hfi : fi ≤ q) (hbo : bo ≤ 6) (hr : r ≤ 100) (hw : w ≤ 99) (hJ : ∀ b k, b < 7 → k ≤ b → J 18 (b * 7 + k) = lN (cs k b r)) (hM : ∀ b h, b ≤ bo → Y b h ≤ 59995) (hX : ∀ b h, b ≤ bo → (X b h).1 ≤ 59995) (h5 : I 16 5 = nI fi) (h6 : I 16 6 = nI bo) (h7 : I 16 7 = nI H) (hp : I 2 2 = nI p) (hN : ∀ b' h', b' ≤ bo → ll H p fi (q + 1) ≤ h' → h' ≤ ml H p (q + 1) → I nc (b' * 49 + h') = ri (Y b' h')) (hsat : ∀ b' h', b' ≤ bo → Y b' (min h' (4 * (p - (q + 1)))) = Y b' h') (hH : ∀ b' h', b' ≤ bo → ll H p fi q ≤ h' → h' ≤ ml H p q → I hc (b' * 49 + h') = ri (X b' h').1) (hC : I 23 q = ri (X bo (ml H p q)).2)
    (hQ : ∀ I', (∀ a, a ≠ hc → a ≠ 23 → I' a = I a) → (∀ j, j ≠ q → I' 23 j = I 23 j) → (∀ b' h', b' ≤ bo → ll H p fi q ≤ h' → h' ≤ ml H p q → I' hc (b' * 49 + h') = ri (if tkN I0 i ≤ h' then stx r w i b' (fun k => Y k (h' - tkN I0 i)) (X b' h') else X b' h').1) → I' 23 q = ri (if tkN I0 i ≤ ml H p q then stx r w i bo (fun k => Y k (ml H p q - tkN I0 i)) (X bo (ml H p q)) else X bo (ml H p q)).2 → Q none (I', J, A, S, n, z)) :
    T Ω (d + 3) 27 0 [.ref 16, .int (nI i), .int (nI q), .int (nI (10 * w)), jk, jk, jk, jk, jk, jk, jk] [] (I, J, A, S, n, z) Q := by
  obtain ⟨a, k, e, g1, g2, g3, g4, g5, g6, g7, g8, g9, g10, g11⟩ := IvD_at iD him
  have htk := tkN_le iD him
  have e1 : min H (4 * (p - q)) = ml H p q := rfl
  have e2 : min H (4 * (p - (q + 1))) = ml H p (q + 1) := rfl
  have e3 : min (ml H p q) (H - 4 * (q - fi)) = ll H p fi q := rfl
  have l1 : ml H p q ≤ 48 ∧ ml H p (q + 1) ≤ 48 ∧ ll H p fi q ≤ 48 := by unfold ll ml; omega
  simp only [s27_0, s27_1, s27_4, s27_7, s27_8, s27_9, s27_12, s27_14, s27_15, s27_16, s27_19, s27_21, s27_22, s27_23, s27_24, s27_25, s27_28, s27_30, s27_32, s27_33, s27_34, s27_37, s27_40, isR_ref, isR_nul, isR_ra, nl_int, nl_ref, nl_jk, nl_ra, nl_nul, rf_some, rf_none, nc_nil, nc_i, nc_l, nc_r, nc_n, nc_x, true_and, and_true, and_self, if_true, if_false, ite_true, ite_false, Option.toList_some, Option.toList_none, List.cons_append, List.nil_append, nar_b1, nar_b0, T_ite, reduceIte, reduceCtorEq, one_ne, eq_self, mkC_t, hn_t, va_up_same, not_true_eq_false, not_false_eq_true, Nat.reduceLeDiff, Nat.reduceAdd, Nat.reduceEqDiff, Nat.reduceMul, Nat.reduceSub, Nat.reduceDiv, Nat.reduceMod, Nat.reduceLT, false_and, and_false, false_or, or_false, true_or, or_true, Nat.add_zero, Nat.zero_add, Nat.mul_zero, Nat.zero_mul, Nat.add_left_cancel_iff, Nat.add_right_cancel_iff, LCS_0 hL, LCn_0 hL, LCS_1 hL, LCn_1 hL, LCS_2 hL, LCn_2 hL, LCS_3 hL, LCn_3 hL, LCS_4 hL, LCn_4 hL, LCS_5 hL, LCn_5 hL, LCS_6 hL, LCn_6 hL, LCS_7 hL, LCn_7 hL, LCS_8 hL, LCn_8 hL, LCS_9 hL, LCn_9 hL, LCS_10 hL, LCn_10 hL, LCS_11 hL, LCn_11 hL, LCS_12 hL, LCn_12 hL, LCS_13 hL, LCn_13 hL, LCS_14 hL, LCn_14 hL, LCS_15 hL, LCn_15 hL, LCS_16 hL, LCn_16 hL, LCS_17 hL, LCn_17 hL, LCS_18 hL, LCn_18 hL, LCS_19 hL, LCn_19 hL, LCS_20 hL, LCn_20 hL, LCS_21 hL, LCn_21 hL, LCS_22 hL, LCn_22 hL, LCS_23 hL, LCn_23 hL, LCS_24 hL, LCn_24 hL, LCS_25 hL, LCn_25 hL, LCS_26 hL, LCn_26 hL, LCS_27 hL, LCn_27 hL, LCS_28 hL, LCn_28 hL, LCS_29 hL, LCn_29 hL, LCS_30 hL, LCn_30 hL, LCS_31 hL, LCn_31 hL, LCS_32 hL, LCn_32 hL, LCS_33 hL, LCn_33 hL, LCS_34 hL, LCn_34 hL, LCS_35 hL, LCn_35 hL, LCS_36 hL, LCn_36 hL, LCS_37 hL, LCn_37 hL, LCS_38 hL, LCn_38 hL, LCS_39 hL, LCn_39 hL, LCS_40 hL, LCn_40 hL, LCS_41 hL, LCn_41 hL, LCA_0_0 hL, LCA_0_1 hL, LCA_0_2 hL, LCA_0_3 hL, LCA_0_4 hL, LCA_0_5 hL, LCA_1_0 hL, LCA_1_1 hL, LCA_1_2 hL, LCA_2_0 hL, LCA_2_1 hL, LCA_5_0 hL, LCA_5_2 hL, LCA_5_3 hL, LCA_10_0 hL, LCA_10_2 hL, LCA_10_3 hL, LCA_10_4 hL, LCA_10_8 hL, LCA_16_0 hL, LCA_16_1 hL, LCA_16_4 hL, LCA_17_0 hL, LCA_17_1 hL, LCA_17_2 hL, LCA_24_0 hL, LCA_24_1 hL, LCA_25_0 hL, LCA_25_1 hL, LCA_25_2 hL, LCA_30_0 hL, LCA_30_1 hL, LCA_30_2 hL, LCA_30_3 hL, LCA_31_0 hL, LCA_31_1 hL, LCA_34_0 hL, LCA_36_0 hL, LCA_38_0 hL, LCA_40_0 hL, vpin (show i < 2147483648 by omega), nI_cl (show i < 2147483648 by omega), g11, g1, g3, g4, halfK iD him g1 hE, mostLeft hL h7 hp (show q ≤ p by omega) h60 p12, nI_1, mostLeft hL h7 hp (show q + 1 ≤ p by omega) h60 p12, leastLeft hL h7 hp h5 hfi (show q ≤ p by omega) h60 p12, e1, e2, e3, maxN (show tkN I0 i < 2147483648 by omega) (show ll H p fi q < 2147483648 by omega)]
  refine try_h hL hA (X := X) (Y := Y) hbo (by omega) g11 l1.1 l1.2.1 htk hr hw hJ hM hX _ (max (tkN I0 i) (ll H p fi q)) I _ _ _ rfl (by omega) (by omega) h6 (fun h' h1 h2 b' h3 => ?_) (fun b' h' h1 h2 h3 => hH b' h' h1 (by omega) h3) hC (fun I' f1 f2 f3 f4 f5 f6 => hQ I' f1 f2 (fun b' h' h1 h2 h3 => ?_) ?_)
  · rw [hN b' _ h3 (by unfold ll ml at *; omega) (by unfold ml at *; omega)]
    rw [show min (h' - tkN I0 i) (ml H p (q + 1)) = min (h' - tkN I0 i) (4 * (p - (q + 1))) by unfold ml at *; omega, hsat b' _ h3]
  · by_cases ht : tkN I0 i ≤ h'
    · rw [if_pos ht]
      exact f4 b' h' h1 (by omega) h3
    · rw [if_neg ht, f3 _ (fun b'' h'' q1 q2 q3 => by omega)]
      exact hH b' h' h1 h2 h3
  · by_cases ht : tkN I0 i ≤ ml H p q
    · rw [if_pos ht]
      exact f5 (by have : ll H p fi q ≤ ml H p q := by unfold ll; omega
                   omega)
    · rw [if_neg ht, f6 (by omega)]
      exact hC
theorem fill1_l {r N a b : Nat} {v : Int32} (hr : r < n) (hs : S r = (13, N)) (hN : N < 100000) (hb : b ≤ N) : ∀ (k i : Nat) (I : Nat → Nat → Int32), i + k = b → T Ω d 208 10 [.ref r, .int (nI a), .int (nI b), .int v, .int (nI i)] [] (I, J, A, S, n, z) Q = Q none (wrs I r i (fun _ => v) k, J, A, S, n, z) := by
  intro k
  induction k with
  | zero =>
    intro i I hi
    obtain rfl : i = b := by omega
    rw [s208_10]
    simp only [s208_12, s208_13, s208_16, s208_17, s208_19, s208_20, s208_21, s208_24, s208_27, isR_ref, isR_nul, isR_ra, nl_int, nl_ref, nl_jk, nl_ra, nl_nul, rf_some, rf_none, nc_nil, nc_i, nc_l, nc_r, nc_n, nc_x, true_and, and_true, and_self, if_true, if_false, ite_true, ite_false, Option.toList_some, Option.toList_none, List.cons_append, List.nil_append, nar_b1, nar_b0, T_ite, reduceIte, reduceCtorEq, one_ne, eq_self, mkC_t, hn_t, va_up_same, not_true_eq_false, not_false_eq_true, Nat.reduceLeDiff, Nat.reduceAdd, Nat.reduceEqDiff, Nat.reduceMul, Nat.reduceSub, Nat.reduceDiv, Nat.reduceMod, Nat.reduceLT, false_and, and_false, false_or, or_false, true_or, or_true, Nat.add_zero, Nat.zero_add, Nat.mul_zero, Nat.zero_mul, Nat.add_left_cancel_iff, Nat.add_right_cancel_iff, Int32.le_refl]
    rfl
  | succ k ih =>
    intro i I hi
    have g1 : ¬ nI b ≤ nI i := nI_ge (by omega) (by omega)
    rw [s208_10]
    simp only [s208_12, s208_13, s208_16, s208_17, s208_19, s208_20, s208_21, s208_24, isR_ref, isR_nul, isR_ra, nl_int, nl_ref, nl_jk, nl_ra, nl_nul, rf_some, rf_none, nc_nil, nc_i, nc_l, nc_r, nc_n, nc_x, true_and, and_true, and_self, if_true, if_false, ite_true, ite_false, Option.toList_some, Option.toList_none, List.cons_append, List.nil_append, nar_b1, nar_b0, T_ite, reduceIte, reduceCtorEq, one_ne, eq_self, mkC_t, hn_t, va_up_same, not_true_eq_false, not_false_eq_true, Nat.reduceLeDiff, Nat.reduceAdd, Nat.reduceEqDiff, Nat.reduceMul, Nat.reduceSub, Nat.reduceDiv, Nat.reduceMod, Nat.reduceLT, false_and, and_false, false_or, or_false, true_or, or_true, Nat.add_zero, Nat.zero_add, Nat.mul_zero, Nat.zero_mul, Nat.add_left_cancel_iff, Nat.add_right_cancel_iff, g1, hs, hr, vpin (show i < 2147483648 by omega), nI_cl (show i < 2147483648 by omega), show i < N by omega, nI_1]
    rw [ih (i + 1) _ (by omega), wrs]
theorem fill1 {r N a b : Nat} {v : Int32} (hr : r < n) (hs : S r = (13, N)) (hN : N < 100000) (hab : a ≤ b) (hb : b ≤ N) : T Ω (d + 1) 208 0 [.ref r, .int (nI a), .int (nI b), .int v, jk] [] (I, J, A, S, n, z) Q = Q none (wrs I r a (fun _ => v) (b - a), J, A, S, n, z) := by
  have g1 : nI a ≤ nI b := nI_le hab (by omega)
  have g2 : 0 ≤ nI a := nI_pos' (by omega)
  have g3 : nI b ≤ nI N := nI_le hb (by omega)
  simp only [s208_0, s208_1, s208_2, s208_3, s208_4, s208_7, s208_8, s209_0, s209_1, s209_2, s209_46, s209_47, s209_59, s209_60, s209_61, s209_73, isR_ref, isR_nul, isR_ra, nl_int, nl_ref, nl_jk, nl_ra, nl_nul, rf_some, rf_none, nc_nil, nc_i, nc_l, nc_r, nc_n, nc_x, true_and, and_true, and_self, if_true, if_false, ite_true, ite_false, Option.toList_some, Option.toList_none, List.cons_append, List.nil_append, nar_b1, nar_b0, T_ite, reduceIte, reduceCtorEq, one_ne, eq_self, mkC_t, hn_t, va_up_same, not_true_eq_false, not_false_eq_true, Nat.reduceLeDiff, Nat.reduceAdd, Nat.reduceEqDiff, Nat.reduceMul, Nat.reduceSub, Nat.reduceDiv, Nat.reduceMod, Nat.reduceLT, false_and, and_false, false_or, or_false, true_or, or_true, Nat.add_zero, Nat.zero_add, Nat.mul_zero, Nat.zero_mul, Nat.add_left_cancel_iff, Nat.add_right_cancel_iff, hs, hr, g1, g2, g3]
  exact fill1_l hr hs hN hb (b - a) a I (by omega)
theorem sp_fill (hL : LC A S n) {hc nc bo : Nat} (hA : HN A hc nc) {v1 : Int32} {v3 v4 v5 : Value} (hbo : bo ≤ 6) : ∀ (k b : Nat) (I : Nat → Nat → Int32), b + k = bo + 1 → I 16 6 = nI bo → (∀ j, j < b * 49 → I hc j = -1) → (∀ I' : Nat → Nat → Int32, (∀ a, a ≠ hc → I' a = I a) → (∀ j, j < (bo + 1) * 49 → I' hc j = -1) → T Ω (d + 2) 26 34 [.ref 16, .int v1, .int (nI (bo + 1)), v3, v4, v5] [] (I', J, A, S, n, z) Q) → T Ω (d + 2) 26 2 [.ref 16, .int v1, .int (nI b), v3, v4, v5] [] (I, J, A, S, n, z) Q := by
  obtain ⟨s1, s2, s3, s4⟩ := HN_S hL hA
  obtain ⟨a1, a2, a3⟩ := id hA
  have e16 : (16 : Nat) ≠ hc := by omega
  intro k
  induction k with
  | zero =>
    intro b I hb h6 hI hQ
    obtain rfl : b = bo + 1 := by omega
    have g1 : nI bo < nI (bo + 1) := nI_lt (by omega) (by omega)
    rw [s26_2]
    simp only [s26_3, s26_4, s26_7, isR_ref, isR_nul, isR_ra, nl_int, nl_ref, nl_jk, nl_ra, nl_nul, rf_some, rf_none, nc_nil, nc_i, nc_l, nc_r, nc_n, nc_x, true_and, and_true, and_self, if_true, if_false, ite_true, ite_false, Option.toList_some, Option.toList_none, List.cons_append, List.nil_append, nar_b1, nar_b0, T_ite, reduceIte, reduceCtorEq, one_ne, eq_self, mkC_t, hn_t, va_up_same, not_true_eq_false, not_false_eq_true, Nat.reduceLeDiff, Nat.reduceAdd, Nat.reduceEqDiff, Nat.reduceMul, Nat.reduceSub, Nat.reduceDiv, Nat.reduceMod, Nat.reduceLT, false_and, and_false, false_or, or_false, true_or, or_true, Nat.add_zero, Nat.zero_add, Nat.mul_zero, Nat.zero_mul, Nat.add_left_cancel_iff, Nat.add_right_cancel_iff, LCS_0 hL, LCn_0 hL, LCS_1 hL, LCn_1 hL, LCS_2 hL, LCn_2 hL, LCS_3 hL, LCn_3 hL, LCS_4 hL, LCn_4 hL, LCS_5 hL, LCn_5 hL, LCS_6 hL, LCn_6 hL, LCS_7 hL, LCn_7 hL, LCS_8 hL, LCn_8 hL, LCS_9 hL, LCn_9 hL, LCS_10 hL, LCn_10 hL, LCS_11 hL, LCn_11 hL, LCS_12 hL, LCn_12 hL, LCS_13 hL, LCn_13 hL, LCS_14 hL, LCn_14 hL, LCS_15 hL, LCn_15 hL, LCS_16 hL, LCn_16 hL, LCS_17 hL, LCn_17 hL, LCS_18 hL, LCn_18 hL, LCS_19 hL, LCn_19 hL, LCS_20 hL, LCn_20 hL, LCS_21 hL, LCn_21 hL, LCS_22 hL, LCn_22 hL, LCS_23 hL, LCn_23 hL, LCS_24 hL, LCn_24 hL, LCS_25 hL, LCn_25 hL, LCS_26 hL, LCn_26 hL, LCS_27 hL, LCn_27 hL, LCS_28 hL, LCn_28 hL, LCS_29 hL, LCn_29 hL, LCS_30 hL, LCn_30 hL, LCS_31 hL, LCn_31 hL, LCS_32 hL, LCn_32 hL, LCS_33 hL, LCn_33 hL, LCS_34 hL, LCn_34 hL, LCS_35 hL, LCn_35 hL, LCS_36 hL, LCn_36 hL, LCS_37 hL, LCn_37 hL, LCS_38 hL, LCn_38 hL, LCS_39 hL, LCn_39 hL, LCS_40 hL, LCn_40 hL, LCS_41 hL, LCn_41 hL, LCA_0_0 hL, LCA_0_1 hL, LCA_0_2 hL, LCA_0_3 hL, LCA_0_4 hL, LCA_0_5 hL, LCA_1_0 hL, LCA_1_1 hL, LCA_1_2 hL, LCA_2_0 hL, LCA_2_1 hL, LCA_5_0 hL, LCA_5_2 hL, LCA_5_3 hL, LCA_10_0 hL, LCA_10_2 hL, LCA_10_3 hL, LCA_10_4 hL, LCA_10_8 hL, LCA_16_0 hL, LCA_16_1 hL, LCA_16_4 hL, LCA_17_0 hL, LCA_17_1 hL, LCA_17_2 hL, LCA_24_0 hL, LCA_24_1 hL, LCA_25_0 hL, LCA_25_1 hL, LCA_25_2 hL, LCA_30_0 hL, LCA_30_1 hL, LCA_30_2 hL, LCA_30_3 hL, LCA_31_0 hL, LCA_31_1 hL, LCA_34_0 hL, LCA_36_0 hL, LCA_38_0 hL, LCA_40_0 hL, h6, g1]
    exact hQ I (fun _ _ => rfl) hI
  | succ k ih =>
    intro b I hb h6 hI hQ
    have g1 : ¬ nI bo < nI b := nI_nlt (by omega) (by omega)
    rw [s26_2]
    simp only [s26_3, s26_4, s26_7, s26_10, s26_11, s26_14, s26_15, s26_17, s26_18, s26_19, s26_20, s26_21, s26_23, s26_24, s26_25, s26_28, s26_31, isR_ref, isR_nul, isR_ra, nl_int, nl_ref, nl_jk, nl_ra, nl_nul, rf_some, rf_none, nc_nil, nc_i, nc_l, nc_r, nc_n, nc_x, true_and, and_true, and_self, if_true, if_false, ite_true, ite_false, Option.toList_some, Option.toList_none, List.cons_append, List.nil_append, nar_b1, nar_b0, T_ite, reduceIte, reduceCtorEq, one_ne, eq_self, mkC_t, hn_t, va_up_same, not_true_eq_false, not_false_eq_true, Nat.reduceLeDiff, Nat.reduceAdd, Nat.reduceEqDiff, Nat.reduceMul, Nat.reduceSub, Nat.reduceDiv, Nat.reduceMod, Nat.reduceLT, false_and, and_false, false_or, or_false, true_or, or_true, Nat.add_zero, Nat.zero_add, Nat.mul_zero, Nat.zero_mul, Nat.add_left_cancel_iff, Nat.add_right_cancel_iff, LCS_0 hL, LCn_0 hL, LCS_1 hL, LCn_1 hL, LCS_2 hL, LCn_2 hL, LCS_3 hL, LCn_3 hL, LCS_4 hL, LCn_4 hL, LCS_5 hL, LCn_5 hL, LCS_6 hL, LCn_6 hL, LCS_7 hL, LCn_7 hL, LCS_8 hL, LCn_8 hL, LCS_9 hL, LCn_9 hL, LCS_10 hL, LCn_10 hL, LCS_11 hL, LCn_11 hL, LCS_12 hL, LCn_12 hL, LCS_13 hL, LCn_13 hL, LCS_14 hL, LCn_14 hL, LCS_15 hL, LCn_15 hL, LCS_16 hL, LCn_16 hL, LCS_17 hL, LCn_17 hL, LCS_18 hL, LCn_18 hL, LCS_19 hL, LCn_19 hL, LCS_20 hL, LCn_20 hL, LCS_21 hL, LCn_21 hL, LCS_22 hL, LCn_22 hL, LCS_23 hL, LCn_23 hL, LCS_24 hL, LCn_24 hL, LCS_25 hL, LCn_25 hL, LCS_26 hL, LCn_26 hL, LCS_27 hL, LCn_27 hL, LCS_28 hL, LCn_28 hL, LCS_29 hL, LCn_29 hL, LCS_30 hL, LCn_30 hL, LCS_31 hL, LCn_31 hL, LCS_32 hL, LCn_32 hL, LCS_33 hL, LCn_33 hL, LCS_34 hL, LCn_34 hL, LCS_35 hL, LCn_35 hL, LCS_36 hL, LCn_36 hL, LCS_37 hL, LCn_37 hL, LCS_38 hL, LCn_38 hL, LCS_39 hL, LCn_39 hL, LCS_40 hL, LCn_40 hL, LCS_41 hL, LCn_41 hL, LCA_0_0 hL, LCA_0_1 hL, LCA_0_2 hL, LCA_0_3 hL, LCA_0_4 hL, LCA_0_5 hL, LCA_1_0 hL, LCA_1_1 hL, LCA_1_2 hL, LCA_2_0 hL, LCA_2_1 hL, LCA_5_0 hL, LCA_5_2 hL, LCA_5_3 hL, LCA_10_0 hL, LCA_10_2 hL, LCA_10_3 hL, LCA_10_4 hL, LCA_10_8 hL, LCA_16_0 hL, LCA_16_1 hL, LCA_16_4 hL, LCA_17_0 hL, LCA_17_1 hL, LCA_17_2 hL, LCA_24_0 hL, LCA_24_1 hL, LCA_25_0 hL, LCA_25_1 hL, LCA_25_2 hL, LCA_30_0 hL, LCA_30_1 hL, LCA_30_2 hL, LCA_30_3 hL, LCA_31_0 hL, LCA_31_1 hL, LCA_34_0 hL, LCA_36_0 hL, LCA_38_0 hL, LCA_40_0 hL, h6, g1, a1, nI_1, lit_49, pk_mul, fill1 s3 s1 (show 343 < 100000 by decide) (show b * 49 ≤ (b + 1) * 49 by omega) (show (b + 1) * 49 ≤ 343 by omega)]
    refine ih (b + 1) _ (by omega) (by rw [wrs_ne e16]; exact h6) (fun j hj => ?_) (fun I' f1 f2 => hQ I' (fun a ha => by rw [f1 a ha, wrs_ne ha]) f2)
    rw [wrs_rd]
    by_cases h1 : b * 49 ≤ j
    · rw [if_pos ⟨rfl, h1, by omega⟩]
    · rw [if_neg (by omega)]; exact hI j (by omega)
/-- the numbers by which the class plans -/
def pMyC (I : Nat → Nat → Int32) (i q : Nat) : Bool := decide (myC I i q = 1)
def pRkC (I : Nat → Nat → Int32) (A : Nat → Nat → Option Nat) (S : Nat → Nat × Nat) (f i q : Nat) : Nat := (rkC I A S f i q).toNatClampNeg
def pWtC (I : Nat → Nat → Int32) (A : Nat → Nat → Option Nat) (S : Nat → Nat × Nat) (f i q : Nat) : Nat := (wtC I A S f i q).toNatClampNeg
def pW0C (I : Nat → Nat → Int32) (A : Nat → Nat → Option Nat) (S : Nat → Nat × Nat) (f : Nat) : Nat := (wrC I A S f).toNatClampNeg
def CVV (I : Nat → Nat → Int32) (A : Nat → Nat → Option Nat) (S : Nat → Nat × Nat) (f np m : Nat) : Nat → Nat → Nat → Nat := VV np m (pW0C I A S f) (pMyC I) (tkN I) (pRkC I A S f) (pWtC I A S f)
def CBB (I : Nat → Nat → Int32) (A : Nat → Nat → Option Nat) (S : Nat → Nat × Nat) (f np m : Nat) : Nat → Nat → Nat → Nat := BB np m (pW0C I A S f) (pMyC I) (tkN I) (pRkC I A S f) (pWtC I A S f)
theorem pRkC_at {f i q : Nat} : pRkC I A S f i q ≤ 100 ∧ rkC I A S f i q = nI (pRkC I A S f i q) := by
  obtain ⟨u, hu, e⟩ : ∃ u, u ≤ 100 ∧ rkC I A S f i q = nI u := rsk_rng _ _ _
  unfold pRkC
  rw [e, nI_cl (by omega)]
  exact ⟨hu, rfl⟩
theorem pWtC_at {f i q lo : Nat} (hlo : I 4 3 = nI lo) (h9 : lo ≤ 99) : pWtC I A S f i q ≤ 99 ∧ wtC I A S f i q = nI (pWtC I A S f i q) := by
  obtain ⟨u, hu, e⟩ : ∃ u, u ≤ lo ∧ wtC I A S f i q = nI u := by unfold wtC; rw [hlo]; exact wts_rng _ _ _ (by omega)
  unfold pWtC
  rw [e, nI_cl (by omega)]
  exact ⟨by omega, rfl⟩
theorem pW0C_at {f : Nat} : pW0C I A S f ≤ 9999 ∧ wrC I A S f = nI (pW0C I A S f) := by
  obtain ⟨u, hu, e⟩ : ∃ u, u ≤ 9999 ∧ wrC I A S f = nI u := bnd_rng (g := 9999) (by decide)
  unfold pW0C
  rw [e, nI_cl (by omega)]
  exact ⟨hu, rfl⟩
theorem CVV_le {f np m j b h : Nat} (hb : b ≤ 6) : CVV I A S f np m j b h ≤ 59995 := VV_le pW0C_at.1 (fun _ _ => pRkC_at.1) j b h hb
end EV
