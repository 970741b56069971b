section EV
variable {Ω : AO} {d : Nat} {L st : List Value} {h : AH} {Q : Option Value → AH → Prop} {I I' I'' : Nat → Nat → Int32} {J J' : Nat → Nat → Int64} {A A' : Nat → Nat → Option Nat} {S : Nat → Nat × Nat} {n z z' : Nat} {x y a b : Int32}
def ri (e : Nat) : Int32 := nI e - 1
theorem ri_0 : ri 0 = -1 := by decide
theorem ri_s (e : Nat) : ri (e + 1) = nI e := nI_pred e
theorem ri_toInt {e : Nat} (h : e < 2 ^ 30) : (ri e).toInt = (e : Int) - 1 := by
  have := pk_sub_toInt (a := e) (b := 1) h (by decide)
  unfold ri
  rw [show (1 : Int32) = nI 1 from rfl, this]
  rfl
theorem ri_le {a b : Nat} (ha : a < 2 ^ 30) (hb : b < 2 ^ 30) : (ri a ≤ ri b) = (a ≤ b) := by
  apply propext
  rw [Int32.le_iff_toInt_le, ri_toInt ha, ri_toInt hb]
  omega
theorem ri_ge {a : Nat} (ha : a < 2 ^ 30) : (0 ≤ ri a) = (¬ a = 0) := by
  apply propext
  rw [Int32.le_iff_toInt_le, ri_toInt ha, show (0 : Int32).toInt = 0 from rfl]
  omega
theorem ri_lt {a : Nat} (ha : a < 2 ^ 30) : (ri a < 0) = (a = 0) := by
  apply propext
  rw [Int32.lt_iff_toInt_lt, ri_toInt ha, show (0 : Int32).toInt = 0 from rfl]
  omega
theorem ri_max {a : Nat} (ha : a < 2 ^ 30) : (if 0 < ri a then ri a else 0) = nI (a - 1) := by
  cases a with
  | zero => rw [ri_0]; rfl
  | succ a =>
    rw [ri_s]
    by_cases h0 : a = 0
    · subst h0; rfl
    · rw [if_pos (show (0 : Int32) < nI a from nI_lt (a := 0) (by omega) (by omega))]; rfl
theorem max0 {a b : Nat} (ha : a < 2 ^ 30) (hb : b < 2 ^ 30) : (if 0 < nI a - nI b then nI a - nI b else 0) = nI (a - b) := by
  by_cases h : b < a
  · rw [nI_subs (by omega), if_pos (show (0 : Int32) < nI (a - b) from nI_lt (a := 0) (by omega) (by omega))]
  · have : ¬ 0 < nI a - nI b := by
      rw [Int32.lt_iff_toInt_lt, pk_sub_toInt ha hb, show (0 : Int32).toInt = 0 from rfl]
      omega
    rw [if_neg this, show a - b = 0 by omega]; rfl
theorem minN {a b : Nat} (ha : a < 2147483648) (hb : b < 2147483648) : (if nI a < nI b then nI a else nI b) = nI (min b a) := by
  simp only [nI_lt' ha hb]
  split <;> congr 1 <;> omega
theorem maxN {a b : Nat} (ha : a < 2147483648) (hb : b < 2147483648) : (if nI a < nI b then nI b else nI a) = nI (max a b) := by
  simp only [nI_lt' ha hb]
  split <;> congr 1 <;> omega
/-- the two rows of the planner may have changed places -/
def AE (A A' : Nat → Nat → Option Nat) : Prop := (∀ a, a ≠ 16 → A' a = A a) ∧ ∀ k, k ≠ 2 → k ≠ 3 → A' 16 k = A 16 k
theorem AE_refl : AE A A := ⟨fun _ _ => rfl, fun _ _ _ => rfl⟩
theorem rLC16 : ∀ e ∈ rLC, e.1 = 16 → e.2.1 ≠ 2 ∧ e.2.1 ≠ 3 := by decide
theorem LC_AE (hL : LC A S n) (h : AE A A') : LC A' S n := by
  refine ⟨hL.1, hL.2.1, fun e he => ?_⟩
  have h1 := hL.2.2 e he
  by_cases h16 : e.1 = 16
  · have h2 := rLC16 e he h16
    rw [h16] at h1 ⊢
    rw [h.2 _ h2.1 h2.2]; exact h1
  · rw [h.1 _ h16]; exact h1
theorem IvD_AE {m : Nat} (h : IvD I A S n m) (g : AE A A') : IvD I A' S n m := by
  obtain ⟨h1, h2, h3, h4⟩ := h
  exact ⟨h1, h2, h3, fun i hi => by rw [g.1 9 (by decide)]; exact h4 i hi⟩
theorem IvT_AE {t : Nat} (h : IvT I A S n t) (g : AE A A') : IvT I A' S n t := by
  obtain ⟨h1, h2, h3, h4, h5, h8⟩ := h
  refine ⟨h1, h2, h3, h4, h5, fun k hk => ?_⟩
  obtain ⟨a, g1, g2, g3, g4⟩ := h8 k hk
  have ha : a ≠ 16 := okA_ne g2 (by omega)
  refine ⟨a, by rw [g.1 6 (by decide)]; exact g1, g2, g3, fun w hw => ?_⟩
  rw [g.1 a ha]
  exact g4 w hw
theorem tv_AE {t f w : Nat} {F : Nat → Int32} (h : IvT I A S n t) (hf : f < t) (g : AE A A') : tv I A' S f w F = tv I A S f w F := by
  obtain ⟨h1, h2, h3, h4, h5, h8⟩ := h
  obtain ⟨a, g1, g2, g3, g4⟩ := h8 f hf
  have ha : a ≠ 16 := okA_ne g2 (by omega)
  have : txr A' f w = txr A f w := by
    unfold txr
    rw [g.1 6 (by decide), g1]
    show (A' a w).getD 0 = (A a w).getD 0
    rw [g.1 a ha]
  unfold tv
  rw [this]
theorem rkC_AE {t f i q : Nat} (h : IvT I A S n t) (hf : f < t) (g : AE A A') : rkC I A' S f i q = rkC I A S f i q := by unfold rkC; rw [tv_AE h hf g]
theorem wtC_AE {t f i q : Nat} (h : IvT I A S n t) (hf : f < t) (g : AE A A') : wtC I A' S f i q = wtC I A S f i q := by unfold wtC; rw [tv_AE h hf g]
theorem wrC_AE {t f : Nat} (h : IvT I A S n t) (hf : f < t) (g : AE A A') : wrC I A' S f = wrC I A S f := by unfold wrC; rw [tv_AE h hf g]
theorem mostLeft (hL : LC A S n) {H p q : Nat} (hH : I 16 7 = nI H) (hp : I 2 2 = nI p) (hq : q ≤ p) (h60 : H ≤ 60) (p12 : p ≤ 12) : T Ω d 28 0 [.ref 16, .int (nI q)] [] (I, J, A, S, n, z) Q = Q (some (.int (nI (min H (4 * (p - q)))))) (I, J, A, S, n, z) := by
  have e1 : nI p - nI q = nI (p - q) := nI_subs hq
  simp only [s28_0, s28_1, s28_4, s28_5, s28_6, s28_9, s28_12, s28_15, s28_16, s28_17, s28_18, s28_21, isR_ref, isR_nul, isR_ra, nl_int, nl_ref, nl_jk, nl_ra, nl_nul, rf_some, rf_none, nc_nil, nc_i, nc_l, nc_r, nc_n, nc_x, true_and, and_true, and_self, if_true, if_false, ite_true, ite_false, Option.toList_some, Option.toList_none, List.cons_append, List.nil_append, nar_b1, nar_b0, T_ite, reduceIte, reduceCtorEq, one_ne, eq_self, mkC_t, hn_t, va_up_same, not_true_eq_false, not_false_eq_true, Nat.reduceLeDiff, Nat.reduceAdd, Nat.reduceEqDiff, Nat.reduceMul, Nat.reduceSub, Nat.reduceDiv, Nat.reduceMod, Nat.reduceLT, false_and, and_false, false_or, or_false, true_or, or_true, Nat.add_zero, Nat.zero_add, Nat.mul_zero, Nat.zero_mul, Nat.add_left_cancel_iff, Nat.add_right_cancel_iff, LCS_0 hL, LCn_0 hL, LCS_1 hL, LCn_1 hL, LCS_2 hL, LCn_2 hL, LCS_3 hL, LCn_3 hL, LCS_4 hL, LCn_4 hL, LCS_5 hL, LCn_5 hL, LCS_6 hL, LCn_6 hL, LCS_7 hL, LCn_7 hL, LCS_8 hL, LCn_8 hL, LCS_9 hL, LCn_9 hL, LCS_10 hL, LCn_10 hL, LCS_11 hL, LCn_11 hL, LCS_12 hL, LCn_12 hL, LCS_13 hL, LCn_13 hL, LCS_14 hL, LCn_14 hL, LCS_15 hL, LCn_15 hL, LCS_16 hL, LCn_16 hL, LCS_17 hL, LCn_17 hL, LCS_18 hL, LCn_18 hL, LCS_19 hL, LCn_19 hL, LCS_20 hL, LCn_20 hL, LCS_21 hL, LCn_21 hL, LCS_22 hL, LCn_22 hL, LCS_23 hL, LCn_23 hL, LCS_24 hL, LCn_24 hL, LCS_25 hL, LCn_25 hL, LCS_26 hL, LCn_26 hL, LCS_27 hL, LCn_27 hL, LCS_28 hL, LCn_28 hL, LCS_29 hL, LCn_29 hL, LCS_30 hL, LCn_30 hL, LCS_31 hL, LCn_31 hL, LCS_32 hL, LCn_32 hL, LCS_33 hL, LCn_33 hL, LCS_34 hL, LCn_34 hL, LCS_35 hL, LCn_35 hL, LCS_36 hL, LCn_36 hL, LCS_37 hL, LCn_37 hL, LCS_38 hL, LCn_38 hL, LCS_39 hL, LCn_39 hL, LCS_40 hL, LCn_40 hL, LCS_41 hL, LCn_41 hL, LCA_0_0 hL, LCA_0_1 hL, LCA_0_2 hL, LCA_0_3 hL, LCA_0_4 hL, LCA_0_5 hL, LCA_1_0 hL, LCA_1_1 hL, LCA_1_2 hL, LCA_2_0 hL, LCA_2_1 hL, LCA_5_0 hL, LCA_5_2 hL, LCA_5_3 hL, LCA_10_0 hL, LCA_10_2 hL, LCA_10_3 hL, LCA_10_4 hL, LCA_10_8 hL, LCA_16_0 hL, LCA_16_1 hL, LCA_16_4 hL, LCA_17_0 hL, LCA_17_1 hL, LCA_17_2 hL, LCA_24_0 hL, LCA_24_1 hL, LCA_25_0 hL, LCA_25_1 hL, LCA_25_2 hL, LCA_30_0 hL, LCA_30_1 hL, LCA_30_2 hL, LCA_30_3 hL, LCA_31_0 hL, LCA_31_1 hL, LCA_34_0 hL, LCA_36_0 hL, LCA_38_0 hL, LCA_40_0 hL, hH, hp, e1, lit_4, pk_mul, minN (show 4 * (p - q) < 2147483648 by omega) (show H < 2147483648 by omega)]
theorem leastLeft (hL : LC A S n) {H p q fi : Nat} (hH : I 16 7 = nI H) (hp : I 2 2 = nI p) (hfi : I 16 5 = nI fi) (hf : fi ≤ q) (hq : q ≤ p) (h60 : H ≤ 60) (p12 : p ≤ 12) : T Ω (d + 1) 29 0 [.ref 16, .int (nI q), jk] [] (I, J, A, S, n, z) Q = Q (some (.int (nI (min (min H (4 * (p - q))) (H - 4 * (q - fi)))))) (I, J, A, S, n, z) := by
  have e1 : nI q - nI fi = nI (q - fi) := nI_subs hf
  simp only [s29_0, s29_1, s29_2, s29_5, s29_6, s29_7, s29_8, s29_11, s29_12, s29_13, s29_14, s29_17, s29_18, s29_19, s29_20, s29_23, s29_24, s29_27, isR_ref, isR_nul, isR_ra, nl_int, nl_ref, nl_jk, nl_ra, nl_nul, rf_some, rf_none, nc_nil, nc_i, nc_l, nc_r, nc_n, nc_x, true_and, and_true, and_self, if_true, if_false, ite_true, ite_false, Option.toList_some, Option.toList_none, List.cons_append, List.nil_append, nar_b1, nar_b0, T_ite, reduceIte, reduceCtorEq, one_ne, eq_self, mkC_t, hn_t, va_up_same, not_true_eq_false, not_false_eq_true, Nat.reduceLeDiff, Nat.reduceAdd, Nat.reduceEqDiff, Nat.reduceMul, Nat.reduceSub, Nat.reduceDiv, Nat.reduceMod, Nat.reduceLT, false_and, and_false, false_or, or_false, true_or, or_true, Nat.add_zero, Nat.zero_add, Nat.mul_zero, Nat.zero_mul, Nat.add_left_cancel_iff, Nat.add_right_cancel_iff, LCS_0 hL, LCn_0 hL, LCS_1 hL, LCn_1 hL, LCS_2 hL, LCn_2 hL, LCS_3 hL, LCn_3 hL, LCS_4 hL, LCn_4 hL, LCS_5 hL, LCn_5 hL, LCS_6 hL, LCn_6 hL, LCS_7 hL, LCn_7 hL, LCS_8 hL, LCn_8 hL, LCS_9 hL, LCn_9 hL, LCS_10 hL, LCn_10 hL, LCS_11 hL, LCn_11 hL, LCS_12 hL, LCn_12 hL, LCS_13 hL, LCn_13 hL, LCS_14 hL, LCn_14 hL, LCS_15 hL, LCn_15 hL, LCS_16 hL, LCn_16 hL, LCS_17 hL, LCn_17 hL, LCS_18 hL, LCn_18 hL, LCS_19 hL, LCn_19 hL, LCS_20 hL, LCn_20 hL, LCS_21 hL, LCn_21 hL, LCS_22 hL, LCn_22 hL, LCS_23 hL, LCn_23 hL, LCS_24 hL, LCn_24 hL, LCS_25 hL, LCn_25 hL, LCS_26 hL, LCn_26 hL, LCS_27 hL, LCn_27 hL, LCS_28 hL, LCn_28 hL, LCS_29 hL, LCn_29 hL, LCS_30 hL, LCn_30 hL, LCS_31 hL, LCn_31 hL, LCS_32 hL, LCn_32 hL, LCS_33 hL, LCn_33 hL, LCS_34 hL, LCn_34 hL, LCS_35 hL, LCn_35 hL, LCS_36 hL, LCn_36 hL, LCS_37 hL, LCn_37 hL, LCS_38 hL, LCn_38 hL, LCS_39 hL, LCn_39 hL, LCS_40 hL, LCn_40 hL, LCS_41 hL, LCn_41 hL, LCA_0_0 hL, LCA_0_1 hL, LCA_0_2 hL, LCA_0_3 hL, LCA_0_4 hL, LCA_0_5 hL, LCA_1_0 hL, LCA_1_1 hL, LCA_1_2 hL, LCA_2_0 hL, LCA_2_1 hL, LCA_5_0 hL, LCA_5_2 hL, LCA_5_3 hL, LCA_10_0 hL, LCA_10_2 hL, LCA_10_3 hL, LCA_10_4 hL, LCA_10_8 hL, LCA_16_0 hL, LCA_16_1 hL, LCA_16_4 hL, LCA_17_0 hL, LCA_17_1 hL, LCA_17_2 hL, LCA_24_0 hL, LCA_24_1 hL, LCA_25_0 hL, LCA_25_1 hL, LCA_25_2 hL, LCA_30_0 hL, LCA_30_1 hL, LCA_30_2 hL, LCA_30_3 hL, LCA_31_0 hL, LCA_31_1 hL, LCA_34_0 hL, LCA_36_0 hL, LCA_38_0 hL, LCA_40_0 hL, hH, hfi, e1, lit_4, pk_mul, max0 (show H < 2 ^ 30 by omega) (show 4 * (q - fi) < 2 ^ 30 by omega), mostLeft hL hH hp hq h60 p12, minN (show H - 4 * (q - fi) < 2147483648 by omega) (show min H (4 * (p - q)) < 2147483648 by omega)]
theorem expd_l (hL : LC A S n) {b l r nc : Nat} {Y : Nat → Nat} {lo : Int32} (hA : A 16 3 = some nc) (snc : S nc = (13, 343)) (ncn : nc < n) (hb : b ≤ 6) (hl : l ≤ 48) (hY : ∀ k, k ≤ b → I nc (k * 49 + l) = ri (Y k)) (hM : ∀ k, k ≤ b → Y k ≤ 59995) (hJ : ∀ b k, b < 7 → k ≤ b → J 18 (b * 7 + k) = lN (cs k b r)) : ∀ (c k : Nat), k + c = b + 1 → T Ω (d + 1) 30 22 [.ref 16, .int (nI b), .int (nI l), .int lo, .long (lN (sE r b Y k)), jk, .int (nI k)] [] (I, J, A, S, n, z) Q = T Ω (d + 1) 30 67 [.ref 16, .int (nI b), .int (nI l), .int lo, .long (lN (sE r b Y (b + 1))), jk, .int (nI (b + 1))] [] (I, J, A, S, n, z) Q := by
  intro c
  induction c with
  | zero =>
    intro k hk
    obtain rfl : k = b + 1 := by omega
    have g1 : nI b < nI (b + 1) := nI_lt (by omega) (by omega)
    rw [s30_22]
    simp only [s30_24, s30_25, isR_ref, isR_nul, isR_ra, nl_int, nl_ref, nl_jk, nl_ra, nl_nul, rf_some, rf_none, nc_nil, nc_i, nc_l, nc_r, nc_n, nc_x, true_and, and_true, and_self, if_true, if_false, ite_true, ite_false, Option.toList_some, Option.toList_none, List.cons_append, List.nil_append, nar_b1, nar_b0, T_ite, reduceIte, reduceCtorEq, one_ne, eq_self, mkC_t, hn_t, va_up_same, not_true_eq_false, not_false_eq_true, Nat.reduceLeDiff, Nat.reduceAdd, Nat.reduceEqDiff, Nat.reduceMul, Nat.reduceSub, Nat.reduceDiv, Nat.reduceMod, Nat.reduceLT, false_and, and_false, false_or, or_false, true_or, or_true, Nat.add_zero, Nat.zero_add, Nat.mul_zero, Nat.zero_mul, Nat.add_left_cancel_iff, Nat.add_right_cancel_iff, g1]
  | succ c ih =>
    intro k hk
    have g1 : ¬ nI b < nI k := nI_nlt (by omega) (by omega)
    have g2 := hM k (by omega)
    rw [s30_22]
    simp only [s30_24, s30_25, s30_28, s30_30, s30_31, s30_34, s30_36, s30_37, s30_40, s30_41, s30_42, s30_45, s30_47, s30_49, s30_50, s30_51, s30_52, s30_53, s30_56, s30_57, s30_58, s30_59, s30_61, s30_64, isR_ref, isR_nul, isR_ra, nl_int, nl_ref, nl_jk, nl_ra, nl_nul, rf_some, rf_none, nc_nil, nc_i, nc_l, nc_r, nc_n, nc_x, true_and, and_true, and_self, if_true, if_false, ite_true, ite_false, Option.toList_some, Option.toList_none, List.cons_append, List.nil_append, nar_b1, nar_b0, T_ite, reduceIte, reduceCtorEq, one_ne, eq_self, mkC_t, hn_t, va_up_same, not_true_eq_false, not_false_eq_true, Nat.reduceLeDiff, Nat.reduceAdd, Nat.reduceEqDiff, Nat.reduceMul, Nat.reduceSub, Nat.reduceDiv, Nat.reduceMod, Nat.reduceLT, false_and, and_false, false_or, or_false, true_or, or_true, Nat.add_zero, Nat.zero_add, Nat.mul_zero, Nat.zero_mul, Nat.add_left_cancel_iff, Nat.add_right_cancel_iff, LCS_0 hL, LCn_0 hL, LCS_1 hL, LCn_1 hL, LCS_2 hL, LCn_2 hL, LCS_3 hL, LCn_3 hL, LCS_4 hL, LCn_4 hL, LCS_5 hL, LCn_5 hL, LCS_6 hL, LCn_6 hL, LCS_7 hL, LCn_7 hL, LCS_8 hL, LCn_8 hL, LCS_9 hL, LCn_9 hL, LCS_10 hL, LCn_10 hL, LCS_11 hL, LCn_11 hL, LCS_12 hL, LCn_12 hL, LCS_13 hL, LCn_13 hL, LCS_14 hL, LCn_14 hL, LCS_15 hL, LCn_15 hL, LCS_16 hL, LCn_16 hL, LCS_17 hL, LCn_17 hL, LCS_18 hL, LCn_18 hL, LCS_19 hL, LCn_19 hL, LCS_20 hL, LCn_20 hL, LCS_21 hL, LCn_21 hL, LCS_22 hL, LCn_22 hL, LCS_23 hL, LCn_23 hL, LCS_24 hL, LCn_24 hL, LCS_25 hL, LCn_25 hL, LCS_26 hL, LCn_26 hL, LCS_27 hL, LCn_27 hL, LCS_28 hL, LCn_28 hL, LCS_29 hL, LCn_29 hL, LCS_30 hL, LCn_30 hL, LCS_31 hL, LCn_31 hL, LCS_32 hL, LCn_32 hL, LCS_33 hL, LCn_33 hL, LCS_34 hL, LCn_34 hL, LCS_35 hL, LCn_35 hL, LCS_36 hL, LCn_36 hL, LCS_37 hL, LCn_37 hL, LCS_38 hL, LCn_38 hL, LCS_39 hL, LCn_39 hL, LCS_40 hL, LCn_40 hL, LCS_41 hL, LCn_41 hL, LCA_0_0 hL, LCA_0_1 hL, LCA_0_2 hL, LCA_0_3 hL, LCA_0_4 hL, LCA_0_5 hL, LCA_1_0 hL, LCA_1_1 hL, LCA_1_2 hL, LCA_2_0 hL, LCA_2_1 hL, LCA_5_0 hL, LCA_5_2 hL, LCA_5_3 hL, LCA_10_0 hL, LCA_10_2 hL, LCA_10_3 hL, LCA_10_4 hL, LCA_10_8 hL, LCA_16_0 hL, LCA_16_1 hL, LCA_16_4 hL, LCA_17_0 hL, LCA_17_1 hL, LCA_17_2 hL, LCA_24_0 hL, LCA_24_1 hL, LCA_25_0 hL, LCA_25_1 hL, LCA_25_2 hL, LCA_30_0 hL, LCA_30_1 hL, LCA_30_2 hL, LCA_30_3 hL, LCA_31_0 hL, LCA_31_1 hL, LCA_34_0 hL, LCA_36_0 hL, LCA_38_0 hL, LCA_40_0 hL, g1, hA, snc, ncn, Cases_of (CO_p hL) (show b < 7 by omega) (show k < 7 by omega), hJ b k (by omega) (by omega), lit_49, pk_mul, nI_add, vpin (show k * 49 + l < 2147483648 by omega), nI_cl (show k * 49 + l < 2147483648 by omega), show k * 49 + l < 343 by omega, hY k (by omega), ri_max (show Y k < 2 ^ 30 by omega), nI_l (show Y k - 1 < 2147483648 by omega), lN_mul, lN_add, nI_1]
    exact ih (k + 1) (by omega)
theorem expd (hL : LC A S n) {b l r w nc : Nat} {Y : Nat → Nat} (hA : A 16 3 = some nc) (snc : S nc = (13, 343)) (ncn : nc < n) (hb : b ≤ 6) (hl : l ≤ 48) (hr : r ≤ 100) (hw : w ≤ 99) (hY : ∀ k, k ≤ b → I nc (k * 49 + l) = ri (Y k)) (hM : ∀ k, k ≤ b → Y k ≤ 59995) (hJ : ∀ b k, b < 7 → k ≤ b → J 18 (b * 7 + k) = lN (cs k b r)) : T Ω (d + 1) 30 0 [.ref 16, .int (nI b), .int (nI l), .int (nI (10 * w)), jk, jk, jk] [] (I, J, A, S, n, z) Q = Q (some (.int (ri (ex r w b Y)))) (I, J, A, S, n, z) := by
  have g2 := hM b (Nat.le_refl _)
  have gd := sE_div (M := 59994) (Y := Y) hr hb hM
  have gl := sE_le2 (M := 59994) (Y := Y) hr hb hM
  have hp := p100 b (by omega)
  have hp0 := p100p b
  have g3 : ¬ lN (100 ^ b) = 0 := fun e => absurd ((pk_lEQ (a := 100 ^ b) (b := 0) (by omega) (by decide)).mp e) (by omega)
  have gl2 : sE r b Y (b + 1) < 2 ^ 63 := Nat.lt_of_le_of_lt (Nat.le_trans gl (Nat.mul_le_mul_left 59994 hp)) (by decide)
  have gb : b * (10 * w) ≤ 6 * 990 := Nat.mul_le_mul hb (by omega)
  simp only [s30_0, s30_1, s30_4, s30_5, s30_7, s30_8, s30_9, s30_10, s30_11, isR_ref, isR_nul, isR_ra, nl_int, nl_ref, nl_jk, nl_ra, nl_nul, rf_some, rf_none, nc_nil, nc_i, nc_l, nc_r, nc_n, nc_x, true_and, and_true, and_self, if_true, if_false, ite_true, ite_false, Option.toList_some, Option.toList_none, List.cons_append, List.nil_append, nar_b1, nar_b0, T_ite, reduceIte, reduceCtorEq, one_ne, eq_self, mkC_t, hn_t, va_up_same, not_true_eq_false, not_false_eq_true, Nat.reduceLeDiff, Nat.reduceAdd, Nat.reduceEqDiff, Nat.reduceMul, Nat.reduceSub, Nat.reduceDiv, Nat.reduceMod, Nat.reduceLT, false_and, and_false, false_or, or_false, true_or, or_true, Nat.add_zero, Nat.zero_add, Nat.mul_zero, Nat.zero_mul, Nat.add_left_cancel_iff, Nat.add_right_cancel_iff, LCS_0 hL, LCn_0 hL, LCS_1 hL, LCn_1 hL, LCS_2 hL, LCn_2 hL, LCS_3 hL, LCn_3 hL, LCS_4 hL, LCn_4 hL, LCS_5 hL, LCn_5 hL, LCS_6 hL, LCn_6 hL, LCS_7 hL, LCn_7 hL, LCS_8 hL, LCn_8 hL, LCS_9 hL, LCn_9 hL, LCS_10 hL, LCn_10 hL, LCS_11 hL, LCn_11 hL, LCS_12 hL, LCn_12 hL, LCS_13 hL, LCn_13 hL, LCS_14 hL, LCn_14 hL, LCS_15 hL, LCn_15 hL, LCS_16 hL, LCn_16 hL, LCS_17 hL, LCn_17 hL, LCS_18 hL, LCn_18 hL, LCS_19 hL, LCn_19 hL, LCS_20 hL, LCn_20 hL, LCS_21 hL, LCn_21 hL, LCS_22 hL, LCn_22 hL, LCS_23 hL, LCn_23 hL, LCS_24 hL, LCn_24 hL, LCS_25 hL, LCn_25 hL, LCS_26 hL, LCn_26 hL, LCS_27 hL, LCn_27 hL, LCS_28 hL, LCn_28 hL, LCS_29 hL, LCn_29 hL, LCS_30 hL, LCn_30 hL, LCS_31 hL, LCn_31 hL, LCS_32 hL, LCn_32 hL, LCS_33 hL, LCn_33 hL, LCS_34 hL, LCn_34 hL, LCS_35 hL, LCn_35 hL, LCS_36 hL, LCn_36 hL, LCS_37 hL, LCn_37 hL, LCS_38 hL, LCn_38 hL, LCS_39 hL, LCn_39 hL, LCS_40 hL, LCn_40 hL, LCS_41 hL, LCn_41 hL, LCA_0_0 hL, LCA_0_1 hL, LCA_0_2 hL, LCA_0_3 hL, LCA_0_4 hL, LCA_0_5 hL, LCA_1_0 hL, LCA_1_1 hL, LCA_1_2 hL, LCA_2_0 hL, LCA_2_1 hL, LCA_5_0 hL, LCA_5_2 hL, LCA_5_3 hL, LCA_10_0 hL, LCA_10_2 hL, LCA_10_3 hL, LCA_10_4 hL, LCA_10_8 hL, LCA_16_0 hL, LCA_16_1 hL, LCA_16_4 hL, LCA_17_0 hL, LCA_17_1 hL, LCA_17_2 hL, LCA_24_0 hL, LCA_24_1 hL, LCA_25_0 hL, LCA_25_1 hL, LCA_25_2 hL, LCA_30_0 hL, LCA_30_1 hL, LCA_30_2 hL, LCA_30_3 hL, LCA_31_0 hL, LCA_31_1 hL, LCA_34_0 hL, LCA_36_0 hL, LCA_38_0 hL, LCA_40_0 hL, hA, snc, ncn, lit_49, pk_mul, nI_add, vpin (show b * 49 + l < 2147483648 by omega), nI_cl (show b * 49 + l < 2147483648 by omega), show b * 49 + l < 343 by omega, hY b (Nat.le_refl _), ri_ge (show Y b < 2 ^ 30 by omega)]
  unfold ex
  by_cases h0 : Y b = 0
  · rw [if_neg (fun h => h h0), if_pos h0]
    simp only [s30_14, s30_15, isR_ref, isR_nul, isR_ra, nl_int, nl_ref, nl_jk, nl_ra, nl_nul, rf_some, rf_none, nc_nil, nc_i, nc_l, nc_r, nc_n, nc_x, true_and, and_true, and_self, if_true, if_false, ite_true, ite_false, Option.toList_some, Option.toList_none, List.cons_append, List.nil_append, nar_b1, nar_b0, T_ite, reduceIte, reduceCtorEq, one_ne, eq_self, mkC_t, hn_t, va_up_same, not_true_eq_false, not_false_eq_true, Nat.reduceLeDiff, Nat.reduceAdd, Nat.reduceEqDiff, Nat.reduceMul, Nat.reduceSub, Nat.reduceDiv, Nat.reduceMod, Nat.reduceLT, false_and, and_false, false_or, or_false, true_or, or_true, Nat.add_zero, Nat.zero_add, Nat.mul_zero, Nat.zero_mul, Nat.add_left_cancel_iff, Nat.add_right_cancel_iff, ri_0]
  · rw [if_pos h0, if_neg h0]
    simp only [s30_16, s30_17, s30_19, s30_20, isR_ref, isR_nul, isR_ra, nl_int, nl_ref, nl_jk, nl_ra, nl_nul, rf_some, rf_none, nc_nil, nc_i, nc_l, nc_r, nc_n, nc_x, true_and, and_true, and_self, if_true, if_false, ite_true, ite_false, Option.toList_some, Option.toList_none, List.cons_append, List.nil_append, nar_b1, nar_b0, T_ite, reduceIte, reduceCtorEq, one_ne, eq_self, mkC_t, hn_t, va_up_same, not_true_eq_false, not_false_eq_true, Nat.reduceLeDiff, Nat.reduceAdd, Nat.reduceEqDiff, Nat.reduceMul, Nat.reduceSub, Nat.reduceDiv, Nat.reduceMod, Nat.reduceLT, false_and, and_false, false_or, or_false, true_or, or_true, Nat.add_zero, Nat.zero_add, Nat.mul_zero, Nat.zero_mul, Nat.add_left_cancel_iff, Nat.add_right_cancel_iff]
    have key := expd_l (Ω := Ω) (d := d) (Q := Q) (z := z) (lo := nI (10 * w)) hL hA snc ncn hb hl hY hM hJ (b + 1) 0 (by omega)
    rw [show sE r b Y 0 = 0 from rfl] at key
    rw [show (0 : Int64) = lN 0 from rfl, show (0 : Int32) = nI 0 from rfl, key]
    simp only [s30_67, s30_68, s30_70, s30_73, s30_74, s30_75, s30_76, s30_77, s30_78, s30_79, s30_80, s30_81, s30_84, s30_74x xA4, isR_ref, isR_nul, isR_ra, nl_int, nl_ref, nl_jk, nl_ra, nl_nul, rf_some, rf_none, nc_nil, nc_i, nc_l, nc_r, nc_n, nc_x, true_and, and_true, and_self, if_true, if_false, ite_true, ite_false, Option.toList_some, Option.toList_none, List.cons_append, List.nil_append, nar_b1, nar_b0, T_ite, reduceIte, reduceCtorEq, one_ne, eq_self, mkC_t, hn_t, va_up_same, not_true_eq_false, not_false_eq_true, Nat.reduceLeDiff, Nat.reduceAdd, Nat.reduceEqDiff, Nat.reduceMul, Nat.reduceSub, Nat.reduceDiv, Nat.reduceMod, Nat.reduceLT, false_and, and_false, false_or, or_false, true_or, or_true, Nat.add_zero, Nat.zero_add, Nat.mul_zero, Nat.zero_mul, Nat.add_left_cancel_iff, Nat.add_right_cancel_iff, vpin (show b < 2147483648 by omega), nI_cl (show b < 2147483648 by omega), show b < 7 by omega, hun_eq b (by omega), g3, pk_lDiv gl2 hp0 (show 100 ^ b < 2 ^ 63 by omega), lN_i, pk_mul, max0 (show sE r b Y (b + 1) / 100 ^ b < 2 ^ 30 by omega) (show b * (10 * w) < 2 ^ 30 by omega), ri_s]
end EV
