section EV
variable {Ω : AO} {d : Nat} {L st : List Value} {h : AH} {Q : Option Value → AH → Prop} {I I' I'' : Nat → Nat → Int32} {J J' : Nat → Nat → Int64} {A A' : Nat → Nat → Option Nat} {S : Nat → Nat × Nat} {n z z' : Nat} {x y a b : Int32}
def chN (k : Nat) : Nat := [1, 0, 0, 0, 0, 0, 0, 1, 1, 0, 0, 0, 0, 0, 1, 2, 1, 0, 0, 0, 0, 1, 3, 3, 1, 0, 0, 0, 1, 4, 6, 4, 1, 0, 0, 1, 5, 10, 10, 5, 1, 0, 1, 6, 15, 20, 15, 6, 1].getD k 0
theorem chc_eq : ∀ k, k < 49 → chc k = nI (chN k) := by decide
theorem hun_eq : ∀ k, k < 7 → hun k = lN (100 ^ k) := by decide
theorem chN_le : ∀ k, k < 49 → chN k ≤ 20 := by decide
/-- the cases in which k of b boats are saved -/
def cs (k b r : Nat) : Nat := chN (7 * b + k) * (100 - r) ^ k * r ^ (b - k)
theorem cs_row0 : ∀ r, r < 101 → ∀ b, b < 7 → ((List.range b).map (fun k => cs k b r)).sum ≤ 100 ^ b := by decide +kernel
theorem cs_row1 : ∀ r, r < 101 → ∀ b, b < 7 → ((List.range (b + 1)).map (fun k => cs k b r)).sum = 100 ^ b := by decide +kernel
theorem cs_le0 : ∀ r, r < 101 → ∀ b, b < 7 → ∀ k, k < 7 → k ≤ b → cs k b r ≤ 100 ^ b := by decide +kernel
theorem cs_le {k b r : Nat} (hr : r ≤ 100) (hb : b ≤ 6) (hk : k ≤ b) : cs k b r ≤ 100 ^ b := cs_le0 r (by omega) b (by omega) k (by omega) hk
theorem p100 : ∀ b, b < 7 → 100 ^ b ≤ 1000000000000 := by decide
theorem p100p (b : Nat) : 0 < 100 ^ b := Nat.pow_pos (by decide)
theorem M_cases_l1 {b k : Nat} {r : Int32} (hb : b ≤ 6) (hk : k ≤ b) : ∀ (c i : Nat), i + c = k → T Ω d 161 5 [.int (nI k), .int (nI b), .int r, .long (lN (chN (7 * b + i))), jk, .int (nI i)] [] h Q = T Ω d 161 31 [.int (nI k), .int (nI b), .int r, .long (lN (chN (7 * b + k))), jk, .int (nI k)] [] h Q := by
  intro c
  induction c with
  | zero =>
    intro i hi
    obtain rfl : i = k := by omega
    rw [s161_5]
    simp only [s161_7, s161_8, isR_ref, isR_nul, isR_ra, nl_int, nl_ref, nl_jk, nl_ra, nl_nul, rf_some, rf_none, nc_nil, nc_i, nc_l, nc_r, nc_n, nc_x, true_and, and_true, and_self, if_true, if_false, ite_true, ite_false, Option.toList_some, Option.toList_none, List.cons_append, List.nil_append, nar_b1, nar_b0, T_ite, reduceIte, reduceCtorEq, one_ne, eq_self, mkC_t, hn_t, va_up_same, not_true_eq_false, not_false_eq_true, Nat.reduceLeDiff, Nat.reduceAdd, Nat.reduceEqDiff, Nat.reduceMul, Nat.reduceSub, Nat.reduceDiv, Nat.reduceMod, Nat.reduceLT, false_and, and_false, false_or, or_false, true_or, or_true, Nat.add_zero, Nat.zero_add, Nat.mul_zero, Nat.zero_mul, Nat.add_left_cancel_iff, Nat.add_right_cancel_iff, Int32.le_refl]
  | succ c ih =>
    intro i hi
    have g1 : ¬ nI k ≤ nI i := nI_ge (by omega) (by omega)
    have g2 : nI b - nI i = nI (b - i) := nI_subs (by omega)
    have g3 : ¬ lN (i + 1) = 0 := fun e => absurd ((pk_lEQ (a := i + 1) (b := 0) (by omega) (by decide)).mp e) (by omega)
    have g4 := chN_le (7 * b + i) (by omega)
    have hlt : chN (7 * b + i) * (b - i) < 2 ^ 63 := Nat.lt_of_le_of_lt (Nat.mul_le_mul g4 (show b - i ≤ 6 by omega)) (by decide)
    have g5 : ∀ b, b < 7 → ∀ i, i < 7 → i < b → chN (7 * b + i) * (b - i) / (i + 1) = chN (7 * b + (i + 1)) := by decide
    rw [s161_5]
    simp only [s161_7, s161_8, s161_11, s161_12, s161_13, s161_15, s161_16, s161_17, s161_18, s161_20, s161_21, s161_22, s161_23, s161_24, s161_25, s161_28, isR_ref, isR_nul, isR_ra, nl_int, nl_ref, nl_jk, nl_ra, nl_nul, rf_some, rf_none, nc_nil, nc_i, nc_l, nc_r, nc_n, nc_x, true_and, and_true, and_self, if_true, if_false, ite_true, ite_false, Option.toList_some, Option.toList_none, List.cons_append, List.nil_append, nar_b1, nar_b0, T_ite, reduceIte, reduceCtorEq, one_ne, eq_self, mkC_t, hn_t, va_up_same, not_true_eq_false, not_false_eq_true, Nat.reduceLeDiff, Nat.reduceAdd, Nat.reduceEqDiff, Nat.reduceMul, Nat.reduceSub, Nat.reduceDiv, Nat.reduceMod, Nat.reduceLT, false_and, and_false, false_or, or_false, true_or, or_true, Nat.add_zero, Nat.zero_add, Nat.mul_zero, Nat.zero_mul, Nat.add_left_cancel_iff, Nat.add_right_cancel_iff, g1, g2, nI_1, nI_l (show i + 1 < 2147483648 by omega), nI_l (show b - i < 2147483648 by omega), lN_mul, g3, pk_lDiv hlt (show 0 < i + 1 by omega) (show i + 1 < 2 ^ 63 by omega), g5 b (by omega) i (by omega) (by omega)]
    exact ih (i + 1) (by omega)
theorem M_cases_l2 {b k r : Nat} (hr : r ≤ 100) (hk : k ≤ 6) : ∀ (c i : Nat) (u : Nat), i + c = k → T Ω d 161 34 [.int (nI k), .int (nI b), .int (nI r), .long (lN u), jk, .int (nI i)] [] h Q = T Ω d 161 54 [.int (nI k), .int (nI b), .int (nI r), .long (lN (u * (100 - r) ^ c)), jk, .int (nI k)] [] h Q := by
  intro c
  induction c with
  | zero =>
    intro i u hi
    obtain rfl : i = k := by omega
    rw [s161_34]
    simp only [s161_36, s161_37, isR_ref, isR_nul, isR_ra, nl_int, nl_ref, nl_jk, nl_ra, nl_nul, rf_some, rf_none, nc_nil, nc_i, nc_l, nc_r, nc_n, nc_x, true_and, and_true, and_self, if_true, if_false, ite_true, ite_false, Option.toList_some, Option.toList_none, List.cons_append, List.nil_append, nar_b1, nar_b0, T_ite, reduceIte, reduceCtorEq, one_ne, eq_self, mkC_t, hn_t, va_up_same, not_true_eq_false, not_false_eq_true, Nat.reduceLeDiff, Nat.reduceAdd, Nat.reduceEqDiff, Nat.reduceMul, Nat.reduceSub, Nat.reduceDiv, Nat.reduceMod, Nat.reduceLT, false_and, and_false, false_or, or_false, true_or, or_true, Nat.add_zero, Nat.zero_add, Nat.mul_zero, Nat.zero_mul, Nat.add_left_cancel_iff, Nat.add_right_cancel_iff, Int32.le_refl, Nat.pow_zero, Nat.mul_one]
  | succ c ih =>
    intro i u hi
    have g1 : ¬ nI k ≤ nI i := nI_ge (by omega) (by omega)
    have g2 : 100 - nI r = nI (100 - r) := nI_subs (a := 100) (by omega)
    rw [s161_34]
    simp only [s161_36, s161_37, s161_40, s161_41, s161_43, s161_44, s161_45, s161_46, s161_47, s161_48, s161_51, isR_ref, isR_nul, isR_ra, nl_int, nl_ref, nl_jk, nl_ra, nl_nul, rf_some, rf_none, nc_nil, nc_i, nc_l, nc_r, nc_n, nc_x, true_and, and_true, and_self, if_true, if_false, ite_true, ite_false, Option.toList_some, Option.toList_none, List.cons_append, List.nil_append, nar_b1, nar_b0, T_ite, reduceIte, reduceCtorEq, one_ne, eq_self, mkC_t, hn_t, va_up_same, not_true_eq_false, not_false_eq_true, Nat.reduceLeDiff, Nat.reduceAdd, Nat.reduceEqDiff, Nat.reduceMul, Nat.reduceSub, Nat.reduceDiv, Nat.reduceMod, Nat.reduceLT, false_and, and_false, false_or, or_false, true_or, or_true, Nat.add_zero, Nat.zero_add, Nat.mul_zero, Nat.zero_mul, Nat.add_left_cancel_iff, Nat.add_right_cancel_iff, g1, g2, nI_1, nI_l (show 100 - r < 2147483648 by omega), lN_mul]
    rw [ih (i + 1) _ (by omega), Nat.mul_assoc, Nat.pow_succ, Nat.mul_comm ((100 - r) ^ c)]
theorem M_cases_l3 {b k r : Nat} (hr : r ≤ 100) (hb : b ≤ 6) : ∀ (c i : Nat) (u : Nat), i + c = b → T Ω d 161 57 [.int (nI k), .int (nI b), .int (nI r), .long (lN u), jk, .int (nI i)] [] h Q = Q (some (.long (lN (u * r ^ c)))) h := by
  intro c
  induction c with
  | zero =>
    intro i u hi
    obtain rfl : i = b := by omega
    rw [s161_57]
    simp only [s161_59, s161_60, s161_63, s161_64, s161_65, s161_66, s161_67, s161_68, s161_71, s161_74, s161_75, isR_ref, isR_nul, isR_ra, nl_int, nl_ref, nl_jk, nl_ra, nl_nul, rf_some, rf_none, nc_nil, nc_i, nc_l, nc_r, nc_n, nc_x, true_and, and_true, and_self, if_true, if_false, ite_true, ite_false, Option.toList_some, Option.toList_none, List.cons_append, List.nil_append, nar_b1, nar_b0, T_ite, reduceIte, reduceCtorEq, one_ne, eq_self, mkC_t, hn_t, va_up_same, not_true_eq_false, not_false_eq_true, Nat.reduceLeDiff, Nat.reduceAdd, Nat.reduceEqDiff, Nat.reduceMul, Nat.reduceSub, Nat.reduceDiv, Nat.reduceMod, Nat.reduceLT, false_and, and_false, false_or, or_false, true_or, or_true, Nat.add_zero, Nat.zero_add, Nat.mul_zero, Nat.zero_mul, Nat.add_left_cancel_iff, Nat.add_right_cancel_iff, Int32.le_refl, Nat.pow_zero, Nat.mul_one]
  | succ c ih =>
    intro i u hi
    have g1 : ¬ nI b ≤ nI i := nI_ge (by omega) (by omega)
    rw [s161_57]
    simp only [s161_59, s161_60, s161_63, s161_64, s161_65, s161_66, s161_67, s161_68, s161_71, s161_74, s161_75, isR_ref, isR_nul, isR_ra, nl_int, nl_ref, nl_jk, nl_ra, nl_nul, rf_some, rf_none, nc_nil, nc_i, nc_l, nc_r, nc_n, nc_x, true_and, and_true, and_self, if_true, if_false, ite_true, ite_false, Option.toList_some, Option.toList_none, List.cons_append, List.nil_append, nar_b1, nar_b0, T_ite, reduceIte, reduceCtorEq, one_ne, eq_self, mkC_t, hn_t, va_up_same, not_true_eq_false, not_false_eq_true, Nat.reduceLeDiff, Nat.reduceAdd, Nat.reduceEqDiff, Nat.reduceMul, Nat.reduceSub, Nat.reduceDiv, Nat.reduceMod, Nat.reduceLT, false_and, and_false, false_or, or_false, true_or, or_true, Nat.add_zero, Nat.zero_add, Nat.mul_zero, Nat.zero_mul, Nat.add_left_cancel_iff, Nat.add_right_cancel_iff, g1, nI_1, nI_l (show r < 2147483648 by omega), lN_mul]
    rw [ih (i + 1) _ (by omega), Nat.mul_assoc, Nat.pow_succ, Nat.mul_comm (r ^ c)]
theorem M_cases {b k r : Nat} (hr : r ≤ 100) (hb : b ≤ 6) (hk : k ≤ b) : T Ω d 161 0 [.int (nI k), .int (nI b), .int (nI r), jk, jk, jk] [] h Q = Q (some (.long (lN (cs k b r)))) h := by
  have g5 : ∀ b, b < 7 → chN (7 * b + 0) = 1 := by decide
  have e1 := M_cases_l1 (Ω := Ω) (d := d) (h := h) (Q := Q) (r := nI r) hb hk k 0 (by omega)
  rw [g5 b (by omega)] at e1
  simp only [s161_0, s161_1, s161_2, s161_3, isR_ref, isR_nul, isR_ra, nl_int, nl_ref, nl_jk, nl_ra, nl_nul, rf_some, rf_none, nc_nil, nc_i, nc_l, nc_r, nc_n, nc_x, true_and, and_true, and_self, if_true, if_false, ite_true, ite_false, Option.toList_some, Option.toList_none, List.cons_append, List.nil_append, nar_b1, nar_b0, T_ite, reduceIte, reduceCtorEq, one_ne, eq_self, mkC_t, hn_t, va_up_same, not_true_eq_false, not_false_eq_true, Nat.reduceLeDiff, Nat.reduceAdd, Nat.reduceEqDiff, Nat.reduceMul, Nat.reduceSub, Nat.reduceDiv, Nat.reduceMod, Nat.reduceLT, false_and, and_false, false_or, or_false, true_or, or_true, Nat.add_zero, Nat.zero_add, Nat.mul_zero, Nat.zero_mul, Nat.add_left_cancel_iff, Nat.add_right_cancel_iff]
  rw [show (0 : Int32) = nI 0 from rfl, show (1 : Int64) = lN 1 from rfl, e1]
  simp only [s161_31, s161_32, isR_ref, isR_nul, isR_ra, nl_int, nl_ref, nl_jk, nl_ra, nl_nul, rf_some, rf_none, nc_nil, nc_i, nc_l, nc_r, nc_n, nc_x, true_and, and_true, and_self, if_true, if_false, ite_true, ite_false, Option.toList_some, Option.toList_none, List.cons_append, List.nil_append, nar_b1, nar_b0, T_ite, reduceIte, reduceCtorEq, one_ne, eq_self, mkC_t, hn_t, va_up_same, not_true_eq_false, not_false_eq_true, Nat.reduceLeDiff, Nat.reduceAdd, Nat.reduceEqDiff, Nat.reduceMul, Nat.reduceSub, Nat.reduceDiv, Nat.reduceMod, Nat.reduceLT, false_and, and_false, false_or, or_false, true_or, or_true, Nat.add_zero, Nat.zero_add, Nat.mul_zero, Nat.zero_mul, Nat.add_left_cancel_iff, Nat.add_right_cancel_iff]
  rw [show (0 : Int32) = nI 0 from rfl, M_cases_l2 hr (by omega) k 0 _ (by omega)]
  simp only [s161_54, s161_55, isR_ref, isR_nul, isR_ra, nl_int, nl_ref, nl_jk, nl_ra, nl_nul, rf_some, rf_none, nc_nil, nc_i, nc_l, nc_r, nc_n, nc_x, true_and, and_true, and_self, if_true, if_false, ite_true, ite_false, Option.toList_some, Option.toList_none, List.cons_append, List.nil_append, nar_b1, nar_b0, T_ite, reduceIte, reduceCtorEq, one_ne, eq_self, mkC_t, hn_t, va_up_same, not_true_eq_false, not_false_eq_true, Nat.reduceLeDiff, Nat.reduceAdd, Nat.reduceEqDiff, Nat.reduceMul, Nat.reduceSub, Nat.reduceDiv, Nat.reduceMod, Nat.reduceLT, false_and, and_false, false_or, or_false, true_or, or_true, Nat.add_zero, Nat.zero_add, Nat.mul_zero, Nat.zero_mul, Nat.add_left_cancel_iff, Nat.add_right_cancel_iff]
  rw [M_cases_l3 hr hb (b - k) k _ (by omega)]
  rfl
theorem M_power {b : Nat} (hb : b ≤ 6) : T Ω d 162 0 [.int (nI b), jk, jk, jk] [] h Q = Q (some (.long (lN (100 ^ b)))) h := by
  simp only [s162_0, s162_1, s162_2, s162_3, isR_ref, isR_nul, isR_ra, nl_int, nl_ref, nl_jk, nl_ra, nl_nul, rf_some, rf_none, nc_nil, nc_i, nc_l, nc_r, nc_n, nc_x, true_and, and_true, and_self, if_true, if_false, ite_true, ite_false, Option.toList_some, Option.toList_none, List.cons_append, List.nil_append, nar_b1, nar_b0, T_ite, reduceIte, reduceCtorEq, one_ne, eq_self, mkC_t, hn_t, va_up_same, not_true_eq_false, not_false_eq_true, Nat.reduceLeDiff, Nat.reduceAdd, Nat.reduceEqDiff, Nat.reduceMul, Nat.reduceSub, Nat.reduceDiv, Nat.reduceMod, Nat.reduceLT, false_and, and_false, false_or, or_false, true_or, or_true, Nat.add_zero, Nat.zero_add, Nat.mul_zero, Nat.zero_mul, Nat.add_left_cancel_iff, Nat.add_right_cancel_iff]
  rw [show (0 : Int32) = nI 0 from rfl, M_power_l b 0 b 1 (by omega) (by omega)]
  have : ∀ b, b < 7 → (1 : Int64) * 100 ^ b = lN (100 ^ b) := by decide
  rw [this b (by omega)]
theorem shr_eq (w c N : Nat) (hN : 0 < N) : w * (c / 1000000) / N * 1000000 + (w * (c / 1000000) % N * 1000000 + w * (c % 1000000)) / N = w * c / N := by
  have h1 : w * c = w * (c / 1000000) * 1000000 + w * (c % 1000000) := by
    rw [Nat.mul_assoc, ← Nat.mul_add, Nat.mul_comm (c / 1000000), Nat.div_add_mod]
  have h2 : w * (c / 1000000) = N * (w * (c / 1000000) / N) + w * (c / 1000000) % N := (Nat.div_add_mod _ _).symm
  rw [h1]
  generalize w * (c / 1000000) / N = a at *
  generalize w * (c / 1000000) % N = b at *
  rw [h2, Nat.add_mul, Nat.mul_assoc, Nat.add_assoc, Nat.mul_add_div hN]
theorem share_bound {w c N : Nat} (hw : w ≤ 1000000000) (hc : c ≤ 1000000000000) (hN : N ≤ 1000000000000) (hN0 : 0 < N) : w * (c / 1000000) < 2 ^ 63 ∧ w * (c % 1000000) < 2 ^ 63 ∧ w * (c / 1000000) % N * 1000000 + w * (c % 1000000) < 2 ^ 63 ∧ w * (c / 1000000) ≤ 1000000000000000 ∧ w * (c % 1000000) ≤ 1000000000000000 := by
  have h1 : c / 1000000 ≤ 1000000 := by omega
  have h2 : c % 1000000 ≤ 1000000 := by omega
  have h3 : w * (c / 1000000) ≤ 1000000000 * 1000000 := Nat.mul_le_mul hw h1
  have h4 : w * (c % 1000000) ≤ 1000000000 * 1000000 := Nat.mul_le_mul hw h2
  have h5 : w * (c / 1000000) % N < N := Nat.mod_lt _ hN0
  generalize w * (c / 1000000) % N = e at *
  generalize w * (c / 1000000) = a at *
  generalize w * (c % 1000000) = b at *
  exact ⟨by omega, by omega, by omega, by omega, by omega⟩
theorem lrm (a b : Nat) : lN a - lN (a / b * b) = lN (a % b) := by
  rw [lN_sub (Nat.div_mul_le_self a b)]
  congr 1
  have := Nat.div_add_mod a b
  rw [Nat.mul_comm] at this
  omega
theorem M_share {w c N : Nat} (hw : w ≤ 1000000000) (hc : c ≤ 1000000000000) (hN : N ≤ 1000000000000) (hN0 : 0 < N) : T Ω d 163 0 [.long (lN w), jk, .long (lN c), jk, .long (lN N), jk, jk, jk, jk, jk] [] h Q = Q (some (.long (lN (w * c / N)))) h := by
  obtain ⟨b1, b2, b3, b4, b5⟩ := share_bound hw hc hN hN0
  have g3 : ¬ lN N = 0 := fun e => absurd ((pk_lEQ (a := N) (b := 0) (by omega) (by decide)).mp e) (by omega)
  have g4 : ¬ lN 1000000 = 0 := by decide
  simp only [s163_0, s163_1, s163_2, s163_5, s163_6, s163_7, s163_9, s163_10, s163_11, s163_14, s163_15, s163_16, s163_18, s163_20, s163_22, s163_23, s163_26, s163_27, s163_29, s163_31, s163_32, s163_35, s163_36, s163_38, s163_39, s163_41, s163_42, s163_43, isR_ref, isR_nul, isR_ra, nl_int, nl_ref, nl_jk, nl_ra, nl_nul, rf_some, rf_none, nc_nil, nc_i, nc_l, nc_r, nc_n, nc_x, true_and, and_true, and_self, if_true, if_false, ite_true, ite_false, Option.toList_some, Option.toList_none, List.cons_append, List.nil_append, nar_b1, nar_b0, T_ite, reduceIte, reduceCtorEq, one_ne, eq_self, mkC_t, hn_t, va_up_same, not_true_eq_false, not_false_eq_true, Nat.reduceLeDiff, Nat.reduceAdd, Nat.reduceEqDiff, Nat.reduceMul, Nat.reduceSub, Nat.reduceDiv, Nat.reduceMod, Nat.reduceLT, false_and, and_false, false_or, or_false, true_or, or_true, Nat.add_zero, Nat.zero_add, Nat.mul_zero, Nat.zero_mul, Nat.add_left_cancel_iff, Nat.add_right_cancel_iff, show (1000000 : Int64) = lN 1000000 from rfl, g3, g4, pk_lDiv (show c < 2 ^ 63 by omega) (show 0 < 1000000 by decide) (show 1000000 < 2 ^ 63 by decide), lrm, lN_mul, pk_lDiv b1 hN0 (show N < 2 ^ 63 by omega), lrm, lN_add, pk_lDiv b3 hN0 (show N < 2 ^ 63 by omega), shr_eq w c N hN0]
theorem C_share {w b c : Nat} (hw : w ≤ 1000000000) (hb : b ≤ 6) (hc : c ≤ 100 ^ b) : T Ω d 12 0 [.long (lN w), jk, .long (lN c), jk, .int (nI b), jk, jk, jk, jk] [] h Q = Q (some (.long (lN (w * c / 100 ^ b)))) h := by
  have hp := p100 b (by omega)
  have hp0 := p100p b
  by_cases h5 : b < 5
  · have g1 : ¬ 5 ≤ nI b := nI_ge (b := 5) h5 (by decide)
    have e4 : ∀ b, b < 5 → 100 ^ b ≤ 100000000 := by decide
    have hwc : w * c ≤ 1000000000 * 100000000 := Nat.mul_le_mul hw (Nat.le_trans hc (e4 b h5))
    have g3 : ¬ lN (100 ^ b) = 0 := fun e => absurd ((pk_lEQ (a := 100 ^ b) (b := 0) (by omega) (by decide)).mp e) (by omega)
    simp only [s12_0, s12_2, s12_3, s12_6, s12_7, s12_8, s12_9, s12_12, s12_14, s12_15, s12_16, s12_14x xA4, isR_ref, isR_nul, isR_ra, nl_int, nl_ref, nl_jk, nl_ra, nl_nul, rf_some, rf_none, nc_nil, nc_i, nc_l, nc_r, nc_n, nc_x, true_and, and_true, and_self, if_true, if_false, ite_true, ite_false, Option.toList_some, Option.toList_none, List.cons_append, List.nil_append, nar_b1, nar_b0, T_ite, reduceIte, reduceCtorEq, one_ne, eq_self, mkC_t, hn_t, va_up_same, not_true_eq_false, not_false_eq_true, Nat.reduceLeDiff, Nat.reduceAdd, Nat.reduceEqDiff, Nat.reduceMul, Nat.reduceSub, Nat.reduceDiv, Nat.reduceMod, Nat.reduceLT, false_and, and_false, false_or, or_false, true_or, or_true, Nat.add_zero, Nat.zero_add, Nat.mul_zero, Nat.zero_mul, Nat.add_left_cancel_iff, Nat.add_right_cancel_iff, g1, vpin (show b < 2147483648 by omega), nI_cl (show b < 2147483648 by omega), show b < 7 by omega, hun_eq b (by omega), g3, lN_mul, pk_lDiv (show w * c < 2 ^ 63 by omega) hp0 (show 100 ^ b < 2 ^ 63 by omega)]
  · have g1 : 5 ≤ nI b := nI_le (a := 5) (by omega) (by omega)
    have g2 : nI b - 3 = nI (b - 3) := nI_subs (b := 3) (by omega)
    obtain ⟨b1, b2, b3, b4, b5⟩ := share_bound hw (show c ≤ 1000000000000 by omega) hp hp0
    have g3 : ¬ lN (100 ^ (b - 3)) = 0 := fun e => absurd ((pk_lEQ (a := 100 ^ (b - 3)) (b := 0) (by have := p100 (b - 3) (by omega); omega) (by decide)).mp e) (by have := p100p (b - 3); omega)
    have g4 : ¬ lN 1000000 = 0 := by decide
    have hs : w * (c / 1000000) + w * (c % 1000000) / 1000000 = w * c / 1000000 := by
      have h1 : w * c = w * (c % 1000000) + 1000000 * (w * (c / 1000000)) := by
        rw [Nat.mul_left_comm, ← Nat.mul_add, Nat.add_comm, Nat.div_add_mod]
      rw [h1, Nat.add_mul_div_left _ _ (by decide), Nat.add_comm]
    have hs2 : w * c / 1000000 / 100 ^ (b - 3) = w * c / 100 ^ b := by
      rw [Nat.div_div_eq_div_mul]
      congr 1
      rcases (show b = 5 ∨ b = 6 by omega) with rfl | rfl <;> rfl
    have hb3 : w * c / 1000000 < 2 ^ 63 := by rw [← hs]; omega
    simp only [s12_0, s12_2, s12_3, s12_6, s12_7, s12_8, s12_9, s12_12, s12_14, s12_15, s12_16, s12_17, s12_18, s12_19, s12_22, s12_23, s12_24, s12_26, s12_27, s12_28, s12_31, s12_32, s12_33, s12_36, s12_37, s12_39, s12_41, s12_43, s12_44, s12_47, s12_49, s12_50, s12_51, s12_52, s12_53, s12_51x xA4, isR_ref, isR_nul, isR_ra, nl_int, nl_ref, nl_jk, nl_ra, nl_nul, rf_some, rf_none, nc_nil, nc_i, nc_l, nc_r, nc_n, nc_x, true_and, and_true, and_self, if_true, if_false, ite_true, ite_false, Option.toList_some, Option.toList_none, List.cons_append, List.nil_append, nar_b1, nar_b0, T_ite, reduceIte, reduceCtorEq, one_ne, eq_self, mkC_t, hn_t, va_up_same, not_true_eq_false, not_false_eq_true, Nat.reduceLeDiff, Nat.reduceAdd, Nat.reduceEqDiff, Nat.reduceMul, Nat.reduceSub, Nat.reduceDiv, Nat.reduceMod, Nat.reduceLT, false_and, and_false, false_or, or_false, true_or, or_true, Nat.add_zero, Nat.zero_add, Nat.mul_zero, Nat.zero_mul, Nat.add_left_cancel_iff, Nat.add_right_cancel_iff, g1, show (1000000 : Int64) = lN 1000000 from rfl, g4, pk_lDiv (show c < 2 ^ 63 by omega) (show 0 < 1000000 by decide) (show 1000000 < 2 ^ 63 by decide), lrm, lN_mul, pk_lDiv b2 (show 0 < 1000000 by decide) (show 1000000 < 2 ^ 63 by decide), lN_add, hs, g2, vpin (show b - 3 < 2147483648 by omega), nI_cl (show b - 3 < 2147483648 by omega), show b - 3 < 7 by omega, hun_eq (b - 3) (by omega), g3, pk_lDiv hb3 (p100p (b - 3)) (show 100 ^ (b - 3) < 2 ^ 63 by have := p100 (b - 3) (by omega); omega), hs2]
end EV
