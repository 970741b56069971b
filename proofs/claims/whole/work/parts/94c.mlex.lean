section EV
variable {Ω : AO} {d : Nat} {L st : List Value} {h : AH} {Q : Option Value → AH → Prop} {I I' I'' I0 : Nat → Nat → Int32} {J J' : Nat → Nat → Int64} {A A' : Nat → Nat → Option Nat} {S : Nat → Nat × Nat} {n z z' : Nat} {x y : Int32} {t : Nat → Nat} {s i e N a : Nat}
def sb (b : Nat) : Int32 := (nI b).toInt8.toInt32
def MX (t : Nat → Nat) (s : Nat) (I : Nat → Nat → Int32) : Prop := s ≤ 160 ∧ I 46 8 = nI s ∧ (∀ i, i < s → t i < 256 ∧ I 51 i = sb (t i)) ∧ (∀ k, k < 60 → I 57 k = ltr k) ∧ ∀ k, k < 12 → I 58 k = mnt k
theorem MX_FM (h : MX t s I) (g : FM I I') : MX t s I' := by
  unfold MX
  rw [g.2.1 8 (by decide), g.1 51 (by decide) (by decide) (by decide), g.1 57 (by decide) (by decide) (by decide), g.1 58 (by decide) (by decide) (by decide)]
  exact h
theorem sb_d : ∀ b, b < 256 → ((sb b = 32) ↔ b = 32) ∧ ((sb b = 10) ↔ b = 10) ∧ ((97 ≤ sb b ∧ sb b ≤ 122) ↔ isL b = true) ∧ ((48 ≤ sb b ∧ sb b ≤ 57) ↔ isG b = true) := by decide +kernel
theorem sb_n {b : Nat} (h : b < 128) : sb b = nI b := by
  have : ∀ b, b < 128 → sb b = nI b := by decide +kernel
  exact this b h
theorem sb_e : ∀ b, b < 256 → ∀ c, c < 128 → (sb b = nI c ↔ b = c) := by
  intro b hb c hc
  constructor
  · intro h
    by_cases hb2 : b < 128
    · rw [sb_n hb2] at h
      exact (nI_eq (by omega) (by omega)).mp h
    · have hneg : ∀ b, b < 256 → ¬ b < 128 → sb b < 0 := by decide +kernel
      have := hneg b hb hb2
      rw [h] at this
      exact absurd this (nI_pos (by omega))
  · rintro rfl
    exact sb_n hc
theorem M_isLt {b : Nat} (hb : b < 256) : T Ω (d + 1) 128 0 [.int (sb b)] [] h Q = Q (some (.int (if isL b = true then 1 else 0))) h := by
  have e := (sb_d b hb).2.2.1
  simp only [s128_0, s128_1, s128_3, s128_5, s128_8, isR_ref, isR_nul, isR_ra, nl_int, nl_ref, nl_jk, nl_ra, nl_nul, rf_some, rf_none, nc_nil, nc_i, nc_l, nc_r, nc_n, nc_x, true_and, and_true, and_self, if_true, if_false, ite_true, ite_false, Option.toList_some, Option.toList_none, List.cons_append, List.nil_append, nar_b1, nar_b0, T_ite, reduceIte, reduceCtorEq, one_ne, eq_self, mkC_t, hn_t, va_up_same, not_true_eq_false, not_false_eq_true, Nat.reduceLeDiff, Nat.reduceAdd, Nat.reduceEqDiff, Nat.reduceMul, Nat.reduceSub, Nat.reduceDiv, Nat.reduceMod, Nat.reduceLT, false_and, and_false, false_or, or_false, true_or, or_true, Nat.add_zero, Nat.zero_add, Nat.mul_zero, Nat.zero_mul, Nat.add_left_cancel_iff, Nat.add_right_cancel_iff, M_in, b01_n, e]
theorem M_isDg {b : Nat} (hb : b < 256) : T Ω (d + 1) 130 0 [.int (sb b)] [] h Q = Q (some (.int (if isG b = true then 1 else 0))) h := by
  have e := (sb_d b hb).2.2.2
  simp only [s130_0, s130_1, s130_3, s130_5, s130_8, isR_ref, isR_nul, isR_ra, nl_int, nl_ref, nl_jk, nl_ra, nl_nul, rf_some, rf_none, nc_nil, nc_i, nc_l, nc_r, nc_n, nc_x, true_and, and_true, and_self, if_true, if_false, ite_true, ite_false, Option.toList_some, Option.toList_none, List.cons_append, List.nil_append, nar_b1, nar_b0, T_ite, reduceIte, reduceCtorEq, one_ne, eq_self, mkC_t, hn_t, va_up_same, not_true_eq_false, not_false_eq_true, Nat.reduceLeDiff, Nat.reduceAdd, Nat.reduceEqDiff, Nat.reduceMul, Nat.reduceSub, Nat.reduceDiv, Nat.reduceMod, Nat.reduceLT, false_and, and_false, false_or, or_false, true_or, or_true, Nat.add_zero, Nat.zero_add, Nat.mul_zero, Nat.zero_mul, Nat.add_left_cancel_iff, Nat.add_right_cancel_iff, M_in, b01_n, e]
/-- words -/
def wof : List Nat := [0, 5, 11, 17, 22, 29, 34, 39, 43, 49, 52, 56]
def wo (k : Nat) : Nat := wof.getD k 60
theorem ltr_w : ∀ k, k < 12 → (∀ j, j < (wdl.getD k []).length → ltr (wo k + j) = nI ((wdl.getD k []).getD j 0) ∧ (wdl.getD k []).getD j 0 < 128 ∧ (wdl.getD k []).getD j 0 ≠ 32) ∧ ltr (wo k + (wdl.getD k []).length) = 32 ∧ wo k + (wdl.getD k []).length + 1 = wo (k + 1) ∧ wo k + (wdl.getD k []).length < 60 := by decide +kernel
def mQ (t : Nat → Nat) (i e : Nat) (w : List Nat) : Nat → Nat → Bool
  | 0, _ => true
  | c + 1, j => (decide (i + j < e) && t (i + j) == w.getD j 0) && mQ t i e w c (j + 1)
theorem mQ_mF {w : List Nat} : ∀ (c j : Nat), i + (j + c) = e → mQ t i e w c j = mF t i w c (i + j) := by
  intro c
  induction c with
  | zero => intro j _; rfl
  | succ c ih =>
    intro j hj
    rw [mQ, mF, ih (j + 1) (by omega), show i + j - i = j by omega, show i + (j + 1) = i + j + 1 by omega, decide_eq_true (show i + j < e by omega), Bool.true_and]
theorem mQ_mW {k : Nat} (hie : i ≤ e) : (mQ t i e (wdl.getD k []) (wdl.getD k []).length 0 = true ∧ i + (wdl.getD k []).length = e) ↔ mW t i e k = true := by
  unfold mW
  rw [Bool.and_eq_true, beq_iff_eq]
  constructor
  · rintro ⟨h1, h2⟩
    have h3 : e - i = (wdl.getD k []).length := by omega
    refine ⟨h3, ?_⟩
    rw [mQ_mF _ 0 (by omega)] at h1
    rw [h3]
    exact h1
  · rintro ⟨h3, h1⟩
    refine ⟨?_, by omega⟩
    rw [mQ_mF _ 0 (by omega)]
    rw [h3] at h1
    exact h1
theorem wn_in (hL : LM A S n) (hX : MX t s I) (hes : e ≤ s) (he : I 46 18 = nI e) {k : Nat} (hk : k < 12) (hi : i ≤ 160) : ∀ (c j : Nat) (sm : Bool), j + c = (wdl.getD k []).length → T Ω d 129 18 [.ref 46, .int (nI (wo k + j)), .int (nI k), .int (nI (i + j)), .int (if sm = true then 1 else 0)] [] (I, J, A, S, n, z) Q = T Ω d 129 64 [.ref 46, .int (nI (wo k + (wdl.getD k []).length)), .int (nI k), .int (nI (i + (wdl.getD k []).length)), .int (if (sm && mQ t i e (wdl.getD k []) c j) = true then 1 else 0)] [] (I, J, A, S, n, z) Q := by
  obtain ⟨x1, x2, x3, x4, x5⟩ := hX
  obtain ⟨w1, w2, w3, w4⟩ := ltr_w k hk
  have wl := wd_len k hk
  intro c
  induction c with
  | zero =>
    intro j sm hj
    obtain rfl : j = (wdl.getD k []).length := by omega
    have e1 := x4 (wo k + (wdl.getD k []).length) w4
    rw [w2] at e1
    rw [s129_18]
    simp only [s129_19, s129_22, s129_23, s129_24, s129_26, isR_ref, isR_nul, isR_ra, nl_int, nl_ref, nl_jk, nl_ra, nl_nul, rf_some, rf_none, nc_nil, nc_i, nc_l, nc_r, nc_n, nc_x, true_and, and_true, and_self, if_true, if_false, ite_true, ite_false, Option.toList_some, Option.toList_none, List.cons_append, List.nil_append, nar_b1, nar_b0, T_ite, reduceIte, reduceCtorEq, one_ne, eq_self, mkC_t, hn_t, va_up_same, not_true_eq_false, not_false_eq_true, Nat.reduceLeDiff, Nat.reduceAdd, Nat.reduceEqDiff, Nat.reduceMul, Nat.reduceSub, Nat.reduceDiv, Nat.reduceMod, Nat.reduceLT, false_and, and_false, false_or, or_false, true_or, or_true, Nat.add_zero, Nat.zero_add, Nat.mul_zero, Nat.zero_mul, Nat.add_left_cancel_iff, Nat.add_right_cancel_iff, LMS_46 hL, LMn_46 hL, LMS_47 hL, LMn_47 hL, LMS_48 hL, LMn_48 hL, LMS_49 hL, LMn_49 hL, LMS_50 hL, LMn_50 hL, LMS_51 hL, LMn_51 hL, LMS_52 hL, LMn_52 hL, LMS_53 hL, LMn_53 hL, LMS_54 hL, LMn_54 hL, LMS_55 hL, LMn_55 hL, LMS_56 hL, LMn_56 hL, LMS_57 hL, LMn_57 hL, LMS_58 hL, LMn_58 hL, LMS_59 hL, LMn_59 hL, LMS_60 hL, LMn_60 hL, LMS_61 hL, LMn_61 hL, LMS_62 hL, LMn_62 hL, LMS_63 hL, LMn_63 hL, LMS_64 hL, LMn_64 hL, LMS_65 hL, LMn_65 hL, LMS_66 hL, LMn_66 hL, LMS_67 hL, LMn_67 hL, LMA_46_2 hL, LMA_46_3 hL, LMA_46_5 hL, LMA_46_6 hL, LMA_46_7 hL, LMA_46_11 hL, LMA_46_12 hL, LMA_46_13 hL, LMA_46_21 hL, LMA_46_22 hL, LMA_46_23 hL, LMA_46_24 hL, LMA_46_25 hL, LMA_46_26 hL, LMA_46_27 hL, LMA_46_31 hL, LMA_46_32 hL, LMA_46_33 hL, LMA_46_34 hL, LMA_46_35 hL, LMA_46_36 hL, vpin (show wo k + (wdl.getD k []).length < 2147483648 by omega), nI_cl (show wo k + (wdl.getD k []).length < 2147483648 by omega), w4, e1, mQ, Bool.and_true]
  | succ c ih =>
    intro j sm hj
    obtain ⟨v1, v2, v3⟩ := w1 j (by omega)
    have e1 := x4 (wo k + j) (by omega)
    rw [v1] at e1
    have e2 : ¬ nI ((wdl.getD k []).getD j 0) = 32 := fun g => v3 ((nI_eq (b := 32) (by omega) (by decide)).mp g)
    rw [s129_18]
    simp only [s129_19, s129_22, s129_23, s129_24, s129_26, s129_29, s129_30, s129_31, s129_34, isR_ref, isR_nul, isR_ra, nl_int, nl_ref, nl_jk, nl_ra, nl_nul, rf_some, rf_none, nc_nil, nc_i, nc_l, nc_r, nc_n, nc_x, true_and, and_true, and_self, if_true, if_false, ite_true, ite_false, Option.toList_some, Option.toList_none, List.cons_append, List.nil_append, nar_b1, nar_b0, T_ite, reduceIte, reduceCtorEq, one_ne, eq_self, mkC_t, hn_t, va_up_same, not_true_eq_false, not_false_eq_true, Nat.reduceLeDiff, Nat.reduceAdd, Nat.reduceEqDiff, Nat.reduceMul, Nat.reduceSub, Nat.reduceDiv, Nat.reduceMod, Nat.reduceLT, false_and, and_false, false_or, or_false, true_or, or_true, Nat.add_zero, Nat.zero_add, Nat.mul_zero, Nat.zero_mul, Nat.add_left_cancel_iff, Nat.add_right_cancel_iff, LMS_46 hL, LMn_46 hL, LMS_47 hL, LMn_47 hL, LMS_48 hL, LMn_48 hL, LMS_49 hL, LMn_49 hL, LMS_50 hL, LMn_50 hL, LMS_51 hL, LMn_51 hL, LMS_52 hL, LMn_52 hL, LMS_53 hL, LMn_53 hL, LMS_54 hL, LMn_54 hL, LMS_55 hL, LMn_55 hL, LMS_56 hL, LMn_56 hL, LMS_57 hL, LMn_57 hL, LMS_58 hL, LMn_58 hL, LMS_59 hL, LMn_59 hL, LMS_60 hL, LMn_60 hL, LMS_61 hL, LMn_61 hL, LMS_62 hL, LMn_62 hL, LMS_63 hL, LMn_63 hL, LMS_64 hL, LMn_64 hL, LMS_65 hL, LMn_65 hL, LMS_66 hL, LMn_66 hL, LMS_67 hL, LMn_67 hL, LMA_46_2 hL, LMA_46_3 hL, LMA_46_5 hL, LMA_46_6 hL, LMA_46_7 hL, LMA_46_11 hL, LMA_46_12 hL, LMA_46_13 hL, LMA_46_21 hL, LMA_46_22 hL, LMA_46_23 hL, LMA_46_24 hL, LMA_46_25 hL, LMA_46_26 hL, LMA_46_27 hL, LMA_46_31 hL, LMA_46_32 hL, LMA_46_33 hL, LMA_46_34 hL, LMA_46_35 hL, LMA_46_36 hL, vpin (show wo k + j < 2147483648 by omega), nI_cl (show wo k + j < 2147483648 by omega), show wo k + j < 60 by omega, e1, e2, he, nI_le' (show e < 2147483648 by omega) (show i + j < 2147483648 by omega)]
    have nx : ∀ (sm' : Bool), T Ω d 129 55 [.ref 46, .int (nI (wo k + j)), .int (nI k), .int (nI (i + j)), .int (if sm' = true then 1 else 0)] [] (I, J, A, S, n, z) Q = T Ω d 129 64 [.ref 46, .int (nI (wo k + (wdl.getD k []).length)), .int (nI k), .int (nI (i + (wdl.getD k []).length)), .int (if (sm' && mQ t i e (wdl.getD k []) c (j + 1)) = true then 1 else 0)] [] (I, J, A, S, n, z) Q := fun sm' => by
      simp only [s129_55, s129_58, s129_61, isR_ref, isR_nul, isR_ra, nl_int, nl_ref, nl_jk, nl_ra, nl_nul, rf_some, rf_none, nc_nil, nc_i, nc_l, nc_r, nc_n, nc_x, true_and, and_true, and_self, if_true, if_false, ite_true, ite_false, Option.toList_some, Option.toList_none, List.cons_append, List.nil_append, nar_b1, nar_b0, T_ite, reduceIte, reduceCtorEq, one_ne, eq_self, mkC_t, hn_t, va_up_same, not_true_eq_false, not_false_eq_true, Nat.reduceLeDiff, Nat.reduceAdd, Nat.reduceEqDiff, Nat.reduceMul, Nat.reduceSub, Nat.reduceDiv, Nat.reduceMod, Nat.reduceLT, false_and, and_false, false_or, or_false, true_or, or_true, Nat.add_zero, Nat.zero_add, Nat.mul_zero, Nat.zero_mul, Nat.add_left_cancel_iff, Nat.add_right_cancel_iff, nI_1]
      exact ih (j + 1) sm' (by omega)
    have n0 := nx false
    simp only [Bool.false_and, Bool.false_eq_true, if_false] at n0
    by_cases hlt : i + j < e
    · obtain ⟨y1, y2⟩ := x3 (i + j) (by omega)
      rw [if_neg (by omega)]
      simp only [s129_37, s129_38, s129_41, s129_42, s129_43, s129_44, s129_47, s129_48, s129_49, isR_ref, isR_nul, isR_ra, nl_int, nl_ref, nl_jk, nl_ra, nl_nul, rf_some, rf_none, nc_nil, nc_i, nc_l, nc_r, nc_n, nc_x, true_and, and_true, and_self, if_true, if_false, ite_true, ite_false, Option.toList_some, Option.toList_none, List.cons_append, List.nil_append, nar_b1, nar_b0, T_ite, reduceIte, reduceCtorEq, one_ne, eq_self, mkC_t, hn_t, va_up_same, not_true_eq_false, not_false_eq_true, Nat.reduceLeDiff, Nat.reduceAdd, Nat.reduceEqDiff, Nat.reduceMul, Nat.reduceSub, Nat.reduceDiv, Nat.reduceMod, Nat.reduceLT, false_and, and_false, false_or, or_false, true_or, or_true, Nat.add_zero, Nat.zero_add, Nat.mul_zero, Nat.zero_mul, Nat.add_left_cancel_iff, Nat.add_right_cancel_iff, LMS_46 hL, LMn_46 hL, LMS_47 hL, LMn_47 hL, LMS_48 hL, LMn_48 hL, LMS_49 hL, LMn_49 hL, LMS_50 hL, LMn_50 hL, LMS_51 hL, LMn_51 hL, LMS_52 hL, LMn_52 hL, LMS_53 hL, LMn_53 hL, LMS_54 hL, LMn_54 hL, LMS_55 hL, LMn_55 hL, LMS_56 hL, LMn_56 hL, LMS_57 hL, LMn_57 hL, LMS_58 hL, LMn_58 hL, LMS_59 hL, LMn_59 hL, LMS_60 hL, LMn_60 hL, LMS_61 hL, LMn_61 hL, LMS_62 hL, LMn_62 hL, LMS_63 hL, LMn_63 hL, LMS_64 hL, LMn_64 hL, LMS_65 hL, LMn_65 hL, LMS_66 hL, LMn_66 hL, LMS_67 hL, LMn_67 hL, LMA_46_2 hL, LMA_46_3 hL, LMA_46_5 hL, LMA_46_6 hL, LMA_46_7 hL, LMA_46_11 hL, LMA_46_12 hL, LMA_46_13 hL, LMA_46_21 hL, LMA_46_22 hL, LMA_46_23 hL, LMA_46_24 hL, LMA_46_25 hL, LMA_46_26 hL, LMA_46_27 hL, LMA_46_31 hL, LMA_46_32 hL, LMA_46_33 hL, LMA_46_34 hL, LMA_46_35 hL, LMA_46_36 hL, vpin (show i + j < 2147483648 by omega), nI_cl (show i + j < 2147483648 by omega), show i + j < 160 by omega, y2, vpin (show wo k + j < 2147483648 by omega), nI_cl (show wo k + j < 2147483648 by omega), show wo k + j < 60 by omega, e1, sb_e _ y1 _ v2]
      by_cases hc : t (i + j) = (wdl.getD k []).getD j 0
      · rw [if_pos hc, nx sm, mQ, decide_eq_true hlt, hc]
        simp only [beq_self_eq_true, Bool.true_and]
      · rw [if_neg hc]
        simp only [s129_52, s129_53, isR_ref, isR_nul, isR_ra, nl_int, nl_ref, nl_jk, nl_ra, nl_nul, rf_some, rf_none, nc_nil, nc_i, nc_l, nc_r, nc_n, nc_x, true_and, and_true, and_self, if_true, if_false, ite_true, ite_false, Option.toList_some, Option.toList_none, List.cons_append, List.nil_append, nar_b1, nar_b0, T_ite, reduceIte, reduceCtorEq, one_ne, eq_self, mkC_t, hn_t, va_up_same, not_true_eq_false, not_false_eq_true, Nat.reduceLeDiff, Nat.reduceAdd, Nat.reduceEqDiff, Nat.reduceMul, Nat.reduceSub, Nat.reduceDiv, Nat.reduceMod, Nat.reduceLT, false_and, and_false, false_or, or_false, true_or, or_true, Nat.add_zero, Nat.zero_add, Nat.mul_zero, Nat.zero_mul, Nat.add_left_cancel_iff, Nat.add_right_cancel_iff]
        rw [n0, mQ, show (t (i + j) == (wdl.getD k []).getD j 0) = false from by simpa using hc]
        simp only [Bool.and_false, Bool.false_and, Bool.false_eq_true, if_false]
    · rw [if_pos (by omega)]
      simp only [s129_52, s129_53, isR_ref, isR_nul, isR_ra, nl_int, nl_ref, nl_jk, nl_ra, nl_nul, rf_some, rf_none, nc_nil, nc_i, nc_l, nc_r, nc_n, nc_x, true_and, and_true, and_self, if_true, if_false, ite_true, ite_false, Option.toList_some, Option.toList_none, List.cons_append, List.nil_append, nar_b1, nar_b0, T_ite, reduceIte, reduceCtorEq, one_ne, eq_self, mkC_t, hn_t, va_up_same, not_true_eq_false, not_false_eq_true, Nat.reduceLeDiff, Nat.reduceAdd, Nat.reduceEqDiff, Nat.reduceMul, Nat.reduceSub, Nat.reduceDiv, Nat.reduceMod, Nat.reduceLT, false_and, and_false, false_or, or_false, true_or, or_true, Nat.add_zero, Nat.zero_add, Nat.mul_zero, Nat.zero_mul, Nat.add_left_cancel_iff, Nat.add_right_cancel_iff]
      rw [n0, mQ, decide_eq_false hlt]
      simp only [Bool.and_false, Bool.false_and, Bool.false_eq_true, if_false]
/-- the first word from k on -/
def wF (t : Nat → Nat) (i e : Nat) : Nat → Nat → Nat
  | 0, k => k
  | c + 1, k => if mW t i e k = true then k else wF t i e c (k + 1)
theorem wF_ix : wF t i e 12 0 = wIx t i e := rfl
theorem wn_out (hL : LM A S n) (hX : MX t s I) (hes : e ≤ s) (hie : i ≤ e) (hf : I 46 17 = nI i) (he : I 46 18 = nI e) : ∀ (c k : Nat) (v3 v4 : Value), nl v3 = true → k + c = 12 → T Ω d 129 4 [.ref 46, .int (nI (wo k)), .int (nI k), v3, v4] [] (I, J, A, S, n, z) Q = Q (some (.int (if wF t i e c k < 12 then mnt (wF t i e c k) else -1))) (I, J, A, S, n, z) := by
  have x1 := hX.1
  intro c
  induction c with
  | zero =>
    intro k v3 v4 h3 hk
    obtain rfl : k = 12 := by omega
    rw [s129_4]
    simp only [s129_5, s129_7, s129_93, s129_94, isR_ref, isR_nul, isR_ra, nl_int, nl_ref, nl_jk, nl_ra, nl_nul, rf_some, rf_none, nc_nil, nc_i, nc_l, nc_r, nc_n, nc_x, true_and, and_true, and_self, if_true, if_false, ite_true, ite_false, Option.toList_some, Option.toList_none, List.cons_append, List.nil_append, nar_b1, nar_b0, T_ite, reduceIte, reduceCtorEq, one_ne, eq_self, mkC_t, hn_t, va_up_same, not_true_eq_false, not_false_eq_true, Nat.reduceLeDiff, Nat.reduceAdd, Nat.reduceEqDiff, Nat.reduceMul, Nat.reduceSub, Nat.reduceDiv, Nat.reduceMod, Nat.reduceLT, false_and, and_false, false_or, or_false, true_or, or_true, Nat.add_zero, Nat.zero_add, Nat.mul_zero, Nat.zero_mul, Nat.add_left_cancel_iff, Nat.add_right_cancel_iff, show (12 : Int32) ≤ nI 12 from by decide, wF, Nat.lt_irrefl]
  | succ c ih =>
    intro k v3 v4 h3 hk
    have g1 : ¬ (12 : Int32) ≤ nI k := nI_ge (b := 12) (by omega) (by decide)
    have wl := wd_len k (by omega)
    obtain ⟨_, _, w3, w4⟩ := ltr_w k (by omega)
    have key := wn_in (Ω := Ω) (d := d) (J := J) (z := z) (Q := Q) hL hX hes he (show k < 12 by omega) (show i ≤ 160 by omega) (wdl.getD k []).length 0 true (by omega)
    simp only [if_true, Bool.true_and, Nat.add_zero] at key
    rw [s129_4]
    simp only [s129_5, s129_7, s129_10, s129_11, s129_14, s129_15, s129_16, isR_ref, isR_nul, isR_ra, nl_int, nl_ref, nl_jk, nl_ra, nl_nul, rf_some, rf_none, nc_nil, nc_i, nc_l, nc_r, nc_n, nc_x, true_and, and_true, and_self, if_true, if_false, ite_true, ite_false, Option.toList_some, Option.toList_none, List.cons_append, List.nil_append, nar_b1, nar_b0, T_ite, reduceIte, reduceCtorEq, one_ne, eq_self, mkC_t, hn_t, va_up_same, not_true_eq_false, not_false_eq_true, Nat.reduceLeDiff, Nat.reduceAdd, Nat.reduceEqDiff, Nat.reduceMul, Nat.reduceSub, Nat.reduceDiv, Nat.reduceMod, Nat.reduceLT, false_and, and_false, false_or, or_false, true_or, or_true, Nat.add_zero, Nat.zero_add, Nat.mul_zero, Nat.zero_mul, Nat.add_left_cancel_iff, Nat.add_right_cancel_iff, LMS_46 hL, LMn_46 hL, LMS_47 hL, LMn_47 hL, LMS_48 hL, LMn_48 hL, LMS_49 hL, LMn_49 hL, LMS_50 hL, LMn_50 hL, LMS_51 hL, LMn_51 hL, LMS_52 hL, LMn_52 hL, LMS_53 hL, LMn_53 hL, LMS_54 hL, LMn_54 hL, LMS_55 hL, LMn_55 hL, LMS_56 hL, LMn_56 hL, LMS_57 hL, LMn_57 hL, LMS_58 hL, LMn_58 hL, LMS_59 hL, LMn_59 hL, LMS_60 hL, LMn_60 hL, LMS_61 hL, LMn_61 hL, LMS_62 hL, LMn_62 hL, LMS_63 hL, LMn_63 hL, LMS_64 hL, LMn_64 hL, LMS_65 hL, LMn_65 hL, LMS_66 hL, LMn_66 hL, LMS_67 hL, LMn_67 hL, LMA_46_2 hL, LMA_46_3 hL, LMA_46_5 hL, LMA_46_6 hL, LMA_46_7 hL, LMA_46_11 hL, LMA_46_12 hL, LMA_46_13 hL, LMA_46_21 hL, LMA_46_22 hL, LMA_46_23 hL, LMA_46_24 hL, LMA_46_25 hL, LMA_46_26 hL, LMA_46_27 hL, LMA_46_31 hL, LMA_46_32 hL, LMA_46_33 hL, LMA_46_34 hL, LMA_46_35 hL, LMA_46_36 hL, g1, hf, h3]
    rw [key]
    have hmW := mQ_mW (t := t) (k := k) hie
    simp only [s129_64, s129_67, s129_69, s129_72, s129_73, s129_74, s129_77, isR_ref, isR_nul, isR_ra, nl_int, nl_ref, nl_jk, nl_ra, nl_nul, rf_some, rf_none, nc_nil, nc_i, nc_l, nc_r, nc_n, nc_x, true_and, and_true, and_self, if_true, if_false, ite_true, ite_false, Option.toList_some, Option.toList_none, List.cons_append, List.nil_append, nar_b1, nar_b0, T_ite, reduceIte, reduceCtorEq, one_ne, eq_self, mkC_t, hn_t, va_up_same, not_true_eq_false, not_false_eq_true, Nat.reduceLeDiff, Nat.reduceAdd, Nat.reduceEqDiff, Nat.reduceMul, Nat.reduceSub, Nat.reduceDiv, Nat.reduceMod, Nat.reduceLT, false_and, and_false, false_or, or_false, true_or, or_true, Nat.add_zero, Nat.zero_add, Nat.mul_zero, Nat.zero_mul, Nat.add_left_cancel_iff, Nat.add_right_cancel_iff, LMS_46 hL, LMn_46 hL, LMS_47 hL, LMn_47 hL, LMS_48 hL, LMn_48 hL, LMS_49 hL, LMn_49 hL, LMS_50 hL, LMn_50 hL, LMS_51 hL, LMn_51 hL, LMS_52 hL, LMn_52 hL, LMS_53 hL, LMn_53 hL, LMS_54 hL, LMn_54 hL, LMS_55 hL, LMn_55 hL, LMS_56 hL, LMn_56 hL, LMS_57 hL, LMn_57 hL, LMS_58 hL, LMn_58 hL, LMS_59 hL, LMn_59 hL, LMS_60 hL, LMn_60 hL, LMS_61 hL, LMn_61 hL, LMS_62 hL, LMn_62 hL, LMS_63 hL, LMn_63 hL, LMS_64 hL, LMn_64 hL, LMS_65 hL, LMn_65 hL, LMS_66 hL, LMn_66 hL, LMS_67 hL, LMn_67 hL, LMA_46_2 hL, LMA_46_3 hL, LMA_46_5 hL, LMA_46_6 hL, LMA_46_7 hL, LMA_46_11 hL, LMA_46_12 hL, LMA_46_13 hL, LMA_46_21 hL, LMA_46_22 hL, LMA_46_23 hL, LMA_46_24 hL, LMA_46_25 hL, LMA_46_26 hL, LMA_46_27 hL, LMA_46_31 hL, LMA_46_32 hL, LMA_46_33 hL, LMA_46_34 hL, LMA_46_35 hL, LMA_46_36 hL, nI_1, he, b01_0, w3, nI_eq' (show i + (wdl.getD k []).length < 2147483648 by omega) (show e < 2147483648 by omega)]
    have wf1 : mW t i e k = true → wF t i e (c + 1) k = k := fun g => by rw [wF, if_pos g]
    have wf0 : ¬ mW t i e k = true → wF t i e (c + 1) k = wF t i e c (k + 1) := fun g => by rw [wF, if_neg g]
    by_cases h1 : mQ t i e (wdl.getD k []) (wdl.getD k []).length 0 = true
    · rw [if_neg (fun g => g h1)]
      by_cases h2 : i + (wdl.getD k []).length = e
      · rw [if_pos h2, wf1 (hmW.mp ⟨h1, h2⟩), if_pos (by omega)]
        simp only [s129_80, s129_81, s129_84, s129_85, s129_86, isR_ref, isR_nul, isR_ra, nl_int, nl_ref, nl_jk, nl_ra, nl_nul, rf_some, rf_none, nc_nil, nc_i, nc_l, nc_r, nc_n, nc_x, true_and, and_true, and_self, if_true, if_false, ite_true, ite_false, Option.toList_some, Option.toList_none, List.cons_append, List.nil_append, nar_b1, nar_b0, T_ite, reduceIte, reduceCtorEq, one_ne, eq_self, mkC_t, hn_t, va_up_same, not_true_eq_false, not_false_eq_true, Nat.reduceLeDiff, Nat.reduceAdd, Nat.reduceEqDiff, Nat.reduceMul, Nat.reduceSub, Nat.reduceDiv, Nat.reduceMod, Nat.reduceLT, false_and, and_false, false_or, or_false, true_or, or_true, Nat.add_zero, Nat.zero_add, Nat.mul_zero, Nat.zero_mul, Nat.add_left_cancel_iff, Nat.add_right_cancel_iff, LMS_46 hL, LMn_46 hL, LMS_47 hL, LMn_47 hL, LMS_48 hL, LMn_48 hL, LMS_49 hL, LMn_49 hL, LMS_50 hL, LMn_50 hL, LMS_51 hL, LMn_51 hL, LMS_52 hL, LMn_52 hL, LMS_53 hL, LMn_53 hL, LMS_54 hL, LMn_54 hL, LMS_55 hL, LMn_55 hL, LMS_56 hL, LMn_56 hL, LMS_57 hL, LMn_57 hL, LMS_58 hL, LMn_58 hL, LMS_59 hL, LMn_59 hL, LMS_60 hL, LMn_60 hL, LMS_61 hL, LMn_61 hL, LMS_62 hL, LMn_62 hL, LMS_63 hL, LMn_63 hL, LMS_64 hL, LMn_64 hL, LMS_65 hL, LMn_65 hL, LMS_66 hL, LMn_66 hL, LMS_67 hL, LMn_67 hL, LMA_46_2 hL, LMA_46_3 hL, LMA_46_5 hL, LMA_46_6 hL, LMA_46_7 hL, LMA_46_11 hL, LMA_46_12 hL, LMA_46_13 hL, LMA_46_21 hL, LMA_46_22 hL, LMA_46_23 hL, LMA_46_24 hL, LMA_46_25 hL, LMA_46_26 hL, LMA_46_27 hL, LMA_46_31 hL, LMA_46_32 hL, LMA_46_33 hL, LMA_46_34 hL, LMA_46_35 hL, LMA_46_36 hL, vpin (show k < 2147483648 by omega), nI_cl (show k < 2147483648 by omega), show k < 12 by omega, hX.2.2.2.2 k (by omega)]
      · rw [if_neg h2, wf0 (fun g => h2 (hmW.mpr g).2)]
        simp only [s129_87, s129_90, isR_ref, isR_nul, isR_ra, nl_int, nl_ref, nl_jk, nl_ra, nl_nul, rf_some, rf_none, nc_nil, nc_i, nc_l, nc_r, nc_n, nc_x, true_and, and_true, and_self, if_true, if_false, ite_true, ite_false, Option.toList_some, Option.toList_none, List.cons_append, List.nil_append, nar_b1, nar_b0, T_ite, reduceIte, reduceCtorEq, one_ne, eq_self, mkC_t, hn_t, va_up_same, not_true_eq_false, not_false_eq_true, Nat.reduceLeDiff, Nat.reduceAdd, Nat.reduceEqDiff, Nat.reduceMul, Nat.reduceSub, Nat.reduceDiv, Nat.reduceMod, Nat.reduceLT, false_and, and_false, false_or, or_false, true_or, or_true, Nat.add_zero, Nat.zero_add, Nat.mul_zero, Nat.zero_mul, Nat.add_left_cancel_iff, Nat.add_right_cancel_iff, nI_1]
        exact ih (k + 1) _ _ rfl (by omega)
    · rw [if_pos h1, wf0 (fun g => h1 (hmW.mpr g).1)]
      simp only [s129_87, s129_90, isR_ref, isR_nul, isR_ra, nl_int, nl_ref, nl_jk, nl_ra, nl_nul, rf_some, rf_none, nc_nil, nc_i, nc_l, nc_r, nc_n, nc_x, true_and, and_true, and_self, if_true, if_false, ite_true, ite_false, Option.toList_some, Option.toList_none, List.cons_append, List.nil_append, nar_b1, nar_b0, T_ite, reduceIte, reduceCtorEq, one_ne, eq_self, mkC_t, hn_t, va_up_same, not_true_eq_false, not_false_eq_true, Nat.reduceLeDiff, Nat.reduceAdd, Nat.reduceEqDiff, Nat.reduceMul, Nat.reduceSub, Nat.reduceDiv, Nat.reduceMod, Nat.reduceLT, false_and, and_false, false_or, or_false, true_or, or_true, Nat.add_zero, Nat.zero_add, Nat.mul_zero, Nat.zero_mul, Nat.add_left_cancel_iff, Nat.add_right_cancel_iff, nI_1]
      exact ih (k + 1) _ _ rfl (by omega)
theorem wordNow (hL : LM A S n) (hX : MX t s I) (hes : e ≤ s) (hie : i ≤ e) (hf : I 46 17 = nI i) (he : I 46 18 = nI e) : T Ω d 129 0 [.ref 46, jk, jk, jk, jk] [] (I, J, A, S, n, z) Q = Q (some (.int (if wIx t i e < 12 then mnt (wIx t i e) else -1))) (I, J, A, S, n, z) := by
  simp only [s129_0, s129_1, s129_2, s129_3, isR_ref, isR_nul, isR_ra, nl_int, nl_ref, nl_jk, nl_ra, nl_nul, rf_some, rf_none, nc_nil, nc_i, nc_l, nc_r, nc_n, nc_x, true_and, and_true, and_self, if_true, if_false, ite_true, ite_false, Option.toList_some, Option.toList_none, List.cons_append, List.nil_append, nar_b1, nar_b0, T_ite, reduceIte, reduceCtorEq, one_ne, eq_self, mkC_t, hn_t, va_up_same, not_true_eq_false, not_false_eq_true, Nat.reduceLeDiff, Nat.reduceAdd, Nat.reduceEqDiff, Nat.reduceMul, Nat.reduceSub, Nat.reduceDiv, Nat.reduceMod, Nat.reduceLT, false_and, and_false, false_or, or_false, true_or, or_true, Nat.add_zero, Nat.zero_add, Nat.mul_zero, Nat.zero_mul, Nat.add_left_cancel_iff, Nat.add_right_cancel_iff]
  have := wn_out (Ω := Ω) (d := d) (J := J) (z := z) (Q := Q) hL hX hes hie hf he 12 0 jk jk rfl (by decide)
  exact this
/-- only these fields of the reference changed -/
def F46 (I I' : Nat → Nat → Int32) (P : Nat → Prop) : Prop := (∀ b, b ≠ 46 → I' b = I b) ∧ ∀ k, ¬ P k → I' 46 k = I 46 k
theorem F46_w {P : Nat → Prop} {k : Nat} {v : Int32} (hk : P k) : F46 I (wr I 46 k v) P := ⟨fun b hb => wr_ne hb, fun q hq => wr_at_ne (fun e => hq (e ▸ hk))⟩
theorem F46_tr {P : Nat → Prop} (h : F46 I I' P) (g : F46 I' I'' P) : F46 I I'' P := ⟨fun b hb => (g.1 b hb).trans (h.1 b hb), fun k hk => (g.2 k hk).trans (h.2 k hk)⟩
theorem F46_refl {P : Nat → Prop} : F46 I I P := ⟨fun _ _ => rfl, fun _ _ => rfl⟩
theorem F46_mono {P P' : Nat → Prop} (h : F46 I I' P) (hp : ∀ k, P k → P' k) : F46 I I' P' := ⟨h.1, fun k hk => h.2 k (fun g => hk (hp k g))⟩
theorem MX_F {P : Nat → Prop} (h : MX t s I) (g : F46 I I' P) (hp : ¬ P 8) : MX t s I' := by
  unfold MX
  rw [g.2 8 hp, g.1 51 (by decide), g.1 57 (by decide), g.1 58 (by decide)]
  exact h
theorem nb_l (hL : LM A S n) : ∀ (k q : Nat) (I : Nat → Nat → Int32), q + k = s → MX t s I → I 46 17 = nI q → (∀ I', F46 I I' (fun k => k = 17) → I' 46 17 = nI (nxk t k q) → T Ω d 127 60 [.ref 46, jk] [] (I', J, A, S, n, z) Q) → T Ω d 127 8 [.ref 46, jk] [] (I, J, A, S, n, z) Q := by
  intro k
  induction k with
  | zero =>
    intro q I hq hX h17 hQ
    obtain rfl : q = s := by omega
    rw [s127_8]
    simp only [s127_9, s127_12, s127_13, s127_16, isR_ref, isR_nul, isR_ra, nl_int, nl_ref, nl_jk, nl_ra, nl_nul, rf_some, rf_none, nc_nil, nc_i, nc_l, nc_r, nc_n, nc_x, true_and, and_true, and_self, if_true, if_false, ite_true, ite_false, Option.toList_some, Option.toList_none, List.cons_append, List.nil_append, nar_b1, nar_b0, T_ite, reduceIte, reduceCtorEq, one_ne, eq_self, mkC_t, hn_t, va_up_same, not_true_eq_false, not_false_eq_true, Nat.reduceLeDiff, Nat.reduceAdd, Nat.reduceEqDiff, Nat.reduceMul, Nat.reduceSub, Nat.reduceDiv, Nat.reduceMod, Nat.reduceLT, false_and, and_false, false_or, or_false, true_or, or_true, Nat.add_zero, Nat.zero_add, Nat.mul_zero, Nat.zero_mul, Nat.add_left_cancel_iff, Nat.add_right_cancel_iff, LMS_46 hL, LMn_46 hL, LMS_47 hL, LMn_47 hL, LMS_48 hL, LMn_48 hL, LMS_49 hL, LMn_49 hL, LMS_50 hL, LMn_50 hL, LMS_51 hL, LMn_51 hL, LMS_52 hL, LMn_52 hL, LMS_53 hL, LMn_53 hL, LMS_54 hL, LMn_54 hL, LMS_55 hL, LMn_55 hL, LMS_56 hL, LMn_56 hL, LMS_57 hL, LMn_57 hL, LMS_58 hL, LMn_58 hL, LMS_59 hL, LMn_59 hL, LMS_60 hL, LMn_60 hL, LMS_61 hL, LMn_61 hL, LMS_62 hL, LMn_62 hL, LMS_63 hL, LMn_63 hL, LMS_64 hL, LMn_64 hL, LMS_65 hL, LMn_65 hL, LMS_66 hL, LMn_66 hL, LMS_67 hL, LMn_67 hL, LMA_46_2 hL, LMA_46_3 hL, LMA_46_5 hL, LMA_46_6 hL, LMA_46_7 hL, LMA_46_11 hL, LMA_46_12 hL, LMA_46_13 hL, LMA_46_21 hL, LMA_46_22 hL, LMA_46_23 hL, LMA_46_24 hL, LMA_46_25 hL, LMA_46_26 hL, LMA_46_27 hL, LMA_46_31 hL, LMA_46_32 hL, LMA_46_33 hL, LMA_46_34 hL, LMA_46_35 hL, LMA_46_36 hL, h17, hX.2.1, Int32.le_refl]
    exact hQ I F46_refl h17
  | succ k ih =>
    intro q I hq hX h17 hQ
    obtain ⟨x1, x2, x3, x4, x5⟩ := id hX
    obtain ⟨y1, y2⟩ := x3 q (by omega)
    obtain ⟨z1, z2, _, _⟩ := sb_d (t q) y1
    have g1 : ¬ nI s ≤ nI q := nI_ge (by omega) (by omega)
    rw [nxk] at hQ
    have step : isBl (t q) = true → T Ω d 127 47 [.ref 46, jk] [] (I, J, A, S, n, z) Q := fun hb => by
      rw [if_pos hb] at hQ
      simp only [s127_47, s127_48, s127_49, s127_52, s127_53, s127_54, s127_57, isR_ref, isR_nul, isR_ra, nl_int, nl_ref, nl_jk, nl_ra, nl_nul, rf_some, rf_none, nc_nil, nc_i, nc_l, nc_r, nc_n, nc_x, true_and, and_true, and_self, if_true, if_false, ite_true, ite_false, Option.toList_some, Option.toList_none, List.cons_append, List.nil_append, nar_b1, nar_b0, T_ite, reduceIte, reduceCtorEq, one_ne, eq_self, mkC_t, hn_t, va_up_same, not_true_eq_false, not_false_eq_true, Nat.reduceLeDiff, Nat.reduceAdd, Nat.reduceEqDiff, Nat.reduceMul, Nat.reduceSub, Nat.reduceDiv, Nat.reduceMod, Nat.reduceLT, false_and, and_false, false_or, or_false, true_or, or_true, Nat.add_zero, Nat.zero_add, Nat.mul_zero, Nat.zero_mul, Nat.add_left_cancel_iff, Nat.add_right_cancel_iff, LMS_46 hL, LMn_46 hL, LMS_47 hL, LMn_47 hL, LMS_48 hL, LMn_48 hL, LMS_49 hL, LMn_49 hL, LMS_50 hL, LMn_50 hL, LMS_51 hL, LMn_51 hL, LMS_52 hL, LMn_52 hL, LMS_53 hL, LMn_53 hL, LMS_54 hL, LMn_54 hL, LMS_55 hL, LMn_55 hL, LMS_56 hL, LMn_56 hL, LMS_57 hL, LMn_57 hL, LMS_58 hL, LMn_58 hL, LMS_59 hL, LMn_59 hL, LMS_60 hL, LMn_60 hL, LMS_61 hL, LMn_61 hL, LMS_62 hL, LMn_62 hL, LMS_63 hL, LMn_63 hL, LMS_64 hL, LMn_64 hL, LMS_65 hL, LMn_65 hL, LMS_66 hL, LMn_66 hL, LMS_67 hL, LMn_67 hL, LMA_46_2 hL, LMA_46_3 hL, LMA_46_5 hL, LMA_46_6 hL, LMA_46_7 hL, LMA_46_11 hL, LMA_46_12 hL, LMA_46_13 hL, LMA_46_21 hL, LMA_46_22 hL, LMA_46_23 hL, LMA_46_24 hL, LMA_46_25 hL, LMA_46_26 hL, LMA_46_27 hL, LMA_46_31 hL, LMA_46_32 hL, LMA_46_33 hL, LMA_46_34 hL, LMA_46_35 hL, LMA_46_36 hL, h17, nI_1]
      have fr : F46 I (wr I 46 17 (nI (q + 1))) (fun k => k = 17) := F46_w rfl
      exact ih (q + 1) _ (by omega) (MX_F hX fr (by decide)) wr_at (fun I' f1 f2 => hQ I' (F46_tr fr f1) f2)
    rw [s127_8]
    simp only [s127_9, s127_12, s127_13, s127_16, s127_19, s127_20, s127_23, s127_24, s127_27, s127_28, s127_30, s127_33, s127_34, s127_37, s127_38, s127_41, s127_42, s127_44, isR_ref, isR_nul, isR_ra, nl_int, nl_ref, nl_jk, nl_ra, nl_nul, rf_some, rf_none, nc_nil, nc_i, nc_l, nc_r, nc_n, nc_x, true_and, and_true, and_self, if_true, if_false, ite_true, ite_false, Option.toList_some, Option.toList_none, List.cons_append, List.nil_append, nar_b1, nar_b0, T_ite, reduceIte, reduceCtorEq, one_ne, eq_self, mkC_t, hn_t, va_up_same, not_true_eq_false, not_false_eq_true, Nat.reduceLeDiff, Nat.reduceAdd, Nat.reduceEqDiff, Nat.reduceMul, Nat.reduceSub, Nat.reduceDiv, Nat.reduceMod, Nat.reduceLT, false_and, and_false, false_or, or_false, true_or, or_true, Nat.add_zero, Nat.zero_add, Nat.mul_zero, Nat.zero_mul, Nat.add_left_cancel_iff, Nat.add_right_cancel_iff, LMS_46 hL, LMn_46 hL, LMS_47 hL, LMn_47 hL, LMS_48 hL, LMn_48 hL, LMS_49 hL, LMn_49 hL, LMS_50 hL, LMn_50 hL, LMS_51 hL, LMn_51 hL, LMS_52 hL, LMn_52 hL, LMS_53 hL, LMn_53 hL, LMS_54 hL, LMn_54 hL, LMS_55 hL, LMn_55 hL, LMS_56 hL, LMn_56 hL, LMS_57 hL, LMn_57 hL, LMS_58 hL, LMn_58 hL, LMS_59 hL, LMn_59 hL, LMS_60 hL, LMn_60 hL, LMS_61 hL, LMn_61 hL, LMS_62 hL, LMn_62 hL, LMS_63 hL, LMn_63 hL, LMS_64 hL, LMn_64 hL, LMS_65 hL, LMn_65 hL, LMS_66 hL, LMn_66 hL, LMS_67 hL, LMn_67 hL, LMA_46_2 hL, LMA_46_3 hL, LMA_46_5 hL, LMA_46_6 hL, LMA_46_7 hL, LMA_46_11 hL, LMA_46_12 hL, LMA_46_13 hL, LMA_46_21 hL, LMA_46_22 hL, LMA_46_23 hL, LMA_46_24 hL, LMA_46_25 hL, LMA_46_26 hL, LMA_46_27 hL, LMA_46_31 hL, LMA_46_32 hL, LMA_46_33 hL, LMA_46_34 hL, LMA_46_35 hL, LMA_46_36 hL, h17, x2, g1, vpin (show q < 2147483648 by omega), nI_cl (show q < 2147483648 by omega), show q < 160 by omega, y2, z1, z2]
    by_cases h32 : t q = 32
    · rw [if_pos h32]
      exact step (isBl_iff.mpr (Or.inl h32))
    · rw [if_neg h32]
      by_cases h10 : t q = 10
      · rw [if_pos h10]
        exact step (isBl_iff.mpr (Or.inr h10))
      · rw [if_neg h10]
        have hb : ¬ isBl (t q) = true := fun g => by rcases isBl_iff.mp g with g | g <;> contradiction
        rw [if_neg hb] at hQ
        exact hQ I F46_refl h17
def lk (t : Nat → Nat) : Nat → Nat → Nat
  | 0, q => q
  | k + 1, q => if isL (t q) = true then lk t k (q + 1) else q
theorem lk_erk : ∀ (k q : Nat), q ≠ 0 → isL (t (q - 1)) = true → lk t k q = erk t k q := by
  intro k
  induction k with
  | zero => intro q _ _; rfl
  | succ k ih =>
    intro q h0 hl
    have hg : ¬ isG (t (q - 1)) = true := fun g => by rw [isL_iff] at hl; rw [isG_iff] at g; omega
    have hc : ct t q = true ↔ isL (t q) = true := by
      rw [ct_iff]
      exact ⟨fun h => by rcases h.2 with g | g
                         · exact g.1
                         · exact absurd g.2 hg, fun h => ⟨h0, Or.inl ⟨h, hl⟩⟩⟩
    rw [lk, erk]
    by_cases h : isL (t q) = true
    · rw [if_pos h, if_pos (hc.mpr h)]
      exact ih (q + 1) (by omega) h
    · rw [if_neg h, if_neg (fun g => h (hc.mp g))]
theorem lk_eR (hi : i < s) (h : isL (t i) = true) : lk t (s - i) i = eR t s i := by
  obtain ⟨k, hk⟩ : ∃ k, s - i = k + 1 := ⟨s - i - 1, by omega⟩
  rw [hk, lk, if_pos h, lk_erk _ _ (by omega) h]
  unfold eR
  rw [show s - (i + 1) = k by omega]
theorem nl_l (hL : LM A S n) {v1 : Int32} : ∀ (k q : Nat) (I : Nat → Nat → Int32), q + k = s → MX t s I → I 46 18 = nI q → (∀ I', F46 I I' (fun k => k = 18) → I' 46 18 = nI (lk t k q) → T Ω (d + 2) 127 149 [.ref 46, .int v1] [] (I', J, A, S, n, z) Q) → T Ω (d + 2) 127 110 [.ref 46, .int v1] [] (I, J, A, S, n, z) Q := by
  intro k
  induction k with
  | zero =>
    intro q I hq hX h18 hQ
    obtain rfl : q = s := by omega
    rw [s127_110]
    simp only [s127_111, s127_114, s127_115, s127_118, isR_ref, isR_nul, isR_ra, nl_int, nl_ref, nl_jk, nl_ra, nl_nul, rf_some, rf_none, nc_nil, nc_i, nc_l, nc_r, nc_n, nc_x, true_and, and_true, and_self, if_true, if_false, ite_true, ite_false, Option.toList_some, Option.toList_none, List.cons_append, List.nil_append, nar_b1, nar_b0, T_ite, reduceIte, reduceCtorEq, one_ne, eq_self, mkC_t, hn_t, va_up_same, not_true_eq_false, not_false_eq_true, Nat.reduceLeDiff, Nat.reduceAdd, Nat.reduceEqDiff, Nat.reduceMul, Nat.reduceSub, Nat.reduceDiv, Nat.reduceMod, Nat.reduceLT, false_and, and_false, false_or, or_false, true_or, or_true, Nat.add_zero, Nat.zero_add, Nat.mul_zero, Nat.zero_mul, Nat.add_left_cancel_iff, Nat.add_right_cancel_iff, LMS_46 hL, LMn_46 hL, LMS_47 hL, LMn_47 hL, LMS_48 hL, LMn_48 hL, LMS_49 hL, LMn_49 hL, LMS_50 hL, LMn_50 hL, LMS_51 hL, LMn_51 hL, LMS_52 hL, LMn_52 hL, LMS_53 hL, LMn_53 hL, LMS_54 hL, LMn_54 hL, LMS_55 hL, LMn_55 hL, LMS_56 hL, LMn_56 hL, LMS_57 hL, LMn_57 hL, LMS_58 hL, LMn_58 hL, LMS_59 hL, LMn_59 hL, LMS_60 hL, LMn_60 hL, LMS_61 hL, LMn_61 hL, LMS_62 hL, LMn_62 hL, LMS_63 hL, LMn_63 hL, LMS_64 hL, LMn_64 hL, LMS_65 hL, LMn_65 hL, LMS_66 hL, LMn_66 hL, LMS_67 hL, LMn_67 hL, LMA_46_2 hL, LMA_46_3 hL, LMA_46_5 hL, LMA_46_6 hL, LMA_46_7 hL, LMA_46_11 hL, LMA_46_12 hL, LMA_46_13 hL, LMA_46_21 hL, LMA_46_22 hL, LMA_46_23 hL, LMA_46_24 hL, LMA_46_25 hL, LMA_46_26 hL, LMA_46_27 hL, LMA_46_31 hL, LMA_46_32 hL, LMA_46_33 hL, LMA_46_34 hL, LMA_46_35 hL, LMA_46_36 hL, h18, hX.2.1, Int32.le_refl]
    exact hQ I F46_refl h18
  | succ k ih =>
    intro q I hq hX h18 hQ
    obtain ⟨x1, x2, x3, x4, x5⟩ := id hX
    obtain ⟨y1, y2⟩ := x3 q (by omega)
    have g1 : ¬ nI s ≤ nI q := nI_ge (by omega) (by omega)
    rw [lk] at hQ
    rw [s127_110]
    simp only [s127_111, s127_114, s127_115, s127_118, s127_121, s127_122, s127_125, s127_126, s127_129, s127_130, s127_133, isR_ref, isR_nul, isR_ra, nl_int, nl_ref, nl_jk, nl_ra, nl_nul, rf_some, rf_none, nc_nil, nc_i, nc_l, nc_r, nc_n, nc_x, true_and, and_true, and_self, if_true, if_false, ite_true, ite_false, Option.toList_some, Option.toList_none, List.cons_append, List.nil_append, nar_b1, nar_b0, T_ite, reduceIte, reduceCtorEq, one_ne, eq_self, mkC_t, hn_t, va_up_same, not_true_eq_false, not_false_eq_true, Nat.reduceLeDiff, Nat.reduceAdd, Nat.reduceEqDiff, Nat.reduceMul, Nat.reduceSub, Nat.reduceDiv, Nat.reduceMod, Nat.reduceLT, false_and, and_false, false_or, or_false, true_or, or_true, Nat.add_zero, Nat.zero_add, Nat.mul_zero, Nat.zero_mul, Nat.add_left_cancel_iff, Nat.add_right_cancel_iff, LMS_46 hL, LMn_46 hL, LMS_47 hL, LMn_47 hL, LMS_48 hL, LMn_48 hL, LMS_49 hL, LMn_49 hL, LMS_50 hL, LMn_50 hL, LMS_51 hL, LMn_51 hL, LMS_52 hL, LMn_52 hL, LMS_53 hL, LMn_53 hL, LMS_54 hL, LMn_54 hL, LMS_55 hL, LMn_55 hL, LMS_56 hL, LMn_56 hL, LMS_57 hL, LMn_57 hL, LMS_58 hL, LMn_58 hL, LMS_59 hL, LMn_59 hL, LMS_60 hL, LMn_60 hL, LMS_61 hL, LMn_61 hL, LMS_62 hL, LMn_62 hL, LMS_63 hL, LMn_63 hL, LMS_64 hL, LMn_64 hL, LMS_65 hL, LMn_65 hL, LMS_66 hL, LMn_66 hL, LMS_67 hL, LMn_67 hL, LMA_46_2 hL, LMA_46_3 hL, LMA_46_5 hL, LMA_46_6 hL, LMA_46_7 hL, LMA_46_11 hL, LMA_46_12 hL, LMA_46_13 hL, LMA_46_21 hL, LMA_46_22 hL, LMA_46_23 hL, LMA_46_24 hL, LMA_46_25 hL, LMA_46_26 hL, LMA_46_27 hL, LMA_46_31 hL, LMA_46_32 hL, LMA_46_33 hL, LMA_46_34 hL, LMA_46_35 hL, LMA_46_36 hL, h18, x2, g1, vpin (show q < 2147483648 by omega), nI_cl (show q < 2147483648 by omega), show q < 160 by omega, y2, M_isLt y1, b01_0]
    by_cases hl : isL (t q) = true
    · rw [if_neg (fun g => g hl)]
      rw [if_pos hl] at hQ
      simp only [s127_136, s127_137, s127_138, s127_141, s127_142, s127_143, s127_146, isR_ref, isR_nul, isR_ra, nl_int, nl_ref, nl_jk, nl_ra, nl_nul, rf_some, rf_none, nc_nil, nc_i, nc_l, nc_r, nc_n, nc_x, true_and, and_true, and_self, if_true, if_false, ite_true, ite_false, Option.toList_some, Option.toList_none, List.cons_append, List.nil_append, nar_b1, nar_b0, T_ite, reduceIte, reduceCtorEq, one_ne, eq_self, mkC_t, hn_t, va_up_same, not_true_eq_false, not_false_eq_true, Nat.reduceLeDiff, Nat.reduceAdd, Nat.reduceEqDiff, Nat.reduceMul, Nat.reduceSub, Nat.reduceDiv, Nat.reduceMod, Nat.reduceLT, false_and, and_false, false_or, or_false, true_or, or_true, Nat.add_zero, Nat.zero_add, Nat.mul_zero, Nat.zero_mul, Nat.add_left_cancel_iff, Nat.add_right_cancel_iff, LMS_46 hL, LMn_46 hL, LMS_47 hL, LMn_47 hL, LMS_48 hL, LMn_48 hL, LMS_49 hL, LMn_49 hL, LMS_50 hL, LMn_50 hL, LMS_51 hL, LMn_51 hL, LMS_52 hL, LMn_52 hL, LMS_53 hL, LMn_53 hL, LMS_54 hL, LMn_54 hL, LMS_55 hL, LMn_55 hL, LMS_56 hL, LMn_56 hL, LMS_57 hL, LMn_57 hL, LMS_58 hL, LMn_58 hL, LMS_59 hL, LMn_59 hL, LMS_60 hL, LMn_60 hL, LMS_61 hL, LMn_61 hL, LMS_62 hL, LMn_62 hL, LMS_63 hL, LMn_63 hL, LMS_64 hL, LMn_64 hL, LMS_65 hL, LMn_65 hL, LMS_66 hL, LMn_66 hL, LMS_67 hL, LMn_67 hL, LMA_46_2 hL, LMA_46_3 hL, LMA_46_5 hL, LMA_46_6 hL, LMA_46_7 hL, LMA_46_11 hL, LMA_46_12 hL, LMA_46_13 hL, LMA_46_21 hL, LMA_46_22 hL, LMA_46_23 hL, LMA_46_24 hL, LMA_46_25 hL, LMA_46_26 hL, LMA_46_27 hL, LMA_46_31 hL, LMA_46_32 hL, LMA_46_33 hL, LMA_46_34 hL, LMA_46_35 hL, LMA_46_36 hL, h18, nI_1]
      have fr : F46 I (wr I 46 18 (nI (q + 1))) (fun k => k = 18) := F46_w rfl
      exact ih (q + 1) _ (by omega) (MX_F hX fr (by decide)) wr_at (fun I' f1 f2 => hQ I' (F46_tr fr f1) f2)
    · rw [if_pos hl]
      rw [if_neg hl] at hQ
      exact hQ I F46_refl h18
def gk (t : Nat → Nat) : Nat → Nat → Nat
  | 0, q => q
  | k + 1, q => if isG (t q) = true then gk t k (q + 1) else q
theorem gk_erk : ∀ (k q : Nat), q ≠ 0 → isG (t (q - 1)) = true → gk t k q = erk t k q := by
  intro k
  induction k with
  | zero => intro q _ _; rfl
  | succ k ih =>
    intro q h0 hl
    have hg : ¬ isL (t (q - 1)) = true := fun g => by rw [isG_iff] at hl; rw [isL_iff] at g; omega
    have hc : ct t q = true ↔ isG (t q) = true := by
      rw [ct_iff]
      exact ⟨fun h => by rcases h.2 with g | g
                         · exact absurd g.2 hg
                         · exact g.1, fun h => ⟨h0, Or.inr ⟨h, hl⟩⟩⟩
    rw [gk, erk]
    by_cases h : isG (t q) = true
    · rw [if_pos h, if_pos (hc.mpr h)]
      exact ih (q + 1) (by omega) h
    · rw [if_neg h, if_neg (fun g => h (hc.mp g))]
theorem gk_eR (hi : i < s) (h : isG (t i) = true) : gk t (s - i) i = eR t s i := by
  obtain ⟨k, hk⟩ : ∃ k, s - i = k + 1 := ⟨s - i - 1, by omega⟩
  rw [hk, gk, if_pos h, gk_erk _ _ (by omega) h]
  unfold eR
  rw [show s - (i + 1) = k by omega]
theorem gk_le : ∀ (k q : Nat), q ≤ gk t k q := by
  intro k
  induction k with
  | zero => intro q; exact Nat.le_refl _
  | succ k ih =>
    intro q
    rw [gk]
    split
    · have := ih (q + 1); omega
    · exact Nat.le_refl _
set_option maxHeartbeats 1000000 in
theorem ng_l (hL : LM A S n) {v1 : Int32} (hi : i ≤ 160) : ∀ (k q u : Nat) (I : Nat → Nat → Int32), q + k = s → i ≤ q → MX t s I → I 46 17 = nI i → I 46 18 = nI q → (q ≤ i + 4 → I 46 20 = nI u) → (∀ I', F46 I I' (fun k => k = 18 ∨ k = 20) → I' 46 18 = nI (gk t k q) → (gk t k q ≤ i + 4 → I' 46 20 = nI (nmk t (gk t k q - q) q u)) → T Ω (d + 2) 127 264 [.ref 46, .int v1] [] (I', J, A, S, n, z) Q) → T Ω (d + 2) 127 188 [.ref 46, .int v1] [] (I, J, A, S, n, z) Q := by
  intro k
  induction k with
  | zero =>
    intro q u I hq hiq hX h17 h18 h20 hQ
    obtain rfl : q = s := by omega
    rw [s127_188]
    simp only [s127_189, s127_192, s127_193, s127_196, isR_ref, isR_nul, isR_ra, nl_int, nl_ref, nl_jk, nl_ra, nl_nul, rf_some, rf_none, nc_nil, nc_i, nc_l, nc_r, nc_n, nc_x, true_and, and_true, and_self, if_true, if_false, ite_true, ite_false, Option.toList_some, Option.toList_none, List.cons_append, List.nil_append, nar_b1, nar_b0, T_ite, reduceIte, reduceCtorEq, one_ne, eq_self, mkC_t, hn_t, va_up_same, not_true_eq_false, not_false_eq_true, Nat.reduceLeDiff, Nat.reduceAdd, Nat.reduceEqDiff, Nat.reduceMul, Nat.reduceSub, Nat.reduceDiv, Nat.reduceMod, Nat.reduceLT, false_and, and_false, false_or, or_false, true_or, or_true, Nat.add_zero, Nat.zero_add, Nat.mul_zero, Nat.zero_mul, Nat.add_left_cancel_iff, Nat.add_right_cancel_iff, LMS_46 hL, LMn_46 hL, LMS_47 hL, LMn_47 hL, LMS_48 hL, LMn_48 hL, LMS_49 hL, LMn_49 hL, LMS_50 hL, LMn_50 hL, LMS_51 hL, LMn_51 hL, LMS_52 hL, LMn_52 hL, LMS_53 hL, LMn_53 hL, LMS_54 hL, LMn_54 hL, LMS_55 hL, LMn_55 hL, LMS_56 hL, LMn_56 hL, LMS_57 hL, LMn_57 hL, LMS_58 hL, LMn_58 hL, LMS_59 hL, LMn_59 hL, LMS_60 hL, LMn_60 hL, LMS_61 hL, LMn_61 hL, LMS_62 hL, LMn_62 hL, LMS_63 hL, LMn_63 hL, LMS_64 hL, LMn_64 hL, LMS_65 hL, LMn_65 hL, LMS_66 hL, LMn_66 hL, LMS_67 hL, LMn_67 hL, LMA_46_2 hL, LMA_46_3 hL, LMA_46_5 hL, LMA_46_6 hL, LMA_46_7 hL, LMA_46_11 hL, LMA_46_12 hL, LMA_46_13 hL, LMA_46_21 hL, LMA_46_22 hL, LMA_46_23 hL, LMA_46_24 hL, LMA_46_25 hL, LMA_46_26 hL, LMA_46_27 hL, LMA_46_31 hL, LMA_46_32 hL, LMA_46_33 hL, LMA_46_34 hL, LMA_46_35 hL, LMA_46_36 hL, h18, hX.2.1, Int32.le_refl]
    refine hQ I F46_refl h18 (fun h => ?_)
    rw [show gk t 0 q = q from rfl, Nat.sub_self, nmk]
    exact h20 h
  | succ k ih =>
    intro q u I hq hiq hX h17 h18 h20 hQ
    obtain ⟨x1, x2, x3, x4, x5⟩ := id hX
    obtain ⟨y1, y2⟩ := x3 q (by omega)
    have g1 : ¬ nI s ≤ nI q := nI_ge (by omega) (by omega)
    rw [s127_188]
    simp only [s127_189, s127_192, s127_193, s127_196, s127_199, s127_200, s127_203, s127_204, s127_207, s127_208, s127_211, isR_ref, isR_nul, isR_ra, nl_int, nl_ref, nl_jk, nl_ra, nl_nul, rf_some, rf_none, nc_nil, nc_i, nc_l, nc_r, nc_n, nc_x, true_and, and_true, and_self, if_true, if_false, ite_true, ite_false, Option.toList_some, Option.toList_none, List.cons_append, List.nil_append, nar_b1, nar_b0, T_ite, reduceIte, reduceCtorEq, one_ne, eq_self, mkC_t, hn_t, va_up_same, not_true_eq_false, not_false_eq_true, Nat.reduceLeDiff, Nat.reduceAdd, Nat.reduceEqDiff, Nat.reduceMul, Nat.reduceSub, Nat.reduceDiv, Nat.reduceMod, Nat.reduceLT, false_and, and_false, false_or, or_false, true_or, or_true, Nat.add_zero, Nat.zero_add, Nat.mul_zero, Nat.zero_mul, Nat.add_left_cancel_iff, Nat.add_right_cancel_iff, LMS_46 hL, LMn_46 hL, LMS_47 hL, LMn_47 hL, LMS_48 hL, LMn_48 hL, LMS_49 hL, LMn_49 hL, LMS_50 hL, LMn_50 hL, LMS_51 hL, LMn_51 hL, LMS_52 hL, LMn_52 hL, LMS_53 hL, LMn_53 hL, LMS_54 hL, LMn_54 hL, LMS_55 hL, LMn_55 hL, LMS_56 hL, LMn_56 hL, LMS_57 hL, LMn_57 hL, LMS_58 hL, LMn_58 hL, LMS_59 hL, LMn_59 hL, LMS_60 hL, LMn_60 hL, LMS_61 hL, LMn_61 hL, LMS_62 hL, LMn_62 hL, LMS_63 hL, LMn_63 hL, LMS_64 hL, LMn_64 hL, LMS_65 hL, LMn_65 hL, LMS_66 hL, LMn_66 hL, LMS_67 hL, LMn_67 hL, LMA_46_2 hL, LMA_46_3 hL, LMA_46_5 hL, LMA_46_6 hL, LMA_46_7 hL, LMA_46_11 hL, LMA_46_12 hL, LMA_46_13 hL, LMA_46_21 hL, LMA_46_22 hL, LMA_46_23 hL, LMA_46_24 hL, LMA_46_25 hL, LMA_46_26 hL, LMA_46_27 hL, LMA_46_31 hL, LMA_46_32 hL, LMA_46_33 hL, LMA_46_34 hL, LMA_46_35 hL, LMA_46_36 hL, h18, x2, g1, vpin (show q < 2147483648 by omega), nI_cl (show q < 2147483648 by omega), show q < 160 by omega, y2, M_isDg y1, b01_0]
    by_cases hg : isG (t q) = true
    · rw [if_neg (fun g => g hg)]
      have ek : gk t (k + 1) q = gk t k (q + 1) := by rw [gk, if_pos hg]
      rw [ek] at hQ
      have hd := isG_iff.mp hg
      have e1 : nI q - nI i = nI (q - i) := nI_subs hiq
      have e2 : (4 ≤ nI (q - i)) = (4 ≤ q - i) := nI_le' (a := 4) (by decide) (by omega)
      simp only [s127_214, s127_215, s127_218, s127_219, s127_222, s127_223, s127_224, isR_ref, isR_nul, isR_ra, nl_int, nl_ref, nl_jk, nl_ra, nl_nul, rf_some, rf_none, nc_nil, nc_i, nc_l, nc_r, nc_n, nc_x, true_and, and_true, and_self, if_true, if_false, ite_true, ite_false, Option.toList_some, Option.toList_none, List.cons_append, List.nil_append, nar_b1, nar_b0, T_ite, reduceIte, reduceCtorEq, one_ne, eq_self, mkC_t, hn_t, va_up_same, not_true_eq_false, not_false_eq_true, Nat.reduceLeDiff, Nat.reduceAdd, Nat.reduceEqDiff, Nat.reduceMul, Nat.reduceSub, Nat.reduceDiv, Nat.reduceMod, Nat.reduceLT, false_and, and_false, false_or, or_false, true_or, or_true, Nat.add_zero, Nat.zero_add, Nat.mul_zero, Nat.zero_mul, Nat.add_left_cancel_iff, Nat.add_right_cancel_iff, LMS_46 hL, LMn_46 hL, LMS_47 hL, LMn_47 hL, LMS_48 hL, LMn_48 hL, LMS_49 hL, LMn_49 hL, LMS_50 hL, LMn_50 hL, LMS_51 hL, LMn_51 hL, LMS_52 hL, LMn_52 hL, LMS_53 hL, LMn_53 hL, LMS_54 hL, LMn_54 hL, LMS_55 hL, LMn_55 hL, LMS_56 hL, LMn_56 hL, LMS_57 hL, LMn_57 hL, LMS_58 hL, LMn_58 hL, LMS_59 hL, LMn_59 hL, LMS_60 hL, LMn_60 hL, LMS_61 hL, LMn_61 hL, LMS_62 hL, LMn_62 hL, LMS_63 hL, LMn_63 hL, LMS_64 hL, LMn_64 hL, LMS_65 hL, LMn_65 hL, LMS_66 hL, LMn_66 hL, LMS_67 hL, LMn_67 hL, LMA_46_2 hL, LMA_46_3 hL, LMA_46_5 hL, LMA_46_6 hL, LMA_46_7 hL, LMA_46_11 hL, LMA_46_12 hL, LMA_46_13 hL, LMA_46_21 hL, LMA_46_22 hL, LMA_46_23 hL, LMA_46_24 hL, LMA_46_25 hL, LMA_46_26 hL, LMA_46_27 hL, LMA_46_31 hL, LMA_46_32 hL, LMA_46_33 hL, LMA_46_34 hL, LMA_46_35 hL, LMA_46_36 hL, h17, h18, e1, e2]
      by_cases h4 : 4 ≤ q - i
      · rw [if_pos h4]
        simp only [s127_251, s127_252, s127_253, s127_256, s127_257, s127_258, s127_261, isR_ref, isR_nul, isR_ra, nl_int, nl_ref, nl_jk, nl_ra, nl_nul, rf_some, rf_none, nc_nil, nc_i, nc_l, nc_r, nc_n, nc_x, true_and, and_true, and_self, if_true, if_false, ite_true, ite_false, Option.toList_some, Option.toList_none, List.cons_append, List.nil_append, nar_b1, nar_b0, T_ite, reduceIte, reduceCtorEq, one_ne, eq_self, mkC_t, hn_t, va_up_same, not_true_eq_false, not_false_eq_true, Nat.reduceLeDiff, Nat.reduceAdd, Nat.reduceEqDiff, Nat.reduceMul, Nat.reduceSub, Nat.reduceDiv, Nat.reduceMod, Nat.reduceLT, false_and, and_false, false_or, or_false, true_or, or_true, Nat.add_zero, Nat.zero_add, Nat.mul_zero, Nat.zero_mul, Nat.add_left_cancel_iff, Nat.add_right_cancel_iff, LMS_46 hL, LMn_46 hL, LMS_47 hL, LMn_47 hL, LMS_48 hL, LMn_48 hL, LMS_49 hL, LMn_49 hL, LMS_50 hL, LMn_50 hL, LMS_51 hL, LMn_51 hL, LMS_52 hL, LMn_52 hL, LMS_53 hL, LMn_53 hL, LMS_54 hL, LMn_54 hL, LMS_55 hL, LMn_55 hL, LMS_56 hL, LMn_56 hL, LMS_57 hL, LMn_57 hL, LMS_58 hL, LMn_58 hL, LMS_59 hL, LMn_59 hL, LMS_60 hL, LMn_60 hL, LMS_61 hL, LMn_61 hL, LMS_62 hL, LMn_62 hL, LMS_63 hL, LMn_63 hL, LMS_64 hL, LMn_64 hL, LMS_65 hL, LMn_65 hL, LMS_66 hL, LMn_66 hL, LMS_67 hL, LMn_67 hL, LMA_46_2 hL, LMA_46_3 hL, LMA_46_5 hL, LMA_46_6 hL, LMA_46_7 hL, LMA_46_11 hL, LMA_46_12 hL, LMA_46_13 hL, LMA_46_21 hL, LMA_46_22 hL, LMA_46_23 hL, LMA_46_24 hL, LMA_46_25 hL, LMA_46_26 hL, LMA_46_27 hL, LMA_46_31 hL, LMA_46_32 hL, LMA_46_33 hL, LMA_46_34 hL, LMA_46_35 hL, LMA_46_36 hL, h18, nI_1]
        have fr : F46 I (wr I 46 18 (nI (q + 1))) (fun k => k = 18 ∨ k = 20) := F46_w (Or.inl rfl)
        have hle := gk_le (t := t) k (q + 1)
        exact ih (q + 1) 0 _ (by omega) (by omega) (MX_F hX fr (by decide)) (by rw [wr_at_ne (by decide)]; exact h17) wr_at (fun h => by omega) (fun I' f1 f2 f3 => hQ I' (F46_tr fr f1) f2 (fun h => by omega))
      · rw [if_neg h4]
        have hu := h20 (by omega)
        have e3 : sb (t q) = nI (t q) := sb_n (by omega)
        have e4 : nI (10 * u + t q) - 48 = nI (10 * u + (t q - 48)) := by
          have := nI_subs (a := 10 * u + t q) (b := 48) (by omega)
          rw [show 10 * u + t q - 48 = 10 * u + (t q - 48) by omega] at this
          exact this
        have e5 : ∀ {v : Int32}, wr I 46 20 v 46 18 = nI q := fun {v} => by rw [wr_at_ne (by decide)]; exact h18
        simp only [s127_227, s127_228, s127_230, s127_231, s127_234, s127_235, s127_236, s127_239, s127_240, s127_243, s127_244, s127_245, s127_247, s127_248, s127_251, s127_252, s127_253, s127_256, s127_257, s127_258, s127_261, isR_ref, isR_nul, isR_ra, nl_int, nl_ref, nl_jk, nl_ra, nl_nul, rf_some, rf_none, nc_nil, nc_i, nc_l, nc_r, nc_n, nc_x, true_and, and_true, and_self, if_true, if_false, ite_true, ite_false, Option.toList_some, Option.toList_none, List.cons_append, List.nil_append, nar_b1, nar_b0, T_ite, reduceIte, reduceCtorEq, one_ne, eq_self, mkC_t, hn_t, va_up_same, not_true_eq_false, not_false_eq_true, Nat.reduceLeDiff, Nat.reduceAdd, Nat.reduceEqDiff, Nat.reduceMul, Nat.reduceSub, Nat.reduceDiv, Nat.reduceMod, Nat.reduceLT, false_and, and_false, false_or, or_false, true_or, or_true, Nat.add_zero, Nat.zero_add, Nat.mul_zero, Nat.zero_mul, Nat.add_left_cancel_iff, Nat.add_right_cancel_iff, LMS_46 hL, LMn_46 hL, LMS_47 hL, LMn_47 hL, LMS_48 hL, LMn_48 hL, LMS_49 hL, LMn_49 hL, LMS_50 hL, LMn_50 hL, LMS_51 hL, LMn_51 hL, LMS_52 hL, LMn_52 hL, LMS_53 hL, LMn_53 hL, LMS_54 hL, LMn_54 hL, LMS_55 hL, LMn_55 hL, LMS_56 hL, LMn_56 hL, LMS_57 hL, LMn_57 hL, LMS_58 hL, LMn_58 hL, LMS_59 hL, LMn_59 hL, LMS_60 hL, LMn_60 hL, LMS_61 hL, LMn_61 hL, LMS_62 hL, LMn_62 hL, LMS_63 hL, LMn_63 hL, LMS_64 hL, LMn_64 hL, LMS_65 hL, LMn_65 hL, LMS_66 hL, LMn_66 hL, LMS_67 hL, LMn_67 hL, LMA_46_2 hL, LMA_46_3 hL, LMA_46_5 hL, LMA_46_6 hL, LMA_46_7 hL, LMA_46_11 hL, LMA_46_12 hL, LMA_46_13 hL, LMA_46_21 hL, LMA_46_22 hL, LMA_46_23 hL, LMA_46_24 hL, LMA_46_25 hL, LMA_46_26 hL, LMA_46_27 hL, LMA_46_31 hL, LMA_46_32 hL, LMA_46_33 hL, LMA_46_34 hL, LMA_46_35 hL, LMA_46_36 hL, hu, h18, vpin (show q < 2147483648 by omega), nI_cl (show q < 2147483648 by omega), show q < 160 by omega, y2, e3, lit_10, pk_mul, nI_add, e4, e5, nI_1]
        have fr : F46 I (wr (wr I 46 20 (nI (10 * u + (t q - 48)))) 46 18 (nI (q + 1))) (fun k => k = 18 ∨ k = 20) := F46_tr (F46_w (Or.inr rfl)) (F46_w (Or.inl rfl))
        have hle := gk_le (t := t) k (q + 1)
        refine ih (q + 1) (u * 10 + (t q - 48)) _ (by omega) (by omega) (MX_F hX fr (by decide)) (by rw [wr_at_ne (by decide), wr_at_ne (by decide)]; exact h17) wr_at (fun h => by rw [wr_at_ne (by decide), wr_at, Nat.mul_comm]) (fun I' f1 f2 f3 => hQ I' (F46_tr fr f1) f2 (fun h => ?_))
        rw [f3 h, show gk t k (q + 1) - q = gk t k (q + 1) - (q + 1) + 1 by omega, nmk]
    · rw [if_pos hg]
      have ek : gk t (k + 1) q = q := by rw [gk, if_neg hg]
      rw [ek] at hQ
      refine hQ I F46_refl h18 (fun h => ?_)
      rw [Nat.sub_self, nmk]
      exact h20 h
/-- what next leaves, from the boundary i on -/
def NT (I' : Nat → Nat → Int32) (t : Nat → Nat) (s i : Nat) : Prop := I' 46 17 = nI (nX t s i) ∧ (nX t s i < s → I' 46 18 = nI (eR t s (nX t s i)) ∧ SI (I' 46 19) (I' 46 20) (kD t (nX t s i) (eR t s (nX t s i))) (vL t (nX t s i) (eR t s (nX t s i)))) ∧ (¬ nX t s i < s → I' 46 18 = nI s ∧ I' 46 19 = 4)
theorem mnt_d : ∀ w, w < 12 → (w < 6 → mnt w = nI w) ∧ (6 ≤ w → mnt w = nI (w + 4)) := by decide
theorem nI_ge0 {k : Nat} (h : k < 2147483648) : (0 ≤ nI k) = True := eq_true (nI_pos' h)
set_option maxHeartbeats 2000000 in
theorem mnext (hL : LM A S n) (hX : MX t s I) (h18 : I 46 18 = nI i) (his : i ≤ s) (hQ : ∀ I', FN I I' → NT I' t s i → Q none (I', J, A, S, n, z)) : T Ω (d + 2) 127 0 [.ref 46, jk] [] (I, J, A, S, n, z) Q := by
  have x1 := hX.1
  simp only [s127_0, s127_1, s127_2, s127_5, isR_ref, isR_nul, isR_ra, nl_int, nl_ref, nl_jk, nl_ra, nl_nul, rf_some, rf_none, nc_nil, nc_i, nc_l, nc_r, nc_n, nc_x, true_and, and_true, and_self, if_true, if_false, ite_true, ite_false, Option.toList_some, Option.toList_none, List.cons_append, List.nil_append, nar_b1, nar_b0, T_ite, reduceIte, reduceCtorEq, one_ne, eq_self, mkC_t, hn_t, va_up_same, not_true_eq_false, not_false_eq_true, Nat.reduceLeDiff, Nat.reduceAdd, Nat.reduceEqDiff, Nat.reduceMul, Nat.reduceSub, Nat.reduceDiv, Nat.reduceMod, Nat.reduceLT, false_and, and_false, false_or, or_false, true_or, or_true, Nat.add_zero, Nat.zero_add, Nat.mul_zero, Nat.zero_mul, Nat.add_left_cancel_iff, Nat.add_right_cancel_iff, LMS_46 hL, LMn_46 hL, LMS_47 hL, LMn_47 hL, LMS_48 hL, LMn_48 hL, LMS_49 hL, LMn_49 hL, LMS_50 hL, LMn_50 hL, LMS_51 hL, LMn_51 hL, LMS_52 hL, LMn_52 hL, LMS_53 hL, LMn_53 hL, LMS_54 hL, LMn_54 hL, LMS_55 hL, LMn_55 hL, LMS_56 hL, LMn_56 hL, LMS_57 hL, LMn_57 hL, LMS_58 hL, LMn_58 hL, LMS_59 hL, LMn_59 hL, LMS_60 hL, LMn_60 hL, LMS_61 hL, LMn_61 hL, LMS_62 hL, LMn_62 hL, LMS_63 hL, LMn_63 hL, LMS_64 hL, LMn_64 hL, LMS_65 hL, LMn_65 hL, LMS_66 hL, LMn_66 hL, LMS_67 hL, LMn_67 hL, LMA_46_2 hL, LMA_46_3 hL, LMA_46_5 hL, LMA_46_6 hL, LMA_46_7 hL, LMA_46_11 hL, LMA_46_12 hL, LMA_46_13 hL, LMA_46_21 hL, LMA_46_22 hL, LMA_46_23 hL, LMA_46_24 hL, LMA_46_25 hL, LMA_46_26 hL, LMA_46_27 hL, LMA_46_31 hL, LMA_46_32 hL, LMA_46_33 hL, LMA_46_34 hL, LMA_46_35 hL, LMA_46_36 hL, h18]
  have fr0 : F46 I (wr I 46 17 (nI i)) (fun k => k = 17) := F46_w rfl
  refine nb_l hL (s - i) i _ (by omega) (MX_F hX fr0 (by decide)) wr_at (fun I1 f1 p1 => ?_)
  have p1' : I1 46 17 = nI (nX t s i) := p1
  have hX1 := MX_F (MX_F hX fr0 (by decide)) f1 (by decide)
  obtain ⟨x2, x3, x4, x5, x6⟩ := id hX1
  have fr1 := F46_tr fr0 f1
  obtain ⟨q1, q2, q3, q4⟩ := nX_sp (t := t) his
  have FNo : ∀ (I' : Nat → Nat → Int32), F46 I I' (fun k => 17 ≤ k ∧ k ≤ 20) → FN I I' := fun I' g => ⟨g.1, fun k hk => g.2 k (by omega)⟩
  have fr1' : F46 I I1 (fun k => 17 ≤ k ∧ k ≤ 20) := F46_mono fr1 (fun k hk => by omega)
  generalize hj : nX t s i = j at *
  have e17 : ∀ {v : Int32}, wr I1 46 18 v 46 17 = nI j := fun {v} => by rw [wr_at_ne (by decide)]; exact p1'
  have e8 : ∀ {v : Int32}, wr I1 46 18 v 46 8 = nI s := fun {v} => by rw [wr_at_ne (by decide)]; exact x3
  simp only [s127_60, s127_61, s127_62, s127_65, s127_68, s127_69, s127_72, s127_73, s127_76, isR_ref, isR_nul, isR_ra, nl_int, nl_ref, nl_jk, nl_ra, nl_nul, rf_some, rf_none, nc_nil, nc_i, nc_l, nc_r, nc_n, nc_x, true_and, and_true, and_self, if_true, if_false, ite_true, ite_false, Option.toList_some, Option.toList_none, List.cons_append, List.nil_append, nar_b1, nar_b0, T_ite, reduceIte, reduceCtorEq, one_ne, eq_self, mkC_t, hn_t, va_up_same, not_true_eq_false, not_false_eq_true, Nat.reduceLeDiff, Nat.reduceAdd, Nat.reduceEqDiff, Nat.reduceMul, Nat.reduceSub, Nat.reduceDiv, Nat.reduceMod, Nat.reduceLT, false_and, and_false, false_or, or_false, true_or, or_true, Nat.add_zero, Nat.zero_add, Nat.mul_zero, Nat.zero_mul, Nat.add_left_cancel_iff, Nat.add_right_cancel_iff, LMS_46 hL, LMn_46 hL, LMS_47 hL, LMn_47 hL, LMS_48 hL, LMn_48 hL, LMS_49 hL, LMn_49 hL, LMS_50 hL, LMn_50 hL, LMS_51 hL, LMn_51 hL, LMS_52 hL, LMn_52 hL, LMS_53 hL, LMn_53 hL, LMS_54 hL, LMn_54 hL, LMS_55 hL, LMn_55 hL, LMS_56 hL, LMn_56 hL, LMS_57 hL, LMn_57 hL, LMS_58 hL, LMn_58 hL, LMS_59 hL, LMn_59 hL, LMS_60 hL, LMn_60 hL, LMS_61 hL, LMn_61 hL, LMS_62 hL, LMn_62 hL, LMS_63 hL, LMn_63 hL, LMS_64 hL, LMn_64 hL, LMS_65 hL, LMn_65 hL, LMS_66 hL, LMn_66 hL, LMS_67 hL, LMn_67 hL, LMA_46_2 hL, LMA_46_3 hL, LMA_46_5 hL, LMA_46_6 hL, LMA_46_7 hL, LMA_46_11 hL, LMA_46_12 hL, LMA_46_13 hL, LMA_46_21 hL, LMA_46_22 hL, LMA_46_23 hL, LMA_46_24 hL, LMA_46_25 hL, LMA_46_26 hL, LMA_46_27 hL, LMA_46_31 hL, LMA_46_32 hL, LMA_46_33 hL, LMA_46_34 hL, LMA_46_35 hL, LMA_46_36 hL, p1', e17, e8, nI_lt' (show j < 2147483648 by omega) (show s < 2147483648 by omega)]
  by_cases hjs : j < s
  · rw [if_pos hjs]
    obtain ⟨y1, y2⟩ := x4 j hjs
    obtain ⟨r1, r2, r3, r4⟩ := eR_sp (t := t) hjs
    have e51 : wr I1 46 18 (nI j) 51 j = sb (t j) := by rw [wr_ne (by decide)]; exact y2
    have fr2 : F46 I1 (wr I1 46 18 (nI j)) (fun k => k = 18) := F46_w rfl
    have hX2 := MX_F hX1 fr2 (by decide)
    have wl := wIx_le (t := t) (i := j) (eR t s j)
    simp only [s127_93, s127_94, s127_97, s127_98, s127_101, s127_102, s127_103, s127_104, s127_107, isR_ref, isR_nul, isR_ra, nl_int, nl_ref, nl_jk, nl_ra, nl_nul, rf_some, rf_none, nc_nil, nc_i, nc_l, nc_r, nc_n, nc_x, true_and, and_true, and_self, if_true, if_false, ite_true, ite_false, Option.toList_some, Option.toList_none, List.cons_append, List.nil_append, nar_b1, nar_b0, T_ite, reduceIte, reduceCtorEq, one_ne, eq_self, mkC_t, hn_t, va_up_same, not_true_eq_false, not_false_eq_true, Nat.reduceLeDiff, Nat.reduceAdd, Nat.reduceEqDiff, Nat.reduceMul, Nat.reduceSub, Nat.reduceDiv, Nat.reduceMod, Nat.reduceLT, false_and, and_false, false_or, or_false, true_or, or_true, Nat.add_zero, Nat.zero_add, Nat.mul_zero, Nat.zero_mul, Nat.add_left_cancel_iff, Nat.add_right_cancel_iff, LMS_46 hL, LMn_46 hL, LMS_47 hL, LMn_47 hL, LMS_48 hL, LMn_48 hL, LMS_49 hL, LMn_49 hL, LMS_50 hL, LMn_50 hL, LMS_51 hL, LMn_51 hL, LMS_52 hL, LMn_52 hL, LMS_53 hL, LMn_53 hL, LMS_54 hL, LMn_54 hL, LMS_55 hL, LMn_55 hL, LMS_56 hL, LMn_56 hL, LMS_57 hL, LMn_57 hL, LMS_58 hL, LMn_58 hL, LMS_59 hL, LMn_59 hL, LMS_60 hL, LMn_60 hL, LMS_61 hL, LMn_61 hL, LMS_62 hL, LMn_62 hL, LMS_63 hL, LMn_63 hL, LMS_64 hL, LMn_64 hL, LMS_65 hL, LMn_65 hL, LMS_66 hL, LMn_66 hL, LMS_67 hL, LMn_67 hL, LMA_46_2 hL, LMA_46_3 hL, LMA_46_5 hL, LMA_46_6 hL, LMA_46_7 hL, LMA_46_11 hL, LMA_46_12 hL, LMA_46_13 hL, LMA_46_21 hL, LMA_46_22 hL, LMA_46_23 hL, LMA_46_24 hL, LMA_46_25 hL, LMA_46_26 hL, LMA_46_27 hL, LMA_46_31 hL, LMA_46_32 hL, LMA_46_33 hL, LMA_46_34 hL, LMA_46_35 hL, LMA_46_36 hL, e17, vpin (show j < 2147483648 by omega), nI_cl (show j < 2147483648 by omega), show j < 160 by omega, e51, M_isLt y1, b01_0]
    by_cases hl : isL (t j) = true
    · rw [if_neg (fun g => g hl)]
      refine nl_l hL (s - j) j _ (by omega) hX2 wr_at (fun I2 f2 p2 => ?_)
      rw [lk_eR hjs hl] at p2
      have hX3 := MX_F hX2 f2 (by decide)
      have p17 : I2 46 17 = nI j := by rw [f2.2 17 (by decide)]; exact e17
      have fr3 : F46 I I2 (fun k => 17 ≤ k ∧ k ≤ 20) := F46_tr fr1' (F46_mono (F46_tr fr2 f2) (fun k hk => by omega))
      simp only [s127_149, s127_150, s127_151, isR_ref, isR_nul, isR_ra, nl_int, nl_ref, nl_jk, nl_ra, nl_nul, rf_some, rf_none, nc_nil, nc_i, nc_l, nc_r, nc_n, nc_x, true_and, and_true, and_self, if_true, if_false, ite_true, ite_false, Option.toList_some, Option.toList_none, List.cons_append, List.nil_append, nar_b1, nar_b0, T_ite, reduceIte, reduceCtorEq, one_ne, eq_self, mkC_t, hn_t, va_up_same, not_true_eq_false, not_false_eq_true, Nat.reduceLeDiff, Nat.reduceAdd, Nat.reduceEqDiff, Nat.reduceMul, Nat.reduceSub, Nat.reduceDiv, Nat.reduceMod, Nat.reduceLT, false_and, and_false, false_or, or_false, true_or, or_true, Nat.add_zero, Nat.zero_add, Nat.mul_zero, Nat.zero_mul, Nat.add_left_cancel_iff, Nat.add_right_cancel_iff, LMS_46 hL, LMn_46 hL, LMS_47 hL, LMn_47 hL, LMS_48 hL, LMn_48 hL, LMS_49 hL, LMn_49 hL, LMS_50 hL, LMn_50 hL, LMS_51 hL, LMn_51 hL, LMS_52 hL, LMn_52 hL, LMS_53 hL, LMn_53 hL, LMS_54 hL, LMn_54 hL, LMS_55 hL, LMn_55 hL, LMS_56 hL, LMn_56 hL, LMS_57 hL, LMn_57 hL, LMS_58 hL, LMn_58 hL, LMS_59 hL, LMn_59 hL, LMS_60 hL, LMn_60 hL, LMS_61 hL, LMn_61 hL, LMS_62 hL, LMn_62 hL, LMS_63 hL, LMn_63 hL, LMS_64 hL, LMn_64 hL, LMS_65 hL, LMn_65 hL, LMS_66 hL, LMn_66 hL, LMS_67 hL, LMn_67 hL, LMA_46_2 hL, LMA_46_3 hL, LMA_46_5 hL, LMA_46_6 hL, LMA_46_7 hL, LMA_46_11 hL, LMA_46_12 hL, LMA_46_13 hL, LMA_46_21 hL, LMA_46_22 hL, LMA_46_23 hL, LMA_46_24 hL, LMA_46_25 hL, LMA_46_26 hL, LMA_46_27 hL, LMA_46_31 hL, LMA_46_32 hL, LMA_46_33 hL, LMA_46_34 hL, LMA_46_35 hL, LMA_46_36 hL, wordNow hL hX3 r2 (show j ≤ eR t s j by omega) p17 p2]
      have hk : kD t j (eR t s j) = if wIx t j (eR t s j) < 6 then 3 else if wIx t j (eR t s j) < 12 then wIx t j (eR t s j) - 1 else 4 := by unfold kD; rw [if_pos hl]
      have hv : vL t j (eR t s j) = wIx t j (eR t s j) := by unfold vL; rw [if_pos hl]
      by_cases h12 : wIx t j (eR t s j) < 12
      · obtain ⟨m1, m2⟩ := mnt_d _ h12
        have hge : ∃ v, v < 100 ∧ mnt (wIx t j (eR t s j)) = nI v := by
          by_cases h6 : wIx t j (eR t s j) < 6
          · exact ⟨_, by omega, m1 h6⟩
          · exact ⟨_, by omega, m2 (by omega)⟩
        obtain ⟨v, hv1, hv2⟩ := hge
        simp only [if_pos h12, hv2]
        simp only [s127_154, s127_157, s127_158, s127_159, s127_162, s127_165, s127_166, s127_169, s127_170, s127_173, s127_361, isR_ref, isR_nul, isR_ra, nl_int, nl_ref, nl_jk, nl_ra, nl_nul, rf_some, rf_none, nc_nil, nc_i, nc_l, nc_r, nc_n, nc_x, true_and, and_true, and_self, if_true, if_false, ite_true, ite_false, Option.toList_some, Option.toList_none, List.cons_append, List.nil_append, nar_b1, nar_b0, T_ite, reduceIte, reduceCtorEq, one_ne, eq_self, mkC_t, hn_t, va_up_same, not_true_eq_false, not_false_eq_true, Nat.reduceLeDiff, Nat.reduceAdd, Nat.reduceEqDiff, Nat.reduceMul, Nat.reduceSub, Nat.reduceDiv, Nat.reduceMod, Nat.reduceLT, false_and, and_false, false_or, or_false, true_or, or_true, Nat.add_zero, Nat.zero_add, Nat.mul_zero, Nat.zero_mul, Nat.add_left_cancel_iff, Nat.add_right_cancel_iff, LMS_46 hL, LMn_46 hL, LMS_47 hL, LMn_47 hL, LMS_48 hL, LMn_48 hL, LMS_49 hL, LMn_49 hL, LMS_50 hL, LMn_50 hL, LMS_51 hL, LMn_51 hL, LMS_52 hL, LMn_52 hL, LMS_53 hL, LMn_53 hL, LMS_54 hL, LMn_54 hL, LMS_55 hL, LMn_55 hL, LMS_56 hL, LMn_56 hL, LMS_57 hL, LMn_57 hL, LMS_58 hL, LMn_58 hL, LMS_59 hL, LMn_59 hL, LMS_60 hL, LMn_60 hL, LMS_61 hL, LMn_61 hL, LMS_62 hL, LMn_62 hL, LMS_63 hL, LMn_63 hL, LMS_64 hL, LMn_64 hL, LMS_65 hL, LMn_65 hL, LMS_66 hL, LMn_66 hL, LMS_67 hL, LMn_67 hL, LMA_46_2 hL, LMA_46_3 hL, LMA_46_5 hL, LMA_46_6 hL, LMA_46_7 hL, LMA_46_11 hL, LMA_46_12 hL, LMA_46_13 hL, LMA_46_21 hL, LMA_46_22 hL, LMA_46_23 hL, LMA_46_24 hL, LMA_46_25 hL, LMA_46_26 hL, LMA_46_27 hL, LMA_46_31 hL, LMA_46_32 hL, LMA_46_33 hL, LMA_46_34 hL, LMA_46_35 hL, LMA_46_36 hL, wr_rd, nI_ge0 (show v < 2147483648 by omega)]
        refine hQ _ (FNo _ (F46_tr fr3 (F46_tr (F46_w (by decide)) (F46_w (by decide))))) ⟨?_, fun _ => ⟨?_, ?_⟩, fun h => absurd (by rw [hj]; exact hjs) h⟩
        · rw [hj, wr_at_ne (by decide), wr_at_ne (by decide)]; exact p17
        · rw [hj, wr_at_ne (by decide), wr_at_ne (by decide)]; exact p2
        · rw [hj, wr_at, wr_at_ne (by decide), wr_at, hk, hv, ← hv2]
          by_cases h6 : wIx t j (eR t s j) < 6
          · rw [if_pos h6]
            exact Or.inr (Or.inr (Or.inl ⟨rfl, rfl, m1 h6, h6⟩))
          · rw [if_neg h6, if_pos h12]
            refine Or.inr (Or.inr (Or.inr (Or.inr (Or.inl ⟨by omega, by omega, rfl, ?_⟩))))
            rw [m2 (by omega), show wIx t j (eR t s j) - 1 + 5 = wIx t j (eR t s j) + 4 by omega]
      · simp only [if_neg h12]
        simp only [s127_154, s127_157, s127_158, s127_159, s127_162, s127_165, s127_166, s127_169, s127_170, s127_173, s127_361, isR_ref, isR_nul, isR_ra, nl_int, nl_ref, nl_jk, nl_ra, nl_nul, rf_some, rf_none, nc_nil, nc_i, nc_l, nc_r, nc_n, nc_x, true_and, and_true, and_self, if_true, if_false, ite_true, ite_false, Option.toList_some, Option.toList_none, List.cons_append, List.nil_append, nar_b1, nar_b0, T_ite, reduceIte, reduceCtorEq, one_ne, eq_self, mkC_t, hn_t, va_up_same, not_true_eq_false, not_false_eq_true, Nat.reduceLeDiff, Nat.reduceAdd, Nat.reduceEqDiff, Nat.reduceMul, Nat.reduceSub, Nat.reduceDiv, Nat.reduceMod, Nat.reduceLT, false_and, and_false, false_or, or_false, true_or, or_true, Nat.add_zero, Nat.zero_add, Nat.mul_zero, Nat.zero_mul, Nat.add_left_cancel_iff, Nat.add_right_cancel_iff, LMS_46 hL, LMn_46 hL, LMS_47 hL, LMn_47 hL, LMS_48 hL, LMn_48 hL, LMS_49 hL, LMn_49 hL, LMS_50 hL, LMn_50 hL, LMS_51 hL, LMn_51 hL, LMS_52 hL, LMn_52 hL, LMS_53 hL, LMn_53 hL, LMS_54 hL, LMn_54 hL, LMS_55 hL, LMn_55 hL, LMS_56 hL, LMn_56 hL, LMS_57 hL, LMn_57 hL, LMS_58 hL, LMn_58 hL, LMS_59 hL, LMn_59 hL, LMS_60 hL, LMn_60 hL, LMS_61 hL, LMn_61 hL, LMS_62 hL, LMn_62 hL, LMS_63 hL, LMn_63 hL, LMS_64 hL, LMn_64 hL, LMS_65 hL, LMn_65 hL, LMS_66 hL, LMn_66 hL, LMS_67 hL, LMn_67 hL, LMA_46_2 hL, LMA_46_3 hL, LMA_46_5 hL, LMA_46_6 hL, LMA_46_7 hL, LMA_46_11 hL, LMA_46_12 hL, LMA_46_13 hL, LMA_46_21 hL, LMA_46_22 hL, LMA_46_23 hL, LMA_46_24 hL, LMA_46_25 hL, LMA_46_26 hL, LMA_46_27 hL, LMA_46_31 hL, LMA_46_32 hL, LMA_46_33 hL, LMA_46_34 hL, LMA_46_35 hL, LMA_46_36 hL, wr_rd, show ¬ (0 : Int32) ≤ -1 from by decide]
        refine hQ _ (FNo _ (F46_tr fr3 (F46_tr (F46_w (by decide)) (F46_w (by decide))))) ⟨?_, fun _ => ⟨?_, ?_⟩, fun h => absurd (by rw [hj]; exact hjs) h⟩
        · rw [hj, wr_at_ne (by decide), wr_at_ne (by decide)]; exact p17
        · rw [hj, wr_at_ne (by decide), wr_at_ne (by decide)]; exact p2
        · rw [hj, wr_at, hk, if_neg (by omega), if_neg h12]
          exact Or.inr (Or.inr (Or.inr (Or.inl ⟨rfl, rfl⟩)))
    · rw [if_pos hl]
      simp only [s127_176, s127_177, s127_180, isR_ref, isR_nul, isR_ra, nl_int, nl_ref, nl_jk, nl_ra, nl_nul, rf_some, rf_none, nc_nil, nc_i, nc_l, nc_r, nc_n, nc_x, true_and, and_true, and_self, if_true, if_false, ite_true, ite_false, Option.toList_some, Option.toList_none, List.cons_append, List.nil_append, nar_b1, nar_b0, T_ite, reduceIte, reduceCtorEq, one_ne, eq_self, mkC_t, hn_t, va_up_same, not_true_eq_false, not_false_eq_true, Nat.reduceLeDiff, Nat.reduceAdd, Nat.reduceEqDiff, Nat.reduceMul, Nat.reduceSub, Nat.reduceDiv, Nat.reduceMod, Nat.reduceLT, false_and, and_false, false_or, or_false, true_or, or_true, Nat.add_zero, Nat.zero_add, Nat.mul_zero, Nat.zero_mul, Nat.add_left_cancel_iff, Nat.add_right_cancel_iff, M_isDg y1, b01_0]
      by_cases hg : isG (t j) = true
      · rw [if_neg (fun g => g hg)]
        have e20 : F46 I1 (wr (wr I1 46 18 (nI j)) 46 20 0) (fun k => k = 18 ∨ k = 20) := F46_tr (F46_w (Or.inl rfl)) (F46_w (Or.inr rfl))
        simp only [s127_183, s127_184, s127_185, isR_ref, isR_nul, isR_ra, nl_int, nl_ref, nl_jk, nl_ra, nl_nul, rf_some, rf_none, nc_nil, nc_i, nc_l, nc_r, nc_n, nc_x, true_and, and_true, and_self, if_true, if_false, ite_true, ite_false, Option.toList_some, Option.toList_none, List.cons_append, List.nil_append, nar_b1, nar_b0, T_ite, reduceIte, reduceCtorEq, one_ne, eq_self, mkC_t, hn_t, va_up_same, not_true_eq_false, not_false_eq_true, Nat.reduceLeDiff, Nat.reduceAdd, Nat.reduceEqDiff, Nat.reduceMul, Nat.reduceSub, Nat.reduceDiv, Nat.reduceMod, Nat.reduceLT, false_and, and_false, false_or, or_false, true_or, or_true, Nat.add_zero, Nat.zero_add, Nat.mul_zero, Nat.zero_mul, Nat.add_left_cancel_iff, Nat.add_right_cancel_iff, LMS_46 hL, LMn_46 hL, LMS_47 hL, LMn_47 hL, LMS_48 hL, LMn_48 hL, LMS_49 hL, LMn_49 hL, LMS_50 hL, LMn_50 hL, LMS_51 hL, LMn_51 hL, LMS_52 hL, LMn_52 hL, LMS_53 hL, LMn_53 hL, LMS_54 hL, LMn_54 hL, LMS_55 hL, LMn_55 hL, LMS_56 hL, LMn_56 hL, LMS_57 hL, LMn_57 hL, LMS_58 hL, LMn_58 hL, LMS_59 hL, LMn_59 hL, LMS_60 hL, LMn_60 hL, LMS_61 hL, LMn_61 hL, LMS_62 hL, LMn_62 hL, LMS_63 hL, LMn_63 hL, LMS_64 hL, LMn_64 hL, LMS_65 hL, LMn_65 hL, LMS_66 hL, LMn_66 hL, LMS_67 hL, LMn_67 hL, LMA_46_2 hL, LMA_46_3 hL, LMA_46_5 hL, LMA_46_6 hL, LMA_46_7 hL, LMA_46_11 hL, LMA_46_12 hL, LMA_46_13 hL, LMA_46_21 hL, LMA_46_22 hL, LMA_46_23 hL, LMA_46_24 hL, LMA_46_25 hL, LMA_46_26 hL, LMA_46_27 hL, LMA_46_31 hL, LMA_46_32 hL, LMA_46_33 hL, LMA_46_34 hL, LMA_46_35 hL, LMA_46_36 hL]
        refine ng_l hL (i := j) (by omega) (s - j) j 0 _ (by omega) (Nat.le_refl _) (MX_F hX1 e20 (by decide)) (by rw [wr_at_ne (by decide)]; exact e17) (by rw [wr_at_ne (by decide), wr_at]) (fun _ => wr_at) (fun I2 f2 p2 p3 => ?_)
        rw [gk_eR hjs hg] at p2 p3
        have p17 : I2 46 17 = nI j := by rw [f2.2 17 (by decide), wr_at_ne (by decide)]; exact e17
        have fr3 : F46 I I2 (fun k => 17 ≤ k ∧ k ≤ 20) := F46_tr fr1' (F46_mono (F46_tr e20 f2) (fun k hk => by omega))
        have e1 : nI (eR t s j) - nI j = nI (eR t s j - j) := nI_subs (by omega)
        have e2 : (nI (eR t s j - j) ≤ 4) = (eR t s j - j ≤ 4) := nI_le' (b := 4) (by omega) (by decide)
        simp only [s127_264, s127_265, s127_266, s127_269, s127_270, s127_273, s127_274, s127_275, isR_ref, isR_nul, isR_ra, nl_int, nl_ref, nl_jk, nl_ra, nl_nul, rf_some, rf_none, nc_nil, nc_i, nc_l, nc_r, nc_n, nc_x, true_and, and_true, and_self, if_true, if_false, ite_true, ite_false, Option.toList_some, Option.toList_none, List.cons_append, List.nil_append, nar_b1, nar_b0, T_ite, reduceIte, reduceCtorEq, one_ne, eq_self, mkC_t, hn_t, va_up_same, not_true_eq_false, not_false_eq_true, Nat.reduceLeDiff, Nat.reduceAdd, Nat.reduceEqDiff, Nat.reduceMul, Nat.reduceSub, Nat.reduceDiv, Nat.reduceMod, Nat.reduceLT, false_and, and_false, false_or, or_false, true_or, or_true, Nat.add_zero, Nat.zero_add, Nat.mul_zero, Nat.zero_mul, Nat.add_left_cancel_iff, Nat.add_right_cancel_iff, LMS_46 hL, LMn_46 hL, LMS_47 hL, LMn_47 hL, LMS_48 hL, LMn_48 hL, LMS_49 hL, LMn_49 hL, LMS_50 hL, LMn_50 hL, LMS_51 hL, LMn_51 hL, LMS_52 hL, LMn_52 hL, LMS_53 hL, LMn_53 hL, LMS_54 hL, LMn_54 hL, LMS_55 hL, LMn_55 hL, LMS_56 hL, LMn_56 hL, LMS_57 hL, LMn_57 hL, LMS_58 hL, LMn_58 hL, LMS_59 hL, LMn_59 hL, LMS_60 hL, LMn_60 hL, LMS_61 hL, LMn_61 hL, LMS_62 hL, LMn_62 hL, LMS_63 hL, LMn_63 hL, LMS_64 hL, LMn_64 hL, LMS_65 hL, LMn_65 hL, LMS_66 hL, LMn_66 hL, LMS_67 hL, LMn_67 hL, LMA_46_2 hL, LMA_46_3 hL, LMA_46_5 hL, LMA_46_6 hL, LMA_46_7 hL, LMA_46_11 hL, LMA_46_12 hL, LMA_46_13 hL, LMA_46_21 hL, LMA_46_22 hL, LMA_46_23 hL, LMA_46_24 hL, LMA_46_25 hL, LMA_46_26 hL, LMA_46_27 hL, LMA_46_31 hL, LMA_46_32 hL, LMA_46_33 hL, LMA_46_34 hL, LMA_46_35 hL, LMA_46_36 hL, p2, p17, e1, e2]
        by_cases h4 : eR t s j - j ≤ 4
        · have hk : kD t j (eR t s j) = 2 := by unfold kD; rw [if_neg hl, if_pos hg, if_pos h4]
          have hv : vL t j (eR t s j) = nmk t (eR t s j - j) j 0 := by unfold vL; rw [if_neg hl, if_pos hg]
          have hn := nmk_le (t := t) (eR t s j - j) j 0 (fun r q1 q2 => by
            have := isG_iff.mp (run_G hjs hg r q1 (by omega))
            omega)
          have hp : 10 ^ (eR t s j - j) ≤ 10 ^ 4 := Nat.pow_le_pow_right (by decide) h4
          rw [if_pos h4]
          simp only [s127_282, s127_283, s127_286, s127_361, isR_ref, isR_nul, isR_ra, nl_int, nl_ref, nl_jk, nl_ra, nl_nul, rf_some, rf_none, nc_nil, nc_i, nc_l, nc_r, nc_n, nc_x, true_and, and_true, and_self, if_true, if_false, ite_true, ite_false, Option.toList_some, Option.toList_none, List.cons_append, List.nil_append, nar_b1, nar_b0, T_ite, reduceIte, reduceCtorEq, one_ne, eq_self, mkC_t, hn_t, va_up_same, not_true_eq_false, not_false_eq_true, Nat.reduceLeDiff, Nat.reduceAdd, Nat.reduceEqDiff, Nat.reduceMul, Nat.reduceSub, Nat.reduceDiv, Nat.reduceMod, Nat.reduceLT, false_and, and_false, false_or, or_false, true_or, or_true, Nat.add_zero, Nat.zero_add, Nat.mul_zero, Nat.zero_mul, Nat.add_left_cancel_iff, Nat.add_right_cancel_iff, LMS_46 hL, LMn_46 hL, LMS_47 hL, LMn_47 hL, LMS_48 hL, LMn_48 hL, LMS_49 hL, LMn_49 hL, LMS_50 hL, LMn_50 hL, LMS_51 hL, LMn_51 hL, LMS_52 hL, LMn_52 hL, LMS_53 hL, LMn_53 hL, LMS_54 hL, LMn_54 hL, LMS_55 hL, LMn_55 hL, LMS_56 hL, LMn_56 hL, LMS_57 hL, LMn_57 hL, LMS_58 hL, LMn_58 hL, LMS_59 hL, LMn_59 hL, LMS_60 hL, LMn_60 hL, LMS_61 hL, LMn_61 hL, LMS_62 hL, LMn_62 hL, LMS_63 hL, LMn_63 hL, LMS_64 hL, LMn_64 hL, LMS_65 hL, LMn_65 hL, LMS_66 hL, LMn_66 hL, LMS_67 hL, LMn_67 hL, LMA_46_2 hL, LMA_46_3 hL, LMA_46_5 hL, LMA_46_6 hL, LMA_46_7 hL, LMA_46_11 hL, LMA_46_12 hL, LMA_46_13 hL, LMA_46_21 hL, LMA_46_22 hL, LMA_46_23 hL, LMA_46_24 hL, LMA_46_25 hL, LMA_46_26 hL, LMA_46_27 hL, LMA_46_31 hL, LMA_46_32 hL, LMA_46_33 hL, LMA_46_34 hL, LMA_46_35 hL, LMA_46_36 hL]
          refine hQ _ (FNo _ (F46_tr fr3 (F46_w (by decide)))) ⟨?_, fun _ => ⟨?_, ?_⟩, fun h => absurd (by rw [hj]; exact hjs) h⟩
          · rw [hj, wr_at_ne (by decide)]; exact p17
          · rw [hj, wr_at_ne (by decide)]; exact p2
          · rw [hj, wr_at, wr_at_ne (by decide), p3 (by omega), hk, hv]
            exact Or.inr (Or.inl ⟨rfl, rfl, rfl, by omega⟩)
        · have hk : kD t j (eR t s j) = 4 := by unfold kD; rw [if_neg hl, if_pos hg, if_neg h4]
          rw [if_neg h4]
          simp only [s127_278, s127_279, s127_282, s127_283, s127_286, s127_361, isR_ref, isR_nul, isR_ra, nl_int, nl_ref, nl_jk, nl_ra, nl_nul, rf_some, rf_none, nc_nil, nc_i, nc_l, nc_r, nc_n, nc_x, true_and, and_true, and_self, if_true, if_false, ite_true, ite_false, Option.toList_some, Option.toList_none, List.cons_append, List.nil_append, nar_b1, nar_b0, T_ite, reduceIte, reduceCtorEq, one_ne, eq_self, mkC_t, hn_t, va_up_same, not_true_eq_false, not_false_eq_true, Nat.reduceLeDiff, Nat.reduceAdd, Nat.reduceEqDiff, Nat.reduceMul, Nat.reduceSub, Nat.reduceDiv, Nat.reduceMod, Nat.reduceLT, false_and, and_false, false_or, or_false, true_or, or_true, Nat.add_zero, Nat.zero_add, Nat.mul_zero, Nat.zero_mul, Nat.add_left_cancel_iff, Nat.add_right_cancel_iff, LMS_46 hL, LMn_46 hL, LMS_47 hL, LMn_47 hL, LMS_48 hL, LMn_48 hL, LMS_49 hL, LMn_49 hL, LMS_50 hL, LMn_50 hL, LMS_51 hL, LMn_51 hL, LMS_52 hL, LMn_52 hL, LMS_53 hL, LMn_53 hL, LMS_54 hL, LMn_54 hL, LMS_55 hL, LMn_55 hL, LMS_56 hL, LMn_56 hL, LMS_57 hL, LMn_57 hL, LMS_58 hL, LMn_58 hL, LMS_59 hL, LMn_59 hL, LMS_60 hL, LMn_60 hL, LMS_61 hL, LMn_61 hL, LMS_62 hL, LMn_62 hL, LMS_63 hL, LMn_63 hL, LMS_64 hL, LMn_64 hL, LMS_65 hL, LMn_65 hL, LMS_66 hL, LMn_66 hL, LMS_67 hL, LMn_67 hL, LMA_46_2 hL, LMA_46_3 hL, LMA_46_5 hL, LMA_46_6 hL, LMA_46_7 hL, LMA_46_11 hL, LMA_46_12 hL, LMA_46_13 hL, LMA_46_21 hL, LMA_46_22 hL, LMA_46_23 hL, LMA_46_24 hL, LMA_46_25 hL, LMA_46_26 hL, LMA_46_27 hL, LMA_46_31 hL, LMA_46_32 hL, LMA_46_33 hL, LMA_46_34 hL, LMA_46_35 hL, LMA_46_36 hL]
          refine hQ _ (FNo _ (F46_tr fr3 (F46_w (by decide)))) ⟨?_, fun _ => ⟨?_, ?_⟩, fun h => absurd (by rw [hj]; exact hjs) h⟩
          · rw [hj, wr_at_ne (by decide)]; exact p17
          · rw [hj, wr_at_ne (by decide)]; exact p2
          · rw [hj, wr_at, hk]
            exact Or.inr (Or.inr (Or.inr (Or.inl ⟨rfl, rfl⟩)))
      · rw [if_pos hg]
        have er : eR t s j = j + 1 := by
          by_cases he : eR t s j = j + 1
          · exact he
          · have hc := r3 (j + 1) (by omega) (by omega)
            rw [ct_iff, Nat.add_sub_cancel] at hc
            rcases hc.2 with g | g
            · exact absurd g.2 hl
            · exact absurd g.2 hg
        have fr3 : ∀ (w1 w2 w3 : Int32), F46 I (wr (wr (wr (wr I1 46 18 (nI j)) 46 18 w1) 46 20 w2) 46 19 w3) (fun k => 17 ≤ k ∧ k ≤ 20) := fun w1 w2 w3 => F46_tr fr1' (F46_tr (F46_w (by decide)) (F46_tr (F46_w (by decide)) (F46_tr (F46_w (by decide)) (F46_w (by decide)))))
        have fin : ∀ (so : Int32), SI so (sb (t j)) (kD t j (eR t s j)) (vL t j (eR t s j)) → Q none (wr (wr (wr (wr I1 46 18 (nI j)) 46 18 (nI (j + 1))) 46 20 (sb (t j))) 46 19 so, J, A, S, n, z) := fun so hso => by
          refine hQ _ (FNo _ (fr3 _ _ _)) ⟨?_, fun _ => ⟨?_, ?_⟩, fun h => absurd (by rw [hj]; exact hjs) h⟩
          · rw [hj, wr_at_ne (by decide), wr_at_ne (by decide), wr_at_ne (by decide)]; exact e17
          · rw [hj, wr_at_ne (by decide), wr_at_ne (by decide), wr_at, er]
          · rw [hj, wr_at, wr_at_ne (by decide), wr_at]; exact hso
        have s40 := sb_e (t j) y1 40 (by decide)
        have s41 := sb_e (t j) y1 41 (by decide)
        have s59 := sb_e (t j) y1 59 (by decide)
        have s43 := sb_e (t j) y1 43 (by decide)
        have s45 := sb_e (t j) y1 45 (by decide)
        have s42 := sb_e (t j) y1 42 (by decide)
        have s60 := sb_e (t j) y1 60 (by decide)
        have s61 := sb_e (t j) y1 61 (by decide)
        have yes : isSg (t j) = true → Q none (wr (wr (wr (wr I1 46 18 (nI j)) 46 18 (nI (j + 1))) 46 20 (sb (t j))) 46 19 3, J, A, S, n, z) := fun hsg => by
          refine fin 3 ?_
          have hk : kD t j (eR t s j) = t j := by unfold kD; rw [if_neg hl, if_neg hg, if_pos hsg]
          have hr : 40 ≤ t j ∧ t j < 128 := by simp [isSg] at hsg; omega
          rw [hk, sb_n hr.2]
          exact Or.inr (Or.inr (Or.inr (Or.inr (Or.inr ⟨hr.1, hr.2, rfl, rfl⟩))))
        have no : ¬ isSg (t j) = true → Q none (wr (wr (wr (wr I1 46 18 (nI j)) 46 18 (nI (j + 1))) 46 20 (sb (t j))) 46 19 5, J, A, S, n, z) := fun hsg => by
          refine fin 5 ?_
          have hk : kD t j (eR t s j) = 4 := by unfold kD; rw [if_neg hl, if_neg hg, if_neg hsg]
          rw [hk]
          exact Or.inr (Or.inr (Or.inr (Or.inl ⟨rfl, rfl⟩)))
        simp only [s127_289, s127_290, s127_291, s127_294, s127_295, s127_296, s127_299, s127_300, s127_301, s127_304, s127_305, s127_306, s127_308, s127_311, s127_312, s127_314, s127_317, s127_318, s127_320, s127_323, s127_324, s127_326, s127_329, s127_330, s127_332, s127_335, s127_336, s127_338, s127_341, s127_342, s127_344, s127_347, s127_348, s127_350, s127_353, s127_354, s127_357, s127_358, s127_361, isR_ref, isR_nul, isR_ra, nl_int, nl_ref, nl_jk, nl_ra, nl_nul, rf_some, rf_none, nc_nil, nc_i, nc_l, nc_r, nc_n, nc_x, true_and, and_true, and_self, if_true, if_false, ite_true, ite_false, Option.toList_some, Option.toList_none, List.cons_append, List.nil_append, nar_b1, nar_b0, T_ite, reduceIte, reduceCtorEq, one_ne, eq_self, mkC_t, hn_t, va_up_same, not_true_eq_false, not_false_eq_true, Nat.reduceLeDiff, Nat.reduceAdd, Nat.reduceEqDiff, Nat.reduceMul, Nat.reduceSub, Nat.reduceDiv, Nat.reduceMod, Nat.reduceLT, false_and, and_false, false_or, or_false, true_or, or_true, Nat.add_zero, Nat.zero_add, Nat.mul_zero, Nat.zero_mul, Nat.add_left_cancel_iff, Nat.add_right_cancel_iff, LMS_46 hL, LMn_46 hL, LMS_47 hL, LMn_47 hL, LMS_48 hL, LMn_48 hL, LMS_49 hL, LMn_49 hL, LMS_50 hL, LMn_50 hL, LMS_51 hL, LMn_51 hL, LMS_52 hL, LMn_52 hL, LMS_53 hL, LMn_53 hL, LMS_54 hL, LMn_54 hL, LMS_55 hL, LMn_55 hL, LMS_56 hL, LMn_56 hL, LMS_57 hL, LMn_57 hL, LMS_58 hL, LMn_58 hL, LMS_59 hL, LMn_59 hL, LMS_60 hL, LMn_60 hL, LMS_61 hL, LMn_61 hL, LMS_62 hL, LMn_62 hL, LMS_63 hL, LMn_63 hL, LMS_64 hL, LMn_64 hL, LMS_65 hL, LMn_65 hL, LMS_66 hL, LMn_66 hL, LMS_67 hL, LMn_67 hL, LMA_46_2 hL, LMA_46_3 hL, LMA_46_5 hL, LMA_46_6 hL, LMA_46_7 hL, LMA_46_11 hL, LMA_46_12 hL, LMA_46_13 hL, LMA_46_21 hL, LMA_46_22 hL, LMA_46_23 hL, LMA_46_24 hL, LMA_46_25 hL, LMA_46_26 hL, LMA_46_27 hL, LMA_46_31 hL, LMA_46_32 hL, LMA_46_33 hL, LMA_46_34 hL, LMA_46_35 hL, LMA_46_36 hL, wr_at, nI_1, show (40 : Int32) = nI 40 from rfl, show (41 : Int32) = nI 41 from rfl, show (59 : Int32) = nI 59 from rfl, show (43 : Int32) = nI 43 from rfl, show (45 : Int32) = nI 45 from rfl, show (42 : Int32) = nI 42 from rfl, show (60 : Int32) = nI 60 from rfl, show (61 : Int32) = nI 61 from rfl, s40, s41, s59, s43, s45, s42, s60, s61]
        simp only [isSg, Bool.or_eq_true, beq_iff_eq] at yes no
        grind
  · rw [if_neg hjs]
    obtain rfl : j = s := by omega
    simp only [s127_79, s127_80, s127_81, s127_84, s127_87, s127_88, s127_89, s127_92, isR_ref, isR_nul, isR_ra, nl_int, nl_ref, nl_jk, nl_ra, nl_nul, rf_some, rf_none, nc_nil, nc_i, nc_l, nc_r, nc_n, nc_x, true_and, and_true, and_self, if_true, if_false, ite_true, ite_false, Option.toList_some, Option.toList_none, List.cons_append, List.nil_append, nar_b1, nar_b0, T_ite, reduceIte, reduceCtorEq, one_ne, eq_self, mkC_t, hn_t, va_up_same, not_true_eq_false, not_false_eq_true, Nat.reduceLeDiff, Nat.reduceAdd, Nat.reduceEqDiff, Nat.reduceMul, Nat.reduceSub, Nat.reduceDiv, Nat.reduceMod, Nat.reduceLT, false_and, and_false, false_or, or_false, true_or, or_true, Nat.add_zero, Nat.zero_add, Nat.mul_zero, Nat.zero_mul, Nat.add_left_cancel_iff, Nat.add_right_cancel_iff, LMS_46 hL, LMn_46 hL, LMS_47 hL, LMn_47 hL, LMS_48 hL, LMn_48 hL, LMS_49 hL, LMn_49 hL, LMS_50 hL, LMn_50 hL, LMS_51 hL, LMn_51 hL, LMS_52 hL, LMn_52 hL, LMS_53 hL, LMn_53 hL, LMS_54 hL, LMn_54 hL, LMS_55 hL, LMn_55 hL, LMS_56 hL, LMn_56 hL, LMS_57 hL, LMn_57 hL, LMS_58 hL, LMn_58 hL, LMS_59 hL, LMn_59 hL, LMS_60 hL, LMn_60 hL, LMS_61 hL, LMn_61 hL, LMS_62 hL, LMn_62 hL, LMS_63 hL, LMn_63 hL, LMS_64 hL, LMn_64 hL, LMS_65 hL, LMn_65 hL, LMS_66 hL, LMn_66 hL, LMS_67 hL, LMn_67 hL, LMA_46_2 hL, LMA_46_3 hL, LMA_46_5 hL, LMA_46_6 hL, LMA_46_7 hL, LMA_46_11 hL, LMA_46_12 hL, LMA_46_13 hL, LMA_46_21 hL, LMA_46_22 hL, LMA_46_23 hL, LMA_46_24 hL, LMA_46_25 hL, LMA_46_26 hL, LMA_46_27 hL, LMA_46_31 hL, LMA_46_32 hL, LMA_46_33 hL, LMA_46_34 hL, LMA_46_35 hL, LMA_46_36 hL, e8]
    refine hQ _ (FNo _ (F46_tr fr1' (F46_tr (F46_w (by decide)) (F46_tr (F46_w (by decide)) (F46_w (by decide)))))) ⟨?_, fun h => absurd (by rw [hj] at h; exact h) (Nat.lt_irrefl _), fun _ => ⟨?_, wr_at⟩⟩
    · rw [hj, wr_at_ne (by decide), wr_at]
    · rw [wr_at_ne (by decide), wr_at_ne (by decide), wr_at]
end EV
