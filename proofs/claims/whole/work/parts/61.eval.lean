section EV
variable {Ω : AO} {d : Nat} {L st : List Value} {h : AH} {Q : Option Value → AH → Prop} {I I' : Nat → Nat → Int32} {J J' : Nat → Nat → Int64} {A A' : Nat → Nat → Option Nat} {S : Nat → Nat × Nat} {n z z' : Nat} {x y a b : Int32}
theorem ti_42 {x : Int32} : (x.toInt = 42) = (x = 42) := ti_of 42 (by decide)
theorem ti_43 {x : Int32} : (x.toInt = 43) = (x = 43) := ti_of 43 (by decide)
theorem ti_45 {x : Int32} : (x.toInt = 45) = (x = 45) := ti_of 45 (by decide)
theorem ti_60 {x : Int32} : (x.toInt = 60) = (x = 60) := ti_of 60 (by decide)
theorem ti_61 {x : Int32} : (x.toInt = 61) = (x = 61) := ti_of 61 (by decide)
theorem s69_1 : T Ω d 69 1 L (.int x :: st) h Q = T Ω d 69 (if x = 9 then 94 else if x = 42 then 68 else if x = 43 then 60 else if x = 45 then 64 else if x = 60 then 72 else if x = 61 then 83 else 108) L st h Q := by
  refine T_lsw (show decode (mB 69) 1 = .ok (.lookupswitch 107 #[(9, 93), (42, 67), (43, 59), (45, 63), (60, 71), (61, 82)], 59) by decide +kernel) (by decide) ?_
  have e : ∀ k : Int, (k = x.toInt) = (x.toInt = k) := fun k => propext eq_comm
  simp only [Op.lookupswitch.offset, e, ti_9, ti_42, ti_43, ti_45, ti_60, ti_61]
  grind
theorem s150_1 : T Ω d 150 1 L (.int x :: st) h Q = T Ω d 150 (if x = 5 then 60 else if x = 6 then 74 else if x = 43 then 110 else if x = 45 then 114 else if x = 60 then 88 else if x = 61 then 99 else 118) L st h Q := by
  refine T_lsw (show decode (mB 150) 1 = .ok (.lookupswitch 117 #[(5, 59), (6, 73), (43, 109), (45, 113), (60, 87), (61, 98)], 59) by decide +kernel) (by decide) ?_
  have e : ∀ k : Int, (k = x.toInt) = (x.toInt = k) := fun k => propext eq_comm
  simp only [Op.lookupswitch.offset, e, ti_5, ti_6, ti_43, ti_45, ti_60, ti_61]
  grind
theorem R_joined : T Ω d 69 0 [.int x, .int a, .int b] [] h Q = Q (some (.int (jn x a b))) h := by
  simp only [s69_0, s69_60, s69_61, s69_62, s69_63, s69_64, s69_65, s69_66, s69_67, s69_68, s69_69, s69_70, s69_71, s69_72, s69_73, s69_74, s69_77, s69_78, s69_81, s69_82, s69_83, s69_84, s69_85, s69_88, s69_89, s69_92, s69_93, s69_94, s69_95, s69_98, s69_99, s69_102, s69_103, s69_106, s69_107, s69_108, s69_109, s69_112, s69_113, s69_116, s69_117, s69_120, s69_121, s69_1, isR_ref, isR_nul, isR_ra, nl_int, nl_ref, nl_jk, nl_ra, nl_nul, rf_some, rf_none, nc_nil, nc_i, nc_l, nc_r, nc_n, nc_x, true_and, and_true, and_self, if_true, if_false, ite_true, ite_false, Option.toList_some, Option.toList_none, List.cons_append, List.nil_append, nar_b1, nar_b0, T_ite, reduceIte, reduceCtorEq, one_ne, eq_self, mkC_t, hn_t, va_up_same, not_true_eq_false, not_false_eq_true, Nat.reduceLeDiff, Nat.reduceAdd, Nat.reduceEqDiff, Nat.reduceMul, Nat.reduceSub, Nat.reduceDiv, Nat.reduceMod, Nat.reduceLT, false_and, and_false, false_or, or_false, true_or, or_true, Nat.add_zero, Nat.zero_add, Nat.mul_zero, Nat.zero_mul, Nat.add_left_cancel_iff, Nat.add_right_cancel_iff]
  unfold jn
  by_cases h9 : x = 9
  · subst h9
    simp
    grind
  by_cases h42 : x = 42
  · subst h42; simp
  by_cases h43 : x = 43
  · subst h43; simp
  by_cases h45 : x = 45
  · subst h45; simp
  by_cases h60 : x = 60
  · subst h60; simp; grind
  by_cases h61 : x = 61
  · subst h61; simp; grind
  simp [h9, h42, h43, h45, h60, h61]
  grind
theorem M_twoOf : T Ω d 150 0 [.int x, .int a, .int b] [] h Q = Q (some (.int (tw x a b))) h := by
  simp only [s150_0, s150_60, s150_61, s150_64, s150_65, s150_68, s150_69, s150_72, s150_73, s150_74, s150_75, s150_78, s150_79, s150_82, s150_83, s150_86, s150_87, s150_88, s150_89, s150_90, s150_93, s150_94, s150_97, s150_98, s150_99, s150_100, s150_101, s150_104, s150_105, s150_108, s150_109, s150_110, s150_111, s150_112, s150_113, s150_114, s150_115, s150_116, s150_117, s150_118, s150_119, s150_120, s150_121, s150_1, isR_ref, isR_nul, isR_ra, nl_int, nl_ref, nl_jk, nl_ra, nl_nul, rf_some, rf_none, nc_nil, nc_i, nc_l, nc_r, nc_n, nc_x, true_and, and_true, and_self, if_true, if_false, ite_true, ite_false, Option.toList_some, Option.toList_none, List.cons_append, List.nil_append, nar_b1, nar_b0, T_ite, reduceIte, reduceCtorEq, one_ne, eq_self, mkC_t, hn_t, va_up_same, not_true_eq_false, not_false_eq_true, Nat.reduceLeDiff, Nat.reduceAdd, Nat.reduceEqDiff, Nat.reduceMul, Nat.reduceSub, Nat.reduceDiv, Nat.reduceMod, Nat.reduceLT, false_and, and_false, false_or, or_false, true_or, or_true, Nat.add_zero, Nat.zero_add, Nat.mul_zero, Nat.zero_mul, Nat.add_left_cancel_iff, Nat.add_right_cancel_iff]
  unfold tw
  by_cases h9 : x = 5
  · subst h9; simp; grind
  by_cases h42 : x = 6
  · subst h42; simp; grind
  by_cases h43 : x = 43
  · subst h43; simp
  by_cases h45 : x = 45
  · subst h45; simp
  by_cases h60 : x = 60
  · subst h60; simp; grind
  by_cases h61 : x = 61
  · subst h61; simp; grind
  simp [h9, h42, h43, h45, h60, h61]
theorem wr_up {α : Type} {X : Nat → Nat → α} {c j : Nat} {P : Nat → α} {v : α} : wr (va_up X c P) c j v = va_up X c (va_up P j v) := by
  funext e k
  simp only [wr_rd, va_up_rd]
  by_cases h1 : e = c <;> simp [h1, va_up_rd]
theorem up_self {α : Type} {X : Nat → Nat → α} {c : Nat} : va_up X c (X c) = X := by
  funext e
  simp only [va_up_rd]
  by_cases h1 : e = c
  · subst h1; simp
  · simp [h1]
def pil (R : Nat → Int32) : List Int32 → Prop
  | [] => True
  | a :: r => R r.length = a ∧ pil R r
theorem pil_up {R : Nat → Int32} {v : Int32} : ∀ {r : List Int32} {j : Nat}, pil R r → r.length ≤ j → pil (va_up R j v) r := by
  intro r
  induction r with
  | nil => intro j _ _; trivial
  | cons a r ih =>
    intro j h hj
    simp only [List.length_cons] at hj
    exact ⟨by rw [va_up_ne _ _ (by omega)]; exact h.1, ih h.2 (by omega)⟩
theorem evC_s {F f : Nat → Int32} {k i : Nat} {st : List Int32} : evC F f (k + 1) i st = if 0 ≤ f i then (if f i < 10000 then evC F f k (i + 1) (f i :: st) else if f i < 10006 then evC F f k (i + 1) (F (f i - 10000).toNatClampNeg :: st) else none)
    else (match st with
      | [] => none
      | a :: r => if f i = -10 then evC F f k (i + 1) ((if a = 0 then 1 else 0) :: r) else if f i = -11 then evC F f k (i + 1) (-a :: r) else (match r with
        | [] => none
        | b :: r' => evC F f k (i + 1) (jn (-f i) b a :: r'))) := by
  rfl
theorem evM_s {F f g : Nat → Int32} {k i : Nat} {st : List Int32} : evM F f g (k + 1) i st = if f i = 1 then evM F f g k (i + 1) (g i :: st) else if f i = 2 then (if 0 ≤ g i ∧ g i < 6 then evM F f g k (i + 1) (F (g i).toNatClampNeg :: st) else none)
    else (match st with
      | [] => none
      | a :: r => if f i = 3 then evM F f g k (i + 1) ((if a = 0 then 1 else 0) :: r) else if f i = 4 then evM F f g k (i + 1) (-a :: r) else (match r with
        | [] => none
        | b :: r' => evM F f g k (i + 1) (tw (f i) b a :: r'))) := by
  rfl
theorem evC_loop (hL : LC A S n) {r N : Nat} {v : Int32} {F : Nat → Int32} (hr : okA r n) (hs : S r = (13, N)) (hN : N < 160) (hF : ∀ j, j < 6 → I 7 j = F j) (hQ : ∀ P, Q (some (.int v)) (va_up I 8 P, J, A, S, n, z)) : ∀ (k i : Nat) (st : List Int32) (P : Nat → Int32) (v4 : Value), evC F (I r) k i st = some [v] → i + k = N → st.length ≤ i → pil P st → T Ω (d + 1) 68 4 [.ref 5, .ref r, .int (nI st.length), .int (nI i), v4] [] (va_up I 8 P, J, A, S, n, z) Q := by
  have hr2 := hr.2
  have hrn := hr.1
  have e7 : ∀ P, va_up I 8 P 7 = I 7 := fun P => va_up_ne _ _ (by decide)
  have er : ∀ P, va_up I 8 P r = I r := fun P => va_up_ne _ _ (by omega)
  intro k
  induction k with
  | zero =>
    intro i st P v4 hev hi hl hp
    obtain rfl : i = N := by omega
    have e : st = [v] := Option.some.inj hev
    subst e
    rw [s68_4]
    simp only [s68_5, s68_6, s68_7, s68_176, s68_177, s68_180, s68_181, s68_184, s68_185, s68_186, s68_189, s68_190, isR_ref, isR_nul, isR_ra, nl_int, nl_ref, nl_jk, nl_ra, nl_nul, rf_some, rf_none, nc_nil, nc_i, nc_l, nc_r, nc_n, nc_x, true_and, and_true, and_self, if_true, if_false, ite_true, ite_false, Option.toList_some, Option.toList_none, List.cons_append, List.nil_append, nar_b1, nar_b0, T_ite, reduceIte, reduceCtorEq, one_ne, eq_self, mkC_t, hn_t, va_up_same, not_true_eq_false, not_false_eq_true, Nat.reduceLeDiff, Nat.reduceAdd, Nat.reduceEqDiff, Nat.reduceMul, Nat.reduceSub, Nat.reduceDiv, Nat.reduceMod, Nat.reduceLT, false_and, and_false, false_or, or_false, true_or, or_true, Nat.add_zero, Nat.zero_add, Nat.mul_zero, Nat.zero_mul, Nat.add_left_cancel_iff, Nat.add_right_cancel_iff, LCS_0 hL, LCn_0 hL, LCS_1 hL, LCn_1 hL, LCS_2 hL, LCn_2 hL, LCS_3 hL, LCn_3 hL, LCS_4 hL, LCn_4 hL, LCS_5 hL, LCn_5 hL, LCS_6 hL, LCn_6 hL, LCS_7 hL, LCn_7 hL, LCS_8 hL, LCn_8 hL, LCS_9 hL, LCn_9 hL, LCS_10 hL, LCn_10 hL, LCS_11 hL, LCn_11 hL, LCS_12 hL, LCn_12 hL, LCS_13 hL, LCn_13 hL, LCS_14 hL, LCn_14 hL, LCS_15 hL, LCn_15 hL, LCS_16 hL, LCn_16 hL, LCS_17 hL, LCn_17 hL, LCS_18 hL, LCn_18 hL, LCS_19 hL, LCn_19 hL, LCS_20 hL, LCn_20 hL, LCS_21 hL, LCn_21 hL, LCS_22 hL, LCn_22 hL, LCS_23 hL, LCn_23 hL, LCS_24 hL, LCn_24 hL, LCS_25 hL, LCn_25 hL, LCS_26 hL, LCn_26 hL, LCS_27 hL, LCn_27 hL, LCS_28 hL, LCn_28 hL, LCS_29 hL, LCn_29 hL, LCS_30 hL, LCn_30 hL, LCS_31 hL, LCn_31 hL, LCS_32 hL, LCn_32 hL, LCS_33 hL, LCn_33 hL, LCS_34 hL, LCn_34 hL, LCS_35 hL, LCn_35 hL, LCS_36 hL, LCn_36 hL, LCS_37 hL, LCn_37 hL, LCS_38 hL, LCn_38 hL, LCS_39 hL, LCn_39 hL, LCS_40 hL, LCn_40 hL, LCS_41 hL, LCn_41 hL, LCA_0_0 hL, LCA_0_1 hL, LCA_0_2 hL, LCA_0_3 hL, LCA_0_4 hL, LCA_0_5 hL, LCA_1_0 hL, LCA_1_1 hL, LCA_1_2 hL, LCA_2_0 hL, LCA_2_1 hL, LCA_5_0 hL, LCA_5_2 hL, LCA_5_3 hL, LCA_10_0 hL, LCA_10_2 hL, LCA_10_3 hL, LCA_10_4 hL, LCA_10_8 hL, LCA_16_0 hL, LCA_16_1 hL, LCA_16_4 hL, LCA_17_0 hL, LCA_17_1 hL, LCA_17_2 hL, LCA_24_0 hL, LCA_24_1 hL, LCA_25_0 hL, LCA_25_1 hL, LCA_25_2 hL, LCA_30_0 hL, LCA_30_1 hL, LCA_30_2 hL, LCA_30_3 hL, LCA_31_0 hL, LCA_31_1 hL, LCA_34_0 hL, LCA_36_0 hL, LCA_38_0 hL, LCA_40_0 hL, hs, hrn, Int32.le_refl, List.length_singleton, show ¬ nI 1 ≤ 0 from by decide, va_up_same, show vp_in 0 160 from vpin (k := 0) (by decide) ▸ (by decide), show (0 : Int32).toNatClampNeg = 0 from rfl]
    have e3 : P 0 = v := hp.1
    rw [e3]
    exact hQ P
  | succ k ih =>
    intro i st P v4 hev hi hl hp
    have g1 : ¬ nI N ≤ nI i := nI_ge (by omega) (by omega)
    have g2 : ¬ nI 160 ≤ nI st.length := nI_ge (by omega) (by omega)
    rw [s68_4]
    simp only [s68_5, s68_6, s68_7, s68_10, s68_11, s68_12, s68_15, s68_16, s68_19, s68_20, s68_21, s68_22, s68_24, isR_ref, isR_nul, isR_ra, nl_int, nl_ref, nl_jk, nl_ra, nl_nul, rf_some, rf_none, nc_nil, nc_i, nc_l, nc_r, nc_n, nc_x, true_and, and_true, and_self, if_true, if_false, ite_true, ite_false, Option.toList_some, Option.toList_none, List.cons_append, List.nil_append, nar_b1, nar_b0, T_ite, reduceIte, reduceCtorEq, one_ne, eq_self, mkC_t, hn_t, va_up_same, not_true_eq_false, not_false_eq_true, Nat.reduceLeDiff, Nat.reduceAdd, Nat.reduceEqDiff, Nat.reduceMul, Nat.reduceSub, Nat.reduceDiv, Nat.reduceMod, Nat.reduceLT, false_and, and_false, false_or, or_false, true_or, or_true, Nat.add_zero, Nat.zero_add, Nat.mul_zero, Nat.zero_mul, Nat.add_left_cancel_iff, Nat.add_right_cancel_iff, LCS_0 hL, LCn_0 hL, LCS_1 hL, LCn_1 hL, LCS_2 hL, LCn_2 hL, LCS_3 hL, LCn_3 hL, LCS_4 hL, LCn_4 hL, LCS_5 hL, LCn_5 hL, LCS_6 hL, LCn_6 hL, LCS_7 hL, LCn_7 hL, LCS_8 hL, LCn_8 hL, LCS_9 hL, LCn_9 hL, LCS_10 hL, LCn_10 hL, LCS_11 hL, LCn_11 hL, LCS_12 hL, LCn_12 hL, LCS_13 hL, LCn_13 hL, LCS_14 hL, LCn_14 hL, LCS_15 hL, LCn_15 hL, LCS_16 hL, LCn_16 hL, LCS_17 hL, LCn_17 hL, LCS_18 hL, LCn_18 hL, LCS_19 hL, LCn_19 hL, LCS_20 hL, LCn_20 hL, LCS_21 hL, LCn_21 hL, LCS_22 hL, LCn_22 hL, LCS_23 hL, LCn_23 hL, LCS_24 hL, LCn_24 hL, LCS_25 hL, LCn_25 hL, LCS_26 hL, LCn_26 hL, LCS_27 hL, LCn_27 hL, LCS_28 hL, LCn_28 hL, LCS_29 hL, LCn_29 hL, LCS_30 hL, LCn_30 hL, LCS_31 hL, LCn_31 hL, LCS_32 hL, LCn_32 hL, LCS_33 hL, LCn_33 hL, LCS_34 hL, LCn_34 hL, LCS_35 hL, LCn_35 hL, LCS_36 hL, LCn_36 hL, LCS_37 hL, LCn_37 hL, LCS_38 hL, LCn_38 hL, LCS_39 hL, LCn_39 hL, LCS_40 hL, LCn_40 hL, LCS_41 hL, LCn_41 hL, LCA_0_0 hL, LCA_0_1 hL, LCA_0_2 hL, LCA_0_3 hL, LCA_0_4 hL, LCA_0_5 hL, LCA_1_0 hL, LCA_1_1 hL, LCA_1_2 hL, LCA_2_0 hL, LCA_2_1 hL, LCA_5_0 hL, LCA_5_2 hL, LCA_5_3 hL, LCA_10_0 hL, LCA_10_2 hL, LCA_10_3 hL, LCA_10_4 hL, LCA_10_8 hL, LCA_16_0 hL, LCA_16_1 hL, LCA_16_4 hL, LCA_17_0 hL, LCA_17_1 hL, LCA_17_2 hL, LCA_24_0 hL, LCA_24_1 hL, LCA_25_0 hL, LCA_25_1 hL, LCA_25_2 hL, LCA_30_0 hL, LCA_30_1 hL, LCA_30_2 hL, LCA_30_3 hL, LCA_31_0 hL, LCA_31_1 hL, LCA_34_0 hL, LCA_36_0 hL, LCA_38_0 hL, LCA_40_0 hL, hs, hrn, g1, g2, vpin (show i < 2147483648 by omega), nI_cl (show i < 2147483648 by omega), show i < N by omega, er]
    rw [evC_s] at hev
    by_cases hc0 : 0 ≤ I r i
    · rw [if_pos hc0] at hev
      have hc0' : ¬ I r i < 0 := Int32.not_lt.mpr hc0
      by_cases hc1 : I r i < 10000
      · rw [if_pos hc1] at hev
        have hc1' : ¬ 10000 ≤ I r i := Int32.not_le.mpr hc1
        simp only [s68_26, s68_29, s68_30, s68_33, s68_34, s68_36, s68_39, s68_42, s68_44, s68_47, s68_48, s68_51, s68_53, s68_56, s68_57, s68_58, s68_59, s68_62, s68_170, s68_173, isR_ref, isR_nul, isR_ra, nl_int, nl_ref, nl_jk, nl_ra, nl_nul, rf_some, rf_none, nc_nil, nc_i, nc_l, nc_r, nc_n, nc_x, true_and, and_true, and_self, if_true, if_false, ite_true, ite_false, Option.toList_some, Option.toList_none, List.cons_append, List.nil_append, nar_b1, nar_b0, T_ite, reduceIte, reduceCtorEq, one_ne, eq_self, mkC_t, hn_t, va_up_same, not_true_eq_false, not_false_eq_true, Nat.reduceLeDiff, Nat.reduceAdd, Nat.reduceEqDiff, Nat.reduceMul, Nat.reduceSub, Nat.reduceDiv, Nat.reduceMod, Nat.reduceLT, false_and, and_false, false_or, or_false, true_or, or_true, Nat.add_zero, Nat.zero_add, Nat.mul_zero, Nat.zero_mul, Nat.add_left_cancel_iff, Nat.add_right_cancel_iff, LCS_0 hL, LCn_0 hL, LCS_1 hL, LCn_1 hL, LCS_2 hL, LCn_2 hL, LCS_3 hL, LCn_3 hL, LCS_4 hL, LCn_4 hL, LCS_5 hL, LCn_5 hL, LCS_6 hL, LCn_6 hL, LCS_7 hL, LCn_7 hL, LCS_8 hL, LCn_8 hL, LCS_9 hL, LCn_9 hL, LCS_10 hL, LCn_10 hL, LCS_11 hL, LCn_11 hL, LCS_12 hL, LCn_12 hL, LCS_13 hL, LCn_13 hL, LCS_14 hL, LCn_14 hL, LCS_15 hL, LCn_15 hL, LCS_16 hL, LCn_16 hL, LCS_17 hL, LCn_17 hL, LCS_18 hL, LCn_18 hL, LCS_19 hL, LCn_19 hL, LCS_20 hL, LCn_20 hL, LCS_21 hL, LCn_21 hL, LCS_22 hL, LCn_22 hL, LCS_23 hL, LCn_23 hL, LCS_24 hL, LCn_24 hL, LCS_25 hL, LCn_25 hL, LCS_26 hL, LCn_26 hL, LCS_27 hL, LCn_27 hL, LCS_28 hL, LCn_28 hL, LCS_29 hL, LCn_29 hL, LCS_30 hL, LCn_30 hL, LCS_31 hL, LCn_31 hL, LCS_32 hL, LCn_32 hL, LCS_33 hL, LCn_33 hL, LCS_34 hL, LCn_34 hL, LCS_35 hL, LCn_35 hL, LCS_36 hL, LCn_36 hL, LCS_37 hL, LCn_37 hL, LCS_38 hL, LCn_38 hL, LCS_39 hL, LCn_39 hL, LCS_40 hL, LCn_40 hL, LCS_41 hL, LCn_41 hL, LCA_0_0 hL, LCA_0_1 hL, LCA_0_2 hL, LCA_0_3 hL, LCA_0_4 hL, LCA_0_5 hL, LCA_1_0 hL, LCA_1_1 hL, LCA_1_2 hL, LCA_2_0 hL, LCA_2_1 hL, LCA_5_0 hL, LCA_5_2 hL, LCA_5_3 hL, LCA_10_0 hL, LCA_10_2 hL, LCA_10_3 hL, LCA_10_4 hL, LCA_10_8 hL, LCA_16_0 hL, LCA_16_1 hL, LCA_16_4 hL, LCA_17_0 hL, LCA_17_1 hL, LCA_17_2 hL, LCA_24_0 hL, LCA_24_1 hL, LCA_25_0 hL, LCA_25_1 hL, LCA_25_2 hL, LCA_30_0 hL, LCA_30_1 hL, LCA_30_2 hL, LCA_30_3 hL, LCA_31_0 hL, LCA_31_1 hL, LCA_34_0 hL, LCA_36_0 hL, LCA_38_0 hL, LCA_40_0 hL, hc0', hc1', vpin (show st.length < 2147483648 by omega), nI_cl (show st.length < 2147483648 by omega), show st.length < 160 by omega, nI_1, wr_up]
        exact ih (i + 1) (I r i :: st) _ _ hev (by omega) (by simp only [List.length_cons]; omega) ⟨va_up_same, pil_up hp (Nat.le_refl _)⟩
      · rw [if_neg hc1] at hev
        by_cases hc2 : I r i < 10006
        · rw [if_pos hc2] at hev
          have hc1' : 10000 ≤ I r i := Int32.not_lt.mp hc1
          obtain ⟨u, hu, e⟩ := w10 (N := 10006) (by decide) hc0 (Int32.le_of_lt hc2)
          have hu1 : 10000 ≤ u := by rw [e] at hc1'; exact (nI_leI (a := 10000) (by decide) (by omega)).mp hc1'
          have hu2 : u < 10006 := by rw [e] at hc2; exact (nI_ltI (b := 10006) (by omega) (by decide)).mp hc2
          have e2 : I r i - 10000 = nI (u - 10000) := by rw [e]; exact nI_subs (b := 10000) hu1
          rw [e2, nI_cl (by omega)] at hev
          simp only [s68_26, s68_29, s68_30, s68_33, s68_34, s68_36, s68_39, s68_42, s68_44, s68_47, s68_48, s68_51, s68_53, s68_56, s68_57, s68_58, s68_59, s68_62, s68_170, s68_173, isR_ref, isR_nul, isR_ra, nl_int, nl_ref, nl_jk, nl_ra, nl_nul, rf_some, rf_none, nc_nil, nc_i, nc_l, nc_r, nc_n, nc_x, true_and, and_true, and_self, if_true, if_false, ite_true, ite_false, Option.toList_some, Option.toList_none, List.cons_append, List.nil_append, nar_b1, nar_b0, T_ite, reduceIte, reduceCtorEq, one_ne, eq_self, mkC_t, hn_t, va_up_same, not_true_eq_false, not_false_eq_true, Nat.reduceLeDiff, Nat.reduceAdd, Nat.reduceEqDiff, Nat.reduceMul, Nat.reduceSub, Nat.reduceDiv, Nat.reduceMod, Nat.reduceLT, false_and, and_false, false_or, or_false, true_or, or_true, Nat.add_zero, Nat.zero_add, Nat.mul_zero, Nat.zero_mul, Nat.add_left_cancel_iff, Nat.add_right_cancel_iff, LCS_0 hL, LCn_0 hL, LCS_1 hL, LCn_1 hL, LCS_2 hL, LCn_2 hL, LCS_3 hL, LCn_3 hL, LCS_4 hL, LCn_4 hL, LCS_5 hL, LCn_5 hL, LCS_6 hL, LCn_6 hL, LCS_7 hL, LCn_7 hL, LCS_8 hL, LCn_8 hL, LCS_9 hL, LCn_9 hL, LCS_10 hL, LCn_10 hL, LCS_11 hL, LCn_11 hL, LCS_12 hL, LCn_12 hL, LCS_13 hL, LCn_13 hL, LCS_14 hL, LCn_14 hL, LCS_15 hL, LCn_15 hL, LCS_16 hL, LCn_16 hL, LCS_17 hL, LCn_17 hL, LCS_18 hL, LCn_18 hL, LCS_19 hL, LCn_19 hL, LCS_20 hL, LCn_20 hL, LCS_21 hL, LCn_21 hL, LCS_22 hL, LCn_22 hL, LCS_23 hL, LCn_23 hL, LCS_24 hL, LCn_24 hL, LCS_25 hL, LCn_25 hL, LCS_26 hL, LCn_26 hL, LCS_27 hL, LCn_27 hL, LCS_28 hL, LCn_28 hL, LCS_29 hL, LCn_29 hL, LCS_30 hL, LCn_30 hL, LCS_31 hL, LCn_31 hL, LCS_32 hL, LCn_32 hL, LCS_33 hL, LCn_33 hL, LCS_34 hL, LCn_34 hL, LCS_35 hL, LCn_35 hL, LCS_36 hL, LCn_36 hL, LCS_37 hL, LCn_37 hL, LCS_38 hL, LCn_38 hL, LCS_39 hL, LCn_39 hL, LCS_40 hL, LCn_40 hL, LCS_41 hL, LCn_41 hL, LCA_0_0 hL, LCA_0_1 hL, LCA_0_2 hL, LCA_0_3 hL, LCA_0_4 hL, LCA_0_5 hL, LCA_1_0 hL, LCA_1_1 hL, LCA_1_2 hL, LCA_2_0 hL, LCA_2_1 hL, LCA_5_0 hL, LCA_5_2 hL, LCA_5_3 hL, LCA_10_0 hL, LCA_10_2 hL, LCA_10_3 hL, LCA_10_4 hL, LCA_10_8 hL, LCA_16_0 hL, LCA_16_1 hL, LCA_16_4 hL, LCA_17_0 hL, LCA_17_1 hL, LCA_17_2 hL, LCA_24_0 hL, LCA_24_1 hL, LCA_25_0 hL, LCA_25_1 hL, LCA_25_2 hL, LCA_30_0 hL, LCA_30_1 hL, LCA_30_2 hL, LCA_30_3 hL, LCA_31_0 hL, LCA_31_1 hL, LCA_34_0 hL, LCA_36_0 hL, LCA_38_0 hL, LCA_40_0 hL, hc0', hc1', vpin (show st.length < 2147483648 by omega), nI_cl (show st.length < 2147483648 by omega), show st.length < 160 by omega, nI_1, wr_up, e2, vpin (show u - 10000 < 2147483648 by omega), nI_cl (show u - 10000 < 2147483648 by omega), show u - 10000 < 6 by omega, e7]
          rw [hF _ (by omega)]
          exact ih (i + 1) (F (u - 10000) :: st) _ _ hev (by omega) (by simp only [List.length_cons]; omega) ⟨va_up_same, pil_up hp (Nat.le_refl _)⟩
        · rw [if_neg hc2] at hev
          exact absurd hev (by simp)
    · rw [if_neg hc0] at hev
      have hc0' : I r i < 0 := Int32.not_le.mp hc0
      cases st with
      | nil => exact absurd hev (by simp)
      | cons a rr =>
        simp only [List.length_cons] at hl g2 ⊢
        have f1 : ¬ nI (rr.length + 1) ≤ 0 := nI_ge (a := 0) (by omega) (by omega)
        simp only at hev
        by_cases h10 : I r i = -10
        · rw [if_pos h10] at hev
          simp only [s68_26, s68_65, s68_67, s68_69, s68_72, s68_73, s68_76, s68_77, s68_80, s68_81, s68_82, s68_83, s68_84, s68_87, s68_88, s68_89, s68_90, s68_91, s68_94, s68_95, s68_98, s68_99, s68_100, s68_170, s68_173, isR_ref, isR_nul, isR_ra, nl_int, nl_ref, nl_jk, nl_ra, nl_nul, rf_some, rf_none, nc_nil, nc_i, nc_l, nc_r, nc_n, nc_x, true_and, and_true, and_self, if_true, if_false, ite_true, ite_false, Option.toList_some, Option.toList_none, List.cons_append, List.nil_append, nar_b1, nar_b0, T_ite, reduceIte, reduceCtorEq, one_ne, eq_self, mkC_t, hn_t, va_up_same, not_true_eq_false, not_false_eq_true, Nat.reduceLeDiff, Nat.reduceAdd, Nat.reduceEqDiff, Nat.reduceMul, Nat.reduceSub, Nat.reduceDiv, Nat.reduceMod, Nat.reduceLT, false_and, and_false, false_or, or_false, true_or, or_true, Nat.add_zero, Nat.zero_add, Nat.mul_zero, Nat.zero_mul, Nat.add_left_cancel_iff, Nat.add_right_cancel_iff, LCS_0 hL, LCn_0 hL, LCS_1 hL, LCn_1 hL, LCS_2 hL, LCn_2 hL, LCS_3 hL, LCn_3 hL, LCS_4 hL, LCn_4 hL, LCS_5 hL, LCn_5 hL, LCS_6 hL, LCn_6 hL, LCS_7 hL, LCn_7 hL, LCS_8 hL, LCn_8 hL, LCS_9 hL, LCn_9 hL, LCS_10 hL, LCn_10 hL, LCS_11 hL, LCn_11 hL, LCS_12 hL, LCn_12 hL, LCS_13 hL, LCn_13 hL, LCS_14 hL, LCn_14 hL, LCS_15 hL, LCn_15 hL, LCS_16 hL, LCn_16 hL, LCS_17 hL, LCn_17 hL, LCS_18 hL, LCn_18 hL, LCS_19 hL, LCn_19 hL, LCS_20 hL, LCn_20 hL, LCS_21 hL, LCn_21 hL, LCS_22 hL, LCn_22 hL, LCS_23 hL, LCn_23 hL, LCS_24 hL, LCn_24 hL, LCS_25 hL, LCn_25 hL, LCS_26 hL, LCn_26 hL, LCS_27 hL, LCn_27 hL, LCS_28 hL, LCn_28 hL, LCS_29 hL, LCn_29 hL, LCS_30 hL, LCn_30 hL, LCS_31 hL, LCn_31 hL, LCS_32 hL, LCn_32 hL, LCS_33 hL, LCn_33 hL, LCS_34 hL, LCn_34 hL, LCS_35 hL, LCn_35 hL, LCS_36 hL, LCn_36 hL, LCS_37 hL, LCn_37 hL, LCS_38 hL, LCn_38 hL, LCS_39 hL, LCn_39 hL, LCS_40 hL, LCn_40 hL, LCS_41 hL, LCn_41 hL, LCA_0_0 hL, LCA_0_1 hL, LCA_0_2 hL, LCA_0_3 hL, LCA_0_4 hL, LCA_0_5 hL, LCA_1_0 hL, LCA_1_1 hL, LCA_1_2 hL, LCA_2_0 hL, LCA_2_1 hL, LCA_5_0 hL, LCA_5_2 hL, LCA_5_3 hL, LCA_10_0 hL, LCA_10_2 hL, LCA_10_3 hL, LCA_10_4 hL, LCA_10_8 hL, LCA_16_0 hL, LCA_16_1 hL, LCA_16_4 hL, LCA_17_0 hL, LCA_17_1 hL, LCA_17_2 hL, LCA_24_0 hL, LCA_24_1 hL, LCA_25_0 hL, LCA_25_1 hL, LCA_25_2 hL, LCA_30_0 hL, LCA_30_1 hL, LCA_30_2 hL, LCA_30_3 hL, LCA_31_0 hL, LCA_31_1 hL, LCA_34_0 hL, LCA_36_0 hL, LCA_38_0 hL, LCA_40_0 hL, hc0', h10, f1, show (-10 : Int32) < 0 from by decide, nI_pred, vpin (show rr.length < 2147483648 by omega), nI_cl (show rr.length < 2147483648 by omega), show rr.length < 160 by omega, nI_1, wr_up, va_up_same]
          have e3 : P rr.length = a := hp.1
          rw [e3]
          by_cases ha : a = 0
          · rw [if_pos ha] at hev ⊢
            exact ih (i + 1) (1 :: rr) _ _ hev (by omega) (by simp only [List.length_cons]; omega) ⟨va_up_same, pil_up hp.2 (Nat.le_refl _)⟩
          · rw [if_neg ha] at hev ⊢
            exact ih (i + 1) (0 :: rr) _ _ hev (by omega) (by simp only [List.length_cons]; omega) ⟨va_up_same, pil_up hp.2 (Nat.le_refl _)⟩
        · rw [if_neg h10] at hev
          by_cases h11 : I r i = -11
          · rw [if_pos h11] at hev
            simp only [s68_26, s68_65, s68_67, s68_69, s68_72, s68_103, s68_105, s68_107, s68_110, s68_111, s68_114, s68_115, s68_118, s68_119, s68_120, s68_121, s68_122, s68_125, s68_126, s68_127, s68_128, s68_129, s68_130, s68_131, s68_170, s68_173, isR_ref, isR_nul, isR_ra, nl_int, nl_ref, nl_jk, nl_ra, nl_nul, rf_some, rf_none, nc_nil, nc_i, nc_l, nc_r, nc_n, nc_x, true_and, and_true, and_self, if_true, if_false, ite_true, ite_false, Option.toList_some, Option.toList_none, List.cons_append, List.nil_append, nar_b1, nar_b0, T_ite, reduceIte, reduceCtorEq, one_ne, eq_self, mkC_t, hn_t, va_up_same, not_true_eq_false, not_false_eq_true, Nat.reduceLeDiff, Nat.reduceAdd, Nat.reduceEqDiff, Nat.reduceMul, Nat.reduceSub, Nat.reduceDiv, Nat.reduceMod, Nat.reduceLT, false_and, and_false, false_or, or_false, true_or, or_true, Nat.add_zero, Nat.zero_add, Nat.mul_zero, Nat.zero_mul, Nat.add_left_cancel_iff, Nat.add_right_cancel_iff, LCS_0 hL, LCn_0 hL, LCS_1 hL, LCn_1 hL, LCS_2 hL, LCn_2 hL, LCS_3 hL, LCn_3 hL, LCS_4 hL, LCn_4 hL, LCS_5 hL, LCn_5 hL, LCS_6 hL, LCn_6 hL, LCS_7 hL, LCn_7 hL, LCS_8 hL, LCn_8 hL, LCS_9 hL, LCn_9 hL, LCS_10 hL, LCn_10 hL, LCS_11 hL, LCn_11 hL, LCS_12 hL, LCn_12 hL, LCS_13 hL, LCn_13 hL, LCS_14 hL, LCn_14 hL, LCS_15 hL, LCn_15 hL, LCS_16 hL, LCn_16 hL, LCS_17 hL, LCn_17 hL, LCS_18 hL, LCn_18 hL, LCS_19 hL, LCn_19 hL, LCS_20 hL, LCn_20 hL, LCS_21 hL, LCn_21 hL, LCS_22 hL, LCn_22 hL, LCS_23 hL, LCn_23 hL, LCS_24 hL, LCn_24 hL, LCS_25 hL, LCn_25 hL, LCS_26 hL, LCn_26 hL, LCS_27 hL, LCn_27 hL, LCS_28 hL, LCn_28 hL, LCS_29 hL, LCn_29 hL, LCS_30 hL, LCn_30 hL, LCS_31 hL, LCn_31 hL, LCS_32 hL, LCn_32 hL, LCS_33 hL, LCn_33 hL, LCS_34 hL, LCn_34 hL, LCS_35 hL, LCn_35 hL, LCS_36 hL, LCn_36 hL, LCS_37 hL, LCn_37 hL, LCS_38 hL, LCn_38 hL, LCS_39 hL, LCn_39 hL, LCS_40 hL, LCn_40 hL, LCS_41 hL, LCn_41 hL, LCA_0_0 hL, LCA_0_1 hL, LCA_0_2 hL, LCA_0_3 hL, LCA_0_4 hL, LCA_0_5 hL, LCA_1_0 hL, LCA_1_1 hL, LCA_1_2 hL, LCA_2_0 hL, LCA_2_1 hL, LCA_5_0 hL, LCA_5_2 hL, LCA_5_3 hL, LCA_10_0 hL, LCA_10_2 hL, LCA_10_3 hL, LCA_10_4 hL, LCA_10_8 hL, LCA_16_0 hL, LCA_16_1 hL, LCA_16_4 hL, LCA_17_0 hL, LCA_17_1 hL, LCA_17_2 hL, LCA_24_0 hL, LCA_24_1 hL, LCA_25_0 hL, LCA_25_1 hL, LCA_25_2 hL, LCA_30_0 hL, LCA_30_1 hL, LCA_30_2 hL, LCA_30_3 hL, LCA_31_0 hL, LCA_31_1 hL, LCA_34_0 hL, LCA_36_0 hL, LCA_38_0 hL, LCA_40_0 hL, hc0', h11, f1, show (-11 : Int32) < 0 from by decide, show ¬ (-11 : Int32) = -10 from by decide, nI_pred, vpin (show rr.length < 2147483648 by omega), nI_cl (show rr.length < 2147483648 by omega), show rr.length < 160 by omega, nI_1, wr_up, va_up_same]
            have e3 : P rr.length = a := hp.1
            rw [e3]
            exact ih (i + 1) (-a :: rr) _ _ hev (by omega) (by simp only [List.length_cons]; omega) ⟨va_up_same, pil_up hp.2 (Nat.le_refl _)⟩
          · rw [if_neg h11] at hev
            cases rr with
            | nil => exact absurd hev (by simp)
            | cons b r' =>
              simp only [List.length_cons] at hl g2 f1 ⊢
              simp only at hev
              have f2 : ¬ nI (r'.length + 1 + 1) ≤ 1 := nI_ge (a := 1) (by omega) (by omega)
              simp only [s68_26, s68_65, s68_67, s68_69, s68_72, s68_103, s68_105, s68_107, s68_110, s68_111, s68_134, s68_135, s68_136, s68_139, s68_142, s68_143, s68_146, s68_147, s68_148, s68_149, s68_151, s68_152, s68_153, s68_156, s68_157, s68_158, s68_159, s68_160, s68_161, s68_164, s68_165, s68_166, s68_169, s68_170, s68_173, isR_ref, isR_nul, isR_ra, nl_int, nl_ref, nl_jk, nl_ra, nl_nul, rf_some, rf_none, nc_nil, nc_i, nc_l, nc_r, nc_n, nc_x, true_and, and_true, and_self, if_true, if_false, ite_true, ite_false, Option.toList_some, Option.toList_none, List.cons_append, List.nil_append, nar_b1, nar_b0, T_ite, reduceIte, reduceCtorEq, one_ne, eq_self, mkC_t, hn_t, va_up_same, not_true_eq_false, not_false_eq_true, Nat.reduceLeDiff, Nat.reduceAdd, Nat.reduceEqDiff, Nat.reduceMul, Nat.reduceSub, Nat.reduceDiv, Nat.reduceMod, Nat.reduceLT, false_and, and_false, false_or, or_false, true_or, or_true, Nat.add_zero, Nat.zero_add, Nat.mul_zero, Nat.zero_mul, Nat.add_left_cancel_iff, Nat.add_right_cancel_iff, LCS_0 hL, LCn_0 hL, LCS_1 hL, LCn_1 hL, LCS_2 hL, LCn_2 hL, LCS_3 hL, LCn_3 hL, LCS_4 hL, LCn_4 hL, LCS_5 hL, LCn_5 hL, LCS_6 hL, LCn_6 hL, LCS_7 hL, LCn_7 hL, LCS_8 hL, LCn_8 hL, LCS_9 hL, LCn_9 hL, LCS_10 hL, LCn_10 hL, LCS_11 hL, LCn_11 hL, LCS_12 hL, LCn_12 hL, LCS_13 hL, LCn_13 hL, LCS_14 hL, LCn_14 hL, LCS_15 hL, LCn_15 hL, LCS_16 hL, LCn_16 hL, LCS_17 hL, LCn_17 hL, LCS_18 hL, LCn_18 hL, LCS_19 hL, LCn_19 hL, LCS_20 hL, LCn_20 hL, LCS_21 hL, LCn_21 hL, LCS_22 hL, LCn_22 hL, LCS_23 hL, LCn_23 hL, LCS_24 hL, LCn_24 hL, LCS_25 hL, LCn_25 hL, LCS_26 hL, LCn_26 hL, LCS_27 hL, LCn_27 hL, LCS_28 hL, LCn_28 hL, LCS_29 hL, LCn_29 hL, LCS_30 hL, LCn_30 hL, LCS_31 hL, LCn_31 hL, LCS_32 hL, LCn_32 hL, LCS_33 hL, LCn_33 hL, LCS_34 hL, LCn_34 hL, LCS_35 hL, LCn_35 hL, LCS_36 hL, LCn_36 hL, LCS_37 hL, LCn_37 hL, LCS_38 hL, LCn_38 hL, LCS_39 hL, LCn_39 hL, LCS_40 hL, LCn_40 hL, LCS_41 hL, LCn_41 hL, LCA_0_0 hL, LCA_0_1 hL, LCA_0_2 hL, LCA_0_3 hL, LCA_0_4 hL, LCA_0_5 hL, LCA_1_0 hL, LCA_1_1 hL, LCA_1_2 hL, LCA_2_0 hL, LCA_2_1 hL, LCA_5_0 hL, LCA_5_2 hL, LCA_5_3 hL, LCA_10_0 hL, LCA_10_2 hL, LCA_10_3 hL, LCA_10_4 hL, LCA_10_8 hL, LCA_16_0 hL, LCA_16_1 hL, LCA_16_4 hL, LCA_17_0 hL, LCA_17_1 hL, LCA_17_2 hL, LCA_24_0 hL, LCA_24_1 hL, LCA_25_0 hL, LCA_25_1 hL, LCA_25_2 hL, LCA_30_0 hL, LCA_30_1 hL, LCA_30_2 hL, LCA_30_3 hL, LCA_31_0 hL, LCA_31_1 hL, LCA_34_0 hL, LCA_36_0 hL, LCA_38_0 hL, LCA_40_0 hL, hc0', h10, h11, f1, f2, pk_m1, nI_pred, vpin (show r'.length < 2147483648 by omega), nI_cl (show r'.length < 2147483648 by omega), vpin (show r'.length + 1 < 2147483648 by omega), nI_cl (show r'.length + 1 < 2147483648 by omega), show r'.length < 160 by omega, show r'.length + 1 < 160 by omega, nI_1, wr_up, va_up_same, R_joined]
              have e3 : P (r'.length + 1) = a := hp.1
              have e4 : P r'.length = b := hp.2.1
              rw [e3, e4]
              exact ih (i + 1) (jn (-I r i) b a :: r') _ _ hev (by omega) (by simp only [List.length_cons]; omega) ⟨va_up_same, pil_up hp.2.2 (Nat.le_refl _)⟩
theorem Rules_evaluate (hL : LC A S n) {r N : Nat} {v : Int32} {F : Nat → Int32} (hr : okA r n) (hs : S r = (13, N)) (hN : N < 160) (hF : ∀ j, j < 6 → I 7 j = F j) (hv : evC F (I r) N 0 [] = some [v]) (hQ : ∀ P, Q (some (.int v)) (va_up I 8 P, J, A, S, n, z)) : T Ω (d + 1) 68 0 [.ref 5, .ref r, jk, jk, jk] [] (I, J, A, S, n, z) Q := by
  simp only [s68_0, s68_1, s68_2, s68_3, isR_ref, isR_nul, isR_ra, nl_int, nl_ref, nl_jk, nl_ra, nl_nul, rf_some, rf_none, nc_nil, nc_i, nc_l, nc_r, nc_n, nc_x, true_and, and_true, and_self, if_true, if_false, ite_true, ite_false, Option.toList_some, Option.toList_none, List.cons_append, List.nil_append, nar_b1, nar_b0, T_ite, reduceIte, reduceCtorEq, one_ne, eq_self, mkC_t, hn_t, va_up_same, not_true_eq_false, not_false_eq_true, Nat.reduceLeDiff, Nat.reduceAdd, Nat.reduceEqDiff, Nat.reduceMul, Nat.reduceSub, Nat.reduceDiv, Nat.reduceMod, Nat.reduceLT, false_and, and_false, false_or, or_false, true_or, or_true, Nat.add_zero, Nat.zero_add, Nat.mul_zero, Nat.zero_mul, Nat.add_left_cancel_iff, Nat.add_right_cancel_iff]
  have := evC_loop (Ω := Ω) (d := d) (J := J) hL hr hs hN hF hQ N 0 [] (I 8) jk hv (by omega) (by simp) trivial
  rw [up_self] at this
  exact this
end EV
