section EV
variable {Ω : AO} {d : Nat} {L st : List Value} {h : AH} {Q : Option Value → AH → Prop} {I I' I'' : Nat → Nat → Int32} {J J' : Nat → Nat → Int64} {A A' : Nat → Nat → Option Nat} {S : Nat → Nat × Nat} {n z z' : Nat} {x y a b : Int32}
def zN (x : Int32) : Int32 := x * 1103515245 + 12345
def zR (x : Int32) : Int32 := (x.toUInt32 >>> ((8 : Int32).toUInt32 &&& Int32.toUInt32 31)).toInt32 - (x.toUInt32 >>> ((8 : Int32).toUInt32 &&& Int32.toUInt32 31)).toInt32 / 100 * 100
/-- the lot drawn k times: the last number, how many fell -/
def drw (r : Int32) : Nat → Int32 → Nat → Int32 × Nat
  | 0, u, l => (u, l)
  | k + 1, u, l => drw r k (zN u) (if zR (zN u) < r then l + 1 else l)
theorem drw_le {r : Int32} : ∀ (k : Nat) (u : Int32) (l : Nat), l ≤ (drw r k u l).2 ∧ (drw r k u l).2 ≤ l + k := by
  intro k
  induction k with
  | zero => intro u l; exact ⟨Nat.le_refl _, Nat.le_refl _⟩
  | succ k ih =>
    intro u l
    rw [drw]
    by_cases hz : zR (zN u) < r
    · rw [if_pos hz]
      have := ih (zN u) (l + 1)
      omega
    · rw [if_neg hz]
      have := ih (zN u) l
      omega
theorem RD_drawn_in {q p0 : Value} {bo : Nat} {v3 r x : Int32} (hb : bo ≤ 6) {pl : Nat} : ∀ (k i : Nat) (u : Int32) (l : Nat), i + k = bo → l ≤ i → T Ω d 98 77 [p0, q, .int x, .int v3, .int u, .int (nI bo), .int (nI pl), .int r, .int (nI l), .int (nI i)] [] h Q = T Ω d 98 117 [p0, q, .int x, .int v3, .int (drw r k u l).1, .int (nI bo), .int (nI pl), .int r, .int (nI (drw r k u l).2), .int (nI bo)] [] h Q := by
  intro k
  induction k with
  | zero =>
    intro i u l hi hl
    obtain rfl : i = bo := by omega
    rw [s98_77]
    simp only [s98_79, s98_81, isR_ref, isR_nul, isR_ra, nl_int, nl_ref, nl_jk, nl_ra, nl_nul, rf_some, rf_none, nc_nil, nc_i, nc_l, nc_r, nc_n, nc_x, true_and, and_true, and_self, if_true, if_false, ite_true, ite_false, Option.toList_some, Option.toList_none, List.cons_append, List.nil_append, nar_b1, nar_b0, T_ite, reduceIte, reduceCtorEq, one_ne, eq_self, mkC_t, hn_t, va_up_same, not_true_eq_false, not_false_eq_true, Nat.reduceLeDiff, Nat.reduceAdd, Nat.reduceEqDiff, Nat.reduceMul, Nat.reduceSub, Nat.reduceDiv, Nat.reduceMod, Nat.reduceLT, false_and, and_false, false_or, or_false, true_or, or_true, Nat.add_zero, Nat.zero_add, Nat.mul_zero, Nat.zero_mul, Nat.add_left_cancel_iff, Nat.add_right_cancel_iff, Int32.le_refl, drw]
  | succ k ih =>
    intro i u l hi hl
    have g1 : ¬ nI bo ≤ nI i := nI_ge (by omega) (by omega)
    rw [s98_77]
    simp only [s98_79, s98_81, s98_84, s98_86, s98_88, s98_89, s98_92, s98_93, s98_95, s98_97, s98_99, s98_100, s98_102, s98_103, s98_105, s98_108, s98_111, s98_114, isR_ref, isR_nul, isR_ra, nl_int, nl_ref, nl_jk, nl_ra, nl_nul, rf_some, rf_none, nc_nil, nc_i, nc_l, nc_r, nc_n, nc_x, true_and, and_true, and_self, if_true, if_false, ite_true, ite_false, Option.toList_some, Option.toList_none, List.cons_append, List.nil_append, nar_b1, nar_b0, T_ite, reduceIte, reduceCtorEq, one_ne, eq_self, mkC_t, hn_t, va_up_same, not_true_eq_false, not_false_eq_true, Nat.reduceLeDiff, Nat.reduceAdd, Nat.reduceEqDiff, Nat.reduceMul, Nat.reduceSub, Nat.reduceDiv, Nat.reduceMod, Nat.reduceLT, false_and, and_false, false_or, or_false, true_or, or_true, Nat.add_zero, Nat.zero_add, Nat.mul_zero, Nat.zero_mul, Nat.add_left_cancel_iff, Nat.add_right_cancel_iff, g1, show ¬ (100 : Int32) = 0 from by decide, nI_1]
    rw [drw]
    rw [show u * 1103515245 + 12345 = zN u from rfl]
    rw [show ((zN u).toUInt32 >>> ((8 : Int32).toUInt32 &&& Int32.toUInt32 31)).toInt32 - ((zN u).toUInt32 >>> ((8 : Int32).toUInt32 &&& Int32.toUInt32 31)).toInt32 / 100 * 100 = zR (zN u) from rfl]
    by_cases hz : zR (zN u) < r
    · rw [if_neg (Int32.not_le.mpr hz), if_pos hz]
      exact ih (i + 1) (zN u) (l + 1) (by omega) (by omega)
    · rw [if_pos (Int32.not_lt.mp hz), if_neg hz]
      exact ih (i + 1) (zN u) l (by omega) (by omega)
theorem M_drawn_in {q p0 : Value} {bo : Nat} {r x : Int32} (hb : bo ≤ 6) {pl : Nat} : ∀ (k i : Nat) (u : Int32) (l : Nat), i + k = bo → l ≤ i → T Ω d 168 63 [p0, q, .int x, .int u, .int (nI (bo - l)), .int (nI pl), .int r, .int (nI bo), .int (nI i)] [] h Q = T Ω d 168 100 [p0, q, .int x, .int (drw r k u l).1, .int (nI (bo - (drw r k u l).2)), .int (nI pl), .int r, .int (nI bo), .int (nI bo)] [] h Q := by
  intro k
  induction k with
  | zero =>
    intro i u l hi hl
    obtain rfl : i = bo := by omega
    rw [s168_63]
    simp only [s168_65, s168_67, isR_ref, isR_nul, isR_ra, nl_int, nl_ref, nl_jk, nl_ra, nl_nul, rf_some, rf_none, nc_nil, nc_i, nc_l, nc_r, nc_n, nc_x, true_and, and_true, and_self, if_true, if_false, ite_true, ite_false, Option.toList_some, Option.toList_none, List.cons_append, List.nil_append, nar_b1, nar_b0, T_ite, reduceIte, reduceCtorEq, one_ne, eq_self, mkC_t, hn_t, va_up_same, not_true_eq_false, not_false_eq_true, Nat.reduceLeDiff, Nat.reduceAdd, Nat.reduceEqDiff, Nat.reduceMul, Nat.reduceSub, Nat.reduceDiv, Nat.reduceMod, Nat.reduceLT, false_and, and_false, false_or, or_false, true_or, or_true, Nat.add_zero, Nat.zero_add, Nat.mul_zero, Nat.zero_mul, Nat.add_left_cancel_iff, Nat.add_right_cancel_iff, Int32.le_refl, drw]
  | succ k ih =>
    intro i u l hi hl
    have g1 : ¬ nI bo ≤ nI i := nI_ge (by omega) (by omega)
    have g2 : nI (bo - l) + -1 = nI (bo - (l + 1)) := by rw [show bo - l = (bo - (l + 1)) + 1 by omega]; exact pk_m1 _
    rw [s168_63]
    simp only [s168_65, s168_67, s168_70, s168_71, s168_73, s168_74, s168_77, s168_78, s168_79, s168_80, s168_82, s168_83, s168_85, s168_86, s168_88, s168_91, s168_94, s168_97, isR_ref, isR_nul, isR_ra, nl_int, nl_ref, nl_jk, nl_ra, nl_nul, rf_some, rf_none, nc_nil, nc_i, nc_l, nc_r, nc_n, nc_x, true_and, and_true, and_self, if_true, if_false, ite_true, ite_false, Option.toList_some, Option.toList_none, List.cons_append, List.nil_append, nar_b1, nar_b0, T_ite, reduceIte, reduceCtorEq, one_ne, eq_self, mkC_t, hn_t, va_up_same, not_true_eq_false, not_false_eq_true, Nat.reduceLeDiff, Nat.reduceAdd, Nat.reduceEqDiff, Nat.reduceMul, Nat.reduceSub, Nat.reduceDiv, Nat.reduceMod, Nat.reduceLT, false_and, and_false, false_or, or_false, true_or, or_true, Nat.add_zero, Nat.zero_add, Nat.mul_zero, Nat.zero_mul, Nat.add_left_cancel_iff, Nat.add_right_cancel_iff, g1, g2, show ¬ (100 : Int32) = 0 from by decide, nI_1]
    rw [drw]
    rw [show u * 1103515245 + 12345 = zN u from rfl]
    rw [show ((zN u).toUInt32 >>> ((8 : Int32).toUInt32 &&& Int32.toUInt32 31)).toInt32 - ((zN u).toUInt32 >>> ((8 : Int32).toUInt32 &&& Int32.toUInt32 31)).toInt32 / 100 * 100 = zR (zN u) from rfl]
    by_cases hz : zR (zN u) < r
    · rw [if_neg (Int32.not_le.mpr hz), if_pos hz]
      exact ih (i + 1) (zN u) (l + 1) (by omega) (by omega)
    · rw [if_pos (Int32.not_lt.mp hz), if_neg hz]
      exact ih (i + 1) (zN u) l (by omega) (by omega)
/-- boats left behind all places -/
def drA (r : Nat → Int32) : Nat → Nat → Int32 → Nat → Nat
  | 0, _, _, b => b
  | k + 1, i, u, b => drA r k (i + 1) (drw (r i) b u 0).1 (b - (drw (r i) b u 0).2)
theorem RD_drawn_l (hL : LC A S n) {t m f q p : Nat} {x v3 : Int32} (hq : q < 4) (hp : p ≤ 12) (iT : IvT I A S n t) (iD : IvD I A S n m) (hr : I 2 3 = nI f) (hf : f < t) (hW : WayOK I q p m) (hp2 : I 2 2 = nI p) : ∀ (k i : Nat) (u : Int32) (bo : Nat) (v7 v8 v9 : Value) (I' : Nat → Nat → Int32), i + k = p → bo ≤ 6 → KC I I' → (∀ I'', KC I I'' → Q (some (.int (nI (drA (fun i => rkC I A S f (itm I q i) i) k i u bo)))) (I'', J, A, S, n, z)) → T Ω (d + 4) 98 33 [.ref 0, .int (nI q), .int x, .int v3, .int u, .int (nI bo), .int (nI i), v7, v8, v9] [] (I', J, A, S, n, z) Q := by
  obtain ⟨y1, y2, y3, y4, y5, y6⟩ := ySh hL hq
  intro k
  induction k with
  | zero =>
    intro i u bo v7 v8 v9 I' hi hb hK hQ
    obtain rfl : i = p := by omega
    rw [s98_33]
    simp only [s98_35, s98_36, s98_39, s98_42, s98_45, s98_130, s98_132, isR_ref, isR_nul, isR_ra, nl_int, nl_ref, nl_jk, nl_ra, nl_nul, rf_some, rf_none, nc_nil, nc_i, nc_l, nc_r, nc_n, nc_x, true_and, and_true, and_self, if_true, if_false, ite_true, ite_false, Option.toList_some, Option.toList_none, List.cons_append, List.nil_append, nar_b1, nar_b0, T_ite, reduceIte, reduceCtorEq, one_ne, eq_self, mkC_t, hn_t, va_up_same, not_true_eq_false, not_false_eq_true, Nat.reduceLeDiff, Nat.reduceAdd, Nat.reduceEqDiff, Nat.reduceMul, Nat.reduceSub, Nat.reduceDiv, Nat.reduceMod, Nat.reduceLT, false_and, and_false, false_or, or_false, true_or, or_true, Nat.add_zero, Nat.zero_add, Nat.mul_zero, Nat.zero_mul, Nat.add_left_cancel_iff, Nat.add_right_cancel_iff, LCS_0 hL, LCn_0 hL, LCS_1 hL, LCn_1 hL, LCS_2 hL, LCn_2 hL, LCS_3 hL, LCn_3 hL, LCS_4 hL, LCn_4 hL, LCS_5 hL, LCn_5 hL, LCS_6 hL, LCn_6 hL, LCS_7 hL, LCn_7 hL, LCS_8 hL, LCn_8 hL, LCS_9 hL, LCn_9 hL, LCS_10 hL, LCn_10 hL, LCS_11 hL, LCn_11 hL, LCS_12 hL, LCn_12 hL, LCS_13 hL, LCn_13 hL, LCS_14 hL, LCn_14 hL, LCS_15 hL, LCn_15 hL, LCS_16 hL, LCn_16 hL, LCS_17 hL, LCn_17 hL, LCS_18 hL, LCn_18 hL, LCS_19 hL, LCn_19 hL, LCS_20 hL, LCn_20 hL, LCS_21 hL, LCn_21 hL, LCS_22 hL, LCn_22 hL, LCS_23 hL, LCn_23 hL, LCS_24 hL, LCn_24 hL, LCS_25 hL, LCn_25 hL, LCS_26 hL, LCn_26 hL, LCS_27 hL, LCn_27 hL, LCS_28 hL, LCn_28 hL, LCS_29 hL, LCn_29 hL, LCS_30 hL, LCn_30 hL, LCS_31 hL, LCn_31 hL, LCS_32 hL, LCn_32 hL, LCS_33 hL, LCn_33 hL, LCS_34 hL, LCn_34 hL, LCS_35 hL, LCn_35 hL, LCS_36 hL, LCn_36 hL, LCS_37 hL, LCn_37 hL, LCS_38 hL, LCn_38 hL, LCS_39 hL, LCn_39 hL, LCS_40 hL, LCn_40 hL, LCS_41 hL, LCn_41 hL, LCA_0_0 hL, LCA_0_1 hL, LCA_0_2 hL, LCA_0_3 hL, LCA_0_4 hL, LCA_0_5 hL, LCA_1_0 hL, LCA_1_1 hL, LCA_1_2 hL, LCA_2_0 hL, LCA_2_1 hL, LCA_5_0 hL, LCA_5_2 hL, LCA_5_3 hL, LCA_10_0 hL, LCA_10_2 hL, LCA_10_3 hL, LCA_10_4 hL, LCA_10_8 hL, LCA_16_0 hL, LCA_16_1 hL, LCA_16_4 hL, LCA_17_0 hL, LCA_17_1 hL, LCA_17_2 hL, LCA_24_0 hL, LCA_24_1 hL, LCA_25_0 hL, LCA_25_1 hL, LCA_25_2 hL, LCA_30_0 hL, LCA_30_1 hL, LCA_30_2 hL, LCA_30_3 hL, LCA_31_0 hL, LCA_31_1 hL, LCA_34_0 hL, LCA_36_0 hL, LCA_38_0 hL, LCA_40_0 hL, hK 2 (by decide) (by decide), hp2, Int32.le_refl]
    exact hQ I' hK
  | succ k ih =>
    intro i u bo v7 v8 v9 I' hi hb hK hQ
    obtain ⟨j1, j2, j3⟩ := itm_at iD.1 hW (show i < p by omega)
    have g1' : ¬ nI p ≤ nI i := nI_ge (by omega) (by omega)
    rw [s98_33]
    simp only [s98_35, s98_36, s98_39, s98_42, s98_45, s98_48, s98_49, s98_52, s98_53, s98_56, s98_57, s98_58, s98_61, s98_63, s98_64, s98_66, isR_ref, isR_nul, isR_ra, nl_int, nl_ref, nl_jk, nl_ra, nl_nul, rf_some, rf_none, nc_nil, nc_i, nc_l, nc_r, nc_n, nc_x, true_and, and_true, and_self, if_true, if_false, ite_true, ite_false, Option.toList_some, Option.toList_none, List.cons_append, List.nil_append, nar_b1, nar_b0, T_ite, reduceIte, reduceCtorEq, one_ne, eq_self, mkC_t, hn_t, va_up_same, not_true_eq_false, not_false_eq_true, Nat.reduceLeDiff, Nat.reduceAdd, Nat.reduceEqDiff, Nat.reduceMul, Nat.reduceSub, Nat.reduceDiv, Nat.reduceMod, Nat.reduceLT, false_and, and_false, false_or, or_false, true_or, or_true, Nat.add_zero, Nat.zero_add, Nat.mul_zero, Nat.zero_mul, Nat.add_left_cancel_iff, Nat.add_right_cancel_iff, LCS_0 hL, LCn_0 hL, LCS_1 hL, LCn_1 hL, LCS_2 hL, LCn_2 hL, LCS_3 hL, LCn_3 hL, LCS_4 hL, LCn_4 hL, LCS_5 hL, LCn_5 hL, LCS_6 hL, LCn_6 hL, LCS_7 hL, LCn_7 hL, LCS_8 hL, LCn_8 hL, LCS_9 hL, LCn_9 hL, LCS_10 hL, LCn_10 hL, LCS_11 hL, LCn_11 hL, LCS_12 hL, LCn_12 hL, LCS_13 hL, LCn_13 hL, LCS_14 hL, LCn_14 hL, LCS_15 hL, LCn_15 hL, LCS_16 hL, LCn_16 hL, LCS_17 hL, LCn_17 hL, LCS_18 hL, LCn_18 hL, LCS_19 hL, LCn_19 hL, LCS_20 hL, LCn_20 hL, LCS_21 hL, LCn_21 hL, LCS_22 hL, LCn_22 hL, LCS_23 hL, LCn_23 hL, LCS_24 hL, LCn_24 hL, LCS_25 hL, LCn_25 hL, LCS_26 hL, LCn_26 hL, LCS_27 hL, LCn_27 hL, LCS_28 hL, LCn_28 hL, LCS_29 hL, LCn_29 hL, LCS_30 hL, LCn_30 hL, LCS_31 hL, LCn_31 hL, LCS_32 hL, LCn_32 hL, LCS_33 hL, LCn_33 hL, LCS_34 hL, LCn_34 hL, LCS_35 hL, LCn_35 hL, LCS_36 hL, LCn_36 hL, LCS_37 hL, LCn_37 hL, LCS_38 hL, LCn_38 hL, LCS_39 hL, LCn_39 hL, LCS_40 hL, LCn_40 hL, LCS_41 hL, LCn_41 hL, LCA_0_0 hL, LCA_0_1 hL, LCA_0_2 hL, LCA_0_3 hL, LCA_0_4 hL, LCA_0_5 hL, LCA_1_0 hL, LCA_1_1 hL, LCA_1_2 hL, LCA_2_0 hL, LCA_2_1 hL, LCA_5_0 hL, LCA_5_2 hL, LCA_5_3 hL, LCA_10_0 hL, LCA_10_2 hL, LCA_10_3 hL, LCA_10_4 hL, LCA_10_8 hL, LCA_16_0 hL, LCA_16_1 hL, LCA_16_4 hL, LCA_17_0 hL, LCA_17_1 hL, LCA_17_2 hL, LCA_24_0 hL, LCA_24_1 hL, LCA_25_0 hL, LCA_25_1 hL, LCA_25_2 hL, LCA_30_0 hL, LCA_30_1 hL, LCA_30_2 hL, LCA_30_3 hL, LCA_31_0 hL, LCA_31_1 hL, LCA_34_0 hL, LCA_36_0 hL, LCA_38_0 hL, LCA_40_0 hL, hK 2 (by decide) (by decide), hp2, g1', y1, y2, y3, y4, y5, y6, vpin (show q < 2147483648 by omega), nI_cl (show q < 2147483648 by omega), hq, vpin (show i < 2147483648 by omega), nI_cl (show i < 2147483648 by omega), show i < 40 by omega, hK (35 + 2 * q) (by omega) (by omega), j2]
    refine riskK hL iT iD hr hf (show i < 12 by omega) j1 (EA_KC EA_refl hK) (fun I'' hK2 => ?_)
    obtain ⟨ul, uh, eu⟩ : ∃ ul, ul ≤ 100 ∧ rkC I A S f (itm I q i) i = nI ul := rsk_rng _ _ _
    have hd := drw_le (r := rkC I A S f (itm I q i) i) bo u 0
    have hin := RD_drawn_in (Ω := Ω) (d := d + 4) (h := (I'', J, A, S, n, z)) (Q := Q) (p0 := .ref 0) (q := .int (nI q)) (x := x) (v3 := v3) (r := rkC I A S f (itm I q i) i) (bo := bo) (pl := i) hb bo 0 u 0 (by omega) (by omega)
    rw [nI_0] at hin
    simp only [s98_69, s98_71, s98_72, s98_74, s98_75, isR_ref, isR_nul, isR_ra, nl_int, nl_ref, nl_jk, nl_ra, nl_nul, rf_some, rf_none, nc_nil, nc_i, nc_l, nc_r, nc_n, nc_x, true_and, and_true, and_self, if_true, if_false, ite_true, ite_false, Option.toList_some, Option.toList_none, List.cons_append, List.nil_append, nar_b1, nar_b0, T_ite, reduceIte, reduceCtorEq, one_ne, eq_self, mkC_t, hn_t, va_up_same, not_true_eq_false, not_false_eq_true, Nat.reduceLeDiff, Nat.reduceAdd, Nat.reduceEqDiff, Nat.reduceMul, Nat.reduceSub, Nat.reduceDiv, Nat.reduceMod, Nat.reduceLT, false_and, and_false, false_or, or_false, true_or, or_true, Nat.add_zero, Nat.zero_add, Nat.mul_zero, Nat.zero_mul, Nat.add_left_cancel_iff, Nat.add_right_cancel_iff]
    rw [hin]
    simp only [s98_117, s98_119, s98_121, s98_122, s98_124, s98_127, isR_ref, isR_nul, isR_ra, nl_int, nl_ref, nl_jk, nl_ra, nl_nul, rf_some, rf_none, nc_nil, nc_i, nc_l, nc_r, nc_n, nc_x, true_and, and_true, and_self, if_true, if_false, ite_true, ite_false, Option.toList_some, Option.toList_none, List.cons_append, List.nil_append, nar_b1, nar_b0, T_ite, reduceIte, reduceCtorEq, one_ne, eq_self, mkC_t, hn_t, va_up_same, not_true_eq_false, not_false_eq_true, Nat.reduceLeDiff, Nat.reduceAdd, Nat.reduceEqDiff, Nat.reduceMul, Nat.reduceSub, Nat.reduceDiv, Nat.reduceMod, Nat.reduceLT, false_and, and_false, false_or, or_false, true_or, or_true, Nat.add_zero, Nat.zero_add, Nat.mul_zero, Nat.zero_mul, Nat.add_left_cancel_iff, Nat.add_right_cancel_iff, nI_subs (show (drw (rkC I A S f (itm I q i) i) bo u 0).2 ≤ bo by omega), nI_1]
    refine ih (i + 1) _ _ _ _ _ I'' (by omega) (by omega) (KC_trans hK hK2) (fun I3 hK3 => ?_)
    exact hQ I3 hK3
theorem M_drawn_l (hL : LM A S n) {t m f q p : Nat} {x : Int32} (hq : q < 4) (hp : p ≤ 12) (iT : IvT I A S n t) (iD : IvD I A S n m) (hr : I 46 10 = nI f) (hf : f < t) (hW : WayOK I q p m) (hp2 : I 46 1 = nI p) : ∀ (k i : Nat) (u : Int32) (bo : Nat) (v6 v7 v8 : Value) (I' : Nat → Nat → Int32), i + k = p → bo ≤ 6 → EA I I' → (∀ I'', EA I I'' → Q (some (.int (nI (drA (fun i => rkM I A S f (itm I q i) i) k i u bo)))) (I'', J, A, S, n, z)) → T Ω (d + 4) 168 27 [.ref 46, .int (nI q), .int x, .int u, .int (nI bo), .int (nI i), v6, v7, v8] [] (I', J, A, S, n, z) Q := by
  intro k
  induction k with
  | zero =>
    intro i u bo v6 v7 v8 I' hi hb hK hQ
    obtain rfl : i = p := by omega
    rw [s168_27]
    simp only [s168_29, s168_30, s168_33, s168_106, s168_108, isR_ref, isR_nul, isR_ra, nl_int, nl_ref, nl_jk, nl_ra, nl_nul, rf_some, rf_none, nc_nil, nc_i, nc_l, nc_r, nc_n, nc_x, true_and, and_true, and_self, if_true, if_false, ite_true, ite_false, Option.toList_some, Option.toList_none, List.cons_append, List.nil_append, nar_b1, nar_b0, T_ite, reduceIte, reduceCtorEq, one_ne, eq_self, mkC_t, hn_t, va_up_same, not_true_eq_false, not_false_eq_true, Nat.reduceLeDiff, Nat.reduceAdd, Nat.reduceEqDiff, Nat.reduceMul, Nat.reduceSub, Nat.reduceDiv, Nat.reduceMod, Nat.reduceLT, false_and, and_false, false_or, or_false, true_or, or_true, Nat.add_zero, Nat.zero_add, Nat.mul_zero, Nat.zero_mul, Nat.add_left_cancel_iff, Nat.add_right_cancel_iff, LMS_46 hL, LMn_46 hL, LMS_47 hL, LMn_47 hL, LMS_48 hL, LMn_48 hL, LMS_49 hL, LMn_49 hL, LMS_50 hL, LMn_50 hL, LMS_51 hL, LMn_51 hL, LMS_52 hL, LMn_52 hL, LMS_53 hL, LMn_53 hL, LMS_54 hL, LMn_54 hL, LMS_55 hL, LMn_55 hL, LMS_56 hL, LMn_56 hL, LMS_57 hL, LMn_57 hL, LMS_58 hL, LMn_58 hL, LMS_59 hL, LMn_59 hL, LMS_60 hL, LMn_60 hL, LMS_61 hL, LMn_61 hL, LMS_62 hL, LMn_62 hL, LMS_63 hL, LMn_63 hL, LMS_64 hL, LMn_64 hL, LMS_65 hL, LMn_65 hL, LMS_66 hL, LMn_66 hL, LMS_67 hL, LMn_67 hL, LMA_46_2 hL, LMA_46_3 hL, LMA_46_5 hL, LMA_46_6 hL, LMA_46_7 hL, LMA_46_11 hL, LMA_46_12 hL, LMA_46_13 hL, LMA_46_21 hL, LMA_46_22 hL, LMA_46_23 hL, LMA_46_24 hL, LMA_46_25 hL, LMA_46_26 hL, LMA_46_27 hL, LMA_46_31 hL, LMA_46_32 hL, LMA_46_33 hL, LMA_46_34 hL, LMA_46_35 hL, LMA_46_36 hL, EA_at hK (c := 46) (by decide), hp2, Int32.le_refl]
    exact hQ I' hK
  | succ k ih =>
    intro i u bo v6 v7 v8 I' hi hb hK hQ
    obtain ⟨j1, j2, j3⟩ := itm_at iD.1 hW (show i < p by omega)
    have g1' : ¬ nI p ≤ nI i := nI_ge (by omega) (by omega)
    rw [s168_27]
    simp only [s168_29, s168_30, s168_33, s168_36, s168_37, s168_38, s168_41, s168_43, s168_44, s168_45, s168_47, s168_48, s168_49, s168_51, isR_ref, isR_nul, isR_ra, nl_int, nl_ref, nl_jk, nl_ra, nl_nul, rf_some, rf_none, nc_nil, nc_i, nc_l, nc_r, nc_n, nc_x, true_and, and_true, and_self, if_true, if_false, ite_true, ite_false, Option.toList_some, Option.toList_none, List.cons_append, List.nil_append, nar_b1, nar_b0, T_ite, reduceIte, reduceCtorEq, one_ne, eq_self, mkC_t, hn_t, va_up_same, not_true_eq_false, not_false_eq_true, Nat.reduceLeDiff, Nat.reduceAdd, Nat.reduceEqDiff, Nat.reduceMul, Nat.reduceSub, Nat.reduceDiv, Nat.reduceMod, Nat.reduceLT, false_and, and_false, false_or, or_false, true_or, or_true, Nat.add_zero, Nat.zero_add, Nat.mul_zero, Nat.zero_mul, Nat.add_left_cancel_iff, Nat.add_right_cancel_iff, LMS_46 hL, LMn_46 hL, LMS_47 hL, LMn_47 hL, LMS_48 hL, LMn_48 hL, LMS_49 hL, LMn_49 hL, LMS_50 hL, LMn_50 hL, LMS_51 hL, LMn_51 hL, LMS_52 hL, LMn_52 hL, LMS_53 hL, LMn_53 hL, LMS_54 hL, LMn_54 hL, LMS_55 hL, LMn_55 hL, LMS_56 hL, LMn_56 hL, LMS_57 hL, LMn_57 hL, LMS_58 hL, LMn_58 hL, LMS_59 hL, LMn_59 hL, LMS_60 hL, LMn_60 hL, LMS_61 hL, LMn_61 hL, LMS_62 hL, LMn_62 hL, LMS_63 hL, LMn_63 hL, LMS_64 hL, LMn_64 hL, LMS_65 hL, LMn_65 hL, LMS_66 hL, LMn_66 hL, LMS_67 hL, LMn_67 hL, LMA_46_2 hL, LMA_46_3 hL, LMA_46_5 hL, LMA_46_6 hL, LMA_46_7 hL, LMA_46_11 hL, LMA_46_12 hL, LMA_46_13 hL, LMA_46_21 hL, LMA_46_22 hL, LMA_46_23 hL, LMA_46_24 hL, LMA_46_25 hL, LMA_46_26 hL, LMA_46_27 hL, LMA_46_31 hL, LMA_46_32 hL, LMA_46_33 hL, LMA_46_34 hL, LMA_46_35 hL, LMA_46_36 hL, EA_at hK (c := 46) (by decide), EA_at hK (c := 66) (by decide), hp2, g1', lit_40, pk_mul, nI_add, vpin (show 40 * q + i < 2147483648 by omega), nI_cl (show 40 * q + i < 2147483648 by omega), show 40 * q + i < 160 by omega, j3]
    refine mRiskK hL iT iD hr hf (show i < 12 by omega) j1 hK (fun I'' hK2 => ?_)
    have hd := drw_le (r := rkM I A S f (itm I q i) i) bo u 0
    have hin := M_drawn_in (Ω := Ω) (d := d + 4) (h := (I'', J, A, S, n, z)) (Q := Q) (p0 := .ref 46) (q := .int (nI q)) (x := x) (r := rkM I A S f (itm I q i) i) (bo := bo) (pl := i) hb bo 0 u 0 (by omega) (by omega)
    rw [nI_0, Nat.sub_zero] at hin
    simp only [s168_54, s168_56, s168_58, s168_60, s168_61, isR_ref, isR_nul, isR_ra, nl_int, nl_ref, nl_jk, nl_ra, nl_nul, rf_some, rf_none, nc_nil, nc_i, nc_l, nc_r, nc_n, nc_x, true_and, and_true, and_self, if_true, if_false, ite_true, ite_false, Option.toList_some, Option.toList_none, List.cons_append, List.nil_append, nar_b1, nar_b0, T_ite, reduceIte, reduceCtorEq, one_ne, eq_self, mkC_t, hn_t, va_up_same, not_true_eq_false, not_false_eq_true, Nat.reduceLeDiff, Nat.reduceAdd, Nat.reduceEqDiff, Nat.reduceMul, Nat.reduceSub, Nat.reduceDiv, Nat.reduceMod, Nat.reduceLT, false_and, and_false, false_or, or_false, true_or, or_true, Nat.add_zero, Nat.zero_add, Nat.mul_zero, Nat.zero_mul, Nat.add_left_cancel_iff, Nat.add_right_cancel_iff]
    rw [hin]
    simp only [s168_100, s168_103, isR_ref, isR_nul, isR_ra, nl_int, nl_ref, nl_jk, nl_ra, nl_nul, rf_some, rf_none, nc_nil, nc_i, nc_l, nc_r, nc_n, nc_x, true_and, and_true, and_self, if_true, if_false, ite_true, ite_false, Option.toList_some, Option.toList_none, List.cons_append, List.nil_append, nar_b1, nar_b0, T_ite, reduceIte, reduceCtorEq, one_ne, eq_self, mkC_t, hn_t, va_up_same, not_true_eq_false, not_false_eq_true, Nat.reduceLeDiff, Nat.reduceAdd, Nat.reduceEqDiff, Nat.reduceMul, Nat.reduceSub, Nat.reduceDiv, Nat.reduceMod, Nat.reduceLT, false_and, and_false, false_or, or_false, true_or, or_true, Nat.add_zero, Nat.zero_add, Nat.mul_zero, Nat.zero_mul, Nat.add_left_cancel_iff, Nat.add_right_cancel_iff, nI_1]
    refine ih (i + 1) _ _ _ _ _ I'' (by omega) (by omega) (EA_KM hK hK2) (fun I3 hK3 => ?_)
    exact hQ I3 hK3
theorem drA_congr {r r' : Nat → Int32} : ∀ (k i : Nat) (u : Int32) (b : Nat), (∀ j, i ≤ j → j < i + k → r j = r' j) → drA r k i u b = drA r' k i u b := by
  intro k
  induction k with
  | zero => intro i u b _; rfl
  | succ k ih =>
    intro i u b hh
    rw [drA, drA, hh i (by omega) (by omega)]
    exact ih (i + 1) _ _ (fun j h1 h2 => hh j (by omega) (by omega))
set_option maxHeartbeats 1000000 in
theorem cpl_drawn {x y : Int32} : cplI Ω (d + 4) Inv 98 168 [.ref 0, .int x, .int y, jk, jk, jk, jk, jk, jk, jk] [.ref 46, .int x, .int y, jk, jk, jk, jk, jk, jk] := by
  rintro ⟨I, J, A, S, n, z⟩ ⟨p, m, t, s, iL, iP, iD, iT, iB, iI, iS⟩
  simp only [hn, hI, hA, hSh] at iL iP iD iT iB iI iS
  have lc := iL.1
  have lm := iL.2.1
  obtain ⟨p1, p2, p3, p4, p5⟩ := id iP
  refine T_opq (fun QC hQC => ?_)
  obtain ⟨t1, t2, t3, t4, ⟨f, t5, t6, t7⟩, t8⟩ := id iT
  obtain ⟨d1, d2, d3, d4⟩ := id iD
  obtain ⟨bo, hbo, ebo⟩ := (p5 2 (by decide)).2
  have hbo6 : bo ≤ 6 := hbo
  rcases way_or (J := J) (z := z) lc lm iP iD iS x with ⟨r, r1, r2, r3, r4, r5⟩ | ⟨q, hq, rfl, hW⟩
  · have r0 : ¬ r = 0 := fun h => absurd (h ▸ r1) (by decide)
    simp only [s98_0, s98_1, s98_2, s98_5, s98_6, s98_7, s98_10, s98_11, isR_ref, isR_nul, isR_ra, nl_int, nl_ref, nl_jk, nl_ra, nl_nul, rf_some, rf_none, nc_nil, nc_i, nc_l, nc_r, nc_n, nc_x, true_and, and_true, and_self, if_true, if_false, ite_true, ite_false, Option.toList_some, Option.toList_none, List.cons_append, List.nil_append, nar_b1, nar_b0, T_ite, reduceIte, reduceCtorEq, one_ne, eq_self, mkC_t, hn_t, va_up_same, not_true_eq_false, not_false_eq_true, Nat.reduceLeDiff, Nat.reduceAdd, Nat.reduceEqDiff, Nat.reduceMul, Nat.reduceSub, Nat.reduceDiv, Nat.reduceMod, Nat.reduceLT, false_and, and_false, false_or, or_false, true_or, or_true, Nat.add_zero, Nat.zero_add, Nat.mul_zero, Nat.zero_mul, Nat.add_left_cancel_iff, Nat.add_right_cancel_iff, LCS_0 lc, LCn_0 lc, LCS_1 lc, LCn_1 lc, LCS_2 lc, LCn_2 lc, LCS_3 lc, LCn_3 lc, LCS_4 lc, LCn_4 lc, LCS_5 lc, LCn_5 lc, LCS_6 lc, LCn_6 lc, LCS_7 lc, LCn_7 lc, LCS_8 lc, LCn_8 lc, LCS_9 lc, LCn_9 lc, LCS_10 lc, LCn_10 lc, LCS_11 lc, LCn_11 lc, LCS_12 lc, LCn_12 lc, LCS_13 lc, LCn_13 lc, LCS_14 lc, LCn_14 lc, LCS_15 lc, LCn_15 lc, LCS_16 lc, LCn_16 lc, LCS_17 lc, LCn_17 lc, LCS_18 lc, LCn_18 lc, LCS_19 lc, LCn_19 lc, LCS_20 lc, LCn_20 lc, LCS_21 lc, LCn_21 lc, LCS_22 lc, LCn_22 lc, LCS_23 lc, LCn_23 lc, LCS_24 lc, LCn_24 lc, LCS_25 lc, LCn_25 lc, LCS_26 lc, LCn_26 lc, LCS_27 lc, LCn_27 lc, LCS_28 lc, LCn_28 lc, LCS_29 lc, LCn_29 lc, LCS_30 lc, LCn_30 lc, LCS_31 lc, LCn_31 lc, LCS_32 lc, LCn_32 lc, LCS_33 lc, LCn_33 lc, LCS_34 lc, LCn_34 lc, LCS_35 lc, LCn_35 lc, LCS_36 lc, LCn_36 lc, LCS_37 lc, LCn_37 lc, LCS_38 lc, LCn_38 lc, LCS_39 lc, LCn_39 lc, LCS_40 lc, LCn_40 lc, LCS_41 lc, LCn_41 lc, LCA_0_0 lc, LCA_0_1 lc, LCA_0_2 lc, LCA_0_3 lc, LCA_0_4 lc, LCA_0_5 lc, LCA_1_0 lc, LCA_1_1 lc, LCA_1_2 lc, LCA_2_0 lc, LCA_2_1 lc, LCA_5_0 lc, LCA_5_2 lc, LCA_5_3 lc, LCA_10_0 lc, LCA_10_2 lc, LCA_10_3 lc, LCA_10_4 lc, LCA_10_8 lc, LCA_16_0 lc, LCA_16_1 lc, LCA_16_4 lc, LCA_17_0 lc, LCA_17_1 lc, LCA_17_2 lc, LCA_24_0 lc, LCA_24_1 lc, LCA_25_0 lc, LCA_25_1 lc, LCA_25_2 lc, LCA_30_0 lc, LCA_30_1 lc, LCA_30_2 lc, LCA_30_3 lc, LCA_31_0 lc, LCA_31_1 lc, LCA_34_0 lc, LCA_36_0 lc, LCA_38_0 lc, LCA_40_0 lc, r3, r0]
    refine hQC _ _ ⟨_, rfl, by first | exact (see46 lm).1 | exact Nat.lt_of_lt_of_le (by decide) lm.1, by first | exact (see46 lm).2 | (show (S 46).1 = 11; rw [LMS_46 lm]), ?_⟩
    refine T_opq (fun Q hQ => ?_)
    simp only [s168_0, s168_1, s168_2, s168_5, s168_8, s168_9, s168_10, s168_13, isR_ref, isR_nul, isR_ra, nl_int, nl_ref, nl_jk, nl_ra, nl_nul, rf_some, rf_none, nc_nil, nc_i, nc_l, nc_r, nc_n, nc_x, true_and, and_true, and_self, if_true, if_false, ite_true, ite_false, Option.toList_some, Option.toList_none, List.cons_append, List.nil_append, nar_b1, nar_b0, T_ite, reduceIte, reduceCtorEq, one_ne, eq_self, mkC_t, hn_t, va_up_same, not_true_eq_false, not_false_eq_true, Nat.reduceLeDiff, Nat.reduceAdd, Nat.reduceEqDiff, Nat.reduceMul, Nat.reduceSub, Nat.reduceDiv, Nat.reduceMod, Nat.reduceLT, false_and, and_false, false_or, or_false, true_or, or_true, Nat.add_zero, Nat.zero_add, Nat.mul_zero, Nat.zero_mul, Nat.add_left_cancel_iff, Nat.add_right_cancel_iff, LMS_46 lm, LMn_46 lm, LMS_47 lm, LMn_47 lm, LMS_48 lm, LMn_48 lm, LMS_49 lm, LMn_49 lm, LMS_50 lm, LMn_50 lm, LMS_51 lm, LMn_51 lm, LMS_52 lm, LMn_52 lm, LMS_53 lm, LMn_53 lm, LMS_54 lm, LMn_54 lm, LMS_55 lm, LMn_55 lm, LMS_56 lm, LMn_56 lm, LMS_57 lm, LMn_57 lm, LMS_58 lm, LMn_58 lm, LMS_59 lm, LMn_59 lm, LMS_60 lm, LMn_60 lm, LMS_61 lm, LMn_61 lm, LMS_62 lm, LMn_62 lm, LMS_63 lm, LMn_63 lm, LMS_64 lm, LMn_64 lm, LMS_65 lm, LMn_65 lm, LMS_66 lm, LMn_66 lm, LMS_67 lm, LMn_67 lm, LMA_46_2 lm, LMA_46_3 lm, LMA_46_5 lm, LMA_46_6 lm, LMA_46_7 lm, LMA_46_11 lm, LMA_46_12 lm, LMA_46_13 lm, LMA_46_21 lm, LMA_46_22 lm, LMA_46_23 lm, LMA_46_24 lm, LMA_46_25 lm, LMA_46_26 lm, LMA_46_27 lm, LMA_46_31 lm, LMA_46_32 lm, LMA_46_33 lm, LMA_46_34 lm, LMA_46_35 lm, LMA_46_36 lm, r4, Int32.not_le.mpr r1]
    exact (hQ _ _ ⟨rfl, ⟨p, m, t, s, iL, iP, iD, iT, iB, iI, iS⟩, Nat.le_add_right _ _, Nat.le_add_right _ _⟩)
  · simp only [s98_0, s98_1, s98_2, s98_5, s98_6, s98_7, s98_10, s98_11, s98_12, s98_13, s98_15, s98_16, s98_19, s98_22, s98_24, s98_25, s98_28, s98_30, s98_31, isR_ref, isR_nul, isR_ra, nl_int, nl_ref, nl_jk, nl_ra, nl_nul, rf_some, rf_none, nc_nil, nc_i, nc_l, nc_r, nc_n, nc_x, true_and, and_true, and_self, if_true, if_false, ite_true, ite_false, Option.toList_some, Option.toList_none, List.cons_append, List.nil_append, nar_b1, nar_b0, T_ite, reduceIte, reduceCtorEq, one_ne, eq_self, mkC_t, hn_t, va_up_same, not_true_eq_false, not_false_eq_true, Nat.reduceLeDiff, Nat.reduceAdd, Nat.reduceEqDiff, Nat.reduceMul, Nat.reduceSub, Nat.reduceDiv, Nat.reduceMod, Nat.reduceLT, false_and, and_false, false_or, or_false, true_or, or_true, Nat.add_zero, Nat.zero_add, Nat.mul_zero, Nat.zero_mul, Nat.add_left_cancel_iff, Nat.add_right_cancel_iff, LCS_0 lc, LCn_0 lc, LCS_1 lc, LCn_1 lc, LCS_2 lc, LCn_2 lc, LCS_3 lc, LCn_3 lc, LCS_4 lc, LCn_4 lc, LCS_5 lc, LCn_5 lc, LCS_6 lc, LCn_6 lc, LCS_7 lc, LCn_7 lc, LCS_8 lc, LCn_8 lc, LCS_9 lc, LCn_9 lc, LCS_10 lc, LCn_10 lc, LCS_11 lc, LCn_11 lc, LCS_12 lc, LCn_12 lc, LCS_13 lc, LCn_13 lc, LCS_14 lc, LCn_14 lc, LCS_15 lc, LCn_15 lc, LCS_16 lc, LCn_16 lc, LCS_17 lc, LCn_17 lc, LCS_18 lc, LCn_18 lc, LCS_19 lc, LCn_19 lc, LCS_20 lc, LCn_20 lc, LCS_21 lc, LCn_21 lc, LCS_22 lc, LCn_22 lc, LCS_23 lc, LCn_23 lc, LCS_24 lc, LCn_24 lc, LCS_25 lc, LCn_25 lc, LCS_26 lc, LCn_26 lc, LCS_27 lc, LCn_27 lc, LCS_28 lc, LCn_28 lc, LCS_29 lc, LCn_29 lc, LCS_30 lc, LCn_30 lc, LCS_31 lc, LCn_31 lc, LCS_32 lc, LCn_32 lc, LCS_33 lc, LCn_33 lc, LCS_34 lc, LCn_34 lc, LCS_35 lc, LCn_35 lc, LCS_36 lc, LCn_36 lc, LCS_37 lc, LCn_37 lc, LCS_38 lc, LCn_38 lc, LCS_39 lc, LCn_39 lc, LCS_40 lc, LCn_40 lc, LCS_41 lc, LCn_41 lc, LCA_0_0 lc, LCA_0_1 lc, LCA_0_2 lc, LCA_0_3 lc, LCA_0_4 lc, LCA_0_5 lc, LCA_1_0 lc, LCA_1_1 lc, LCA_1_2 lc, LCA_2_0 lc, LCA_2_1 lc, LCA_5_0 lc, LCA_5_2 lc, LCA_5_3 lc, LCA_10_0 lc, LCA_10_2 lc, LCA_10_3 lc, LCA_10_4 lc, LCA_10_8 lc, LCA_16_0 lc, LCA_16_1 lc, LCA_16_4 lc, LCA_17_0 lc, LCA_17_1 lc, LCA_17_2 lc, LCA_24_0 lc, LCA_24_1 lc, LCA_25_0 lc, LCA_25_1 lc, LCA_25_2 lc, LCA_30_0 lc, LCA_30_1 lc, LCA_30_2 lc, LCA_30_3 lc, LCA_31_0 lc, LCA_31_1 lc, LCA_34_0 lc, LCA_36_0 lc, LCA_38_0 lc, LCA_40_0 lc, RD_way_ok lc hq p1 d1 hW p2 d2, C_now6 lc, (p5 2 (by decide)).1, ebo]
    refine RD_drawn_l lc hq p1 iT iD t6 t5 hW p2 p 0 y bo _ _ _ I (by omega) hbo6 KC_refl (fun I1 hK => ?_)
    refine hQC _ _ ⟨_, rfl, by first | exact (see46 lm).1 | exact Nat.lt_of_lt_of_le (by decide) lm.1, by first | exact (see46 lm).2 | (show (S 46).1 = 11; rw [LMS_46 lm]), ?_⟩
    refine T_opq (fun Q hQ => ?_)
    have hE := EA_KC (EA_refl (I := I)) hK
    have e46 : I1 46 = I 46 := hK 46 (by decide) (by decide)
    have e48 : I1 48 = I 48 := hK 48 (by decide) (by decide)
    simp only [s168_0, s168_1, s168_2, s168_5, s168_8, s168_9, s168_10, s168_13, s168_14, s168_15, s168_16, s168_17, s168_20, s168_21, s168_22, s168_24, s168_25, isR_ref, isR_nul, isR_ra, nl_int, nl_ref, nl_jk, nl_ra, nl_nul, rf_some, rf_none, nc_nil, nc_i, nc_l, nc_r, nc_n, nc_x, true_and, and_true, and_self, if_true, if_false, ite_true, ite_false, Option.toList_some, Option.toList_none, List.cons_append, List.nil_append, nar_b1, nar_b0, T_ite, reduceIte, reduceCtorEq, one_ne, eq_self, mkC_t, hn_t, va_up_same, not_true_eq_false, not_false_eq_true, Nat.reduceLeDiff, Nat.reduceAdd, Nat.reduceEqDiff, Nat.reduceMul, Nat.reduceSub, Nat.reduceDiv, Nat.reduceMod, Nat.reduceLT, false_and, and_false, false_or, or_false, true_or, or_true, Nat.add_zero, Nat.zero_add, Nat.mul_zero, Nat.zero_mul, Nat.add_left_cancel_iff, Nat.add_right_cancel_iff, LMS_46 lm, LMn_46 lm, LMS_47 lm, LMn_47 lm, LMS_48 lm, LMn_48 lm, LMS_49 lm, LMn_49 lm, LMS_50 lm, LMn_50 lm, LMS_51 lm, LMn_51 lm, LMS_52 lm, LMn_52 lm, LMS_53 lm, LMn_53 lm, LMS_54 lm, LMn_54 lm, LMS_55 lm, LMn_55 lm, LMS_56 lm, LMn_56 lm, LMS_57 lm, LMn_57 lm, LMS_58 lm, LMn_58 lm, LMS_59 lm, LMn_59 lm, LMS_60 lm, LMn_60 lm, LMS_61 lm, LMn_61 lm, LMS_62 lm, LMn_62 lm, LMS_63 lm, LMn_63 lm, LMS_64 lm, LMn_64 lm, LMS_65 lm, LMn_65 lm, LMS_66 lm, LMn_66 lm, LMS_67 lm, LMn_67 lm, LMA_46_2 lm, LMA_46_3 lm, LMA_46_5 lm, LMA_46_6 lm, LMA_46_7 lm, LMA_46_11 lm, LMA_46_12 lm, LMA_46_13 lm, LMA_46_21 lm, LMA_46_22 lm, LMA_46_23 lm, LMA_46_24 lm, LMA_46_25 lm, LMA_46_26 lm, LMA_46_27 lm, LMA_46_31 lm, LMA_46_32 lm, LMA_46_33 lm, LMA_46_34 lm, LMA_46_35 lm, LMA_46_36 lm, M_lacks_ok lm hq p1 d1 (WayOK_EA hq hW hE) (show I1 46 1 = nI p by rw [e46]; exact p3) (show I1 46 4 = nI m by rw [e46]; exact d3), Int32.le_refl, show vp_in 2 5 from vpin (k := 2) (by decide) ▸ (by decide), show (2 : Int32).toNatClampNeg = 2 from rfl, e48, ebo]
    refine M_drawn_l lm hq p1 iT iD t7 t5 hW p3 p 0 y bo _ _ _ I1 (by omega) hbo6 hE (fun I2 hE2 => ?_)
    refine hQ _ _ ⟨?_, Inv_sc iL (fun _ _ => rfl) iP iD iT iB iI iS hE2, Nat.le_add_right _ _, Nat.le_add_right _ _⟩
    rw [drA_congr p 0 y bo (fun j _ h2 => (rk_eq iP (by omega)).symm)]
end EV
