section EV
variable {Ω : AO} {d : Nat} {L st : List Value} {h : AH} {Q : Option Value → AH → Prop} {I I' I'' I0 Ic Im Is : Nat → Nat → Int32} {J J' : Nat → Nat → Int64} {A A' : Nat → Nat → Option Nat} {S : Nat → Nat × Nat} {n z z' : Nat} {x y a b : Int32}
theorem heldN {u g : Nat} (hu : u < 2147483648) (hg : g < 2147483648) : (if 0 ≤ nI u then if nI u ≤ nI g then nI u else nI g else 0) = nI (min g u) := by
  rw [if_pos (nI_pos' hu)]
  by_cases h9 : u ≤ g
  · rw [if_pos (nI_le h9 hg), Nat.min_eq_right h9]
  · rw [if_neg (nI_ge (by omega) hu), Nat.min_eq_left (by omega)]
set_option maxHeartbeats 1000000 in
theorem cpl_more {x : Int32} : cplL Ω (d + 7) Inv 106 179 [.ref 0, .int x, jk, jk] [.ref 46, .int x, jk, jk] := by
  rintro ⟨I, J, A, S, n, z⟩ ⟨p, m, t, s, iL, iP, iD, iT, iB, iI, iS⟩
  simp only [hn, hI, hA, hSh] at iL iP iD iT iB iI iS
  have lc := iL.1
  have lm := iL.2.1
  obtain ⟨p1, p2, p3, p4, p5⟩ := id iP
  refine T_opq (fun QC hQC => ?_)
  obtain ⟨t1, t2, t3, t4, ⟨f, t5, t6, t7⟩, t8⟩ := id iT
  obtain ⟨e43, lo, hlo, elo⟩ := p5 3 (by decide)
  have hlo9 : lo ≤ 99 := hlo
  obtain ⟨e42, bo, hbo, ebo⟩ := p5 2 (by decide)
  have hbo6 : bo ≤ 6 := hbo
  obtain ⟨e44, H, hH, eH⟩ := p5 4 (by decide)
  have hH6 : H ≤ 60 := hH
  obtain ⟨hc, nc, hA⟩ := IvL_HN iL
  rcases oor_or x 1 with hx | ⟨u, hu, rfl⟩
  · have e2 : ¬ (0 ≤ x ∧ x ≤ 1) := oor_in (N := 1) (by decide) hx
    simp only [s106_0, s106_1, s106_4, s106_5, s106_6, isR_ref, isR_nul, isR_ra, nl_int, nl_ref, nl_jk, nl_ra, nl_nul, rf_some, rf_none, nc_nil, nc_i, nc_l, nc_r, nc_n, nc_x, true_and, and_true, and_self, if_true, if_false, ite_true, ite_false, Option.toList_some, Option.toList_none, List.cons_append, List.nil_append, nar_b1, nar_b0, T_ite, reduceIte, reduceCtorEq, one_ne, eq_self, mkC_t, hn_t, va_up_same, not_true_eq_false, not_false_eq_true, Nat.reduceLeDiff, Nat.reduceAdd, Nat.reduceEqDiff, Nat.reduceMul, Nat.reduceSub, Nat.reduceDiv, Nat.reduceMod, Nat.reduceLT, false_and, and_false, false_or, or_false, true_or, or_true, Nat.add_zero, Nat.zero_add, Nat.mul_zero, Nat.zero_mul, Nat.add_left_cancel_iff, Nat.add_right_cancel_iff]
    have e3 : (if x < 0 then T Ω (d + 7) 106 9 [.ref 0, .int x, jk, jk] [] (I, J, A, S, n, z) QC else if x ≤ 1 then T Ω (d + 7) 106 13 [.ref 0, .int x, jk, jk] [] (I, J, A, S, n, z) QC else T Ω (d + 7) 106 9 [.ref 0, .int x, jk, jk] [] (I, J, A, S, n, z) QC) = T Ω (d + 7) 106 9 [.ref 0, .int x, jk, jk] [] (I, J, A, S, n, z) QC := by
      by_cases h0 : x < 0
      · rw [if_pos h0]
      · rw [if_neg h0, if_neg (fun h => e2 ⟨Int32.not_lt.mp h0, h⟩)]
    rw [e3]
    simp only [s106_9, s106_12, isR_ref, isR_nul, isR_ra, nl_int, nl_ref, nl_jk, nl_ra, nl_nul, rf_some, rf_none, nc_nil, nc_i, nc_l, nc_r, nc_n, nc_x, true_and, and_true, and_self, if_true, if_false, ite_true, ite_false, Option.toList_some, Option.toList_none, List.cons_append, List.nil_append, nar_b1, nar_b0, T_ite, reduceIte, reduceCtorEq, one_ne, eq_self, mkC_t, hn_t, va_up_same, not_true_eq_false, not_false_eq_true, Nat.reduceLeDiff, Nat.reduceAdd, Nat.reduceEqDiff, Nat.reduceMul, Nat.reduceSub, Nat.reduceDiv, Nat.reduceMod, Nat.reduceLT, false_and, and_false, false_or, or_false, true_or, or_true, Nat.add_zero, Nat.zero_add, Nat.mul_zero, Nat.zero_mul, Nat.add_left_cancel_iff, Nat.add_right_cancel_iff]
    refine hQC _ _ ⟨_, rfl, by first | exact (see46 lm).1 | exact Nat.lt_of_lt_of_le (by decide) lm.1, by first | exact (see46 lm).2 | (show (S 46).1 = 11; rw [LMS_46 lm]), ?_⟩
    refine T_opq (fun Q hQ => ?_)
    simp only [s179_0, s179_1, s179_2, s179_3, s179_6, s179_9, s179_12, isR_ref, isR_nul, isR_ra, nl_int, nl_ref, nl_jk, nl_ra, nl_nul, rf_some, rf_none, nc_nil, nc_i, nc_l, nc_r, nc_n, nc_x, true_and, and_true, and_self, if_true, if_false, ite_true, ite_false, Option.toList_some, Option.toList_none, List.cons_append, List.nil_append, nar_b1, nar_b0, T_ite, reduceIte, reduceCtorEq, one_ne, eq_self, mkC_t, hn_t, va_up_same, not_true_eq_false, not_false_eq_true, Nat.reduceLeDiff, Nat.reduceAdd, Nat.reduceEqDiff, Nat.reduceMul, Nat.reduceSub, Nat.reduceDiv, Nat.reduceMod, Nat.reduceLT, false_and, and_false, false_or, or_false, true_or, or_true, Nat.add_zero, Nat.zero_add, Nat.mul_zero, Nat.zero_mul, Nat.add_left_cancel_iff, Nat.add_right_cancel_iff, M_in, b01_0, e2]
    exact (hQ _ _ ⟨rfl, ⟨p, m, t, s, iL, iP, iD, iT, iB, iI, iS⟩, Nat.le_add_right _ _, Nat.le_add_right _ _⟩)
  have hv := fun A1 (gA : AE A A1) => VVeq (A' := A1) (m := m) (Ic := I) (Im := I) iT t5 iP gA rfl (fun _ _ => rfl) rfl (fun _ _ => rfl) rfl rfl rfl rfl (fun _ _ => rfl) (fun _ _ => rfl)
  rcases (show u = 0 ∨ u = 1 by omega) with rfl | rfl
  · have em : (if nI (bo + 1) < 6 then nI (bo + 1) else 6) = nI (min 6 (bo + 1)) := minN (b := 6) (by omega) (by decide)
    have eh : (if 0 ≤ nI (bo + 1) then if nI (bo + 1) ≤ 6 then nI (bo + 1) else 6 else 0) = nI (min 6 (bo + 1)) := heldN (g := 6) (by omega) (by decide)
    simp only [s106_0, s106_1, s106_4, s106_5, s106_6, s106_9, s106_12, s106_13, s106_14, s106_17, s106_20, s106_22, s106_23, s106_26, s106_27, s106_28, s106_31, s106_33, s106_34, s106_37, s106_40, s106_42, s106_43, s106_46, s106_47, s106_48, s106_51, s106_52, s106_53, s106_55, s106_56, s106_57, s106_58, isR_ref, isR_nul, isR_ra, nl_int, nl_ref, nl_jk, nl_ra, nl_nul, rf_some, rf_none, nc_nil, nc_i, nc_l, nc_r, nc_n, nc_x, true_and, and_true, and_self, if_true, if_false, ite_true, ite_false, Option.toList_some, Option.toList_none, List.cons_append, List.nil_append, nar_b1, nar_b0, T_ite, reduceIte, reduceCtorEq, one_ne, eq_self, mkC_t, hn_t, va_up_same, not_true_eq_false, not_false_eq_true, Nat.reduceLeDiff, Nat.reduceAdd, Nat.reduceEqDiff, Nat.reduceMul, Nat.reduceSub, Nat.reduceDiv, Nat.reduceMod, Nat.reduceLT, false_and, and_false, false_or, or_false, true_or, or_true, Nat.add_zero, Nat.zero_add, Nat.mul_zero, Nat.zero_mul, Nat.add_left_cancel_iff, Nat.add_right_cancel_iff, LCS_0 lc, LCn_0 lc, LCS_1 lc, LCn_1 lc, LCS_2 lc, LCn_2 lc, LCS_3 lc, LCn_3 lc, LCS_4 lc, LCn_4 lc, LCS_5 lc, LCn_5 lc, LCS_6 lc, LCn_6 lc, LCS_7 lc, LCn_7 lc, LCS_8 lc, LCn_8 lc, LCS_9 lc, LCn_9 lc, LCS_10 lc, LCn_10 lc, LCS_11 lc, LCn_11 lc, LCS_12 lc, LCn_12 lc, LCS_13 lc, LCn_13 lc, LCS_14 lc, LCn_14 lc, LCS_15 lc, LCn_15 lc, LCS_16 lc, LCn_16 lc, LCS_17 lc, LCn_17 lc, LCS_18 lc, LCn_18 lc, LCS_19 lc, LCn_19 lc, LCS_20 lc, LCn_20 lc, LCS_21 lc, LCn_21 lc, LCS_22 lc, LCn_22 lc, LCS_23 lc, LCn_23 lc, LCS_24 lc, LCn_24 lc, LCS_25 lc, LCn_25 lc, LCS_26 lc, LCn_26 lc, LCS_27 lc, LCn_27 lc, LCS_28 lc, LCn_28 lc, LCS_29 lc, LCn_29 lc, LCS_30 lc, LCn_30 lc, LCS_31 lc, LCn_31 lc, LCS_32 lc, LCn_32 lc, LCS_33 lc, LCn_33 lc, LCS_34 lc, LCn_34 lc, LCS_35 lc, LCn_35 lc, LCS_36 lc, LCn_36 lc, LCS_37 lc, LCn_37 lc, LCS_38 lc, LCn_38 lc, LCS_39 lc, LCn_39 lc, LCS_40 lc, LCn_40 lc, LCS_41 lc, LCn_41 lc, LCA_0_0 lc, LCA_0_1 lc, LCA_0_2 lc, LCA_0_3 lc, LCA_0_4 lc, LCA_0_5 lc, LCA_1_0 lc, LCA_1_1 lc, LCA_1_2 lc, LCA_2_0 lc, LCA_2_1 lc, LCA_5_0 lc, LCA_5_2 lc, LCA_5_3 lc, LCA_10_0 lc, LCA_10_2 lc, LCA_10_3 lc, LCA_10_4 lc, LCA_10_8 lc, LCA_16_0 lc, LCA_16_1 lc, LCA_16_4 lc, LCA_17_0 lc, LCA_17_1 lc, LCA_17_2 lc, LCA_24_0 lc, LCA_24_1 lc, LCA_25_0 lc, LCA_25_1 lc, LCA_25_2 lc, LCA_30_0 lc, LCA_30_1 lc, LCA_30_2 lc, LCA_30_3 lc, LCA_31_0 lc, LCA_31_1 lc, LCA_34_0 lc, LCA_36_0 lc, LCA_38_0 lc, LCA_40_0 lc, show ¬ nI 0 < 0 from by decide, show nI 0 ≤ 1 from by decide, show nI 0 = 0 from rfl, show ¬ (0 : Int32) < 0 from by decide, show (0 : Int32) ≤ 1 from by decide, C_now8 lc, C_now6 lc, e42, ebo, e44, eH, nI_1, em]
    refine gainC lc hA (c := 4) (j := 2) (v := nI (min 6 (bo + 1))) iT iD t6 t5 (by rw [e43]; exact elo) hlo9 p2 p1 (by rw [e42]; exact ebo) hbo6 (by rw [e44]; exact eH) hH6 (by rw [wr_at]) (show min 6 (bo + 1) ≤ 6 by omega) hH6 (by rw [wr_at_ne (by decide), e43]; exact elo) hlo9 (Or.inr rfl) (fun h => C_now6 h) (fun h => River_chg_all (w := 6) h (by decide) (by decide)) (fun I1 J1 A1 hE gA hN => ?_)
    simp only [s106_61, isR_ref, isR_nul, isR_ra, nl_int, nl_ref, nl_jk, nl_ra, nl_nul, rf_some, rf_none, nc_nil, nc_i, nc_l, nc_r, nc_n, nc_x, true_and, and_true, and_self, if_true, if_false, ite_true, ite_false, Option.toList_some, Option.toList_none, List.cons_append, List.nil_append, nar_b1, nar_b0, T_ite, reduceIte, reduceCtorEq, one_ne, eq_self, mkC_t, hn_t, va_up_same, not_true_eq_false, not_false_eq_true, Nat.reduceLeDiff, Nat.reduceAdd, Nat.reduceEqDiff, Nat.reduceMul, Nat.reduceSub, Nat.reduceDiv, Nat.reduceMod, Nat.reduceLT, false_and, and_false, false_or, or_false, true_or, or_true, Nat.add_zero, Nat.zero_add, Nat.mul_zero, Nat.zero_mul, Nat.add_left_cancel_iff, Nat.add_right_cancel_iff]
    refine hQC _ _ ⟨_, rfl, by first | exact (see46 lm).1 | exact Nat.lt_of_lt_of_le (by decide) lm.1, by first | exact (see46 lm).2 | (show (S 46).1 = 11; rw [LMS_46 lm]), ?_⟩
    refine T_opq (fun Q hQ => ?_)
    have lm1 := LM_AE lm gA
    have e482 : I1 48 2 = nI bo := by rw [EA_at hE (by decide)]; exact ebo
    have e484 : I1 48 4 = nI H := by rw [EA_at hE (by decide)]; exact eH
    simp only [s179_0, s179_1, s179_2, s179_3, s179_6, s179_9, s179_12, s179_13, s179_14, s179_15, s179_18, s179_19, s179_20, s179_21, s179_24, s179_25, s179_26, isR_ref, isR_nul, isR_ra, nl_int, nl_ref, nl_jk, nl_ra, nl_nul, rf_some, rf_none, nc_nil, nc_i, nc_l, nc_r, nc_n, nc_x, true_and, and_true, and_self, if_true, if_false, ite_true, ite_false, Option.toList_some, Option.toList_none, List.cons_append, List.nil_append, nar_b1, nar_b0, T_ite, reduceIte, reduceCtorEq, one_ne, eq_self, mkC_t, hn_t, va_up_same, not_true_eq_false, not_false_eq_true, Nat.reduceLeDiff, Nat.reduceAdd, Nat.reduceEqDiff, Nat.reduceMul, Nat.reduceSub, Nat.reduceDiv, Nat.reduceMod, Nat.reduceLT, false_and, and_false, false_or, or_false, true_or, or_true, Nat.add_zero, Nat.zero_add, Nat.mul_zero, Nat.zero_mul, Nat.add_left_cancel_iff, Nat.add_right_cancel_iff, LMS_46 lm1, LMn_46 lm1, LMS_47 lm1, LMn_47 lm1, LMS_48 lm1, LMn_48 lm1, LMS_49 lm1, LMn_49 lm1, LMS_50 lm1, LMn_50 lm1, LMS_51 lm1, LMn_51 lm1, LMS_52 lm1, LMn_52 lm1, LMS_53 lm1, LMn_53 lm1, LMS_54 lm1, LMn_54 lm1, LMS_55 lm1, LMn_55 lm1, LMS_56 lm1, LMn_56 lm1, LMS_57 lm1, LMn_57 lm1, LMS_58 lm1, LMn_58 lm1, LMS_59 lm1, LMn_59 lm1, LMS_60 lm1, LMn_60 lm1, LMS_61 lm1, LMn_61 lm1, LMS_62 lm1, LMn_62 lm1, LMS_63 lm1, LMn_63 lm1, LMS_64 lm1, LMn_64 lm1, LMS_65 lm1, LMn_65 lm1, LMS_66 lm1, LMn_66 lm1, LMS_67 lm1, LMn_67 lm1, LMA_46_2 lm1, LMA_46_3 lm1, LMA_46_5 lm1, LMA_46_6 lm1, LMA_46_7 lm1, LMA_46_11 lm1, LMA_46_12 lm1, LMA_46_13 lm1, LMA_46_21 lm1, LMA_46_22 lm1, LMA_46_23 lm1, LMA_46_24 lm1, LMA_46_25 lm1, LMA_46_26 lm1, LMA_46_27 lm1, LMA_46_31 lm1, LMA_46_32 lm1, LMA_46_33 lm1, LMA_46_34 lm1, LMA_46_35 lm1, LMA_46_36 lm1, M_in, b01_0, show (0 : Int32) ≤ 0 ∧ (0 : Int32) ≤ 1 from by decide, show vp_in 2 5 from vpin (k := 2) (by decide) ▸ (by decide), show (2 : Int32).toNatClampNeg = 2 from rfl, show vp_in 4 5 from vpin (k := 4) (by decide) ▸ (by decide), show (4 : Int32).toNatClampNeg = 4 from rfl, e482, e484]
    refine valueNow lm1 (IvT_AE iT gA) (IvD_AE iD gA) t7 t5 elo hlo9 p3 p1 hbo6 hH6 hE (fun I2 J2 hE2 => ?_)
    have f482 : I2 48 2 = nI bo := by rw [EA_at hE2 (by decide)]; exact ebo
    have f484 : I2 48 4 = nI H := by rw [EA_at hE2 (by decide)]; exact eH
    simp only [s179_29, s179_30, s179_31, s179_32, s179_35, s179_36, s179_39, s179_40, s179_41, s179_42, s179_43, s179_44, s179_46, s179_49, s179_52, s179_53, s179_56, s179_57, s179_58, s179_59, s179_60, s179_63, s179_64, s179_67, s179_68, s179_69, s179_70, s179_71, s179_72, s179_74, s179_77, s179_80, s179_81, s179_84, s179_85, s179_86, isR_ref, isR_nul, isR_ra, nl_int, nl_ref, nl_jk, nl_ra, nl_nul, rf_some, rf_none, nc_nil, nc_i, nc_l, nc_r, nc_n, nc_x, true_and, and_true, and_self, if_true, if_false, ite_true, ite_false, Option.toList_some, Option.toList_none, List.cons_append, List.nil_append, nar_b1, nar_b0, T_ite, reduceIte, reduceCtorEq, one_ne, eq_self, mkC_t, hn_t, va_up_same, not_true_eq_false, not_false_eq_true, Nat.reduceLeDiff, Nat.reduceAdd, Nat.reduceEqDiff, Nat.reduceMul, Nat.reduceSub, Nat.reduceDiv, Nat.reduceMod, Nat.reduceLT, false_and, and_false, false_or, or_false, true_or, or_true, Nat.add_zero, Nat.zero_add, Nat.mul_zero, Nat.zero_mul, Nat.add_left_cancel_iff, Nat.add_right_cancel_iff, LMS_46 lm1, LMn_46 lm1, LMS_47 lm1, LMn_47 lm1, LMS_48 lm1, LMn_48 lm1, LMS_49 lm1, LMn_49 lm1, LMS_50 lm1, LMn_50 lm1, LMS_51 lm1, LMn_51 lm1, LMS_52 lm1, LMn_52 lm1, LMS_53 lm1, LMn_53 lm1, LMS_54 lm1, LMn_54 lm1, LMS_55 lm1, LMn_55 lm1, LMS_56 lm1, LMn_56 lm1, LMS_57 lm1, LMn_57 lm1, LMS_58 lm1, LMn_58 lm1, LMS_59 lm1, LMn_59 lm1, LMS_60 lm1, LMn_60 lm1, LMS_61 lm1, LMn_61 lm1, LMS_62 lm1, LMn_62 lm1, LMS_63 lm1, LMn_63 lm1, LMS_64 lm1, LMn_64 lm1, LMS_65 lm1, LMn_65 lm1, LMS_66 lm1, LMn_66 lm1, LMS_67 lm1, LMn_67 lm1, LMA_46_2 lm1, LMA_46_3 lm1, LMA_46_5 lm1, LMA_46_6 lm1, LMA_46_7 lm1, LMA_46_11 lm1, LMA_46_12 lm1, LMA_46_13 lm1, LMA_46_21 lm1, LMA_46_22 lm1, LMA_46_23 lm1, LMA_46_24 lm1, LMA_46_25 lm1, LMA_46_26 lm1, LMA_46_27 lm1, LMA_46_31 lm1, LMA_46_32 lm1, LMA_46_33 lm1, LMA_46_34 lm1, LMA_46_35 lm1, LMA_46_36 lm1, show vp_in 2 5 from vpin (k := 2) (by decide) ▸ (by decide), show (2 : Int32).toNatClampNeg = 2 from rfl, show vp_in 4 5 from vpin (k := 4) (by decide) ▸ (by decide), show (4 : Int32).toNatClampNeg = 4 from rfl, f482, f484, nI_1, M_held, eh, show ¬ (0 : Int32) = 1 from by decide]
    refine valueNow lm1 (IvT_AE iT gA) (IvD_AE iD gA) t7 t5 elo hlo9 p3 p1 (show min 6 (bo + 1) ≤ 6 by omega) hH6 hE2 (fun I3 J3 hE3 => ?_)
    simp only [s179_89, s179_90, s179_91, isR_ref, isR_nul, isR_ra, nl_int, nl_ref, nl_jk, nl_ra, nl_nul, rf_some, rf_none, nc_nil, nc_i, nc_l, nc_r, nc_n, nc_x, true_and, and_true, and_self, if_true, if_false, ite_true, ite_false, Option.toList_some, Option.toList_none, List.cons_append, List.nil_append, nar_b1, nar_b0, T_ite, reduceIte, reduceCtorEq, one_ne, eq_self, mkC_t, hn_t, va_up_same, not_true_eq_false, not_false_eq_true, Nat.reduceLeDiff, Nat.reduceAdd, Nat.reduceEqDiff, Nat.reduceMul, Nat.reduceSub, Nat.reduceDiv, Nat.reduceMod, Nat.reduceLT, false_and, and_false, false_or, or_false, true_or, or_true, Nat.add_zero, Nat.zero_add, Nat.mul_zero, Nat.zero_mul, Nat.add_left_cancel_iff, Nat.add_right_cancel_iff]
    have hv2 := VVeq (m := m) (Ic := wr I 4 2 (nI (min 6 (bo + 1)))) (Im := I) iT t5 iP gA (by funext k; simp only [wr_rd, isR_ref, isR_nul, isR_ra, nl_int, nl_ref, nl_jk, nl_ra, nl_nul, rf_some, rf_none, nc_nil, nc_i, nc_l, nc_r, nc_n, nc_x, true_and, and_true, and_self, if_true, if_false, ite_true, ite_false, Option.toList_some, Option.toList_none, List.cons_append, List.nil_append, nar_b1, nar_b0, T_ite, reduceIte, reduceCtorEq, one_ne, eq_self, mkC_t, hn_t, va_up_same, not_true_eq_false, not_false_eq_true, Nat.reduceLeDiff, Nat.reduceAdd, Nat.reduceEqDiff, Nat.reduceMul, Nat.reduceSub, Nat.reduceDiv, Nat.reduceMod, Nat.reduceLT, false_and, and_false, false_or, or_false, true_or, or_true, Nat.add_zero, Nat.zero_add, Nat.mul_zero, Nat.zero_mul, Nat.add_left_cancel_iff, Nat.add_right_cancel_iff]) (fun j hj => by rw [wr_at_ne (by omega)]) rfl (fun _ _ => rfl) (by rw [wr_ne (by decide)]) (by rw [wr_ne (by decide)]) rfl rfl (fun r hr => by rw [wr_ne (okA_ne hr (by omega))]) (fun _ _ => rfl)
    rw [← CVV_eq (hv A1 gA) (b := bo) (h := H) (Nat.le_refl _), ← CVV_eq hv2 (b := min 6 (bo + 1)) (h := H) (Nat.le_refl _)]
    exact hQ _ _ ⟨rfl, Inv_sc (IvL_AE iL gA hN) gA.1 iP iD iT iB iI iS hE3, Nat.le_add_right _ _, Nat.le_add_right _ _⟩
  · have em : (if nI (H + 2) < 60 then nI (H + 2) else 60) = nI (min 60 (H + 2)) := minN (b := 60) (by omega) (by decide)
    have eh : (if 0 ≤ nI (H + 2) then if nI (H + 2) ≤ 60 then nI (H + 2) else 60 else 0) = nI (min 60 (H + 2)) := heldN (g := 60) (by omega) (by decide)
    have ea : nI H + 2 = nI (H + 2) := nI_add H 2
    simp only [s106_0, s106_1, s106_4, s106_5, s106_6, s106_9, s106_12, s106_13, s106_14, s106_17, s106_20, s106_22, s106_23, s106_26, s106_27, s106_28, s106_31, s106_33, s106_34, s106_37, s106_40, s106_42, s106_43, s106_46, s106_47, s106_48, s106_51, s106_52, s106_53, s106_55, s106_56, s106_57, s106_58, s106_61, s106_62, s106_64, s106_65, s106_66, s106_67, s106_70, s106_71, s106_72, s106_74, s106_75, s106_76, s106_77, isR_ref, isR_nul, isR_ra, nl_int, nl_ref, nl_jk, nl_ra, nl_nul, rf_some, rf_none, nc_nil, nc_i, nc_l, nc_r, nc_n, nc_x, true_and, and_true, and_self, if_true, if_false, ite_true, ite_false, Option.toList_some, Option.toList_none, List.cons_append, List.nil_append, nar_b1, nar_b0, T_ite, reduceIte, reduceCtorEq, one_ne, eq_self, mkC_t, hn_t, va_up_same, not_true_eq_false, not_false_eq_true, Nat.reduceLeDiff, Nat.reduceAdd, Nat.reduceEqDiff, Nat.reduceMul, Nat.reduceSub, Nat.reduceDiv, Nat.reduceMod, Nat.reduceLT, false_and, and_false, false_or, or_false, true_or, or_true, Nat.add_zero, Nat.zero_add, Nat.mul_zero, Nat.zero_mul, Nat.add_left_cancel_iff, Nat.add_right_cancel_iff, LCS_0 lc, LCn_0 lc, LCS_1 lc, LCn_1 lc, LCS_2 lc, LCn_2 lc, LCS_3 lc, LCn_3 lc, LCS_4 lc, LCn_4 lc, LCS_5 lc, LCn_5 lc, LCS_6 lc, LCn_6 lc, LCS_7 lc, LCn_7 lc, LCS_8 lc, LCn_8 lc, LCS_9 lc, LCn_9 lc, LCS_10 lc, LCn_10 lc, LCS_11 lc, LCn_11 lc, LCS_12 lc, LCn_12 lc, LCS_13 lc, LCn_13 lc, LCS_14 lc, LCn_14 lc, LCS_15 lc, LCn_15 lc, LCS_16 lc, LCn_16 lc, LCS_17 lc, LCn_17 lc, LCS_18 lc, LCn_18 lc, LCS_19 lc, LCn_19 lc, LCS_20 lc, LCn_20 lc, LCS_21 lc, LCn_21 lc, LCS_22 lc, LCn_22 lc, LCS_23 lc, LCn_23 lc, LCS_24 lc, LCn_24 lc, LCS_25 lc, LCn_25 lc, LCS_26 lc, LCn_26 lc, LCS_27 lc, LCn_27 lc, LCS_28 lc, LCn_28 lc, LCS_29 lc, LCn_29 lc, LCS_30 lc, LCn_30 lc, LCS_31 lc, LCn_31 lc, LCS_32 lc, LCn_32 lc, LCS_33 lc, LCn_33 lc, LCS_34 lc, LCn_34 lc, LCS_35 lc, LCn_35 lc, LCS_36 lc, LCn_36 lc, LCS_37 lc, LCn_37 lc, LCS_38 lc, LCn_38 lc, LCS_39 lc, LCn_39 lc, LCS_40 lc, LCn_40 lc, LCS_41 lc, LCn_41 lc, LCA_0_0 lc, LCA_0_1 lc, LCA_0_2 lc, LCA_0_3 lc, LCA_0_4 lc, LCA_0_5 lc, LCA_1_0 lc, LCA_1_1 lc, LCA_1_2 lc, LCA_2_0 lc, LCA_2_1 lc, LCA_5_0 lc, LCA_5_2 lc, LCA_5_3 lc, LCA_10_0 lc, LCA_10_2 lc, LCA_10_3 lc, LCA_10_4 lc, LCA_10_8 lc, LCA_16_0 lc, LCA_16_1 lc, LCA_16_4 lc, LCA_17_0 lc, LCA_17_1 lc, LCA_17_2 lc, LCA_24_0 lc, LCA_24_1 lc, LCA_25_0 lc, LCA_25_1 lc, LCA_25_2 lc, LCA_30_0 lc, LCA_30_1 lc, LCA_30_2 lc, LCA_30_3 lc, LCA_31_0 lc, LCA_31_1 lc, LCA_34_0 lc, LCA_36_0 lc, LCA_38_0 lc, LCA_40_0 lc, show nI 1 = 1 from rfl, show ¬ (1 : Int32) < 0 from by decide, Int32.le_refl, C_now8 lc, e44, eH, ea, em]
    refine gainC lc hA (c := 4) (j := 4) (v := nI (min 60 (H + 2))) iT iD t6 t5 (by rw [e43]; exact elo) hlo9 p2 p1 (by rw [e42]; exact ebo) hbo6 (by rw [e44]; exact eH) hH6 (by rw [wr_at_ne (by decide), e42]; exact ebo) hbo6 (show min 60 (H + 2) ≤ 60 by omega) (by rw [wr_at_ne (by decide), e43]; exact elo) hlo9 (Or.inr rfl) (fun h => C_now8 h) (fun h => River_chg_all (w := 8) h (by decide) (by decide)) (fun I1 J1 A1 hE gA hN => ?_)
    simp only [s106_80, isR_ref, isR_nul, isR_ra, nl_int, nl_ref, nl_jk, nl_ra, nl_nul, rf_some, rf_none, nc_nil, nc_i, nc_l, nc_r, nc_n, nc_x, true_and, and_true, and_self, if_true, if_false, ite_true, ite_false, Option.toList_some, Option.toList_none, List.cons_append, List.nil_append, nar_b1, nar_b0, T_ite, reduceIte, reduceCtorEq, one_ne, eq_self, mkC_t, hn_t, va_up_same, not_true_eq_false, not_false_eq_true, Nat.reduceLeDiff, Nat.reduceAdd, Nat.reduceEqDiff, Nat.reduceMul, Nat.reduceSub, Nat.reduceDiv, Nat.reduceMod, Nat.reduceLT, false_and, and_false, false_or, or_false, true_or, or_true, Nat.add_zero, Nat.zero_add, Nat.mul_zero, Nat.zero_mul, Nat.add_left_cancel_iff, Nat.add_right_cancel_iff]
    refine hQC _ _ ⟨_, rfl, by first | exact (see46 lm).1 | exact Nat.lt_of_lt_of_le (by decide) lm.1, by first | exact (see46 lm).2 | (show (S 46).1 = 11; rw [LMS_46 lm]), ?_⟩
    refine T_opq (fun Q hQ => ?_)
    have lm1 := LM_AE lm gA
    have e482 : I1 48 2 = nI bo := by rw [EA_at hE (by decide)]; exact ebo
    have e484 : I1 48 4 = nI H := by rw [EA_at hE (by decide)]; exact eH
    simp only [s179_0, s179_1, s179_2, s179_3, s179_6, s179_9, s179_12, s179_13, s179_14, s179_15, s179_18, s179_19, s179_20, s179_21, s179_24, s179_25, s179_26, isR_ref, isR_nul, isR_ra, nl_int, nl_ref, nl_jk, nl_ra, nl_nul, rf_some, rf_none, nc_nil, nc_i, nc_l, nc_r, nc_n, nc_x, true_and, and_true, and_self, if_true, if_false, ite_true, ite_false, Option.toList_some, Option.toList_none, List.cons_append, List.nil_append, nar_b1, nar_b0, T_ite, reduceIte, reduceCtorEq, one_ne, eq_self, mkC_t, hn_t, va_up_same, not_true_eq_false, not_false_eq_true, Nat.reduceLeDiff, Nat.reduceAdd, Nat.reduceEqDiff, Nat.reduceMul, Nat.reduceSub, Nat.reduceDiv, Nat.reduceMod, Nat.reduceLT, false_and, and_false, false_or, or_false, true_or, or_true, Nat.add_zero, Nat.zero_add, Nat.mul_zero, Nat.zero_mul, Nat.add_left_cancel_iff, Nat.add_right_cancel_iff, LMS_46 lm1, LMn_46 lm1, LMS_47 lm1, LMn_47 lm1, LMS_48 lm1, LMn_48 lm1, LMS_49 lm1, LMn_49 lm1, LMS_50 lm1, LMn_50 lm1, LMS_51 lm1, LMn_51 lm1, LMS_52 lm1, LMn_52 lm1, LMS_53 lm1, LMn_53 lm1, LMS_54 lm1, LMn_54 lm1, LMS_55 lm1, LMn_55 lm1, LMS_56 lm1, LMn_56 lm1, LMS_57 lm1, LMn_57 lm1, LMS_58 lm1, LMn_58 lm1, LMS_59 lm1, LMn_59 lm1, LMS_60 lm1, LMn_60 lm1, LMS_61 lm1, LMn_61 lm1, LMS_62 lm1, LMn_62 lm1, LMS_63 lm1, LMn_63 lm1, LMS_64 lm1, LMn_64 lm1, LMS_65 lm1, LMn_65 lm1, LMS_66 lm1, LMn_66 lm1, LMS_67 lm1, LMn_67 lm1, LMA_46_2 lm1, LMA_46_3 lm1, LMA_46_5 lm1, LMA_46_6 lm1, LMA_46_7 lm1, LMA_46_11 lm1, LMA_46_12 lm1, LMA_46_13 lm1, LMA_46_21 lm1, LMA_46_22 lm1, LMA_46_23 lm1, LMA_46_24 lm1, LMA_46_25 lm1, LMA_46_26 lm1, LMA_46_27 lm1, LMA_46_31 lm1, LMA_46_32 lm1, LMA_46_33 lm1, LMA_46_34 lm1, LMA_46_35 lm1, LMA_46_36 lm1, M_in, b01_0, show (0 : Int32) ≤ 1 ∧ (1 : Int32) ≤ 1 from by decide, show vp_in 2 5 from vpin (k := 2) (by decide) ▸ (by decide), show (2 : Int32).toNatClampNeg = 2 from rfl, show vp_in 4 5 from vpin (k := 4) (by decide) ▸ (by decide), show (4 : Int32).toNatClampNeg = 4 from rfl, e482, e484]
    refine valueNow lm1 (IvT_AE iT gA) (IvD_AE iD gA) t7 t5 elo hlo9 p3 p1 hbo6 hH6 hE (fun I2 J2 hE2 => ?_)
    have f482 : I2 48 2 = nI bo := by rw [EA_at hE2 (by decide)]; exact ebo
    have f484 : I2 48 4 = nI H := by rw [EA_at hE2 (by decide)]; exact eH
    simp only [s179_29, s179_30, s179_31, s179_32, s179_35, s179_36, s179_39, s179_40, s179_41, s179_42, s179_43, s179_44, s179_46, s179_49, s179_52, s179_53, s179_56, s179_57, s179_58, s179_59, s179_60, s179_63, s179_64, s179_67, s179_68, s179_69, s179_70, s179_71, s179_72, s179_74, s179_77, s179_80, s179_81, s179_84, s179_85, s179_86, isR_ref, isR_nul, isR_ra, nl_int, nl_ref, nl_jk, nl_ra, nl_nul, rf_some, rf_none, nc_nil, nc_i, nc_l, nc_r, nc_n, nc_x, true_and, and_true, and_self, if_true, if_false, ite_true, ite_false, Option.toList_some, Option.toList_none, List.cons_append, List.nil_append, nar_b1, nar_b0, T_ite, reduceIte, reduceCtorEq, one_ne, eq_self, mkC_t, hn_t, va_up_same, not_true_eq_false, not_false_eq_true, Nat.reduceLeDiff, Nat.reduceAdd, Nat.reduceEqDiff, Nat.reduceMul, Nat.reduceSub, Nat.reduceDiv, Nat.reduceMod, Nat.reduceLT, false_and, and_false, false_or, or_false, true_or, or_true, Nat.add_zero, Nat.zero_add, Nat.mul_zero, Nat.zero_mul, Nat.add_left_cancel_iff, Nat.add_right_cancel_iff, LMS_46 lm1, LMn_46 lm1, LMS_47 lm1, LMn_47 lm1, LMS_48 lm1, LMn_48 lm1, LMS_49 lm1, LMn_49 lm1, LMS_50 lm1, LMn_50 lm1, LMS_51 lm1, LMn_51 lm1, LMS_52 lm1, LMn_52 lm1, LMS_53 lm1, LMn_53 lm1, LMS_54 lm1, LMn_54 lm1, LMS_55 lm1, LMn_55 lm1, LMS_56 lm1, LMn_56 lm1, LMS_57 lm1, LMn_57 lm1, LMS_58 lm1, LMn_58 lm1, LMS_59 lm1, LMn_59 lm1, LMS_60 lm1, LMn_60 lm1, LMS_61 lm1, LMn_61 lm1, LMS_62 lm1, LMn_62 lm1, LMS_63 lm1, LMn_63 lm1, LMS_64 lm1, LMn_64 lm1, LMS_65 lm1, LMn_65 lm1, LMS_66 lm1, LMn_66 lm1, LMS_67 lm1, LMn_67 lm1, LMA_46_2 lm1, LMA_46_3 lm1, LMA_46_5 lm1, LMA_46_6 lm1, LMA_46_7 lm1, LMA_46_11 lm1, LMA_46_12 lm1, LMA_46_13 lm1, LMA_46_21 lm1, LMA_46_22 lm1, LMA_46_23 lm1, LMA_46_24 lm1, LMA_46_25 lm1, LMA_46_26 lm1, LMA_46_27 lm1, LMA_46_31 lm1, LMA_46_32 lm1, LMA_46_33 lm1, LMA_46_34 lm1, LMA_46_35 lm1, LMA_46_36 lm1, show vp_in 2 5 from vpin (k := 2) (by decide) ▸ (by decide), show (2 : Int32).toNatClampNeg = 2 from rfl, show vp_in 4 5 from vpin (k := 4) (by decide) ▸ (by decide), show (4 : Int32).toNatClampNeg = 4 from rfl, f482, f484, M_held, ea, eh]
    refine valueNow lm1 (IvT_AE iT gA) (IvD_AE iD gA) t7 t5 elo hlo9 p3 p1 hbo6 (show min 60 (H + 2) ≤ 60 by omega) hE2 (fun I3 J3 hE3 => ?_)
    simp only [s179_89, s179_90, s179_91, isR_ref, isR_nul, isR_ra, nl_int, nl_ref, nl_jk, nl_ra, nl_nul, rf_some, rf_none, nc_nil, nc_i, nc_l, nc_r, nc_n, nc_x, true_and, and_true, and_self, if_true, if_false, ite_true, ite_false, Option.toList_some, Option.toList_none, List.cons_append, List.nil_append, nar_b1, nar_b0, T_ite, reduceIte, reduceCtorEq, one_ne, eq_self, mkC_t, hn_t, va_up_same, not_true_eq_false, not_false_eq_true, Nat.reduceLeDiff, Nat.reduceAdd, Nat.reduceEqDiff, Nat.reduceMul, Nat.reduceSub, Nat.reduceDiv, Nat.reduceMod, Nat.reduceLT, false_and, and_false, false_or, or_false, true_or, or_true, Nat.add_zero, Nat.zero_add, Nat.mul_zero, Nat.zero_mul, Nat.add_left_cancel_iff, Nat.add_right_cancel_iff]
    have hv2 := VVeq (m := m) (Ic := wr I 4 4 (nI (min 60 (H + 2)))) (Im := I) iT t5 iP gA (by funext k; simp only [wr_rd, isR_ref, isR_nul, isR_ra, nl_int, nl_ref, nl_jk, nl_ra, nl_nul, rf_some, rf_none, nc_nil, nc_i, nc_l, nc_r, nc_n, nc_x, true_and, and_true, and_self, if_true, if_false, ite_true, ite_false, Option.toList_some, Option.toList_none, List.cons_append, List.nil_append, nar_b1, nar_b0, T_ite, reduceIte, reduceCtorEq, one_ne, eq_self, mkC_t, hn_t, va_up_same, not_true_eq_false, not_false_eq_true, Nat.reduceLeDiff, Nat.reduceAdd, Nat.reduceEqDiff, Nat.reduceMul, Nat.reduceSub, Nat.reduceDiv, Nat.reduceMod, Nat.reduceLT, false_and, and_false, false_or, or_false, true_or, or_true, Nat.add_zero, Nat.zero_add, Nat.mul_zero, Nat.zero_mul, Nat.add_left_cancel_iff, Nat.add_right_cancel_iff]) (fun j hj => by rw [wr_at_ne (by omega)]) rfl (fun _ _ => rfl) (by rw [wr_ne (by decide)]) (by rw [wr_ne (by decide)]) rfl rfl (fun r hr => by rw [wr_ne (okA_ne hr (by omega))]) (fun _ _ => rfl)
    rw [← CVV_eq (hv A1 gA) (b := bo) (h := H) (Nat.le_refl _), ← CVV_eq hv2 (b := bo) (h := min 60 (H + 2)) (Nat.le_refl _)]
    exact hQ _ _ ⟨rfl, Inv_sc (IvL_AE iL gA hN) gA.1 iP iD iT iB iI iS hE3, Nat.le_add_right _ _, Nat.le_add_right _ _⟩
/-- the fewest half days of a place, with 1 added (0: no doing may) -/
def fwF (my : Nat → Bool) (tk : Nat → Nat) : Nat → Nat
  | 0 => 0
  | i + 1 => if my i = true ∧ (fwF my tk i = 0 ∨ tk i + 1 < fwF my tk i) then tk i + 1 else fwF my tk i
theorem fwF_0 {my : Nat → Bool} {tk : Nat → Nat} : ∀ m, fwF my tk m = 0 ↔ ∀ i, i < m → ¬ my i = true := by
  intro m
  induction m with
  | zero => exact ⟨fun _ i h => by omega, fun _ => rfl⟩
  | succ m ih =>
    rw [fwF]
    constructor
    · intro h i hi
      split at h
      · omega
      · next hc =>
        by_cases him : i = m
        · subst him
          intro hm
          exact hc ⟨hm, Or.inl h⟩
        · exact ih.mp h i (by omega)
    · intro h
      rw [if_neg (fun hc => h m (by omega) hc.1)]
      exact ih.mpr (fun i hi => h i (by omega))
theorem fwF_s {my : Nat → Bool} {tk : Nat → Nat} : ∀ m, fwF my tk m ≠ 0 → (∃ i, i < m ∧ my i = true ∧ tk i + 1 = fwF my tk m) ∧ ∀ i, i < m → my i = true → fwF my tk m ≤ tk i + 1 := by
  intro m
  induction m with
  | zero => intro h; exact absurd rfl h
  | succ m ih =>
    intro h
    rw [fwF] at h ⊢
    by_cases hc : my m = true ∧ (fwF my tk m = 0 ∨ tk m + 1 < fwF my tk m)
    · rw [if_pos hc]
      refine ⟨⟨m, by omega, hc.1, rfl⟩, fun i hi hm => ?_⟩
      by_cases him : i = m
      · subst him; exact Nat.le_refl _
      · rcases hc.2 with h0 | h1
        · exact absurd hm ((fwF_0 m).mp h0 i (by omega))
        · have := (ih (by omega)).2 i (by omega) hm
          omega
    · rw [if_neg hc] at h ⊢
      obtain ⟨⟨i, h1, h2, h3⟩, h4⟩ := ih h
      refine ⟨⟨i, by omega, h2, h3⟩, fun i hi hm => ?_⟩
      by_cases him : i = m
      · subst him
        exact Nat.le_of_not_lt (fun hlt => hc ⟨hm, Or.inr hlt⟩)
      · exact h4 i (by omega) hm
/-- all together from the place np - j on, with 1 added -/
def FS (np m : Nat) (my : Nat → Nat → Bool) (tk : Nat → Nat) : Nat → Nat
  | 0 => 1
  | j + 1 => if fwF (fun i => my i (np - 1 - j)) tk m = 0 ∨ FS np m my tk j = 0 then 0 else fwF (fun i => my i (np - 1 - j)) tk m - 1 + FS np m my tk j
theorem VV_FS {np m w0 : Nat} {my : Nat → Nat → Bool} {tk : Nat → Nat} {rk wt : Nat → Nat → Nat} : ∀ (j b h : Nat), VV np m w0 my tk rk wt j b h ≠ 0 ↔ FS np m my tk j ≠ 0 ∧ FS np m my tk j ≤ h + 1 := by
  intro j
  induction j with
  | zero => intro b h; rw [VV, FS]; omega
  | succ j ih =>
    intro b h
    rw [VV, bs_pos, FS]
    have h0 := fwF_0 (my := fun i => my i (np - 1 - j)) (tk := tk) m
    have hs := fwF_s (my := fun i => my i (np - 1 - j)) (tk := tk) m
    constructor
    · rintro ⟨i, h1, h2, h3, h4⟩
      obtain ⟨h5, h6⟩ := (ih b (h - tk i)).mp h4
      have hf : fwF (fun i => my i (np - 1 - j)) tk m ≠ 0 := fun e => h0.mp e i h1 h2
      have := (hs hf).2 i h1 h2
      rw [if_neg (by omega)]
      omega
    · rintro ⟨h1, h2⟩
      split at h1
      · exact absurd rfl h1
      · next hc =>
        rw [if_neg hc] at h2
        have hf : fwF (fun i => my i (np - 1 - j)) tk m ≠ 0 := fun e => hc (Or.inl e)
        obtain ⟨⟨i, q1, q2, q3⟩, _⟩ := hs hf
        have hF : FS np m my tk j ≠ 0 := fun e => hc (Or.inr e)
        exact ⟨i, q1, q2, by omega, (ih b (h - tk i)).mpr ⟨hF, by omega⟩⟩
theorem fwF_le {my : Nat → Bool} {tk : Nat → Nat} {m : Nat} (h : ∀ i, i < m → tk i ≤ 4) : fwF my tk m ≤ 5 := by
  by_cases h0 : fwF my tk m = 0
  · omega
  · obtain ⟨⟨i, h1, h2, h3⟩, _⟩ := fwF_s m h0
    have := h i h1
    omega
theorem fewest_l (hL : LC A S n) {m q : Nat} (iD : IvD I A S n m) (hq : q < 12) : ∀ (k i : Nat) (v4 : Value), i + k = m → T Ω (d + 2) 23 4 [.ref 1, .int (nI q), .int (ri (fwF (fun i => pMyC I i q) (tkN I) i)), .int (nI i), v4] [] (I, J, A, S, n, z) Q = Q (some (.int (ri (fwF (fun i => pMyC I i q) (tkN I) m)))) (I, J, A, S, n, z) := by
  have d1 := iD.1
  intro k
  induction k with
  | zero =>
    intro i v4 hi
    obtain rfl : i = m := by omega
    rw [s23_4]
    simp only [s23_5, s23_6, s23_9, s23_52, s23_53, isR_ref, isR_nul, isR_ra, nl_int, nl_ref, nl_jk, nl_ra, nl_nul, rf_some, rf_none, nc_nil, nc_i, nc_l, nc_r, nc_n, nc_x, true_and, and_true, and_self, if_true, if_false, ite_true, ite_false, Option.toList_some, Option.toList_none, List.cons_append, List.nil_append, nar_b1, nar_b0, T_ite, reduceIte, reduceCtorEq, one_ne, eq_self, mkC_t, hn_t, va_up_same, not_true_eq_false, not_false_eq_true, Nat.reduceLeDiff, Nat.reduceAdd, Nat.reduceEqDiff, Nat.reduceMul, Nat.reduceSub, Nat.reduceDiv, Nat.reduceMod, Nat.reduceLT, false_and, and_false, false_or, or_false, true_or, or_true, Nat.add_zero, Nat.zero_add, Nat.mul_zero, Nat.zero_mul, Nat.add_left_cancel_iff, Nat.add_right_cancel_iff, LCS_0 hL, LCn_0 hL, LCS_1 hL, LCn_1 hL, LCS_2 hL, LCn_2 hL, LCS_3 hL, LCn_3 hL, LCS_4 hL, LCn_4 hL, LCS_5 hL, LCn_5 hL, LCS_6 hL, LCn_6 hL, LCS_7 hL, LCn_7 hL, LCS_8 hL, LCn_8 hL, LCS_9 hL, LCn_9 hL, LCS_10 hL, LCn_10 hL, LCS_11 hL, LCn_11 hL, LCS_12 hL, LCn_12 hL, LCS_13 hL, LCn_13 hL, LCS_14 hL, LCn_14 hL, LCS_15 hL, LCn_15 hL, LCS_16 hL, LCn_16 hL, LCS_17 hL, LCn_17 hL, LCS_18 hL, LCn_18 hL, LCS_19 hL, LCn_19 hL, LCS_20 hL, LCn_20 hL, LCS_21 hL, LCn_21 hL, LCS_22 hL, LCn_22 hL, LCS_23 hL, LCn_23 hL, LCS_24 hL, LCn_24 hL, LCS_25 hL, LCn_25 hL, LCS_26 hL, LCn_26 hL, LCS_27 hL, LCn_27 hL, LCS_28 hL, LCn_28 hL, LCS_29 hL, LCn_29 hL, LCS_30 hL, LCn_30 hL, LCS_31 hL, LCn_31 hL, LCS_32 hL, LCn_32 hL, LCS_33 hL, LCn_33 hL, LCS_34 hL, LCn_34 hL, LCS_35 hL, LCn_35 hL, LCS_36 hL, LCn_36 hL, LCS_37 hL, LCn_37 hL, LCS_38 hL, LCn_38 hL, LCS_39 hL, LCn_39 hL, LCS_40 hL, LCn_40 hL, LCS_41 hL, LCn_41 hL, LCA_0_0 hL, LCA_0_1 hL, LCA_0_2 hL, LCA_0_3 hL, LCA_0_4 hL, LCA_0_5 hL, LCA_1_0 hL, LCA_1_1 hL, LCA_1_2 hL, LCA_2_0 hL, LCA_2_1 hL, LCA_5_0 hL, LCA_5_2 hL, LCA_5_3 hL, LCA_10_0 hL, LCA_10_2 hL, LCA_10_3 hL, LCA_10_4 hL, LCA_10_8 hL, LCA_16_0 hL, LCA_16_1 hL, LCA_16_4 hL, LCA_17_0 hL, LCA_17_1 hL, LCA_17_2 hL, LCA_24_0 hL, LCA_24_1 hL, LCA_25_0 hL, LCA_25_1 hL, LCA_25_2 hL, LCA_30_0 hL, LCA_30_1 hL, LCA_30_2 hL, LCA_30_3 hL, LCA_31_0 hL, LCA_31_1 hL, LCA_34_0 hL, LCA_36_0 hL, LCA_38_0 hL, LCA_40_0 hL, iD.2.1, Int32.le_refl]
  | succ k ih =>
    intro i v4 hi
    obtain ⟨a, kk, e, g1, g2, g3, g4, g5, g6, g7, g8, g9, g10, g11⟩ := IvD_at iD (show i < m by omega)
    have c1 : ¬ nI m ≤ nI i := nI_ge (by omega) (by omega)
    have htk := tkN_le iD (show i < m by omega)
    have hfw : fwF (fun i => pMyC I i q) (tkN I) i ≤ 5 := fwF_le (fun j hj => tkN_le iD (by omega))
    have key := ih (i + 1)
    rw [fwF] at key
    rw [s23_4]
    simp only [s23_5, s23_6, s23_9, s23_12, s23_13, s23_16, s23_17, s23_18, s23_21, s23_23, s23_24, s23_25, s23_26, s23_29, isR_ref, isR_nul, isR_ra, nl_int, nl_ref, nl_jk, nl_ra, nl_nul, rf_some, rf_none, nc_nil, nc_i, nc_l, nc_r, nc_n, nc_x, true_and, and_true, and_self, if_true, if_false, ite_true, ite_false, Option.toList_some, Option.toList_none, List.cons_append, List.nil_append, nar_b1, nar_b0, T_ite, reduceIte, reduceCtorEq, one_ne, eq_self, mkC_t, hn_t, va_up_same, not_true_eq_false, not_false_eq_true, Nat.reduceLeDiff, Nat.reduceAdd, Nat.reduceEqDiff, Nat.reduceMul, Nat.reduceSub, Nat.reduceDiv, Nat.reduceMod, Nat.reduceLT, false_and, and_false, false_or, or_false, true_or, or_true, Nat.add_zero, Nat.zero_add, Nat.mul_zero, Nat.zero_mul, Nat.add_left_cancel_iff, Nat.add_right_cancel_iff, LCS_0 hL, LCn_0 hL, LCS_1 hL, LCn_1 hL, LCS_2 hL, LCn_2 hL, LCS_3 hL, LCn_3 hL, LCS_4 hL, LCn_4 hL, LCS_5 hL, LCn_5 hL, LCS_6 hL, LCn_6 hL, LCS_7 hL, LCn_7 hL, LCS_8 hL, LCn_8 hL, LCS_9 hL, LCn_9 hL, LCS_10 hL, LCn_10 hL, LCS_11 hL, LCn_11 hL, LCS_12 hL, LCn_12 hL, LCS_13 hL, LCn_13 hL, LCS_14 hL, LCn_14 hL, LCS_15 hL, LCn_15 hL, LCS_16 hL, LCn_16 hL, LCS_17 hL, LCn_17 hL, LCS_18 hL, LCn_18 hL, LCS_19 hL, LCn_19 hL, LCS_20 hL, LCn_20 hL, LCS_21 hL, LCn_21 hL, LCS_22 hL, LCn_22 hL, LCS_23 hL, LCn_23 hL, LCS_24 hL, LCn_24 hL, LCS_25 hL, LCn_25 hL, LCS_26 hL, LCn_26 hL, LCS_27 hL, LCn_27 hL, LCS_28 hL, LCn_28 hL, LCS_29 hL, LCn_29 hL, LCS_30 hL, LCn_30 hL, LCS_31 hL, LCn_31 hL, LCS_32 hL, LCn_32 hL, LCS_33 hL, LCn_33 hL, LCS_34 hL, LCn_34 hL, LCS_35 hL, LCn_35 hL, LCS_36 hL, LCn_36 hL, LCS_37 hL, LCn_37 hL, LCS_38 hL, LCn_38 hL, LCS_39 hL, LCn_39 hL, LCS_40 hL, LCn_40 hL, LCS_41 hL, LCn_41 hL, LCA_0_0 hL, LCA_0_1 hL, LCA_0_2 hL, LCA_0_3 hL, LCA_0_4 hL, LCA_0_5 hL, LCA_1_0 hL, LCA_1_1 hL, LCA_1_2 hL, LCA_2_0 hL, LCA_2_1 hL, LCA_5_0 hL, LCA_5_2 hL, LCA_5_3 hL, LCA_10_0 hL, LCA_10_2 hL, LCA_10_3 hL, LCA_10_4 hL, LCA_10_8 hL, LCA_16_0 hL, LCA_16_1 hL, LCA_16_4 hL, LCA_17_0 hL, LCA_17_1 hL, LCA_17_2 hL, LCA_24_0 hL, LCA_24_1 hL, LCA_25_0 hL, LCA_25_1 hL, LCA_25_2 hL, LCA_30_0 hL, LCA_30_1 hL, LCA_30_2 hL, LCA_30_3 hL, LCA_31_0 hL, LCA_31_1 hL, LCA_34_0 hL, LCA_36_0 hL, LCA_38_0 hL, LCA_40_0 hL, iD.2.1, c1, vpin (show i < 2147483648 by omega), nI_cl (show i < 2147483648 by omega), g11, g1, g3, g4, halfK iD (show i < m by omega) g1 EA_refl, mayK hL iD (show i < m by omega) hq EA_refl]
    rcases my_01C (I := I) (i := i) (q := q) with hm | hm
    · rw [if_neg (by simp [pMyC, hm])] at key
      rw [if_pos hm]
      simp only [s23_46, s23_49, isR_ref, isR_nul, isR_ra, nl_int, nl_ref, nl_jk, nl_ra, nl_nul, rf_some, rf_none, nc_nil, nc_i, nc_l, nc_r, nc_n, nc_x, true_and, and_true, and_self, if_true, if_false, ite_true, ite_false, Option.toList_some, Option.toList_none, List.cons_append, List.nil_append, nar_b1, nar_b0, T_ite, reduceIte, reduceCtorEq, one_ne, eq_self, mkC_t, hn_t, va_up_same, not_true_eq_false, not_false_eq_true, Nat.reduceLeDiff, Nat.reduceAdd, Nat.reduceEqDiff, Nat.reduceMul, Nat.reduceSub, Nat.reduceDiv, Nat.reduceMod, Nat.reduceLT, false_and, and_false, false_or, or_false, true_or, or_true, Nat.add_zero, Nat.zero_add, Nat.mul_zero, Nat.zero_mul, Nat.add_left_cancel_iff, Nat.add_right_cancel_iff, nI_1]
      exact key _ (by omega)
    · have hmt : pMyC I i q = true := by simp [pMyC, hm]
      rw [if_neg (by rw [hm]; decide)]
      simp only [s23_32, s23_33, s23_34, isR_ref, isR_nul, isR_ra, nl_int, nl_ref, nl_jk, nl_ra, nl_nul, rf_some, rf_none, nc_nil, nc_i, nc_l, nc_r, nc_n, nc_x, true_and, and_true, and_self, if_true, if_false, ite_true, ite_false, Option.toList_some, Option.toList_none, List.cons_append, List.nil_append, nar_b1, nar_b0, T_ite, reduceIte, reduceCtorEq, one_ne, eq_self, mkC_t, hn_t, va_up_same, not_true_eq_false, not_false_eq_true, Nat.reduceLeDiff, Nat.reduceAdd, Nat.reduceEqDiff, Nat.reduceMul, Nat.reduceSub, Nat.reduceDiv, Nat.reduceMod, Nat.reduceLT, false_and, and_false, false_or, or_false, true_or, or_true, Nat.add_zero, Nat.zero_add, Nat.mul_zero, Nat.zero_mul, Nat.add_left_cancel_iff, Nat.add_right_cancel_iff]
      by_cases h0 : fwF (fun i => pMyC I i q) (tkN I) i = 0
      · rw [if_pos ⟨hmt, Or.inl h0⟩, ri_s] at key
        rw [h0, ri_0, if_pos rfl]
        simp only [s23_43, s23_45, s23_46, s23_49, isR_ref, isR_nul, isR_ra, nl_int, nl_ref, nl_jk, nl_ra, nl_nul, rf_some, rf_none, nc_nil, nc_i, nc_l, nc_r, nc_n, nc_x, true_and, and_true, and_self, if_true, if_false, ite_true, ite_false, Option.toList_some, Option.toList_none, List.cons_append, List.nil_append, nar_b1, nar_b0, T_ite, reduceIte, reduceCtorEq, one_ne, eq_self, mkC_t, hn_t, va_up_same, not_true_eq_false, not_false_eq_true, Nat.reduceLeDiff, Nat.reduceAdd, Nat.reduceEqDiff, Nat.reduceMul, Nat.reduceSub, Nat.reduceDiv, Nat.reduceMod, Nat.reduceLT, false_and, and_false, false_or, or_false, true_or, or_true, Nat.add_zero, Nat.zero_add, Nat.mul_zero, Nat.zero_mul, Nat.add_left_cancel_iff, Nat.add_right_cancel_iff, nI_1]
        exact key _ (by omega)
      · obtain ⟨u, hu⟩ : ∃ u, fwF (fun i => pMyC I i q) (tkN I) i = u + 1 := ⟨_, (Nat.sub_add_cancel (Nat.pos_of_ne_zero h0)).symm⟩
        have hne : ¬ nI u = -1 := by rw [so_m1 (by omega)]; simp
        rw [hu] at key ⊢
        rw [ri_s, if_neg hne]
        simp only [s23_37, s23_39, s23_40, isR_ref, isR_nul, isR_ra, nl_int, nl_ref, nl_jk, nl_ra, nl_nul, rf_some, rf_none, nc_nil, nc_i, nc_l, nc_r, nc_n, nc_x, true_and, and_true, and_self, if_true, if_false, ite_true, ite_false, Option.toList_some, Option.toList_none, List.cons_append, List.nil_append, nar_b1, nar_b0, T_ite, reduceIte, reduceCtorEq, one_ne, eq_self, mkC_t, hn_t, va_up_same, not_true_eq_false, not_false_eq_true, Nat.reduceLeDiff, Nat.reduceAdd, Nat.reduceEqDiff, Nat.reduceMul, Nat.reduceSub, Nat.reduceDiv, Nat.reduceMod, Nat.reduceLT, false_and, and_false, false_or, or_false, true_or, or_true, Nat.add_zero, Nat.zero_add, Nat.mul_zero, Nat.zero_mul, Nat.add_left_cancel_iff, Nat.add_right_cancel_iff, nI_le' (show u < 2147483648 by omega) (show tkN I i < 2147483648 by omega)]
        by_cases hlt : u ≤ tkN I i
        · rw [if_neg (by omega), ri_s] at key
          rw [if_pos hlt]
          simp only [s23_46, s23_49, isR_ref, isR_nul, isR_ra, nl_int, nl_ref, nl_jk, nl_ra, nl_nul, rf_some, rf_none, nc_nil, nc_i, nc_l, nc_r, nc_n, nc_x, true_and, and_true, and_self, if_true, if_false, ite_true, ite_false, Option.toList_some, Option.toList_none, List.cons_append, List.nil_append, nar_b1, nar_b0, T_ite, reduceIte, reduceCtorEq, one_ne, eq_self, mkC_t, hn_t, va_up_same, not_true_eq_false, not_false_eq_true, Nat.reduceLeDiff, Nat.reduceAdd, Nat.reduceEqDiff, Nat.reduceMul, Nat.reduceSub, Nat.reduceDiv, Nat.reduceMod, Nat.reduceLT, false_and, and_false, false_or, or_false, true_or, or_true, Nat.add_zero, Nat.zero_add, Nat.mul_zero, Nat.zero_mul, Nat.add_left_cancel_iff, Nat.add_right_cancel_iff, nI_1]
          exact key _ (by omega)
        · rw [if_pos ⟨hmt, Or.inr (by omega)⟩, ri_s] at key
          rw [if_neg hlt]
          simp only [s23_43, s23_45, s23_46, s23_49, isR_ref, isR_nul, isR_ra, nl_int, nl_ref, nl_jk, nl_ra, nl_nul, rf_some, rf_none, nc_nil, nc_i, nc_l, nc_r, nc_n, nc_x, true_and, and_true, and_self, if_true, if_false, ite_true, ite_false, Option.toList_some, Option.toList_none, List.cons_append, List.nil_append, nar_b1, nar_b0, T_ite, reduceIte, reduceCtorEq, one_ne, eq_self, mkC_t, hn_t, va_up_same, not_true_eq_false, not_false_eq_true, Nat.reduceLeDiff, Nat.reduceAdd, Nat.reduceEqDiff, Nat.reduceMul, Nat.reduceSub, Nat.reduceDiv, Nat.reduceMod, Nat.reduceLT, false_and, and_false, false_or, or_false, true_or, or_true, Nat.add_zero, Nat.zero_add, Nat.mul_zero, Nat.zero_mul, Nat.add_left_cancel_iff, Nat.add_right_cancel_iff, nI_1]
          exact key _ (by omega)
theorem last_l (hL : LC A S n) {m p : Nat} (iP : IvP I p) (iD : IvD I A S n m) : ∀ (k i tt : Nat) (v3 : Value), i + k = p → tt ≤ 4 * i → T Ω (d + 3) 108 4 [.ref 0, .int (nI tt), .int (nI i), v3] [] (I, J, A, S, n, z) Q = Q (some (.int (ri (if FS p m (pMyC I) (tkN I) k ≠ 0 ∧ tt + FS p m (pMyC I) (tkN I) k ≤ 61 then tt + FS p m (pMyC I) (tkN I) k else 0)))) (I, J, A, S, n, z) := by
  have p1 := iP.1
  intro k
  induction k with
  | zero =>
    intro i tt v3 hi htt
    obtain rfl : i = p := by omega
    rw [s108_4]
    simp only [s108_5, s108_6, s108_9, s108_12, s108_15, s108_44, s108_45, s108_47, s108_50, s108_51, s108_54, s108_55, isR_ref, isR_nul, isR_ra, nl_int, nl_ref, nl_jk, nl_ra, nl_nul, rf_some, rf_none, nc_nil, nc_i, nc_l, nc_r, nc_n, nc_x, true_and, and_true, and_self, if_true, if_false, ite_true, ite_false, Option.toList_some, Option.toList_none, List.cons_append, List.nil_append, nar_b1, nar_b0, T_ite, reduceIte, reduceCtorEq, one_ne, eq_self, mkC_t, hn_t, va_up_same, not_true_eq_false, not_false_eq_true, Nat.reduceLeDiff, Nat.reduceAdd, Nat.reduceEqDiff, Nat.reduceMul, Nat.reduceSub, Nat.reduceDiv, Nat.reduceMod, Nat.reduceLT, false_and, and_false, false_or, or_false, true_or, or_true, Nat.add_zero, Nat.zero_add, Nat.mul_zero, Nat.zero_mul, Nat.add_left_cancel_iff, Nat.add_right_cancel_iff, LCS_0 hL, LCn_0 hL, LCS_1 hL, LCn_1 hL, LCS_2 hL, LCn_2 hL, LCS_3 hL, LCn_3 hL, LCS_4 hL, LCn_4 hL, LCS_5 hL, LCn_5 hL, LCS_6 hL, LCn_6 hL, LCS_7 hL, LCn_7 hL, LCS_8 hL, LCn_8 hL, LCS_9 hL, LCn_9 hL, LCS_10 hL, LCn_10 hL, LCS_11 hL, LCn_11 hL, LCS_12 hL, LCn_12 hL, LCS_13 hL, LCn_13 hL, LCS_14 hL, LCn_14 hL, LCS_15 hL, LCn_15 hL, LCS_16 hL, LCn_16 hL, LCS_17 hL, LCn_17 hL, LCS_18 hL, LCn_18 hL, LCS_19 hL, LCn_19 hL, LCS_20 hL, LCn_20 hL, LCS_21 hL, LCn_21 hL, LCS_22 hL, LCn_22 hL, LCS_23 hL, LCn_23 hL, LCS_24 hL, LCn_24 hL, LCS_25 hL, LCn_25 hL, LCS_26 hL, LCn_26 hL, LCS_27 hL, LCn_27 hL, LCS_28 hL, LCn_28 hL, LCS_29 hL, LCn_29 hL, LCS_30 hL, LCn_30 hL, LCS_31 hL, LCn_31 hL, LCS_32 hL, LCn_32 hL, LCS_33 hL, LCn_33 hL, LCS_34 hL, LCn_34 hL, LCS_35 hL, LCn_35 hL, LCS_36 hL, LCn_36 hL, LCS_37 hL, LCn_37 hL, LCS_38 hL, LCn_38 hL, LCS_39 hL, LCn_39 hL, LCS_40 hL, LCn_40 hL, LCS_41 hL, LCn_41 hL, LCA_0_0 hL, LCA_0_1 hL, LCA_0_2 hL, LCA_0_3 hL, LCA_0_4 hL, LCA_0_5 hL, LCA_1_0 hL, LCA_1_1 hL, LCA_1_2 hL, LCA_2_0 hL, LCA_2_1 hL, LCA_5_0 hL, LCA_5_2 hL, LCA_5_3 hL, LCA_10_0 hL, LCA_10_2 hL, LCA_10_3 hL, LCA_10_4 hL, LCA_10_8 hL, LCA_16_0 hL, LCA_16_1 hL, LCA_16_4 hL, LCA_17_0 hL, LCA_17_1 hL, LCA_17_2 hL, LCA_24_0 hL, LCA_24_1 hL, LCA_25_0 hL, LCA_25_1 hL, LCA_25_2 hL, LCA_30_0 hL, LCA_30_1 hL, LCA_30_2 hL, LCA_30_3 hL, LCA_31_0 hL, LCA_31_1 hL, LCA_34_0 hL, LCA_36_0 hL, LCA_38_0 hL, LCA_40_0 hL, iP.2.1, Int32.le_refl, FS]
    by_cases h6 : tt ≤ 60
    · rw [if_neg (show ¬ (60 : Int32) < nI tt from nI_nlt (a := 60) h6 (by decide)), if_pos (by omega), ri_s]
    · rw [if_pos (show (60 : Int32) < nI tt from nI_lt (a := 60) (by omega) (by omega)), if_neg (by omega), ri_0]
  | succ k ih =>
    intro i tt v3 hi htt
    have c1 : ¬ nI p ≤ nI i := nI_ge (by omega) (by omega)
    have hfw : fwF (fun j => pMyC I j i) (tkN I) m ≤ 5 := fwF_le (fun j hj => tkN_le iD (by omega))
    have hl := fun Q => fewest_l (Ω := Ω) (d := d) (J := J) (z := z) (Q := Q) hL iD (show i < 12 by omega) m 0 jk (by omega)
    simp only [show fwF (fun j => pMyC I j i) (tkN I) 0 = 0 from rfl, ri_0] at hl
    have hj : p - 1 - k = i := by omega
    rw [FS, hj, s108_4]
    simp only [s108_5, s108_6, s108_9, s108_12, s108_15, s108_18, s108_19, s108_22, s108_23, isR_ref, isR_nul, isR_ra, nl_int, nl_ref, nl_jk, nl_ra, nl_nul, rf_some, rf_none, nc_nil, nc_i, nc_l, nc_r, nc_n, nc_x, true_and, and_true, and_self, if_true, if_false, ite_true, ite_false, Option.toList_some, Option.toList_none, List.cons_append, List.nil_append, nar_b1, nar_b0, T_ite, reduceIte, reduceCtorEq, one_ne, eq_self, mkC_t, hn_t, va_up_same, not_true_eq_false, not_false_eq_true, Nat.reduceLeDiff, Nat.reduceAdd, Nat.reduceEqDiff, Nat.reduceMul, Nat.reduceSub, Nat.reduceDiv, Nat.reduceMod, Nat.reduceLT, false_and, and_false, false_or, or_false, true_or, or_true, Nat.add_zero, Nat.zero_add, Nat.mul_zero, Nat.zero_mul, Nat.add_left_cancel_iff, Nat.add_right_cancel_iff, LCS_0 hL, LCn_0 hL, LCS_1 hL, LCn_1 hL, LCS_2 hL, LCn_2 hL, LCS_3 hL, LCn_3 hL, LCS_4 hL, LCn_4 hL, LCS_5 hL, LCn_5 hL, LCS_6 hL, LCn_6 hL, LCS_7 hL, LCn_7 hL, LCS_8 hL, LCn_8 hL, LCS_9 hL, LCn_9 hL, LCS_10 hL, LCn_10 hL, LCS_11 hL, LCn_11 hL, LCS_12 hL, LCn_12 hL, LCS_13 hL, LCn_13 hL, LCS_14 hL, LCn_14 hL, LCS_15 hL, LCn_15 hL, LCS_16 hL, LCn_16 hL, LCS_17 hL, LCn_17 hL, LCS_18 hL, LCn_18 hL, LCS_19 hL, LCn_19 hL, LCS_20 hL, LCn_20 hL, LCS_21 hL, LCn_21 hL, LCS_22 hL, LCn_22 hL, LCS_23 hL, LCn_23 hL, LCS_24 hL, LCn_24 hL, LCS_25 hL, LCn_25 hL, LCS_26 hL, LCn_26 hL, LCS_27 hL, LCn_27 hL, LCS_28 hL, LCn_28 hL, LCS_29 hL, LCn_29 hL, LCS_30 hL, LCn_30 hL, LCS_31 hL, LCn_31 hL, LCS_32 hL, LCn_32 hL, LCS_33 hL, LCn_33 hL, LCS_34 hL, LCn_34 hL, LCS_35 hL, LCn_35 hL, LCS_36 hL, LCn_36 hL, LCS_37 hL, LCn_37 hL, LCS_38 hL, LCn_38 hL, LCS_39 hL, LCn_39 hL, LCS_40 hL, LCn_40 hL, LCS_41 hL, LCn_41 hL, LCA_0_0 hL, LCA_0_1 hL, LCA_0_2 hL, LCA_0_3 hL, LCA_0_4 hL, LCA_0_5 hL, LCA_1_0 hL, LCA_1_1 hL, LCA_1_2 hL, LCA_2_0 hL, LCA_2_1 hL, LCA_5_0 hL, LCA_5_2 hL, LCA_5_3 hL, LCA_10_0 hL, LCA_10_2 hL, LCA_10_3 hL, LCA_10_4 hL, LCA_10_8 hL, LCA_16_0 hL, LCA_16_1 hL, LCA_16_4 hL, LCA_17_0 hL, LCA_17_1 hL, LCA_17_2 hL, LCA_24_0 hL, LCA_24_1 hL, LCA_25_0 hL, LCA_25_1 hL, LCA_25_2 hL, LCA_30_0 hL, LCA_30_1 hL, LCA_30_2 hL, LCA_30_3 hL, LCA_31_0 hL, LCA_31_1 hL, LCA_34_0 hL, LCA_36_0 hL, LCA_38_0 hL, LCA_40_0 hL, iP.2.1, c1, s23_0, s23_1, s23_2, s23_3]
    rw [show (0 : Int32) = nI 0 from rfl, hl]
    simp only [s108_26, s108_27, s108_28, s108_29, isR_ref, isR_nul, isR_ra, nl_int, nl_ref, nl_jk, nl_ra, nl_nul, rf_some, rf_none, nc_nil, nc_i, nc_l, nc_r, nc_n, nc_x, true_and, and_true, and_self, if_true, if_false, ite_true, ite_false, Option.toList_some, Option.toList_none, List.cons_append, List.nil_append, nar_b1, nar_b0, T_ite, reduceIte, reduceCtorEq, one_ne, eq_self, mkC_t, hn_t, va_up_same, not_true_eq_false, not_false_eq_true, Nat.reduceLeDiff, Nat.reduceAdd, Nat.reduceEqDiff, Nat.reduceMul, Nat.reduceSub, Nat.reduceDiv, Nat.reduceMod, Nat.reduceLT, false_and, and_false, false_or, or_false, true_or, or_true, Nat.add_zero, Nat.zero_add, Nat.mul_zero, Nat.zero_mul, Nat.add_left_cancel_iff, Nat.add_right_cancel_iff]
    by_cases h0 : fwF (fun j => pMyC I j i) (tkN I) m = 0
    · rw [h0, ri_0, if_pos rfl]
      simp only [s108_32, s108_33, isR_ref, isR_nul, isR_ra, nl_int, nl_ref, nl_jk, nl_ra, nl_nul, rf_some, rf_none, nc_nil, nc_i, nc_l, nc_r, nc_n, nc_x, true_and, and_true, and_self, if_true, if_false, ite_true, ite_false, Option.toList_some, Option.toList_none, List.cons_append, List.nil_append, nar_b1, nar_b0, T_ite, reduceIte, reduceCtorEq, one_ne, eq_self, mkC_t, hn_t, va_up_same, not_true_eq_false, not_false_eq_true, Nat.reduceLeDiff, Nat.reduceAdd, Nat.reduceEqDiff, Nat.reduceMul, Nat.reduceSub, Nat.reduceDiv, Nat.reduceMod, Nat.reduceLT, false_and, and_false, false_or, or_false, true_or, or_true, Nat.add_zero, Nat.zero_add, Nat.mul_zero, Nat.zero_mul, Nat.add_left_cancel_iff, Nat.add_right_cancel_iff, true_or]
      simp [ri_0]
    · obtain ⟨u, hu⟩ : ∃ u, fwF (fun j => pMyC I j i) (tkN I) m = u + 1 := ⟨_, (Nat.sub_add_cancel (Nat.pos_of_ne_zero h0)).symm⟩
      have hne : ¬ nI u = -1 := by rw [so_m1 (by omega)]; simp
      rw [hu, ri_s, if_neg hne]
      simp only [s108_34, s108_35, s108_36, s108_37, s108_38, s108_41, isR_ref, isR_nul, isR_ra, nl_int, nl_ref, nl_jk, nl_ra, nl_nul, rf_some, rf_none, nc_nil, nc_i, nc_l, nc_r, nc_n, nc_x, true_and, and_true, and_self, if_true, if_false, ite_true, ite_false, Option.toList_some, Option.toList_none, List.cons_append, List.nil_append, nar_b1, nar_b0, T_ite, reduceIte, reduceCtorEq, one_ne, eq_self, mkC_t, hn_t, va_up_same, not_true_eq_false, not_false_eq_true, Nat.reduceLeDiff, Nat.reduceAdd, Nat.reduceEqDiff, Nat.reduceMul, Nat.reduceSub, Nat.reduceDiv, Nat.reduceMod, Nat.reduceLT, false_and, and_false, false_or, or_false, true_or, or_true, Nat.add_zero, Nat.zero_add, Nat.mul_zero, Nat.zero_mul, Nat.add_left_cancel_iff, Nat.add_right_cancel_iff, nI_add, nI_1]
      rw [ih (i + 1) (tt + u) _ (by omega) (by omega)]
      refine congrArg (fun e => Q (some (.int (ri e))) (I, J, A, S, n, z)) ?_
      by_cases hF : FS p m (pMyC I) (tkN I) k = 0
      · simp [hF]
      · simp only [if_neg hF, Nat.add_sub_cancel]
        by_cases h61 : tt + u + FS p m (pMyC I) (tkN I) k ≤ 61
        · rw [if_pos ⟨hF, h61⟩, if_pos ⟨by omega, by omega⟩]; omega
        · rw [if_neg (fun g => h61 g.2), if_neg (fun g => by omega)]
theorem mlast_l (hL : LM A S n) {bo F : Nat} (hbo : I 48 2 = nI bo) (hb6 : bo ≤ 6) {V : Nat → Nat} (hV : ∀ h, h ≤ 60 → J 60 (61 * bo + h) = rl (V h)) (hM : ∀ h, V h ≤ 59995) (hF : ∀ h, V h ≠ 0 ↔ F ≠ 0 ∧ F ≤ h + 1) : ∀ (k h : Nat), h + k = 61 → (F ≠ 0 → h < F) → T Ω (d + 1) 181 6 [.ref 46, .int (nI h)] [] (I, J, A, S, n, z) Q = Q (some (.int (ri (if F ≠ 0 ∧ F ≤ 61 then F else 0)))) (I, J, A, S, n, z) := by
  have at0 : ∀ {Q : Option Value → AH → Prop} {c : Nat} {h : AH}, T Ω d 173 0 [.int 0, .int (nI bo), .int (nI c)] [] h Q = Q (some (.int (nI (61 * bo + c)))) h := fun {Q c h} => by
    have := M_at (Ω := Ω) (d := d) (h := h) (Q := Q) (a := 0) (b := bo) (c := c)
    rw [Nat.mul_zero, Nat.zero_add] at this
    exact this
  intro k
  induction k with
  | zero =>
    intro h hh hlt
    obtain rfl : h = 61 := by omega
    rw [s181_6]
    simp only [s181_7, s181_9, s181_41, s181_42, isR_ref, isR_nul, isR_ra, nl_int, nl_ref, nl_jk, nl_ra, nl_nul, rf_some, rf_none, nc_nil, nc_i, nc_l, nc_r, nc_n, nc_x, true_and, and_true, and_self, if_true, if_false, ite_true, ite_false, Option.toList_some, Option.toList_none, List.cons_append, List.nil_append, nar_b1, nar_b0, T_ite, reduceIte, reduceCtorEq, one_ne, eq_self, mkC_t, hn_t, va_up_same, not_true_eq_false, not_false_eq_true, Nat.reduceLeDiff, Nat.reduceAdd, Nat.reduceEqDiff, Nat.reduceMul, Nat.reduceSub, Nat.reduceDiv, Nat.reduceMod, Nat.reduceLT, false_and, and_false, false_or, or_false, true_or, or_true, Nat.add_zero, Nat.zero_add, Nat.mul_zero, Nat.zero_mul, Nat.add_left_cancel_iff, Nat.add_right_cancel_iff, show (60 : Int32) < nI 61 from by decide]
    rw [if_neg (fun g => by have := hlt g.1; omega), ri_0]
  | succ k ih =>
    intro h hh hlt
    have c1 : ¬ (60 : Int32) < nI h := nI_nlt (a := 60) (by omega) (by decide)
    have hm := hM h
    have hf := hF h
    rw [s181_6]
    simp only [s181_7, s181_9, s181_12, s181_13, s181_16, s181_17, s181_18, s181_21, s181_22, s181_23, s181_24, s181_27, s181_28, s181_29, s181_30, s181_33, s181_34, isR_ref, isR_nul, isR_ra, nl_int, nl_ref, nl_jk, nl_ra, nl_nul, rf_some, rf_none, nc_nil, nc_i, nc_l, nc_r, nc_n, nc_x, true_and, and_true, and_self, if_true, if_false, ite_true, ite_false, Option.toList_some, Option.toList_none, List.cons_append, List.nil_append, nar_b1, nar_b0, T_ite, reduceIte, reduceCtorEq, one_ne, eq_self, mkC_t, hn_t, va_up_same, not_true_eq_false, not_false_eq_true, Nat.reduceLeDiff, Nat.reduceAdd, Nat.reduceEqDiff, Nat.reduceMul, Nat.reduceSub, Nat.reduceDiv, Nat.reduceMod, Nat.reduceLT, false_and, and_false, false_or, or_false, true_or, or_true, Nat.add_zero, Nat.zero_add, Nat.mul_zero, Nat.zero_mul, Nat.add_left_cancel_iff, Nat.add_right_cancel_iff, LMS_46 hL, LMn_46 hL, LMS_47 hL, LMn_47 hL, LMS_48 hL, LMn_48 hL, LMS_49 hL, LMn_49 hL, LMS_50 hL, LMn_50 hL, LMS_51 hL, LMn_51 hL, LMS_52 hL, LMn_52 hL, LMS_53 hL, LMn_53 hL, LMS_54 hL, LMn_54 hL, LMS_55 hL, LMn_55 hL, LMS_56 hL, LMn_56 hL, LMS_57 hL, LMn_57 hL, LMS_58 hL, LMn_58 hL, LMS_59 hL, LMn_59 hL, LMS_60 hL, LMn_60 hL, LMS_61 hL, LMn_61 hL, LMS_62 hL, LMn_62 hL, LMS_63 hL, LMn_63 hL, LMS_64 hL, LMn_64 hL, LMS_65 hL, LMn_65 hL, LMS_66 hL, LMn_66 hL, LMS_67 hL, LMn_67 hL, LMA_46_2 hL, LMA_46_3 hL, LMA_46_5 hL, LMA_46_6 hL, LMA_46_7 hL, LMA_46_11 hL, LMA_46_12 hL, LMA_46_13 hL, LMA_46_21 hL, LMA_46_22 hL, LMA_46_23 hL, LMA_46_24 hL, LMA_46_25 hL, LMA_46_26 hL, LMA_46_27 hL, LMA_46_31 hL, LMA_46_32 hL, LMA_46_33 hL, LMA_46_34 hL, LMA_46_35 hL, LMA_46_36 hL, c1, show vp_in 2 5 from vpin (k := 2) (by decide) ▸ (by decide), show (2 : Int32).toNatClampNeg = 2 from rfl, hbo, at0, vpin (show 61 * bo + h < 2147483648 by omega), nI_cl (show 61 * bo + h < 2147483648 by omega), show 61 * bo + h < 5551 by omega, hV h (by omega), rl_ltz (show V h < 2 ^ 62 by omega)]
    by_cases h0 : V h = 0
    · rw [if_pos h0]
      simp only [s181_35, s181_38, isR_ref, isR_nul, isR_ra, nl_int, nl_ref, nl_jk, nl_ra, nl_nul, rf_some, rf_none, nc_nil, nc_i, nc_l, nc_r, nc_n, nc_x, true_and, and_true, and_self, if_true, if_false, ite_true, ite_false, Option.toList_some, Option.toList_none, List.cons_append, List.nil_append, nar_b1, nar_b0, T_ite, reduceIte, reduceCtorEq, one_ne, eq_self, mkC_t, hn_t, va_up_same, not_true_eq_false, not_false_eq_true, Nat.reduceLeDiff, Nat.reduceAdd, Nat.reduceEqDiff, Nat.reduceMul, Nat.reduceSub, Nat.reduceDiv, Nat.reduceMod, Nat.reduceLT, false_and, and_false, false_or, or_false, true_or, or_true, Nat.add_zero, Nat.zero_add, Nat.mul_zero, Nat.zero_mul, Nat.add_left_cancel_iff, Nat.add_right_cancel_iff, nI_1]
      exact ih (h + 1) (by omega) (fun hF0 => by
        have h1 := hlt hF0
        have h2 : ¬ (F ≠ 0 ∧ F ≤ h + 1) := fun g => hf.mpr g h0
        omega)
    · rw [if_neg h0]
      obtain ⟨h1, h2⟩ := hf.mp h0
      have h3 := hlt h1
      rw [if_pos ⟨h1, by omega⟩, show F = h + 1 by omega, ri_s]
set_option maxHeartbeats 1000000 in
theorem cpl_last : cplI Ω (d + 6) Inv 108 181 [.ref 0, jk, jk, jk] [.ref 46, jk] := by
  rintro ⟨I, J, A, S, n, z⟩ ⟨p, m, t, s, iL, iP, iD, iT, iB, iI, iS⟩
  simp only [hn, hI, hA, hSh] at iL iP iD iT iB iI iS
  have lc := iL.1
  have lm := iL.2.1
  obtain ⟨p1, p2, p3, p4, p5⟩ := id iP
  refine T_opq (fun QC hQC => ?_)
  obtain ⟨t1, t2, t3, t4, ⟨f, t5, t6, t7⟩, t8⟩ := id iT
  obtain ⟨e43, lo, hlo, elo⟩ := p5 3 (by decide)
  have hlo9 : lo ≤ 99 := hlo
  obtain ⟨e42, bo, hbo, ebo⟩ := p5 2 (by decide)
  have hbo6 : bo ≤ 6 := hbo
  simp only [s108_0, s108_1, s108_2, s108_3, isR_ref, isR_nul, isR_ra, nl_int, nl_ref, nl_jk, nl_ra, nl_nul, rf_some, rf_none, nc_nil, nc_i, nc_l, nc_r, nc_n, nc_x, true_and, and_true, and_self, if_true, if_false, ite_true, ite_false, Option.toList_some, Option.toList_none, List.cons_append, List.nil_append, nar_b1, nar_b0, T_ite, reduceIte, reduceCtorEq, one_ne, eq_self, mkC_t, hn_t, va_up_same, not_true_eq_false, not_false_eq_true, Nat.reduceLeDiff, Nat.reduceAdd, Nat.reduceEqDiff, Nat.reduceMul, Nat.reduceSub, Nat.reduceDiv, Nat.reduceMod, Nat.reduceLT, false_and, and_false, false_or, or_false, true_or, or_true, Nat.add_zero, Nat.zero_add, Nat.mul_zero, Nat.zero_mul, Nat.add_left_cancel_iff, Nat.add_right_cancel_iff]
  have key := last_l (Ω := Ω) (d := d + 3) (J := J) (z := z) (Q := QC) lc iP iD p 0 0 jk (by omega) (Nat.le_refl _)
  rw [show nI 0 = 0 from rfl] at key
  rw [key]
  refine hQC _ _ ⟨_, rfl, by first | exact (see46 lm).1 | exact Nat.lt_of_lt_of_le (by decide) lm.1, by first | exact (see46 lm).2 | (show (S 46).1 = 11; rw [LMS_46 lm]), ?_⟩
  refine T_opq (fun Q hQ => ?_)
  simp only [s181_0, s181_1, isR_ref, isR_nul, isR_ra, nl_int, nl_ref, nl_jk, nl_ra, nl_nul, rf_some, rf_none, nc_nil, nc_i, nc_l, nc_r, nc_n, nc_x, true_and, and_true, and_self, if_true, if_false, ite_true, ite_false, Option.toList_some, Option.toList_none, List.cons_append, List.nil_append, nar_b1, nar_b0, T_ite, reduceIte, reduceCtorEq, one_ne, eq_self, mkC_t, hn_t, va_up_same, not_true_eq_false, not_false_eq_true, Nat.reduceLeDiff, Nat.reduceAdd, Nat.reduceEqDiff, Nat.reduceMul, Nat.reduceSub, Nat.reduceDiv, Nat.reduceMod, Nat.reduceLT, false_and, and_false, false_or, or_false, true_or, or_true, Nat.add_zero, Nat.zero_add, Nat.mul_zero, Nat.zero_mul, Nat.add_left_cancel_iff, Nat.add_right_cancel_iff, LMS_46 lm, LMn_46 lm, LMS_47 lm, LMn_47 lm, LMS_48 lm, LMn_48 lm, LMS_49 lm, LMn_49 lm, LMS_50 lm, LMn_50 lm, LMS_51 lm, LMn_51 lm, LMS_52 lm, LMn_52 lm, LMS_53 lm, LMn_53 lm, LMS_54 lm, LMn_54 lm, LMS_55 lm, LMn_55 lm, LMS_56 lm, LMn_56 lm, LMS_57 lm, LMn_57 lm, LMS_58 lm, LMn_58 lm, LMS_59 lm, LMn_59 lm, LMS_60 lm, LMn_60 lm, LMS_61 lm, LMn_61 lm, LMS_62 lm, LMn_62 lm, LMS_63 lm, LMn_63 lm, LMS_64 lm, LMn_64 lm, LMS_65 lm, LMn_65 lm, LMS_66 lm, LMn_66 lm, LMS_67 lm, LMn_67 lm, LMA_46_2 lm, LMA_46_3 lm, LMA_46_5 lm, LMA_46_6 lm, LMA_46_7 lm, LMA_46_11 lm, LMA_46_12 lm, LMA_46_13 lm, LMA_46_21 lm, LMA_46_22 lm, LMA_46_23 lm, LMA_46_24 lm, LMA_46_25 lm, LMA_46_26 lm, LMA_46_27 lm, LMA_46_31 lm, LMA_46_32 lm, LMA_46_33 lm, LMA_46_34 lm, LMA_46_35 lm, LMA_46_36 lm]
  refine findV lm iT iD t7 t5 elo hlo9 p3 p1 EA_refl (fun I2 J2 k1 k2 k3 => ?_)
  simp only [s181_4, s181_5, isR_ref, isR_nul, isR_ra, nl_int, nl_ref, nl_jk, nl_ra, nl_nul, rf_some, rf_none, nc_nil, nc_i, nc_l, nc_r, nc_n, nc_x, true_and, and_true, and_self, if_true, if_false, ite_true, ite_false, Option.toList_some, Option.toList_none, List.cons_append, List.nil_append, nar_b1, nar_b0, T_ite, reduceIte, reduceCtorEq, one_ne, eq_self, mkC_t, hn_t, va_up_same, not_true_eq_false, not_false_eq_true, Nat.reduceLeDiff, Nat.reduceAdd, Nat.reduceEqDiff, Nat.reduceMul, Nat.reduceSub, Nat.reduceDiv, Nat.reduceMod, Nat.reduceLT, false_and, and_false, false_or, or_false, true_or, or_true, Nat.add_zero, Nat.zero_add, Nat.mul_zero, Nat.zero_mul, Nat.add_left_cancel_iff, Nat.add_right_cancel_iff]
  have hv := VVeq (m := m) (Ic := I) (Im := I) iT t5 iP AE_refl rfl (fun _ _ => rfl) rfl (fun _ _ => rfl) rfl rfl rfl rfl (fun _ _ => rfl) (fun _ _ => rfl)
  have hF : ∀ h, MVV I A S f p m p bo h ≠ 0 ↔ FS p m (pMyC I) (tkN I) p ≠ 0 ∧ FS p m (pMyC I) (tkN I) p ≤ h + 1 := fun h => by
    rw [← CVV_eq hv (Nat.le_refl _)]
    exact VV_FS p bo h
  have kl := mlast_l (Ω := Ω) (d := d + 5) (Q := Q) (z := z) (I := I2) lm (F := FS p m (pMyC I) (tkN I) p) (by rw [EA_at k1 (by decide)]; exact ebo) hbo6 (V := MVV I A S f p m p bo) (fun h hh => by
    have := k2 0 bo h (Nat.zero_le _) hbo6 hh
    rw [Nat.mul_zero, Nat.zero_add, Nat.sub_zero] at this
    exact this) (fun h => MVV_le hbo6) hF 61 0 (by decide) (fun h => Nat.pos_of_ne_zero h)
  rw [show nI 0 = 0 from rfl] at kl
  rw [kl]
  refine hQ _ _ ⟨?_, Inv_sc iL (fun _ _ => rfl) iP iD iT iB iI iS k1, Nat.le_add_right _ _, Nat.le_add_right _ _⟩
  rw [Nat.zero_add]
end EV
