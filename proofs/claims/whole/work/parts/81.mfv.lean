section EV
variable {Ω : AO} {d : Nat} {L st : List Value} {h : AH} {Q : Option Value → AH → Prop} {I I' I'' I0 Ic Im Is : Nat → Nat → Int32} {J J' : Nat → Nat → Int64} {A A' : Nat → Nat → Option Nat} {S : Nat → Nat × Nat} {n z z' : Nat} {x y a b : Int32}
theorem ri_neg {k : Nat} (hk : k < 2 ^ 30) : (ri k < 0) = (k = 0) := ri_lt hk
set_option maxHeartbeats 1000000 in
theorem mf_p (hL : LM A S n) {m t f p lo : Nat} {v1 : Int32} (iT : IvT I0 A S n t) (iD : IvD I0 A S n m) (hr : I0 46 10 = nI f) (hf : f < t) (hlo : I0 48 3 = nI lo) (hl9 : lo ≤ 99) (p12 : p ≤ 12) : ∀ (k : Nat) (I : Nat → Nat → Int32) (J : Nat → Nat → Int64) (v3 : Value), k ≤ p → EA I0 I → (∀ q' b h, k ≤ q' → q' ≤ p → b ≤ 6 → h ≤ 60 → J 60 (427 * q' + 61 * b + h) = rl (MVV I0 A S f p m (p - q') b h)) → (∀ q' b h, k ≤ q' → q' < p → b ≤ 6 → h ≤ 60 → I 61 (427 * q' + 61 * b + h) = ri (MBB I0 A S f p m (p - 1 - q') b h)) →
    (∀ (I' : Nat → Nat → Int32) (J' : Nat → Nat → Int64), EA I0 I' → (∀ q' b h, q' ≤ p → b ≤ 6 → h ≤ 60 → J' 60 (427 * q' + 61 * b + h) = rl (MVV I0 A S f p m (p - q') b h)) → (∀ q' b h, q' < p → b ≤ 6 → h ≤ 60 → I' 61 (427 * q' + 61 * b + h) = ri (MBB I0 A S f p m (p - 1 - q') b h)) → Q none (I', J', A, S, n, z)) →
    T Ω (d + 4) 172 59 [.ref 46, .int v1, .int (ri k), v3] [] (I, J, A, S, n, z) Q := by
  intro k
  induction k with
  | zero =>
    intro I J v3 hk hE hV hB hQ
    rw [s172_59]
    simp only [s172_60, s172_141, isR_ref, isR_nul, isR_ra, nl_int, nl_ref, nl_jk, nl_ra, nl_nul, rf_some, rf_none, nc_nil, nc_i, nc_l, nc_r, nc_n, nc_x, true_and, and_true, and_self, if_true, if_false, ite_true, ite_false, Option.toList_some, Option.toList_none, List.cons_append, List.nil_append, nar_b1, nar_b0, T_ite, reduceIte, reduceCtorEq, one_ne, eq_self, mkC_t, hn_t, va_up_same, not_true_eq_false, not_false_eq_true, Nat.reduceLeDiff, Nat.reduceAdd, Nat.reduceEqDiff, Nat.reduceMul, Nat.reduceSub, Nat.reduceDiv, Nat.reduceMod, Nat.reduceLT, false_and, and_false, false_or, or_false, true_or, or_true, Nat.add_zero, Nat.zero_add, Nat.mul_zero, Nat.zero_mul, Nat.add_left_cancel_iff, Nat.add_right_cancel_iff, ri_neg (show 0 < 2 ^ 30 by decide)]
    exact hQ I J hE (fun q' b h => hV q' b h (Nat.zero_le _)) (fun q' b h => hB q' b h (Nat.zero_le _))
  | succ k ih =>
    intro I J v3 hk hE hV hB hQ
    have at0 : ∀ {Q : Option Value → AH → Prop} {h : AH}, T Ω (d + 3) 173 0 [.int (nI k), .int 0, .int 0] [] h Q = Q (some (.int (nI (427 * k)))) h := M_at (a := k) (b := 0) (c := 0)
    rw [s172_59]
    simp only [s172_60, s172_63, s172_64, s172_65, s172_66, s172_69, isR_ref, isR_nul, isR_ra, nl_int, nl_ref, nl_jk, nl_ra, nl_nul, rf_some, rf_none, nc_nil, nc_i, nc_l, nc_r, nc_n, nc_x, true_and, and_true, and_self, if_true, if_false, ite_true, ite_false, Option.toList_some, Option.toList_none, List.cons_append, List.nil_append, nar_b1, nar_b0, T_ite, reduceIte, reduceCtorEq, one_ne, eq_self, mkC_t, hn_t, va_up_same, not_true_eq_false, not_false_eq_true, Nat.reduceLeDiff, Nat.reduceAdd, Nat.reduceEqDiff, Nat.reduceMul, Nat.reduceSub, Nat.reduceDiv, Nat.reduceMod, Nat.reduceLT, false_and, and_false, false_or, or_false, true_or, or_true, Nat.add_zero, Nat.zero_add, Nat.mul_zero, Nat.zero_mul, Nat.add_left_cancel_iff, Nat.add_right_cancel_iff, ri_s, nI_ltz (show k < 2147483648 by omega), at0]
    refine mf_f hL (show k < 12 by omega) 427 (427 * k) I J (by omega) (Nat.le_refl _) (fun j h1 h2 => by omega) (fun I1 J1 f1 f2 f3 => ?_)
    simp only [s172_104, s172_105, isR_ref, isR_nul, isR_ra, nl_int, nl_ref, nl_jk, nl_ra, nl_nul, rf_some, rf_none, nc_nil, nc_i, nc_l, nc_r, nc_n, nc_x, true_and, and_true, and_self, if_true, if_false, ite_true, ite_false, Option.toList_some, Option.toList_none, List.cons_append, List.nil_append, nar_b1, nar_b0, T_ite, reduceIte, reduceCtorEq, one_ne, eq_self, mkC_t, hn_t, va_up_same, not_true_eq_false, not_false_eq_true, Nat.reduceLeDiff, Nat.reduceAdd, Nat.reduceEqDiff, Nat.reduceMul, Nat.reduceSub, Nat.reduceDiv, Nat.reduceMod, Nat.reduceLT, false_and, and_false, false_or, or_false, true_or, or_true, Nat.add_zero, Nat.zero_add, Nat.mul_zero, Nat.zero_mul, Nat.add_left_cancel_iff, Nat.add_right_cancel_iff]
    refine mf_d hL iT iD hr hf hlo hl9 (Y := MVV I0 A S f p m (p - (k + 1))) (show k < 12 by omega) (fun b h hb => MVV_le hb) m 0 I1 J1 (by omega) (EA_61 hE f1) (fun b h' h1 h2 => by rw [(f2 _ (by omega)).1]; exact hV (k + 1) b h' (Nat.le_refl _) (by omega) h1 h2) (fun b h hb hh => ?_) (fun I2 J2 k1 k2 k3 => ?_)
    · obtain ⟨w1, w2⟩ := f3 (427 * k + 61 * b + h) (by omega) (by omega)
      rw [w1, w2]
      exact ⟨rl_0.symm, ri_0.symm⟩
    simp only [s172_135, s172_138, isR_ref, isR_nul, isR_ra, nl_int, nl_ref, nl_jk, nl_ra, nl_nul, rf_some, rf_none, nc_nil, nc_i, nc_l, nc_r, nc_n, nc_x, true_and, and_true, and_self, if_true, if_false, ite_true, ite_false, Option.toList_some, Option.toList_none, List.cons_append, List.nil_append, nar_b1, nar_b0, T_ite, reduceIte, reduceCtorEq, one_ne, eq_self, mkC_t, hn_t, va_up_same, not_true_eq_false, not_false_eq_true, Nat.reduceLeDiff, Nat.reduceAdd, Nat.reduceEqDiff, Nat.reduceMul, Nat.reduceSub, Nat.reduceDiv, Nat.reduceMod, Nat.reduceLT, false_and, and_false, false_or, or_false, true_or, or_true, Nat.add_zero, Nat.zero_add, Nat.mul_zero, Nat.zero_mul, Nat.add_left_cancel_iff, Nat.add_right_cancel_iff, ri_m]
    have hj : p - 1 - (p - (k + 1)) = k := by omega
    have hv : ∀ b' h', (bsM I0 A S f k (MVV I0 A S f p m (p - (k + 1))) m b' h').1 = MVV I0 A S f p m (p - k) b' h' := fun b' h' => by
      rw [show p - k = p - (k + 1) + 1 by omega]
      unfold MVV
      rw [VV, hj]
      rfl
    have hb : ∀ b' h', (bsM I0 A S f k (MVV I0 A S f p m (p - (k + 1))) m b' h').2 = MBB I0 A S f p m (p - (k + 1)) b' h' := fun b' h' => by
      unfold MBB
      rw [BB, hj]
      rfl
    refine ih I2 J2 _ (by omega) k1 (fun q' b h h1 h2 h3 h4 => ?_) (fun q' b h h1 h2 h3 h4 => ?_) hQ
    · by_cases hq : q' = k
      · subst hq
        rw [(k3 b h h3 h4).1, hv]
      · rw [(k2 _ (by omega)).1, (f2 _ (by omega)).1]
        exact hV q' b h (by omega) h2 h3 h4
    · by_cases hq : q' = k
      · subst hq
        rw [(k3 b h h3 h4).2, hb, show p - (q' + 1) = p - 1 - q' by omega]
      · rw [(k2 _ (by omega)).2, (f2 _ (by omega)).2]
        exact hB q' b h (by omega) h2 h3 h4
theorem mf_ih (hL : LM A S n) {p b w0 : Nat} (hp : I 46 1 = nI p) (p12 : p ≤ 12) (hb : b ≤ 6) (hw : w0 ≤ 9999) : ∀ (k i : Nat) (J : Nat → Nat → Int64), i + k = 61 → (∀ h, h < i → J 60 (427 * p + 61 * b + h) = lN (b * w0)) → (∀ J' : Nat → Nat → Int64, (∀ j, j < 427 * p + 61 * b → J' 60 j = J 60 j) → (∀ h, h ≤ 60 → J' 60 (427 * p + 61 * b + h) = lN (b * w0)) → T Ω (d + 1) 172 46 [.ref 46, .int (nI w0), .int (nI b), .int (nI 61)] [] (I, J', A, S, n, z) Q) → T Ω (d + 1) 172 15 [.ref 46, .int (nI w0), .int (nI b), .int (nI i)] [] (I, J, A, S, n, z) Q := by
  intro k
  induction k with
  | zero =>
    intro i J hi hJ hQ
    obtain rfl : i = 61 := by omega
    rw [s172_15]
    simp only [s172_16, s172_18, isR_ref, isR_nul, isR_ra, nl_int, nl_ref, nl_jk, nl_ra, nl_nul, rf_some, rf_none, nc_nil, nc_i, nc_l, nc_r, nc_n, nc_x, true_and, and_true, and_self, if_true, if_false, ite_true, ite_false, Option.toList_some, Option.toList_none, List.cons_append, List.nil_append, nar_b1, nar_b0, T_ite, reduceIte, reduceCtorEq, one_ne, eq_self, mkC_t, hn_t, va_up_same, not_true_eq_false, not_false_eq_true, Nat.reduceLeDiff, Nat.reduceAdd, Nat.reduceEqDiff, Nat.reduceMul, Nat.reduceSub, Nat.reduceDiv, Nat.reduceMod, Nat.reduceLT, false_and, and_false, false_or, or_false, true_or, or_true, Nat.add_zero, Nat.zero_add, Nat.mul_zero, Nat.zero_mul, Nat.add_left_cancel_iff, Nat.add_right_cancel_iff, show (60 : Int32) < nI 61 from by decide]
    exact hQ J (fun _ _ => rfl) (fun h hh => hJ h (by omega))
  | succ k ih =>
    intro i J hi hJ hQ
    have c1 : ¬ (60 : Int32) < nI i := nI_nlt (a := 60) (by omega) (by decide)
    rw [s172_15]
    simp only [s172_16, s172_18, s172_21, s172_22, s172_25, s172_26, s172_29, s172_30, s172_31, s172_34, s172_35, s172_36, s172_37, s172_38, s172_39, s172_40, s172_43, isR_ref, isR_nul, isR_ra, nl_int, nl_ref, nl_jk, nl_ra, nl_nul, rf_some, rf_none, nc_nil, nc_i, nc_l, nc_r, nc_n, nc_x, true_and, and_true, and_self, if_true, if_false, ite_true, ite_false, Option.toList_some, Option.toList_none, List.cons_append, List.nil_append, nar_b1, nar_b0, T_ite, reduceIte, reduceCtorEq, one_ne, eq_self, mkC_t, hn_t, va_up_same, not_true_eq_false, not_false_eq_true, Nat.reduceLeDiff, Nat.reduceAdd, Nat.reduceEqDiff, Nat.reduceMul, Nat.reduceSub, Nat.reduceDiv, Nat.reduceMod, Nat.reduceLT, false_and, and_false, false_or, or_false, true_or, or_true, Nat.add_zero, Nat.zero_add, Nat.mul_zero, Nat.zero_mul, Nat.add_left_cancel_iff, Nat.add_right_cancel_iff, LMS_46 hL, LMn_46 hL, LMS_47 hL, LMn_47 hL, LMS_48 hL, LMn_48 hL, LMS_49 hL, LMn_49 hL, LMS_50 hL, LMn_50 hL, LMS_51 hL, LMn_51 hL, LMS_52 hL, LMn_52 hL, LMS_53 hL, LMn_53 hL, LMS_54 hL, LMn_54 hL, LMS_55 hL, LMn_55 hL, LMS_56 hL, LMn_56 hL, LMS_57 hL, LMn_57 hL, LMS_58 hL, LMn_58 hL, LMS_59 hL, LMn_59 hL, LMS_60 hL, LMn_60 hL, LMS_61 hL, LMn_61 hL, LMS_62 hL, LMn_62 hL, LMS_63 hL, LMn_63 hL, LMS_64 hL, LMn_64 hL, LMS_65 hL, LMn_65 hL, LMS_66 hL, LMn_66 hL, LMS_67 hL, LMn_67 hL, LMA_46_2 hL, LMA_46_3 hL, LMA_46_5 hL, LMA_46_6 hL, LMA_46_7 hL, LMA_46_11 hL, LMA_46_12 hL, LMA_46_13 hL, LMA_46_21 hL, LMA_46_22 hL, LMA_46_23 hL, LMA_46_24 hL, LMA_46_25 hL, LMA_46_26 hL, LMA_46_27 hL, LMA_46_31 hL, LMA_46_32 hL, LMA_46_33 hL, LMA_46_34 hL, LMA_46_35 hL, LMA_46_36 hL, c1, hp, M_at, nI_l (show b < 2147483648 by omega), nI_l (show w0 < 2147483648 by omega), lN_mul, vpin (show 427 * p + 61 * b + i < 2147483648 by omega), nI_cl (show 427 * p + 61 * b + i < 2147483648 by omega), show 427 * p + 61 * b + i < 5551 by omega, nI_1]
    refine ih (i + 1) _ (by omega) (fun h hh => ?_) (fun J' f1 f2 => hQ J' (fun j hj => by rw [f1 j hj, wr_at_ne (by omega)]) f2)
    by_cases hhi : h = i
    · subst hhi; rw [wr_at]
    · rw [wr_at_ne (by omega)]; exact hJ h (by omega)
theorem mf_ib (hL : LM A S n) {p w0 : Nat} (hp : I 46 1 = nI p) (p12 : p ≤ 12) (hw : w0 ≤ 9999) : ∀ (k b : Nat) (v3 : Value) (J : Nat → Nat → Int64), b + k = 7 → (∀ b' h, b' < b → h ≤ 60 → J 60 (427 * p + 61 * b' + h) = lN (b' * w0)) → (∀ (J' : Nat → Nat → Int64) (v3 : Value), (∀ b' h, b' ≤ 6 → h ≤ 60 → J' 60 (427 * p + 61 * b' + h) = lN (b' * w0)) → T Ω (d + 1) 172 52 [.ref 46, .int (nI w0), .int (nI 7), v3] [] (I, J', A, S, n, z) Q) → T Ω (d + 1) 172 7 [.ref 46, .int (nI w0), .int (nI b), v3] [] (I, J, A, S, n, z) Q := by
  intro k
  induction k with
  | zero =>
    intro b v3 J hb hJ hQ
    obtain rfl : b = 7 := by omega
    rw [s172_7]
    simp only [s172_8, s172_10, isR_ref, isR_nul, isR_ra, nl_int, nl_ref, nl_jk, nl_ra, nl_nul, rf_some, rf_none, nc_nil, nc_i, nc_l, nc_r, nc_n, nc_x, true_and, and_true, and_self, if_true, if_false, ite_true, ite_false, Option.toList_some, Option.toList_none, List.cons_append, List.nil_append, nar_b1, nar_b0, T_ite, reduceIte, reduceCtorEq, one_ne, eq_self, mkC_t, hn_t, va_up_same, not_true_eq_false, not_false_eq_true, Nat.reduceLeDiff, Nat.reduceAdd, Nat.reduceEqDiff, Nat.reduceMul, Nat.reduceSub, Nat.reduceDiv, Nat.reduceMod, Nat.reduceLT, false_and, and_false, false_or, or_false, true_or, or_true, Nat.add_zero, Nat.zero_add, Nat.mul_zero, Nat.zero_mul, Nat.add_left_cancel_iff, Nat.add_right_cancel_iff, show (6 : Int32) < nI 7 from by decide]
    exact hQ J v3 (fun b' h h1 h2 => hJ b' h (by omega) h2)
  | succ k ih =>
    intro b v3 J hb hJ hQ
    have c1 : ¬ (6 : Int32) < nI b := nI_nlt (a := 6) (by omega) (by decide)
    rw [s172_7]
    simp only [s172_8, s172_10, s172_13, s172_14, isR_ref, isR_nul, isR_ra, nl_int, nl_ref, nl_jk, nl_ra, nl_nul, rf_some, rf_none, nc_nil, nc_i, nc_l, nc_r, nc_n, nc_x, true_and, and_true, and_self, if_true, if_false, ite_true, ite_false, Option.toList_some, Option.toList_none, List.cons_append, List.nil_append, nar_b1, nar_b0, T_ite, reduceIte, reduceCtorEq, one_ne, eq_self, mkC_t, hn_t, va_up_same, not_true_eq_false, not_false_eq_true, Nat.reduceLeDiff, Nat.reduceAdd, Nat.reduceEqDiff, Nat.reduceMul, Nat.reduceSub, Nat.reduceDiv, Nat.reduceMod, Nat.reduceLT, false_and, and_false, false_or, or_false, true_or, or_true, Nat.add_zero, Nat.zero_add, Nat.mul_zero, Nat.zero_mul, Nat.add_left_cancel_iff, Nat.add_right_cancel_iff, c1]
    refine mf_ih hL hp p12 (show b ≤ 6 by omega) hw 61 0 J (by decide) (fun h hh => by omega) (fun J1 f1 f2 => ?_)
    simp only [s172_46, s172_49, isR_ref, isR_nul, isR_ra, nl_int, nl_ref, nl_jk, nl_ra, nl_nul, rf_some, rf_none, nc_nil, nc_i, nc_l, nc_r, nc_n, nc_x, true_and, and_true, and_self, if_true, if_false, ite_true, ite_false, Option.toList_some, Option.toList_none, List.cons_append, List.nil_append, nar_b1, nar_b0, T_ite, reduceIte, reduceCtorEq, one_ne, eq_self, mkC_t, hn_t, va_up_same, not_true_eq_false, not_false_eq_true, Nat.reduceLeDiff, Nat.reduceAdd, Nat.reduceEqDiff, Nat.reduceMul, Nat.reduceSub, Nat.reduceDiv, Nat.reduceMod, Nat.reduceLT, false_and, and_false, false_or, or_false, true_or, or_true, Nat.add_zero, Nat.zero_add, Nat.mul_zero, Nat.zero_mul, Nat.add_left_cancel_iff, Nat.add_right_cancel_iff, nI_1]
    refine ih (b + 1) _ J1 (by omega) (fun b' h h1 h2 => ?_) hQ
    by_cases hbb : b' = b
    · subst hbb; exact f2 h h2
    · rw [f1 _ (by omega)]; exact hJ b' h (by omega) h2
theorem findV (hL : LM A S n) {m t f p lo : Nat} (iT : IvT I0 A S n t) (iD : IvD I0 A S n m) (hr : I0 46 10 = nI f) (hf : f < t) (hlo : I0 48 3 = nI lo) (hl9 : lo ≤ 99) (hp : I0 46 1 = nI p) (p12 : p ≤ 12) (hE : EA I0 I)
    (hQ : ∀ (I' : Nat → Nat → Int32) (J' : Nat → Nat → Int64), EA I0 I' → (∀ q' b h, q' ≤ p → b ≤ 6 → h ≤ 60 → J' 60 (427 * q' + 61 * b + h) = rl (MVV I0 A S f p m (p - q') b h)) → (∀ q' b h, q' < p → b ≤ 6 → h ≤ 60 → I' 61 (427 * q' + 61 * b + h) = ri (MBB I0 A S f p m (p - 1 - q') b h)) → Q none (I', J', A, S, n, z)) :
    T Ω (d + 4) 172 0 [.ref 46, jk, jk, jk] [] (I, J, A, S, n, z) Q := by
  have w1 := pW0M_at (I := I0) (A := A) (S := S) (f := f)
  simp only [s172_0, s172_1, isR_ref, isR_nul, isR_ra, nl_int, nl_ref, nl_jk, nl_ra, nl_nul, rf_some, rf_none, nc_nil, nc_i, nc_l, nc_r, nc_n, nc_x, true_and, and_true, and_self, if_true, if_false, ite_true, ite_false, Option.toList_some, Option.toList_none, List.cons_append, List.nil_append, nar_b1, nar_b0, T_ite, reduceIte, reduceCtorEq, one_ne, eq_self, mkC_t, hn_t, va_up_same, not_true_eq_false, not_false_eq_true, Nat.reduceLeDiff, Nat.reduceAdd, Nat.reduceEqDiff, Nat.reduceMul, Nat.reduceSub, Nat.reduceDiv, Nat.reduceMod, Nat.reduceLT, false_and, and_false, false_or, or_false, true_or, or_true, Nat.add_zero, Nat.zero_add, Nat.mul_zero, Nat.zero_mul, Nat.add_left_cancel_iff, Nat.add_right_cancel_iff, LMS_46 hL, LMn_46 hL, LMS_47 hL, LMn_47 hL, LMS_48 hL, LMn_48 hL, LMS_49 hL, LMn_49 hL, LMS_50 hL, LMn_50 hL, LMS_51 hL, LMn_51 hL, LMS_52 hL, LMn_52 hL, LMS_53 hL, LMn_53 hL, LMS_54 hL, LMn_54 hL, LMS_55 hL, LMn_55 hL, LMS_56 hL, LMn_56 hL, LMS_57 hL, LMn_57 hL, LMS_58 hL, LMn_58 hL, LMS_59 hL, LMn_59 hL, LMS_60 hL, LMn_60 hL, LMS_61 hL, LMn_61 hL, LMS_62 hL, LMn_62 hL, LMS_63 hL, LMn_63 hL, LMS_64 hL, LMn_64 hL, LMS_65 hL, LMn_65 hL, LMS_66 hL, LMn_66 hL, LMS_67 hL, LMn_67 hL, LMA_46_2 hL, LMA_46_3 hL, LMA_46_5 hL, LMA_46_6 hL, LMA_46_7 hL, LMA_46_11 hL, LMA_46_12 hL, LMA_46_13 hL, LMA_46_21 hL, LMA_46_22 hL, LMA_46_23 hL, LMA_46_24 hL, LMA_46_25 hL, LMA_46_26 hL, LMA_46_27 hL, LMA_46_31 hL, LMA_46_32 hL, LMA_46_33 hL, LMA_46_34 hL, LMA_46_35 hL, LMA_46_36 hL]
  refine mWorthK hL iT hr hf hE (fun I1 hK => ?_)
  have hE1 := EA_KM hE hK
  have e1 : I1 46 1 = nI p := by rw [EA_at hE1 (by decide)]; exact hp
  simp only [s172_4, s172_5, s172_6, isR_ref, isR_nul, isR_ra, nl_int, nl_ref, nl_jk, nl_ra, nl_nul, rf_some, rf_none, nc_nil, nc_i, nc_l, nc_r, nc_n, nc_x, true_and, and_true, and_self, if_true, if_false, ite_true, ite_false, Option.toList_some, Option.toList_none, List.cons_append, List.nil_append, nar_b1, nar_b0, T_ite, reduceIte, reduceCtorEq, one_ne, eq_self, mkC_t, hn_t, va_up_same, not_true_eq_false, not_false_eq_true, Nat.reduceLeDiff, Nat.reduceAdd, Nat.reduceEqDiff, Nat.reduceMul, Nat.reduceSub, Nat.reduceDiv, Nat.reduceMod, Nat.reduceLT, false_and, and_false, false_or, or_false, true_or, or_true, Nat.add_zero, Nat.zero_add, Nat.mul_zero, Nat.zero_mul, Nat.add_left_cancel_iff, Nat.add_right_cancel_iff, w1.2]
  refine mf_ib hL e1 p12 w1.1 7 0 _ J (by decide) (fun b' h h1 h2 => by omega) (fun J1 v3 f1 => ?_)
  have er : nI p - 1 = ri p := rfl
  simp only [s172_52, s172_53, s172_56, s172_57, s172_58, isR_ref, isR_nul, isR_ra, nl_int, nl_ref, nl_jk, nl_ra, nl_nul, rf_some, rf_none, nc_nil, nc_i, nc_l, nc_r, nc_n, nc_x, true_and, and_true, and_self, if_true, if_false, ite_true, ite_false, Option.toList_some, Option.toList_none, List.cons_append, List.nil_append, nar_b1, nar_b0, T_ite, reduceIte, reduceCtorEq, one_ne, eq_self, mkC_t, hn_t, va_up_same, not_true_eq_false, not_false_eq_true, Nat.reduceLeDiff, Nat.reduceAdd, Nat.reduceEqDiff, Nat.reduceMul, Nat.reduceSub, Nat.reduceDiv, Nat.reduceMod, Nat.reduceLT, false_and, and_false, false_or, or_false, true_or, or_true, Nat.add_zero, Nat.zero_add, Nat.mul_zero, Nat.zero_mul, Nat.add_left_cancel_iff, Nat.add_right_cancel_iff, LMS_46 hL, LMn_46 hL, LMS_47 hL, LMn_47 hL, LMS_48 hL, LMn_48 hL, LMS_49 hL, LMn_49 hL, LMS_50 hL, LMn_50 hL, LMS_51 hL, LMn_51 hL, LMS_52 hL, LMn_52 hL, LMS_53 hL, LMn_53 hL, LMS_54 hL, LMn_54 hL, LMS_55 hL, LMn_55 hL, LMS_56 hL, LMn_56 hL, LMS_57 hL, LMn_57 hL, LMS_58 hL, LMn_58 hL, LMS_59 hL, LMn_59 hL, LMS_60 hL, LMn_60 hL, LMS_61 hL, LMn_61 hL, LMS_62 hL, LMn_62 hL, LMS_63 hL, LMn_63 hL, LMS_64 hL, LMn_64 hL, LMS_65 hL, LMn_65 hL, LMS_66 hL, LMn_66 hL, LMS_67 hL, LMn_67 hL, LMA_46_2 hL, LMA_46_3 hL, LMA_46_5 hL, LMA_46_6 hL, LMA_46_7 hL, LMA_46_11 hL, LMA_46_12 hL, LMA_46_13 hL, LMA_46_21 hL, LMA_46_22 hL, LMA_46_23 hL, LMA_46_24 hL, LMA_46_25 hL, LMA_46_26 hL, LMA_46_27 hL, LMA_46_31 hL, LMA_46_32 hL, LMA_46_33 hL, LMA_46_34 hL, LMA_46_35 hL, LMA_46_36 hL, e1, er]
  refine mf_p hL iT iD hr hf hlo hl9 p12 p I1 J1 _ (Nat.le_refl _) hE1 (fun q' b h h1 h2 h3 h4 => ?_) (fun q' b h h1 h2 h3 h4 => by omega) hQ
  obtain rfl : q' = p := by omega
  rw [f1 b h h3 h4, Nat.sub_self]
  unfold MVV
  rw [VV, rl_s]
theorem valueNow (hL : LM A S n) {m t f p lo bo H : Nat} (iT : IvT I0 A S n t) (iD : IvD I0 A S n m) (hr : I0 46 10 = nI f) (hf : f < t) (hlo : I0 48 3 = nI lo) (hl9 : lo ≤ 99) (hp : I0 46 1 = nI p) (p12 : p ≤ 12) (hbo : bo ≤ 6) (hH : H ≤ 60) (hE : EA I0 I)
    (hQ : ∀ (I' : Nat → Nat → Int32) (J' : Nat → Nat → Int64), EA I0 I' → Q (some (.long (lN (MVV I0 A S f p m p bo H - 1)))) (I', J', A, S, n, z)) :
    T Ω (d + 5) 177 0 [.ref 46, .int (nI bo), .int (nI H), jk, jk] [] (I, J, A, S, n, z) Q := by
  simp only [s177_0, s177_1, isR_ref, isR_nul, isR_ra, nl_int, nl_ref, nl_jk, nl_ra, nl_nul, rf_some, rf_none, nc_nil, nc_i, nc_l, nc_r, nc_n, nc_x, true_and, and_true, and_self, if_true, if_false, ite_true, ite_false, Option.toList_some, Option.toList_none, List.cons_append, List.nil_append, nar_b1, nar_b0, T_ite, reduceIte, reduceCtorEq, one_ne, eq_self, mkC_t, hn_t, va_up_same, not_true_eq_false, not_false_eq_true, Nat.reduceLeDiff, Nat.reduceAdd, Nat.reduceEqDiff, Nat.reduceMul, Nat.reduceSub, Nat.reduceDiv, Nat.reduceMod, Nat.reduceLT, false_and, and_false, false_or, or_false, true_or, or_true, Nat.add_zero, Nat.zero_add, Nat.mul_zero, Nat.zero_mul, Nat.add_left_cancel_iff, Nat.add_right_cancel_iff, LMS_46 hL, LMn_46 hL, LMS_47 hL, LMn_47 hL, LMS_48 hL, LMn_48 hL, LMS_49 hL, LMn_49 hL, LMS_50 hL, LMn_50 hL, LMS_51 hL, LMn_51 hL, LMS_52 hL, LMn_52 hL, LMS_53 hL, LMn_53 hL, LMS_54 hL, LMn_54 hL, LMS_55 hL, LMn_55 hL, LMS_56 hL, LMn_56 hL, LMS_57 hL, LMn_57 hL, LMS_58 hL, LMn_58 hL, LMS_59 hL, LMn_59 hL, LMS_60 hL, LMn_60 hL, LMS_61 hL, LMn_61 hL, LMS_62 hL, LMn_62 hL, LMS_63 hL, LMn_63 hL, LMS_64 hL, LMn_64 hL, LMS_65 hL, LMn_65 hL, LMS_66 hL, LMn_66 hL, LMS_67 hL, LMn_67 hL, LMA_46_2 hL, LMA_46_3 hL, LMA_46_5 hL, LMA_46_6 hL, LMA_46_7 hL, LMA_46_11 hL, LMA_46_12 hL, LMA_46_13 hL, LMA_46_21 hL, LMA_46_22 hL, LMA_46_23 hL, LMA_46_24 hL, LMA_46_25 hL, LMA_46_26 hL, LMA_46_27 hL, LMA_46_31 hL, LMA_46_32 hL, LMA_46_33 hL, LMA_46_34 hL, LMA_46_35 hL, LMA_46_36 hL]
  refine findV hL iT iD hr hf hlo hl9 hp p12 hE (fun I1 J1 h1 h2 h3 => ?_)
  have at0 : ∀ {Q : Option Value → AH → Prop} {h : AH}, T Ω (d + 4) 173 0 [.int 0, .int (nI bo), .int (nI H)] [] h Q = Q (some (.int (nI (61 * bo + H)))) h := fun {Q h} => by
    have := M_at (Ω := Ω) (d := d + 4) (h := h) (Q := Q) (a := 0) (b := bo) (c := H)
    rw [Nat.mul_zero, Nat.zero_add] at this
    exact this
  have hv := h2 0 bo H (Nat.zero_le _) hbo hH
  rw [Nat.mul_zero, Nat.zero_add, Nat.sub_zero] at hv
  have hle := MVV_le (I := I0) (A := A) (S := S) (f := f) (np := p) (m := m) (j := p) (b := bo) (h := H) hbo
  have := hQ I1 J1 h1
  simp only [s177_4, s177_5, s177_8, s177_9, s177_10, s177_11, s177_14, s177_15, s177_16, s177_17, s177_18, s177_19, s177_22, s177_23, s177_26, s177_27, isR_ref, isR_nul, isR_ra, nl_int, nl_ref, nl_jk, nl_ra, nl_nul, rf_some, rf_none, nc_nil, nc_i, nc_l, nc_r, nc_n, nc_x, true_and, and_true, and_self, if_true, if_false, ite_true, ite_false, Option.toList_some, Option.toList_none, List.cons_append, List.nil_append, nar_b1, nar_b0, T_ite, reduceIte, reduceCtorEq, one_ne, eq_self, mkC_t, hn_t, va_up_same, not_true_eq_false, not_false_eq_true, Nat.reduceLeDiff, Nat.reduceAdd, Nat.reduceEqDiff, Nat.reduceMul, Nat.reduceSub, Nat.reduceDiv, Nat.reduceMod, Nat.reduceLT, false_and, and_false, false_or, or_false, true_or, or_true, Nat.add_zero, Nat.zero_add, Nat.mul_zero, Nat.zero_mul, Nat.add_left_cancel_iff, Nat.add_right_cancel_iff, LMS_46 hL, LMn_46 hL, LMS_47 hL, LMn_47 hL, LMS_48 hL, LMn_48 hL, LMS_49 hL, LMn_49 hL, LMS_50 hL, LMn_50 hL, LMS_51 hL, LMn_51 hL, LMS_52 hL, LMn_52 hL, LMS_53 hL, LMn_53 hL, LMS_54 hL, LMn_54 hL, LMS_55 hL, LMn_55 hL, LMS_56 hL, LMn_56 hL, LMS_57 hL, LMn_57 hL, LMS_58 hL, LMn_58 hL, LMS_59 hL, LMn_59 hL, LMS_60 hL, LMn_60 hL, LMS_61 hL, LMn_61 hL, LMS_62 hL, LMn_62 hL, LMS_63 hL, LMn_63 hL, LMS_64 hL, LMn_64 hL, LMS_65 hL, LMn_65 hL, LMS_66 hL, LMn_66 hL, LMS_67 hL, LMn_67 hL, LMA_46_2 hL, LMA_46_3 hL, LMA_46_5 hL, LMA_46_6 hL, LMA_46_7 hL, LMA_46_11 hL, LMA_46_12 hL, LMA_46_13 hL, LMA_46_21 hL, LMA_46_22 hL, LMA_46_23 hL, LMA_46_24 hL, LMA_46_25 hL, LMA_46_26 hL, LMA_46_27 hL, LMA_46_31 hL, LMA_46_32 hL, LMA_46_33 hL, LMA_46_34 hL, LMA_46_35 hL, LMA_46_36 hL, at0, vpin (show 61 * bo + H < 2147483648 by omega), nI_cl (show 61 * bo + H < 2147483648 by omega), show 61 * bo + H < 5551 by omega, hv, rl_ge (show MVV I0 A S f p m p bo H < 2 ^ 62 by omega)]
  by_cases h0 : MVV I0 A S f p m p bo H = 0
  · rw [if_neg (fun g => g h0)]
    rw [h0] at this
    exact this
  · obtain ⟨u, hu⟩ : ∃ u, MVV I0 A S f p m p bo H = u + 1 := ⟨_, (Nat.sub_add_cancel (Nat.pos_of_ne_zero h0)).symm⟩
    rw [if_pos h0, hu, rl_s]
    rw [hu] at this
    exact this
theorem txr_AE {t f w : Nat} (h : IvT I A S n t) (hf : f < t) (g : AE A A') : txr A' f w = txr A f w := by
  obtain ⟨h1, h2, h3, h4, h5, h8⟩ := h
  obtain ⟨a, g1, g2, g3, g4⟩ := h8 f hf
  have ha : a ≠ 16 := okA_ne g2 (by omega)
  unfold txr
  rw [g.1 6 (by decide), g1]
  show (A' a w).getD 0 = (A a w).getD 0
  rw [g.1 a ha]
theorem tvX {t f w : Nat} {F : Nat → Int32} (iT : IvT I A S n t) (hf : f < t) (hw : w < 3) (g : AE A A') (e : ∀ r, okA r n → Ic r = I r) : tv Ic A' S f w F = tv I A S f w F := by
  obtain ⟨a, r, N, g1, g2, g3, g4, g5, g6, g7, g8, g9⟩ := IvT_tv iT hf hw F
  have e1 : txr A f w = r := by simp [txr, g1, g4]
  unfold tv
  rw [txr_AE iT hf g, e1, e r g5]
/-- the two plan by the same numbers -/
theorem VVeq {t f p m : Nat} (iT : IvT I A S n t) (hf : f < t) (iP : IvP Is p) (g : AE A A') (c3 : Ic 3 = Is 3) (c4 : ∀ j, j = 0 ∨ j = 1 ∨ j = 3 → Ic 4 j = Is 4 j) (m47 : Im 47 = Is 47) (m48 : ∀ j, j = 0 ∨ j = 1 ∨ j = 3 → Im 48 j = Is 48 j) (c49 : Ic 49 = I 49) (c50 : Ic 50 = I 50) (m49 : Im 49 = I 49) (m50 : Im 50 = I 50) (cT : ∀ r, okA r n → Ic r = I r) (mT : ∀ r, okA r n → Im r = I r) :
    pW0C Ic A S f = pW0M Im A' S f ∧ ∀ i q, i < m → q < p → pMyC Ic i q = pMyM Im i q ∧ tkN Ic i = tkN Im i ∧ pRkC Ic A S f i q = pRkM Im A' S f i q ∧ pWtC Ic A S f i q = pWtM Im A' S f i q := by
  have p5 := iP.2.2.2.2
  have e4 : ∀ j, j = 0 ∨ j = 1 ∨ j = 3 → Ic 4 j = Im 48 j := fun j hj => by
    rw [c4 j hj, m48 j hj]; exact (p5 j (by omega)).1
  have e0 : fc0 (Ic 4) = fc0 (Im 48) := by
    funext k
    simp only [fc0, e4 0 (by decide), e4 1 (by decide), e4 3 (by decide)]
  refine ⟨?_, fun i q hi hq => ?_⟩
  · unfold pW0C pW0M wrC wrM
    rw [e0, tvX iT hf (by decide) AE_refl cT, tvX iT hf (by decide) g mT]
  · have h4 : ∀ k, k < 4 * p → Ic 3 k = Im 47 k := fun k hk => by rw [c3, m47]; exact (iP.2.2.2.1 k hk).1
    have eN : fcN (Ic 3) (Ic 4) q = fcN (Im 47) (Im 48) q := by
      funext k
      simp only [fcN, e4 0 (by decide), e4 1 (by decide), e4 3 (by decide), h4 (4 * q) (by omega), h4 (4 * q + 1) (by omega), h4 (4 * q + 3) (by omega)]
    refine ⟨?_, ?_, ?_, ?_⟩
    · unfold pMyC pMyM myC myM
      rw [c49, m49, h4 (4 * q + 1) (by omega), h4 (4 * q + 2) (by omega), e4 0 (by decide)]
    · unfold tkN
      rw [c49, c50, m49, m50]
    · unfold pRkC pRkM rkC rkM
      rw [c49, c50, m49, m50, eN, tvX iT hf (by decide) AE_refl cT, tvX iT hf (by decide) g mT]
    · unfold pWtC pWtM wtC wtM
      rw [c49, c50, m49, m50, eN, tvX iT hf (by decide) AE_refl cT, tvX iT hf (by decide) g mT, e4 3 (by decide)]
theorem CVV_eq {f p m : Nat} (hv : pW0C Ic A S f = pW0M Im A' S f ∧ ∀ i q, i < m → q < p → pMyC Ic i q = pMyM Im i q ∧ tkN Ic i = tkN Im i ∧ pRkC Ic A S f i q = pRkM Im A' S f i q ∧ pWtC Ic A S f i q = pWtM Im A' S f i q) {j b h : Nat} (hj : j ≤ p) : CVV Ic A S f p m j b h = MVV Im A' S f p m j b h := VV_cg hv.1 hv.2 j b h hj
theorem CBB_eq {f p m : Nat} (hv : pW0C Ic A S f = pW0M Im A' S f ∧ ∀ i q, i < m → q < p → pMyC Ic i q = pMyM Im i q ∧ tkN Ic i = tkN Im i ∧ pRkC Ic A S f i q = pRkM Im A' S f i q ∧ pWtC Ic A S f i q = pWtM Im A' S f i q) {j b h : Nat} (hj : j < p) : CBB Ic A S f p m j b h = MBB Im A' S f p m j b h := BB_cg hv.1 hv.2 j b h hj
theorem LM_AE (hL : LM A S n) (h : AE A A') : LM A' S n := by
  refine ⟨hL.1, hL.2.1, fun e he => ?_⟩
  have h1 := hL.2.2 e he
  have h2 : ∀ e ∈ rLM, e.1 ≠ 16 := by decide
  rw [h.1 _ (h2 e he)]
  exact h1
theorem IvL_AE (hL : IvL A S n) (h : AE A A') (hh : ∃ hc nc, HN A' hc nc) : IvL A' S n := by
  obtain ⟨hc, nc, a1, a2, a3⟩ := hh
  refine ⟨LC_AE hL.1 h, LM_AE hL.2.1 h, ?_⟩
  rcases a3 with ⟨rfl, rfl⟩ | ⟨rfl, rfl⟩
  · exact Or.inl ⟨a1, a2⟩
  · exact Or.inr ⟨a1, a2⟩
theorem IvL_HN (hL : IvL A S n) : ∃ hc nc, HN A hc nc := by
  rcases hL.2.2 with ⟨h1, h2⟩ | ⟨h1, h2⟩
  · exact ⟨21, 22, h1, h2, Or.inl ⟨rfl, rfl⟩⟩
  · exact ⟨22, 21, h1, h2, Or.inr ⟨rfl, rfl⟩⟩
theorem left_or (w : Int32) : ¬ (0 ≤ w ∧ w / 100 ≤ 6 ∧ w - w / 100 * 100 ≤ 60) ∨ ∃ bo H, bo ≤ 6 ∧ H ≤ 60 ∧ (0 ≤ w ∧ w / 100 ≤ 6 ∧ w - w / 100 * 100 ≤ 60) ∧ w / 100 = nI bo ∧ w - w / 100 * 100 = nI H := by
  by_cases h : 0 ≤ w ∧ w / 100 ≤ 6 ∧ w - w / 100 * 100 ≤ 60
  · right
    rcases i32_cases w with hn | ⟨u, hu, rfl⟩
    · exact absurd hn (Int32.not_lt.mpr h.1)
    · have e1 : nI u / 100 = nI (u / 100) := nI_div hu (by decide) (by decide)
      have e2 : nI u - nI u / 100 * 100 = nI (u % 100) := nI_rem hu (by decide) (by decide)
      refine ⟨u / 100, u % 100, ?_, ?_, h, e1, e2⟩
      · have := h.2.1
        rw [e1] at this
        exact (nI_leI (b := 6) (by omega) (by decide)).mp this
      · have := h.2.2
        rw [e2] at this
        exact (nI_leI (b := 60) (by omega) (by decide)).mp this
  · exact Or.inl h
theorem M_isLeft {w : Int32} : T Ω d 171 0 [.int w] [] h Q = Q (some (.int (if 0 ≤ w ∧ w / 100 ≤ 6 ∧ w - w / 100 * 100 ≤ 60 then 1 else 0))) h := by
  simp only [s171_0, s171_1, s171_4, s171_5, s171_7, s171_8, s171_10, s171_13, s171_14, s171_16, s171_17, s171_19, s171_22, s171_23, s171_26, s171_27, isR_ref, isR_nul, isR_ra, nl_int, nl_ref, nl_jk, nl_ra, nl_nul, rf_some, rf_none, nc_nil, nc_i, nc_l, nc_r, nc_n, nc_x, true_and, and_true, and_self, if_true, if_false, ite_true, ite_false, Option.toList_some, Option.toList_none, List.cons_append, List.nil_append, nar_b1, nar_b0, T_ite, reduceIte, reduceCtorEq, one_ne, eq_self, mkC_t, hn_t, va_up_same, not_true_eq_false, not_false_eq_true, Nat.reduceLeDiff, Nat.reduceAdd, Nat.reduceEqDiff, Nat.reduceMul, Nat.reduceSub, Nat.reduceDiv, Nat.reduceMod, Nat.reduceLT, false_and, and_false, false_or, or_false, true_or, or_true, Nat.add_zero, Nat.zero_add, Nat.mul_zero, Nat.zero_mul, Nat.add_left_cancel_iff, Nat.add_right_cancel_iff, show ¬ (100 : Int32) = 0 from by decide]
  grind
end EV
