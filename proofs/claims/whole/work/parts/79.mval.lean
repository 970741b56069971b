section EV
variable {Ω : AO} {d : Nat} {L st : List Value} {h : AH} {Q : Option Value → AH → Prop} {I I' I'' I0 : Nat → Nat → Int32} {J J' : Nat → Nat → Int64} {A A' : Nat → Nat → Option Nat} {S : Nat → Nat × Nat} {n z z' : Nat} {x y a b : Int32}
def rl (e : Nat) : Int64 := lN e - 1
theorem rl_0 : rl 0 = -1 := by decide
theorem rl_s (e : Nat) : rl (e + 1) = lN e := lN_sub (a := e + 1) (b := 1) (by omega)
theorem rl_toInt {e : Nat} (h : e < 2 ^ 62) : (rl e).toInt = (e : Int) - 1 := by
  cases e with
  | zero => rw [rl_0]; rfl
  | succ e => rw [rl_s, pk_lT (by omega)]; omega
theorem rl_lt {a b : Nat} (ha : a < 2 ^ 62) (hb : b < 2 ^ 62) : (rl a < rl b) = (a < b) := by
  apply propext
  rw [Int64.lt_iff_toInt_lt, rl_toInt ha, rl_toInt hb]
  omega
theorem rl_ge {a : Nat} (ha : a < 2 ^ 62) : (0 ≤ lg_cmp (rl a) 0) = (¬ a = 0) := by
  apply propext
  rw [lg_cmp_ge, Int64.le_iff_toInt_le, rl_toInt ha, show (0 : Int64).toInt = 0 from rfl]
  omega
theorem rl_ltz {a : Nat} (ha : a < 2 ^ 62) : (lg_cmp (rl a) 0 < 0) = (a = 0) := by
  apply propext
  rw [lg_cmp_lt, Int64.lt_iff_toInt_lt, rl_toInt ha, show (0 : Int64).toInt = 0 from rfl]
  omega
theorem rl_lez {a : Nat} (ha : a < 2 ^ 62) : (lg_cmp (rl a) 0 ≤ 0) = (a ≤ 1) := by
  apply propext
  rw [lg_cmp_le, Int64.le_iff_toInt_le, rl_toInt ha, show (0 : Int64).toInt = 0 from rfl]
  omega
theorem rl_gt {a b : Nat} (ha : a < 2 ^ 62) (hb : b < 2 ^ 62) : (0 < lg_cmp (rl a) (rl b)) = (b < a) := by
  apply propext
  rw [lg_cmp_gt, Int64.lt_iff_toInt_lt, rl_toInt ha, rl_toInt hb]
  omega
theorem ri_l {a : Nat} (ha : a < 2 ^ 30) : (ri a).toInt64 = rl a := Int64.toInt_inj.mp (by rw [Int32.toInt_toInt64, ri_toInt ha, rl_toInt (by omega)])
theorem lsub_ge {u v : Nat} (hu : u < 2 ^ 40) (hv : v < 2 ^ 40) : (0 ≤ lg_cmp (lN u - lN v) 0) = (v ≤ u) := by
  apply propext
  rw [lg_cmp_ge]
  by_cases h : v ≤ u
  · rw [lN_sub h, Int64.le_iff_toInt_le, pk_lT (by omega), show (0 : Int64).toInt = 0 from rfl]
    omega
  · have e : lN u - lN v = -(lN (v - u)) := by
      rw [← lN_sub (a := v) (b := u) (by omega)]
      exact (Int64.neg_sub).symm
    have t : (-(lN (v - u))).toInt = -((v - u : Nat) : Int) := by
      rw [Int64.toInt_neg, pk_lT (by omega)]
      rw [Int.bmod_eq_of_le] <;> omega
    rw [e, Int64.le_iff_toInt_le, t, show (0 : Int64).toInt = 0 from rfl]
    omega
theorem M_at {a b c : Nat} : T Ω d 173 0 [.int (nI a), .int (nI b), .int (nI c)] [] h Q = Q (some (.int (nI (427 * a + 61 * b + c)))) h := by
  simp only [s173_0, s173_3, s173_4, s173_5, s173_7, s173_8, s173_9, s173_10, s173_11, s173_12, isR_ref, isR_nul, isR_ra, nl_int, nl_ref, nl_jk, nl_ra, nl_nul, rf_some, rf_none, nc_nil, nc_i, nc_l, nc_r, nc_n, nc_x, true_and, and_true, and_self, if_true, if_false, ite_true, ite_false, Option.toList_some, Option.toList_none, List.cons_append, List.nil_append, nar_b1, nar_b0, T_ite, reduceIte, reduceCtorEq, one_ne, eq_self, mkC_t, hn_t, va_up_same, not_true_eq_false, not_false_eq_true, Nat.reduceLeDiff, Nat.reduceAdd, Nat.reduceEqDiff, Nat.reduceMul, Nat.reduceSub, Nat.reduceDiv, Nat.reduceMod, Nat.reduceLT, false_and, and_false, false_or, or_false, true_or, or_true, Nat.add_zero, Nat.zero_add, Nat.mul_zero, Nat.zero_mul, Nat.add_left_cancel_iff, Nat.add_right_cancel_iff, lit_427, lit_61, pk_mul, nI_add]
theorem mt_k (hL : LM A S n) {i q tk r w b h : Nat} {pw : Int64} {Y : Nat → Nat} (hq : q < 12) (hb : b ≤ 6) (hh : h ≤ 60) (ht : tk ≤ h) (hr : r ≤ 100) (hM : ∀ k, k ≤ b → Y k ≤ 59995) (hJ : ∀ k, k ≤ b → J 60 (427 * (q + 1) + 61 * k + (h - tk)) = rl (Y k)) : ∀ (c k : Nat) (v13 : Value), k + c = b + 1 → T Ω (d + 1) 174 80 [.ref 46, .int (nI i), .int (nI q), .int (nI tk), .int (nI r), .int (nI w), .int (nI b), .long pw, jk, .int (nI h), .long (lN (sE r b Y k)), jk, .int (nI k), v13] [] (I, J, A, S, n, z) Q = T Ω (d + 1) 174 147 [.ref 46, .int (nI i), .int (nI q), .int (nI tk), .int (nI r), .int (nI w), .int (nI b), .long pw, jk, .int (nI h), .long (lN (sE r b Y (b + 1))), jk, .int (nI (b + 1)), v13] [] (I, J, A, S, n, z) Q := by
  intro c
  induction c with
  | zero =>
    intro k v13 hk
    obtain rfl : k = b + 1 := by omega
    have g1 : nI b < nI (b + 1) := nI_lt (by omega) (by omega)
    rw [s174_80]
    simp only [s174_82, s174_84, isR_ref, isR_nul, isR_ra, nl_int, nl_ref, nl_jk, nl_ra, nl_nul, rf_some, rf_none, nc_nil, nc_i, nc_l, nc_r, nc_n, nc_x, true_and, and_true, and_self, if_true, if_false, ite_true, ite_false, Option.toList_some, Option.toList_none, List.cons_append, List.nil_append, nar_b1, nar_b0, T_ite, reduceIte, reduceCtorEq, one_ne, eq_self, mkC_t, hn_t, va_up_same, not_true_eq_false, not_false_eq_true, Nat.reduceLeDiff, Nat.reduceAdd, Nat.reduceEqDiff, Nat.reduceMul, Nat.reduceSub, Nat.reduceDiv, Nat.reduceMod, Nat.reduceLT, false_and, and_false, false_or, or_false, true_or, or_true, Nat.add_zero, Nat.zero_add, Nat.mul_zero, Nat.zero_mul, Nat.add_left_cancel_iff, Nat.add_right_cancel_iff, g1]
  | succ c ih =>
    intro k v13 hk
    have g1 : ¬ nI b < nI k := nI_nlt (by omega) (by omega)
    have g2 := hM k (by omega)
    have g3 : nI h - nI tk = nI (h - tk) := nI_subs ht
    rw [s174_80]
    simp only [s174_82, s174_84, s174_87, s174_88, s174_91, s174_92, s174_93, s174_94, s174_96, s174_98, s174_99, s174_100, s174_103, s174_104, s174_105, s174_106, isR_ref, isR_nul, isR_ra, nl_int, nl_ref, nl_jk, nl_ra, nl_nul, rf_some, rf_none, nc_nil, nc_i, nc_l, nc_r, nc_n, nc_x, true_and, and_true, and_self, if_true, if_false, ite_true, ite_false, Option.toList_some, Option.toList_none, List.cons_append, List.nil_append, nar_b1, nar_b0, T_ite, reduceIte, reduceCtorEq, one_ne, eq_self, mkC_t, hn_t, va_up_same, not_true_eq_false, not_false_eq_true, Nat.reduceLeDiff, Nat.reduceAdd, Nat.reduceEqDiff, Nat.reduceMul, Nat.reduceSub, Nat.reduceDiv, Nat.reduceMod, Nat.reduceLT, false_and, and_false, false_or, or_false, true_or, or_true, Nat.add_zero, Nat.zero_add, Nat.mul_zero, Nat.zero_mul, Nat.add_left_cancel_iff, Nat.add_right_cancel_iff, LMS_46 hL, LMn_46 hL, LMS_47 hL, LMn_47 hL, LMS_48 hL, LMn_48 hL, LMS_49 hL, LMn_49 hL, LMS_50 hL, LMn_50 hL, LMS_51 hL, LMn_51 hL, LMS_52 hL, LMn_52 hL, LMS_53 hL, LMn_53 hL, LMS_54 hL, LMn_54 hL, LMS_55 hL, LMn_55 hL, LMS_56 hL, LMn_56 hL, LMS_57 hL, LMn_57 hL, LMS_58 hL, LMn_58 hL, LMS_59 hL, LMn_59 hL, LMS_60 hL, LMn_60 hL, LMS_61 hL, LMn_61 hL, LMS_62 hL, LMn_62 hL, LMS_63 hL, LMn_63 hL, LMS_64 hL, LMn_64 hL, LMS_65 hL, LMn_65 hL, LMS_66 hL, LMn_66 hL, LMS_67 hL, LMn_67 hL, LMA_46_2 hL, LMA_46_3 hL, LMA_46_5 hL, LMA_46_6 hL, LMA_46_7 hL, LMA_46_11 hL, LMA_46_12 hL, LMA_46_13 hL, LMA_46_21 hL, LMA_46_22 hL, LMA_46_23 hL, LMA_46_24 hL, LMA_46_25 hL, LMA_46_26 hL, LMA_46_27 hL, LMA_46_31 hL, LMA_46_32 hL, LMA_46_33 hL, LMA_46_34 hL, LMA_46_35 hL, LMA_46_36 hL, g1, g3, nI_1, M_at, vpin (show 427 * (q + 1) + 61 * k + (h - tk) < 2147483648 by omega), nI_cl (show 427 * (q + 1) + 61 * k + (h - tk) < 2147483648 by omega), show 427 * (q + 1) + 61 * k + (h - tk) < 5551 by omega, hJ k (by omega), rl_lez (show Y k < 2 ^ 62 by omega)]
    by_cases h1 : Y k ≤ 1
    · have e : sE r b Y (k + 1) = sE r b Y k := by rw [sE, show Y k - 1 = 0 by omega, Nat.mul_zero, Nat.add_zero]
      rw [if_pos h1]
      simp only [s174_141, s174_144, isR_ref, isR_nul, isR_ra, nl_int, nl_ref, nl_jk, nl_ra, nl_nul, rf_some, rf_none, nc_nil, nc_i, nc_l, nc_r, nc_n, nc_x, true_and, and_true, and_self, if_true, if_false, ite_true, ite_false, Option.toList_some, Option.toList_none, List.cons_append, List.nil_append, nar_b1, nar_b0, T_ite, reduceIte, reduceCtorEq, one_ne, eq_self, mkC_t, hn_t, va_up_same, not_true_eq_false, not_false_eq_true, Nat.reduceLeDiff, Nat.reduceAdd, Nat.reduceEqDiff, Nat.reduceMul, Nat.reduceSub, Nat.reduceDiv, Nat.reduceMod, Nat.reduceLT, false_and, and_false, false_or, or_false, true_or, or_true, Nat.add_zero, Nat.zero_add, Nat.mul_zero, Nat.zero_mul, Nat.add_left_cancel_iff, Nat.add_right_cancel_iff, nI_1]
      rw [← e]
      exact ih (k + 1) _ (by omega)
    · obtain ⟨u, hu⟩ : ∃ u, Y k = u + 1 := ⟨Y k - 1, by omega⟩
      have e : lN (sE r b Y k) + lN (cs k b r) * rl (Y k) = lN (sE r b Y (k + 1)) := by
        rw [hu, rl_s, lN_mul, lN_add, sE, hu]; rfl
      rw [if_neg h1]
      simp only [s174_109, s174_111, s174_113, s174_115, s174_117, s174_120, s174_121, s174_124, s174_125, s174_126, s174_127, s174_129, s174_131, s174_132, s174_133, s174_136, s174_137, s174_138, s174_139, s174_141, s174_144, isR_ref, isR_nul, isR_ra, nl_int, nl_ref, nl_jk, nl_ra, nl_nul, rf_some, rf_none, nc_nil, nc_i, nc_l, nc_r, nc_n, nc_x, true_and, and_true, and_self, if_true, if_false, ite_true, ite_false, Option.toList_some, Option.toList_none, List.cons_append, List.nil_append, nar_b1, nar_b0, T_ite, reduceIte, reduceCtorEq, one_ne, eq_self, mkC_t, hn_t, va_up_same, not_true_eq_false, not_false_eq_true, Nat.reduceLeDiff, Nat.reduceAdd, Nat.reduceEqDiff, Nat.reduceMul, Nat.reduceSub, Nat.reduceDiv, Nat.reduceMod, Nat.reduceLT, false_and, and_false, false_or, or_false, true_or, or_true, Nat.add_zero, Nat.zero_add, Nat.mul_zero, Nat.zero_mul, Nat.add_left_cancel_iff, Nat.add_right_cancel_iff, LMS_46 hL, LMn_46 hL, LMS_47 hL, LMn_47 hL, LMS_48 hL, LMn_48 hL, LMS_49 hL, LMn_49 hL, LMS_50 hL, LMn_50 hL, LMS_51 hL, LMn_51 hL, LMS_52 hL, LMn_52 hL, LMS_53 hL, LMn_53 hL, LMS_54 hL, LMn_54 hL, LMS_55 hL, LMn_55 hL, LMS_56 hL, LMn_56 hL, LMS_57 hL, LMn_57 hL, LMS_58 hL, LMn_58 hL, LMS_59 hL, LMn_59 hL, LMS_60 hL, LMn_60 hL, LMS_61 hL, LMn_61 hL, LMS_62 hL, LMn_62 hL, LMS_63 hL, LMn_63 hL, LMS_64 hL, LMn_64 hL, LMS_65 hL, LMn_65 hL, LMS_66 hL, LMn_66 hL, LMS_67 hL, LMn_67 hL, LMA_46_2 hL, LMA_46_3 hL, LMA_46_5 hL, LMA_46_6 hL, LMA_46_7 hL, LMA_46_11 hL, LMA_46_12 hL, LMA_46_13 hL, LMA_46_21 hL, LMA_46_22 hL, LMA_46_23 hL, LMA_46_24 hL, LMA_46_25 hL, LMA_46_26 hL, LMA_46_27 hL, LMA_46_31 hL, LMA_46_32 hL, LMA_46_33 hL, LMA_46_34 hL, LMA_46_35 hL, LMA_46_36 hL, M_cases hr hb (show k ≤ b by omega), g3, nI_1, M_at, vpin (show 427 * (q + 1) + 61 * k + (h - tk) < 2147483648 by omega), nI_cl (show 427 * (q + 1) + 61 * k + (h - tk) < 2147483648 by omega), show 427 * (q + 1) + 61 * k + (h - tk) < 5551 by omega, hJ k (by omega), e]
      exact ih (k + 1) _ (by omega)
set_option maxHeartbeats 1000000 in
theorem mt_h (hL : LM A S n) {i q tk r w b : Nat} {X : Nat → Nat × Nat} {Y : Nat → Nat → Nat} (hq : q < 12) (hb : b ≤ 6) (hr : r ≤ 100) (hw : w ≤ 99) (htk : tk ≤ 4) (hM : ∀ k h, k ≤ b → Y k h ≤ 59995) (hX : ∀ h, (X h).1 ≤ 59995) : ∀ (c h : Nat) (I : Nat → Nat → Int32) (J : Nat → Nat → Int64) (v10 v11 v12 v13 : Value), h + c = 61 → tk ≤ h → (∀ k h', k ≤ b → h' ≤ 60 → J 60 (427 * (q + 1) + 61 * k + h') = rl (Y k h')) → (∀ h', h ≤ h' → h' ≤ 60 → J 60 (427 * q + 61 * b + h') = rl (X h').1 ∧ I 61 (427 * q + 61 * b + h') = ri (X h').2) →
    (∀ (I' : Nat → Nat → Int32) (J' : Nat → Nat → Int64) (v10 v11 v12 v13 : Value), (∀ a, a ≠ 61 → I' a = I a) → (∀ j, (∀ h', h ≤ h' → h' ≤ 60 → j ≠ 427 * q + 61 * b + h') → J' 60 j = J 60 j ∧ I' 61 j = I 61 j) → (∀ h', h ≤ h' → h' ≤ 60 → J' 60 (427 * q + 61 * b + h') = rl (stx r w i b (fun k => Y k (h' - tk)) (X h')).1 ∧ I' 61 (427 * q + 61 * b + h') = ri (stx r w i b (fun k => Y k (h' - tk)) (X h')).2) → T Ω (d + 1) 174 233 [.ref 46, .int (nI i), .int (nI q), .int (nI tk), .int (nI r), .int (nI w), .int (nI b), .long (lN (100 ^ b)), jk, .int (nI 61), v10, v11, v12, v13] [] (I', J', A, S, n, z) Q) →
    T Ω (d + 1) 174 42 [.ref 46, .int (nI i), .int (nI q), .int (nI tk), .int (nI r), .int (nI w), .int (nI b), .long (lN (100 ^ b)), jk, .int (nI h), v10, v11, v12, v13] [] (I, J, A, S, n, z) Q := by
  have hp := p100 b (by omega)
  have hp0 := p100p b
  have g0 : ¬ lN (100 ^ b) = 0 := fun e => absurd ((pk_lEQ (a := 100 ^ b) (b := 0) (by omega) (by decide)).mp e) (by omega)
  intro c
  induction c with
  | zero =>
    intro h I J v10 v11 v12 v13 hh ht hN hX0 hQ
    obtain rfl : h = 61 := by omega
    rw [s174_42]
    simp only [s174_44, s174_46, isR_ref, isR_nul, isR_ra, nl_int, nl_ref, nl_jk, nl_ra, nl_nul, rf_some, rf_none, nc_nil, nc_i, nc_l, nc_r, nc_n, nc_x, true_and, and_true, and_self, if_true, if_false, ite_true, ite_false, Option.toList_some, Option.toList_none, List.cons_append, List.nil_append, nar_b1, nar_b0, T_ite, reduceIte, reduceCtorEq, one_ne, eq_self, mkC_t, hn_t, va_up_same, not_true_eq_false, not_false_eq_true, Nat.reduceLeDiff, Nat.reduceAdd, Nat.reduceEqDiff, Nat.reduceMul, Nat.reduceSub, Nat.reduceDiv, Nat.reduceMod, Nat.reduceLT, false_and, and_false, false_or, or_false, true_or, or_true, Nat.add_zero, Nat.zero_add, Nat.mul_zero, Nat.zero_mul, Nat.add_left_cancel_iff, Nat.add_right_cancel_iff, show (60 : Int32) < nI 61 from by decide]
    exact hQ I J _ _ _ _ (fun _ _ => rfl) (fun _ _ => ⟨rfl, rfl⟩) (fun h' h1 h2 => by omega)
  | succ c ih =>
    intro h I J v10 v11 v12 v13 hh ht hN hX0 hQ
    have g1 : ¬ (60 : Int32) < nI h := nI_nlt (a := 60) (by omega) (by decide)
    have g3 : nI h - nI tk = nI (h - tk) := nI_subs ht
    have gY : Y b (h - tk) ≤ 59995 := hM b _ (Nat.le_refl _)
    have gx := ex_le (M := 59994) (w := w) (Y := fun k => Y k (h - tk)) hr hb (fun j hj => hM j _ hj)
    have gX := hX h
    have step0 : stx r w i b (fun k => Y k (h - tk)) (X h) = X h → T Ω (d + 1) 174 42 [.ref 46, .int (nI i), .int (nI q), .int (nI tk), .int (nI r), .int (nI w), .int (nI b), .long (lN (100 ^ b)), jk, .int (nI (h + 1)), v10, v11, v12, v13] [] (I, J, A, S, n, z) Q := fun hs => by
      refine ih (h + 1) I J _ _ _ _ (by omega) (by omega) hN (fun h' h1 h2 => hX0 h' (by omega) h2) (fun I' J' u1 u2 u3 u4 f1 f2 f3 => hQ I' J' u1 u2 u3 u4 f1 (fun j hj => f2 j (fun h' h1 h2 => hj h' (by omega) h2)) (fun h' h1 h2 => ?_))
      by_cases hh' : h' = h
      · subst hh'
        obtain ⟨k1, k2⟩ := f2 (427 * q + 61 * b + h') (fun h'' h1 h2 => by omega)
        rw [k1, k2, hs]
        exact hX0 h' (Nat.le_refl _) h2
      · exact f3 h' (by omega) h2
    rw [s174_42]
    simp only [s174_44, s174_46, s174_49, s174_50, s174_53, s174_54, s174_55, s174_56, s174_58, s174_60, s174_61, s174_62, s174_65, s174_66, s174_67, s174_68, isR_ref, isR_nul, isR_ra, nl_int, nl_ref, nl_jk, nl_ra, nl_nul, rf_some, rf_none, nc_nil, nc_i, nc_l, nc_r, nc_n, nc_x, true_and, and_true, and_self, if_true, if_false, ite_true, ite_false, Option.toList_some, Option.toList_none, List.cons_append, List.nil_append, nar_b1, nar_b0, T_ite, reduceIte, reduceCtorEq, one_ne, eq_self, mkC_t, hn_t, va_up_same, not_true_eq_false, not_false_eq_true, Nat.reduceLeDiff, Nat.reduceAdd, Nat.reduceEqDiff, Nat.reduceMul, Nat.reduceSub, Nat.reduceDiv, Nat.reduceMod, Nat.reduceLT, false_and, and_false, false_or, or_false, true_or, or_true, Nat.add_zero, Nat.zero_add, Nat.mul_zero, Nat.zero_mul, Nat.add_left_cancel_iff, Nat.add_right_cancel_iff, LMS_46 hL, LMn_46 hL, LMS_47 hL, LMn_47 hL, LMS_48 hL, LMn_48 hL, LMS_49 hL, LMn_49 hL, LMS_50 hL, LMn_50 hL, LMS_51 hL, LMn_51 hL, LMS_52 hL, LMn_52 hL, LMS_53 hL, LMn_53 hL, LMS_54 hL, LMn_54 hL, LMS_55 hL, LMn_55 hL, LMS_56 hL, LMn_56 hL, LMS_57 hL, LMn_57 hL, LMS_58 hL, LMn_58 hL, LMS_59 hL, LMn_59 hL, LMS_60 hL, LMn_60 hL, LMS_61 hL, LMn_61 hL, LMS_62 hL, LMn_62 hL, LMS_63 hL, LMn_63 hL, LMS_64 hL, LMn_64 hL, LMS_65 hL, LMn_65 hL, LMS_66 hL, LMn_66 hL, LMS_67 hL, LMn_67 hL, LMA_46_2 hL, LMA_46_3 hL, LMA_46_5 hL, LMA_46_6 hL, LMA_46_7 hL, LMA_46_11 hL, LMA_46_12 hL, LMA_46_13 hL, LMA_46_21 hL, LMA_46_22 hL, LMA_46_23 hL, LMA_46_24 hL, LMA_46_25 hL, LMA_46_26 hL, LMA_46_27 hL, LMA_46_31 hL, LMA_46_32 hL, LMA_46_33 hL, LMA_46_34 hL, LMA_46_35 hL, LMA_46_36 hL, g1, g3, nI_1, M_at, vpin (show 427 * (q + 1) + 61 * b + (h - tk) < 2147483648 by omega), nI_cl (show 427 * (q + 1) + 61 * b + (h - tk) < 2147483648 by omega), show 427 * (q + 1) + 61 * b + (h - tk) < 5551 by omega, hN b (h - tk) (Nat.le_refl _) (by omega), rl_ge (show Y b (h - tk) < 2 ^ 62 by omega)]
    by_cases h0 : Y b (h - tk) = 0
    · have hx0 : ex r w b (fun k => Y k (h - tk)) = 0 := ex_0.mpr h0
      rw [if_neg (fun g => g h0)]
      simp only [s174_71, s174_227, s174_230, isR_ref, isR_nul, isR_ra, nl_int, nl_ref, nl_jk, nl_ra, nl_nul, rf_some, rf_none, nc_nil, nc_i, nc_l, nc_r, nc_n, nc_x, true_and, and_true, and_self, if_true, if_false, ite_true, ite_false, Option.toList_some, Option.toList_none, List.cons_append, List.nil_append, nar_b1, nar_b0, T_ite, reduceIte, reduceCtorEq, one_ne, eq_self, mkC_t, hn_t, va_up_same, not_true_eq_false, not_false_eq_true, Nat.reduceLeDiff, Nat.reduceAdd, Nat.reduceEqDiff, Nat.reduceMul, Nat.reduceSub, Nat.reduceDiv, Nat.reduceMod, Nat.reduceLT, false_and, and_false, false_or, or_false, true_or, or_true, Nat.add_zero, Nat.zero_add, Nat.mul_zero, Nat.zero_mul, Nat.add_left_cancel_iff, Nat.add_right_cancel_iff, nI_1]
      have hs : stx r w i b (fun k => Y k (h - tk)) (X h) = X h := by unfold stx; rw [hx0, if_neg (by omega)]
      exact step0 hs
    · rw [if_pos h0]
      simp only [s174_74, s174_75, s174_77, s174_78, isR_ref, isR_nul, isR_ra, nl_int, nl_ref, nl_jk, nl_ra, nl_nul, rf_some, rf_none, nc_nil, nc_i, nc_l, nc_r, nc_n, nc_x, true_and, and_true, and_self, if_true, if_false, ite_true, ite_false, Option.toList_some, Option.toList_none, List.cons_append, List.nil_append, nar_b1, nar_b0, T_ite, reduceIte, reduceCtorEq, one_ne, eq_self, mkC_t, hn_t, va_up_same, not_true_eq_false, not_false_eq_true, Nat.reduceLeDiff, Nat.reduceAdd, Nat.reduceEqDiff, Nat.reduceMul, Nat.reduceSub, Nat.reduceDiv, Nat.reduceMod, Nat.reduceLT, false_and, and_false, false_or, or_false, true_or, or_true, Nat.add_zero, Nat.zero_add, Nat.mul_zero, Nat.zero_mul, Nat.add_left_cancel_iff, Nat.add_right_cancel_iff]
      have gl := sE_le2 (M := 59994) (Y := fun k => Y k (h - tk)) hr hb (fun j hj => hM j _ hj)
      have gd := sE_div (M := 59994) (Y := fun k => Y k (h - tk)) hr hb (fun j hj => hM j _ hj)
      have gl2 : sE r b (fun k => Y k (h - tk)) (b + 1) < 2 ^ 63 := Nat.lt_of_le_of_lt (Nat.le_trans gl (Nat.mul_le_mul_left 59994 hp)) (by decide)
      have gb : b * 10 * w ≤ 6 * 10 * 99 := Nat.mul_le_mul (Nat.mul_le_mul hb (Nat.le_refl _)) hw
      have key := mt_k (Ω := Ω) (d := d) (Q := Q) (I := I) (z := z) (i := i) (w := w) (pw := lN (100 ^ b)) hL hq hb (show h ≤ 60 by omega) ht hr (fun k hk => hM k (h - tk) hk) (fun k hk => hN k (h - tk) hk (by omega)) (b + 1) 0 v13 (by omega)
      rw [show sE r b (fun k => Y k (h - tk)) 0 = 0 from rfl] at key
      rw [show (0 : Int64) = lN 0 from rfl, show (0 : Int32) = nI 0 from rfl, key]
      have ee : ex r w b (fun k => Y k (h - tk)) = sE r b (fun k => Y k (h - tk)) (b + 1) / 100 ^ b - b * 10 * w + 1 := by
        unfold ex
        rw [if_neg h0, Nat.mul_assoc]
      have er : rl (ex r w b (fun k => Y k (h - tk))) = lN (sE r b (fun k => Y k (h - tk)) (b + 1) / 100 ^ b - b * 10 * w) := by rw [ee, rl_s]
      have e176 : ∀ v, v = rl (ex r w b (fun k => Y k (h - tk))) → T Ω (d + 1) 174 176 [.ref 46, .int (nI i), .int (nI q), .int (nI tk), .int (nI r), .int (nI w), .int (nI b), .long (lN (100 ^ b)), jk, .int (nI h), .long (lN (sE r b (fun k => Y k (h - tk)) (b + 1))), jk, .long v, jk] [] (I, J, A, S, n, z) Q := by
        intro v hv
        subst hv
        obtain ⟨x1, x2⟩ := hX0 h (Nat.le_refl _) (by omega)
        simp only [s174_176, s174_178, s174_179, s174_182, s174_183, s174_185, s174_187, s174_190, s174_191, s174_192, isR_ref, isR_nul, isR_ra, nl_int, nl_ref, nl_jk, nl_ra, nl_nul, rf_some, rf_none, nc_nil, nc_i, nc_l, nc_r, nc_n, nc_x, true_and, and_true, and_self, if_true, if_false, ite_true, ite_false, Option.toList_some, Option.toList_none, List.cons_append, List.nil_append, nar_b1, nar_b0, T_ite, reduceIte, reduceCtorEq, one_ne, eq_self, mkC_t, hn_t, va_up_same, not_true_eq_false, not_false_eq_true, Nat.reduceLeDiff, Nat.reduceAdd, Nat.reduceEqDiff, Nat.reduceMul, Nat.reduceSub, Nat.reduceDiv, Nat.reduceMod, Nat.reduceLT, false_and, and_false, false_or, or_false, true_or, or_true, Nat.add_zero, Nat.zero_add, Nat.mul_zero, Nat.zero_mul, Nat.add_left_cancel_iff, Nat.add_right_cancel_iff, LMS_46 hL, LMn_46 hL, LMS_47 hL, LMn_47 hL, LMS_48 hL, LMn_48 hL, LMS_49 hL, LMn_49 hL, LMS_50 hL, LMn_50 hL, LMS_51 hL, LMn_51 hL, LMS_52 hL, LMn_52 hL, LMS_53 hL, LMn_53 hL, LMS_54 hL, LMn_54 hL, LMS_55 hL, LMn_55 hL, LMS_56 hL, LMn_56 hL, LMS_57 hL, LMn_57 hL, LMS_58 hL, LMn_58 hL, LMS_59 hL, LMn_59 hL, LMS_60 hL, LMn_60 hL, LMS_61 hL, LMn_61 hL, LMS_62 hL, LMn_62 hL, LMS_63 hL, LMn_63 hL, LMS_64 hL, LMn_64 hL, LMS_65 hL, LMn_65 hL, LMS_66 hL, LMn_66 hL, LMS_67 hL, LMn_67 hL, LMA_46_2 hL, LMA_46_3 hL, LMA_46_5 hL, LMA_46_6 hL, LMA_46_7 hL, LMA_46_11 hL, LMA_46_12 hL, LMA_46_13 hL, LMA_46_21 hL, LMA_46_22 hL, LMA_46_23 hL, LMA_46_24 hL, LMA_46_25 hL, LMA_46_26 hL, LMA_46_27 hL, LMA_46_31 hL, LMA_46_32 hL, LMA_46_33 hL, LMA_46_34 hL, LMA_46_35 hL, LMA_46_36 hL, M_at, vpin (show 427 * q + 61 * b + h < 2147483648 by omega), nI_cl (show 427 * q + 61 * b + h < 2147483648 by omega), show 427 * q + 61 * b + h < 5551 by omega, x1, rl_gt (show ex r w b (fun k => Y k (h - tk)) < 2 ^ 62 by omega) (show (X h).1 < 2 ^ 62 by omega)]
        by_cases hg : (X h).1 < ex r w b (fun k => Y k (h - tk))
        · have hs : stx r w i b (fun k => Y k (h - tk)) (X h) = (ex r w b (fun k => Y k (h - tk)), i + 1) := by unfold stx; rw [if_pos hg]
          rw [if_pos hg]
          simp only [s174_198, s174_199, s174_202, s174_203, s174_205, s174_207, s174_210, s174_212, s174_213, s174_214, s174_217, s174_218, s174_220, s174_222, s174_225, s174_226, s174_227, s174_230, isR_ref, isR_nul, isR_ra, nl_int, nl_ref, nl_jk, nl_ra, nl_nul, rf_some, rf_none, nc_nil, nc_i, nc_l, nc_r, nc_n, nc_x, true_and, and_true, and_self, if_true, if_false, ite_true, ite_false, Option.toList_some, Option.toList_none, List.cons_append, List.nil_append, nar_b1, nar_b0, T_ite, reduceIte, reduceCtorEq, one_ne, eq_self, mkC_t, hn_t, va_up_same, not_true_eq_false, not_false_eq_true, Nat.reduceLeDiff, Nat.reduceAdd, Nat.reduceEqDiff, Nat.reduceMul, Nat.reduceSub, Nat.reduceDiv, Nat.reduceMod, Nat.reduceLT, false_and, and_false, false_or, or_false, true_or, or_true, Nat.add_zero, Nat.zero_add, Nat.mul_zero, Nat.zero_mul, Nat.add_left_cancel_iff, Nat.add_right_cancel_iff, LMS_46 hL, LMn_46 hL, LMS_47 hL, LMn_47 hL, LMS_48 hL, LMn_48 hL, LMS_49 hL, LMn_49 hL, LMS_50 hL, LMn_50 hL, LMS_51 hL, LMn_51 hL, LMS_52 hL, LMn_52 hL, LMS_53 hL, LMn_53 hL, LMS_54 hL, LMn_54 hL, LMS_55 hL, LMn_55 hL, LMS_56 hL, LMn_56 hL, LMS_57 hL, LMn_57 hL, LMS_58 hL, LMn_58 hL, LMS_59 hL, LMn_59 hL, LMS_60 hL, LMn_60 hL, LMS_61 hL, LMn_61 hL, LMS_62 hL, LMn_62 hL, LMS_63 hL, LMn_63 hL, LMS_64 hL, LMn_64 hL, LMS_65 hL, LMn_65 hL, LMS_66 hL, LMn_66 hL, LMS_67 hL, LMn_67 hL, LMA_46_2 hL, LMA_46_3 hL, LMA_46_5 hL, LMA_46_6 hL, LMA_46_7 hL, LMA_46_11 hL, LMA_46_12 hL, LMA_46_13 hL, LMA_46_21 hL, LMA_46_22 hL, LMA_46_23 hL, LMA_46_24 hL, LMA_46_25 hL, LMA_46_26 hL, LMA_46_27 hL, LMA_46_31 hL, LMA_46_32 hL, LMA_46_33 hL, LMA_46_34 hL, LMA_46_35 hL, LMA_46_36 hL, M_at, vpin (show 427 * q + 61 * b + h < 2147483648 by omega), nI_cl (show 427 * q + 61 * b + h < 2147483648 by omega), show 427 * q + 61 * b + h < 5551 by omega, nI_1]
          refine ih (h + 1) _ _ _ _ _ _ (by omega) (by omega) (fun k h' h1 h2 => by rw [wr_at_ne (by omega)]; exact hN k h' h1 h2) (fun h' h1 h2 => by rw [wr_at_ne (by omega), wr_at_ne (by omega)]; exact hX0 h' (by omega) h2) (fun I' J' u1 u2 u3 u4 f1 f2 f3 => hQ I' J' u1 u2 u3 u4 (fun a ha => by rw [f1 a ha, wr_ne ha]) (fun j hj => ?_) (fun h' h1 h2 => ?_))
          · have hjh := hj h (Nat.le_refl _) (by omega)
            obtain ⟨k1, k2⟩ := f2 j (fun h' h1 h2 => hj h' (by omega) h2)
            rw [k1, k2, wr_at_ne hjh, wr_at_ne hjh]
            exact ⟨rfl, rfl⟩
          · by_cases hh' : h' = h
            · subst hh'
              obtain ⟨k1, k2⟩ := f2 (427 * q + 61 * b + h') (fun h'' h1 h2 => by omega)
              rw [k1, k2, hs, wr_at, wr_at, ri_s]
              exact ⟨rfl, rfl⟩
            · exact f3 h' (by omega) h2
        · have hs : stx r w i b (fun k => Y k (h - tk)) (X h) = X h := by unfold stx; rw [if_neg hg]
          rw [if_neg hg]
          simp only [s174_195, s174_227, s174_230, isR_ref, isR_nul, isR_ra, nl_int, nl_ref, nl_jk, nl_ra, nl_nul, rf_some, rf_none, nc_nil, nc_i, nc_l, nc_r, nc_n, nc_x, true_and, and_true, and_self, if_true, if_false, ite_true, ite_false, Option.toList_some, Option.toList_none, List.cons_append, List.nil_append, nar_b1, nar_b0, T_ite, reduceIte, reduceCtorEq, one_ne, eq_self, mkC_t, hn_t, va_up_same, not_true_eq_false, not_false_eq_true, Nat.reduceLeDiff, Nat.reduceAdd, Nat.reduceEqDiff, Nat.reduceMul, Nat.reduceSub, Nat.reduceDiv, Nat.reduceMod, Nat.reduceLT, false_and, and_false, false_or, or_false, true_or, or_true, Nat.add_zero, Nat.zero_add, Nat.mul_zero, Nat.zero_mul, Nat.add_left_cancel_iff, Nat.add_right_cancel_iff, nI_1]
          refine ih (h + 1) I J _ _ _ _ (by omega) (by omega) hN (fun h' h1 h2 => hX0 h' (by omega) h2) (fun I' J' u1 u2 u3 u4 f1 f2 f3 => hQ I' J' u1 u2 u3 u4 f1 (fun j hj => f2 j (fun h' h1 h2 => hj h' (by omega) h2)) (fun h' h1 h2 => ?_))
          by_cases hh' : h' = h
          · subst hh'
            obtain ⟨k1, k2⟩ := f2 (427 * q + 61 * b + h') (fun h'' h1 h2 => by omega)
            rw [k1, k2, hs]
            exact ⟨x1, x2⟩
          · exact f3 h' (by omega) h2
      simp only [s174_147, s174_149, s174_151, s174_152, s174_154, s174_155, s174_158, s174_159, s174_161, s174_162, s174_163, s174_164, s174_166, s174_168, s174_169, s174_170, isR_ref, isR_nul, isR_ra, nl_int, nl_ref, nl_jk, nl_ra, nl_nul, rf_some, rf_none, nc_nil, nc_i, nc_l, nc_r, nc_n, nc_x, true_and, and_true, and_self, if_true, if_false, ite_true, ite_false, Option.toList_some, Option.toList_none, List.cons_append, List.nil_append, nar_b1, nar_b0, T_ite, reduceIte, reduceCtorEq, one_ne, eq_self, mkC_t, hn_t, va_up_same, not_true_eq_false, not_false_eq_true, Nat.reduceLeDiff, Nat.reduceAdd, Nat.reduceEqDiff, Nat.reduceMul, Nat.reduceSub, Nat.reduceDiv, Nat.reduceMod, Nat.reduceLT, false_and, and_false, false_or, or_false, true_or, or_true, Nat.add_zero, Nat.zero_add, Nat.mul_zero, Nat.zero_mul, Nat.add_left_cancel_iff, Nat.add_right_cancel_iff, g0, pk_lDiv gl2 hp0 (show 100 ^ b < 2 ^ 63 by omega), nI_l (show b < 2147483648 by omega), nI_l (show w < 2147483648 by omega), show (10 : Int64) = lN 10 from rfl, lN_mul, lsub_ge (show sE r b (fun k => Y k (h - tk)) (b + 1) / 100 ^ b < 2 ^ 40 by omega) (show b * 10 * w < 2 ^ 40 by omega)]
      by_cases hle : b * 10 * w ≤ sE r b (fun k => Y k (h - tk)) (b + 1) / 100 ^ b
      · rw [if_pos hle, lN_sub hle]
        exact e176 _ er.symm
      · rw [if_neg hle]
        simp only [s174_173, s174_174, isR_ref, isR_nul, isR_ra, nl_int, nl_ref, nl_jk, nl_ra, nl_nul, rf_some, rf_none, nc_nil, nc_i, nc_l, nc_r, nc_n, nc_x, true_and, and_true, and_self, if_true, if_false, ite_true, ite_false, Option.toList_some, Option.toList_none, List.cons_append, List.nil_append, nar_b1, nar_b0, T_ite, reduceIte, reduceCtorEq, one_ne, eq_self, mkC_t, hn_t, va_up_same, not_true_eq_false, not_false_eq_true, Nat.reduceLeDiff, Nat.reduceAdd, Nat.reduceEqDiff, Nat.reduceMul, Nat.reduceSub, Nat.reduceDiv, Nat.reduceMod, Nat.reduceLT, false_and, and_false, false_or, or_false, true_or, or_true, Nat.add_zero, Nat.zero_add, Nat.mul_zero, Nat.zero_mul, Nat.add_left_cancel_iff, Nat.add_right_cancel_iff]
        refine e176 _ ?_
        rw [er, show sE r b (fun k => Y k (h - tk)) (b + 1) / 100 ^ b - b * 10 * w = 0 by omega]
        rfl
end EV
