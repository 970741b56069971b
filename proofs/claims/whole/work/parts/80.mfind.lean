section EV
variable {Ω : AO} {d : Nat} {L st : List Value} {h : AH} {Q : Option Value → AH → Prop} {I I' I'' I0 : Nat → Nat → Int32} {J J' : Nat → Nat → Int64} {A A' : Nat → Nat → Option Nat} {S : Nat → Nat × Nat} {n z z' : Nat} {x y a b : Int32}
/-- what one doing makes of a row -/
def sx (r w i tk : Nat) (Y : Nat → Nat → Nat) (X : Nat → Nat → Nat × Nat) (b h : Nat) : Nat × Nat := if tk ≤ h then stx r w i b (fun k => Y k (h - tk)) (X b h) else X b h
set_option maxHeartbeats 1000000 in
theorem mt_b (hL : LM A S n) {i q tk r w : Nat} {X : Nat → Nat → Nat × Nat} {Y : Nat → Nat → Nat} (hq : q < 12) (hr : r ≤ 100) (hw : w ≤ 99) (htk : tk ≤ 4) (hM : ∀ k h, k ≤ 6 → Y k h ≤ 59995) (hX : ∀ b h, b ≤ 6 → (X b h).1 ≤ 59995) : ∀ (c b : Nat) (I : Nat → Nat → Int32) (J : Nat → Nat → Int64) (v7 v8 v9 v10 v11 v12 v13 : Value), b + c = 7 → (∀ k h', k ≤ 6 → h' ≤ 60 → J 60 (427 * (q + 1) + 61 * k + h') = rl (Y k h')) → (∀ b' h', b ≤ b' → b' ≤ 6 → h' ≤ 60 → J 60 (427 * q + 61 * b' + h') = rl (X b' h').1 ∧ I 61 (427 * q + 61 * b' + h') = ri (X b' h').2) →
    (∀ (I' : Nat → Nat → Int32) (J' : Nat → Nat → Int64), (∀ a, a ≠ 61 → I' a = I a) → (∀ j, (∀ b' h', b ≤ b' → b' ≤ 6 → h' ≤ 60 → j ≠ 427 * q + 61 * b' + h') → J' 60 j = J 60 j ∧ I' 61 j = I 61 j) → (∀ b' h', b ≤ b' → b' ≤ 6 → h' ≤ 60 → J' 60 (427 * q + 61 * b' + h') = rl (sx r w i tk Y X b' h').1 ∧ I' 61 (427 * q + 61 * b' + h') = ri (sx r w i tk Y X b' h').2) → Q none (I', J', A, S, n, z)) →
    T Ω (d + 1) 174 25 [.ref 46, .int (nI i), .int (nI q), .int (nI tk), .int (nI r), .int (nI w), .int (nI b), v7, v8, v9, v10, v11, v12, v13] [] (I, J, A, S, n, z) Q := by
  intro c
  induction c with
  | zero =>
    intro b I J v7 v8 v9 v10 v11 v12 v13 hb hN hX0 hQ
    obtain rfl : b = 7 := by omega
    rw [s174_25]
    simp only [s174_27, s174_29, s174_239, isR_ref, isR_nul, isR_ra, nl_int, nl_ref, nl_jk, nl_ra, nl_nul, rf_some, rf_none, nc_nil, nc_i, nc_l, nc_r, nc_n, nc_x, true_and, and_true, and_self, if_true, if_false, ite_true, ite_false, Option.toList_some, Option.toList_none, List.cons_append, List.nil_append, nar_b1, nar_b0, T_ite, reduceIte, reduceCtorEq, one_ne, eq_self, mkC_t, hn_t, va_up_same, not_true_eq_false, not_false_eq_true, Nat.reduceLeDiff, Nat.reduceAdd, Nat.reduceEqDiff, Nat.reduceMul, Nat.reduceSub, Nat.reduceDiv, Nat.reduceMod, Nat.reduceLT, false_and, and_false, false_or, or_false, true_or, or_true, Nat.add_zero, Nat.zero_add, Nat.mul_zero, Nat.zero_mul, Nat.add_left_cancel_iff, Nat.add_right_cancel_iff, show (6 : Int32) < nI 7 from by decide]
    exact hQ I J (fun _ _ => rfl) (fun _ _ => ⟨rfl, rfl⟩) (fun b' h' h1 h2 h3 => by omega)
  | succ c ih =>
    intro b I J v7 v8 v9 v10 v11 v12 v13 hb hN hX0 hQ
    have g1 : ¬ (6 : Int32) < nI b := nI_nlt (a := 6) (by omega) (by decide)
    rw [s174_25]
    simp only [s174_27, s174_29, s174_32, s174_34, s174_37, s174_39, s174_40, isR_ref, isR_nul, isR_ra, nl_int, nl_ref, nl_jk, nl_ra, nl_nul, rf_some, rf_none, nc_nil, nc_i, nc_l, nc_r, nc_n, nc_x, true_and, and_true, and_self, if_true, if_false, ite_true, ite_false, Option.toList_some, Option.toList_none, List.cons_append, List.nil_append, nar_b1, nar_b0, T_ite, reduceIte, reduceCtorEq, one_ne, eq_self, mkC_t, hn_t, va_up_same, not_true_eq_false, not_false_eq_true, Nat.reduceLeDiff, Nat.reduceAdd, Nat.reduceEqDiff, Nat.reduceMul, Nat.reduceSub, Nat.reduceDiv, Nat.reduceMod, Nat.reduceLT, false_and, and_false, false_or, or_false, true_or, or_true, Nat.add_zero, Nat.zero_add, Nat.mul_zero, Nat.zero_mul, Nat.add_left_cancel_iff, Nat.add_right_cancel_iff, g1, M_power (show b ≤ 6 by omega)]
    refine mt_h hL (X := X b) (Y := Y) hq (by omega) hr hw htk (fun k h hk => hM k h (by omega)) (fun h => hX b h (by omega)) (61 - tk) tk I J _ _ _ _ (by omega) (Nat.le_refl _) (fun k h' h1 h2 => hN k h' (by omega) h2) (fun h' h1 h2 => hX0 b h' (Nat.le_refl _) (by omega) h2) (fun I1 J1 u1 u2 u3 u4 f1 f2 f3 => ?_)
    simp only [s174_233, s174_236, isR_ref, isR_nul, isR_ra, nl_int, nl_ref, nl_jk, nl_ra, nl_nul, rf_some, rf_none, nc_nil, nc_i, nc_l, nc_r, nc_n, nc_x, true_and, and_true, and_self, if_true, if_false, ite_true, ite_false, Option.toList_some, Option.toList_none, List.cons_append, List.nil_append, nar_b1, nar_b0, T_ite, reduceIte, reduceCtorEq, one_ne, eq_self, mkC_t, hn_t, va_up_same, not_true_eq_false, not_false_eq_true, Nat.reduceLeDiff, Nat.reduceAdd, Nat.reduceEqDiff, Nat.reduceMul, Nat.reduceSub, Nat.reduceDiv, Nat.reduceMod, Nat.reduceLT, false_and, and_false, false_or, or_false, true_or, or_true, Nat.add_zero, Nat.zero_add, Nat.mul_zero, Nat.zero_mul, Nat.add_left_cancel_iff, Nat.add_right_cancel_iff, nI_1]
    refine ih (b + 1) I1 J1 _ _ _ _ _ _ _ (by omega) (fun k h' h1 h2 => ?_) (fun b' h' h1 h2 h3 => ?_) (fun I2 J2 k1 k2 k3 => hQ I2 J2 (fun a ha => by rw [k1 a ha, f1 a ha]) (fun j hj => ?_) (fun b' h' h1 h2 h3 => ?_))
    · rw [(f2 _ (fun h'' q1 q2 => by omega)).1]
      exact hN k h' h1 h2
    · obtain ⟨w1, w2⟩ := f2 (427 * q + 61 * b' + h') (fun h'' q1 q2 => by omega)
      rw [w1, w2]
      exact hX0 b' h' (by omega) h2 h3
    · obtain ⟨w1, w2⟩ := k2 j (fun b' h' q1 q2 q3 => hj b' h' (by omega) q2 q3)
      obtain ⟨w3, w4⟩ := f2 j (fun h' q1 q2 => hj b h' (Nat.le_refl _) (by omega) q2)
      rw [w1, w2, w3, w4]
      exact ⟨rfl, rfl⟩
    · by_cases hbb : b' = b
      · subst hbb
        obtain ⟨w1, w2⟩ := k2 (427 * q + 61 * b' + h') (fun b'' h'' q1 q2 q3 => by omega)
        rw [w1, w2]
        unfold sx
        by_cases ht : tk ≤ h'
        · rw [if_pos ht]
          exact f3 h' ht h3
        · rw [if_neg ht]
          obtain ⟨w3, w4⟩ := f2 (427 * q + 61 * b' + h') (fun h'' q1 q2 => by omega)
          rw [w3, w4]
          exact hX0 b' h' (Nat.le_refl _) h2 h3
      · exact k3 b' h' (by omega) h2 h3
/-- the numbers by which the reference plans -/
def pMyM (I : Nat → Nat → Int32) (i q : Nat) : Bool := decide (myM I i q = 1)
def pRkM (I : Nat → Nat → Int32) (A : Nat → Nat → Option Nat) (S : Nat → Nat × Nat) (f i q : Nat) : Nat := (rkM I A S f i q).toNatClampNeg
def pWtM (I : Nat → Nat → Int32) (A : Nat → Nat → Option Nat) (S : Nat → Nat × Nat) (f i q : Nat) : Nat := (wtM I A S f i q).toNatClampNeg
def pW0M (I : Nat → Nat → Int32) (A : Nat → Nat → Option Nat) (S : Nat → Nat × Nat) (f : Nat) : Nat := (wrM I A S f).toNatClampNeg
def MVV (I : Nat → Nat → Int32) (A : Nat → Nat → Option Nat) (S : Nat → Nat × Nat) (f np m : Nat) : Nat → Nat → Nat → Nat := VV np m (pW0M I A S f) (pMyM I) (tkN I) (pRkM I A S f) (pWtM I A S f)
def MBB (I : Nat → Nat → Int32) (A : Nat → Nat → Option Nat) (S : Nat → Nat × Nat) (f np m : Nat) : Nat → Nat → Nat → Nat := BB np m (pW0M I A S f) (pMyM I) (tkN I) (pRkM I A S f) (pWtM I A S f)
theorem pRkM_at {f i q : Nat} : pRkM I A S f i q ≤ 100 ∧ rkM I A S f i q = nI (pRkM I A S f i q) := by
  obtain ⟨u, hu, e⟩ : ∃ u, u ≤ 100 ∧ rkM I A S f i q = nI u := rsk_rng _ _ _
  unfold pRkM
  rw [e, nI_cl (by omega)]
  exact ⟨hu, rfl⟩
theorem pWtM_at {f i q lo : Nat} (hlo : I 48 3 = nI lo) (h9 : lo ≤ 99) : pWtM I A S f i q ≤ 99 ∧ wtM I A S f i q = nI (pWtM I A S f i q) := by
  obtain ⟨u, hu, e⟩ : ∃ u, u ≤ lo ∧ wtM I A S f i q = nI u := by unfold wtM; rw [hlo]; exact wts_rng _ _ _ (by omega)
  unfold pWtM
  rw [e, nI_cl (by omega)]
  exact ⟨by omega, rfl⟩
theorem pW0M_at {f : Nat} : pW0M I A S f ≤ 9999 ∧ wrM I A S f = nI (pW0M I A S f) := by
  obtain ⟨u, hu, e⟩ : ∃ u, u ≤ 9999 ∧ wrM I A S f = nI u := bnd_rng (g := 9999) (by decide)
  unfold pW0M
  rw [e, nI_cl (by omega)]
  exact ⟨hu, rfl⟩
theorem MVV_le {f np m j b h : Nat} (hb : b ≤ 6) : MVV I A S f np m j b h ≤ 59995 := VV_le pW0M_at.1 (fun _ _ => pRkM_at.1) j b h hb
def bsM (I : Nat → Nat → Int32) (A : Nat → Nat → Option Nat) (S : Nat → Nat × Nat) (f q : Nat) (Y : Nat → Nat → Nat) (i b h : Nat) : Nat × Nat := bs (fun i => pMyM I i q) (tkN I) (fun i => pRkM I A S f i q) (fun i => pWtM I A S f i q) b h Y i
theorem EA_61 (hE : EA I0 I) (f : ∀ a, a ≠ 61 → I' a = I a) : EA I0 I' := fun a h1 h2 h3 h4 h5 h6 h7 h8 h9 => (f a h9).trans (hE a h1 h2 h3 h4 h5 h6 h7 h8 h9)
/-- the rows of a place -/
def RowM (I : Nat → Nat → Int32) (J : Nat → Nat → Int64) (q : Nat) (X : Nat → Nat → Nat × Nat) : Prop := ∀ b h, b ≤ 6 → h ≤ 60 → J 60 (427 * q + 61 * b + h) = rl (X b h).1 ∧ I 61 (427 * q + 61 * b + h) = ri (X b h).2
set_option maxHeartbeats 1000000 in
theorem mtry (hL : LM A S n) {m t f i q lo : Nat} (iT : IvT I0 A S n t) (iD : IvD I0 A S n m) (hr : I0 46 10 = nI f) (hf : f < t) (hlo : I0 48 3 = nI lo) (hl9 : lo ≤ 99) (hE : EA I0 I) {X : Nat → Nat → Nat × Nat} {Y : Nat → Nat → Nat} (him : i < m) (hq : q < 12) (hM : ∀ k h, k ≤ 6 → Y k h ≤ 59995) (hX : ∀ b h, b ≤ 6 → (X b h).1 ≤ 59995) (hN : ∀ k h', k ≤ 6 → h' ≤ 60 → J 60 (427 * (q + 1) + 61 * k + h') = rl (Y k h')) (hR : RowM I J q X)
    (hQ : ∀ (I' : Nat → Nat → Int32) (J' : Nat → Nat → Int64), EA I0 I' → (∀ j, 427 * (q + 1) ≤ j → J' 60 j = J 60 j ∧ I' 61 j = I 61 j) → RowM I' J' q (sx (pRkM I0 A S f i q) (pWtM I0 A S f i q) i (tkN I0 i) Y X) → Q none (I', J', A, S, n, z)) :
    T Ω (d + 3) 174 0 [.ref 46, .int (nI i), .int (nI q), jk, jk, jk, jk, jk, jk, jk, jk, jk, jk, jk] [] (I, J, A, S, n, z) Q := by
  have r1 := pRkM_at (I := I0) (A := A) (S := S) (f := f) (i := i) (q := q)
  have w1 := pWtM_at (A := A) (S := S) (f := f) (i := i) (q := q) hlo hl9
  simp only [s174_0, s174_1, s174_2, s174_5, s174_6, s174_7, s174_8, s174_9, isR_ref, isR_nul, isR_ra, nl_int, nl_ref, nl_jk, nl_ra, nl_nul, rf_some, rf_none, nc_nil, nc_i, nc_l, nc_r, nc_n, nc_x, true_and, and_true, and_self, if_true, if_false, ite_true, ite_false, Option.toList_some, Option.toList_none, List.cons_append, List.nil_append, nar_b1, nar_b0, T_ite, reduceIte, reduceCtorEq, one_ne, eq_self, mkC_t, hn_t, va_up_same, not_true_eq_false, not_false_eq_true, Nat.reduceLeDiff, Nat.reduceAdd, Nat.reduceEqDiff, Nat.reduceMul, Nat.reduceSub, Nat.reduceDiv, Nat.reduceMod, Nat.reduceLT, false_and, and_false, false_or, or_false, true_or, or_true, Nat.add_zero, Nat.zero_add, Nat.mul_zero, Nat.zero_mul, Nat.add_left_cancel_iff, Nat.add_right_cancel_iff, LMS_46 hL, LMn_46 hL, LMS_47 hL, LMn_47 hL, LMS_48 hL, LMn_48 hL, LMS_49 hL, LMn_49 hL, LMS_50 hL, LMn_50 hL, LMS_51 hL, LMn_51 hL, LMS_52 hL, LMn_52 hL, LMS_53 hL, LMn_53 hL, LMS_54 hL, LMn_54 hL, LMS_55 hL, LMn_55 hL, LMS_56 hL, LMn_56 hL, LMS_57 hL, LMn_57 hL, LMS_58 hL, LMn_58 hL, LMS_59 hL, LMn_59 hL, LMS_60 hL, LMn_60 hL, LMS_61 hL, LMn_61 hL, LMS_62 hL, LMn_62 hL, LMS_63 hL, LMn_63 hL, LMS_64 hL, LMn_64 hL, LMS_65 hL, LMn_65 hL, LMS_66 hL, LMn_66 hL, LMS_67 hL, LMn_67 hL, LMA_46_2 hL, LMA_46_3 hL, LMA_46_5 hL, LMA_46_6 hL, LMA_46_7 hL, LMA_46_11 hL, LMA_46_12 hL, LMA_46_13 hL, LMA_46_21 hL, LMA_46_22 hL, LMA_46_23 hL, LMA_46_24 hL, LMA_46_25 hL, LMA_46_26 hL, LMA_46_27 hL, LMA_46_31 hL, LMA_46_32 hL, LMA_46_33 hL, LMA_46_34 hL, LMA_46_35 hL, LMA_46_36 hL, mTkK hL iD him hE]
  refine mRiskK hL iT iD hr hf hq him hE (fun I1 hK1 => ?_)
  simp only [s174_12, s174_14, s174_15, s174_16, s174_17, isR_ref, isR_nul, isR_ra, nl_int, nl_ref, nl_jk, nl_ra, nl_nul, rf_some, rf_none, nc_nil, nc_i, nc_l, nc_r, nc_n, nc_x, true_and, and_true, and_self, if_true, if_false, ite_true, ite_false, Option.toList_some, Option.toList_none, List.cons_append, List.nil_append, nar_b1, nar_b0, T_ite, reduceIte, reduceCtorEq, one_ne, eq_self, mkC_t, hn_t, va_up_same, not_true_eq_false, not_false_eq_true, Nat.reduceLeDiff, Nat.reduceAdd, Nat.reduceEqDiff, Nat.reduceMul, Nat.reduceSub, Nat.reduceDiv, Nat.reduceMod, Nat.reduceLT, false_and, and_false, false_or, or_false, true_or, or_true, Nat.add_zero, Nat.zero_add, Nat.mul_zero, Nat.zero_mul, Nat.add_left_cancel_iff, Nat.add_right_cancel_iff, LMS_46 hL, LMn_46 hL, LMS_47 hL, LMn_47 hL, LMS_48 hL, LMn_48 hL, LMS_49 hL, LMn_49 hL, LMS_50 hL, LMn_50 hL, LMS_51 hL, LMn_51 hL, LMS_52 hL, LMn_52 hL, LMS_53 hL, LMn_53 hL, LMS_54 hL, LMn_54 hL, LMS_55 hL, LMn_55 hL, LMS_56 hL, LMn_56 hL, LMS_57 hL, LMn_57 hL, LMS_58 hL, LMn_58 hL, LMS_59 hL, LMn_59 hL, LMS_60 hL, LMn_60 hL, LMS_61 hL, LMn_61 hL, LMS_62 hL, LMn_62 hL, LMS_63 hL, LMn_63 hL, LMS_64 hL, LMn_64 hL, LMS_65 hL, LMn_65 hL, LMS_66 hL, LMn_66 hL, LMS_67 hL, LMn_67 hL, LMA_46_2 hL, LMA_46_3 hL, LMA_46_5 hL, LMA_46_6 hL, LMA_46_7 hL, LMA_46_11 hL, LMA_46_12 hL, LMA_46_13 hL, LMA_46_21 hL, LMA_46_22 hL, LMA_46_23 hL, LMA_46_24 hL, LMA_46_25 hL, LMA_46_26 hL, LMA_46_27 hL, LMA_46_31 hL, LMA_46_32 hL, LMA_46_33 hL, LMA_46_34 hL, LMA_46_35 hL, LMA_46_36 hL, r1.2]
  refine mWetsK hL iT iD hr hf hq him (EA_KM hE hK1) (fun I2 hK2 => ?_)
  simp only [s174_20, s174_22, s174_23, isR_ref, isR_nul, isR_ra, nl_int, nl_ref, nl_jk, nl_ra, nl_nul, rf_some, rf_none, nc_nil, nc_i, nc_l, nc_r, nc_n, nc_x, true_and, and_true, and_self, if_true, if_false, ite_true, ite_false, Option.toList_some, Option.toList_none, List.cons_append, List.nil_append, nar_b1, nar_b0, T_ite, reduceIte, reduceCtorEq, one_ne, eq_self, mkC_t, hn_t, va_up_same, not_true_eq_false, not_false_eq_true, Nat.reduceLeDiff, Nat.reduceAdd, Nat.reduceEqDiff, Nat.reduceMul, Nat.reduceSub, Nat.reduceDiv, Nat.reduceMod, Nat.reduceLT, false_and, and_false, false_or, or_false, true_or, or_true, Nat.add_zero, Nat.zero_add, Nat.mul_zero, Nat.zero_mul, Nat.add_left_cancel_iff, Nat.add_right_cancel_iff, w1.2]
  have e61 : I2 61 = I 61 := by rw [hK2 61 (by decide) (by decide), hK1 61 (by decide) (by decide)]
  refine mt_b hL (X := X) (Y := Y) hq r1.1 w1.1 (tkN_le iD him) hM hX 7 0 I2 J _ _ _ _ _ _ _ (by decide) hN (fun b' h' _ h2 h3 => by rw [e61]; exact hR b' h' h2 h3) (fun I3 J3 f1 f2 f3 => ?_)
  refine hQ I3 J3 (EA_61 (EA_KM (EA_KM hE hK1) hK2) f1) (fun j hj => ?_) (fun b h hb hh => f3 b h (Nat.zero_le _) hb hh)
  obtain ⟨k1, k2⟩ := f2 j (fun b' h' q1 q2 q3 => by omega)
  rw [k1, k2, e61]
  exact ⟨rfl, rfl⟩
set_option maxHeartbeats 1000000 in
theorem mf_d (hL : LM A S n) {m t f q lo : Nat} {v1 : Int32} (iT : IvT I0 A S n t) (iD : IvD I0 A S n m) (hr : I0 46 10 = nI f) (hf : f < t) (hlo : I0 48 3 = nI lo) (hl9 : lo ≤ 99) {Y : Nat → Nat → Nat} (hq : q < 12) (hM : ∀ k h, k ≤ 6 → Y k h ≤ 59995) : ∀ (k i : Nat) (I : Nat → Nat → Int32) (J : Nat → Nat → Int64), i + k = m → EA I0 I → (∀ k h', k ≤ 6 → h' ≤ 60 → J 60 (427 * (q + 1) + 61 * k + h') = rl (Y k h')) → RowM I J q (bsM I0 A S f q Y i) →
    (∀ (I' : Nat → Nat → Int32) (J' : Nat → Nat → Int64), EA I0 I' → (∀ j, 427 * (q + 1) ≤ j → J' 60 j = J 60 j ∧ I' 61 j = I 61 j) → RowM I' J' q (bsM I0 A S f q Y m) → T Ω (d + 4) 172 135 [.ref 46, .int v1, .int (nI q), .int (nI m)] [] (I', J', A, S, n, z) Q) →
    T Ω (d + 4) 172 106 [.ref 46, .int v1, .int (nI q), .int (nI i)] [] (I, J, A, S, n, z) Q := by
  have d1 := iD.1
  intro k
  induction k with
  | zero =>
    intro i I J hi hE hN hR hQ
    obtain rfl : i = m := by omega
    have e1 : I 46 4 = nI i := by rw [EA_at hE (by decide)]; exact iD.2.2.1
    rw [s172_106]
    simp only [s172_107, s172_108, s172_111, isR_ref, isR_nul, isR_ra, nl_int, nl_ref, nl_jk, nl_ra, nl_nul, rf_some, rf_none, nc_nil, nc_i, nc_l, nc_r, nc_n, nc_x, true_and, and_true, and_self, if_true, if_false, ite_true, ite_false, Option.toList_some, Option.toList_none, List.cons_append, List.nil_append, nar_b1, nar_b0, T_ite, reduceIte, reduceCtorEq, one_ne, eq_self, mkC_t, hn_t, va_up_same, not_true_eq_false, not_false_eq_true, Nat.reduceLeDiff, Nat.reduceAdd, Nat.reduceEqDiff, Nat.reduceMul, Nat.reduceSub, Nat.reduceDiv, Nat.reduceMod, Nat.reduceLT, false_and, and_false, false_or, or_false, true_or, or_true, Nat.add_zero, Nat.zero_add, Nat.mul_zero, Nat.zero_mul, Nat.add_left_cancel_iff, Nat.add_right_cancel_iff, LMS_46 hL, LMn_46 hL, LMS_47 hL, LMn_47 hL, LMS_48 hL, LMn_48 hL, LMS_49 hL, LMn_49 hL, LMS_50 hL, LMn_50 hL, LMS_51 hL, LMn_51 hL, LMS_52 hL, LMn_52 hL, LMS_53 hL, LMn_53 hL, LMS_54 hL, LMn_54 hL, LMS_55 hL, LMn_55 hL, LMS_56 hL, LMn_56 hL, LMS_57 hL, LMn_57 hL, LMS_58 hL, LMn_58 hL, LMS_59 hL, LMn_59 hL, LMS_60 hL, LMn_60 hL, LMS_61 hL, LMn_61 hL, LMS_62 hL, LMn_62 hL, LMS_63 hL, LMn_63 hL, LMS_64 hL, LMn_64 hL, LMS_65 hL, LMn_65 hL, LMS_66 hL, LMn_66 hL, LMS_67 hL, LMn_67 hL, LMA_46_2 hL, LMA_46_3 hL, LMA_46_5 hL, LMA_46_6 hL, LMA_46_7 hL, LMA_46_11 hL, LMA_46_12 hL, LMA_46_13 hL, LMA_46_21 hL, LMA_46_22 hL, LMA_46_23 hL, LMA_46_24 hL, LMA_46_25 hL, LMA_46_26 hL, LMA_46_27 hL, LMA_46_31 hL, LMA_46_32 hL, LMA_46_33 hL, LMA_46_34 hL, LMA_46_35 hL, LMA_46_36 hL, e1, Int32.le_refl]
    exact hQ I J hE (fun _ _ => ⟨rfl, rfl⟩) hR
  | succ k ih =>
    intro i I J hi hE hN hR hQ
    have e1 : I 46 4 = nI m := by rw [EA_at hE (by decide)]; exact iD.2.2.1
    have c1 : ¬ nI m ≤ nI i := nI_ge (by omega) (by omega)
    rw [s172_106]
    simp only [s172_107, s172_108, s172_111, s172_114, s172_115, s172_116, s172_117, s172_120, isR_ref, isR_nul, isR_ra, nl_int, nl_ref, nl_jk, nl_ra, nl_nul, rf_some, rf_none, nc_nil, nc_i, nc_l, nc_r, nc_n, nc_x, true_and, and_true, and_self, if_true, if_false, ite_true, ite_false, Option.toList_some, Option.toList_none, List.cons_append, List.nil_append, nar_b1, nar_b0, T_ite, reduceIte, reduceCtorEq, one_ne, eq_self, mkC_t, hn_t, va_up_same, not_true_eq_false, not_false_eq_true, Nat.reduceLeDiff, Nat.reduceAdd, Nat.reduceEqDiff, Nat.reduceMul, Nat.reduceSub, Nat.reduceDiv, Nat.reduceMod, Nat.reduceLT, false_and, and_false, false_or, or_false, true_or, or_true, Nat.add_zero, Nat.zero_add, Nat.mul_zero, Nat.zero_mul, Nat.add_left_cancel_iff, Nat.add_right_cancel_iff, LMS_46 hL, LMn_46 hL, LMS_47 hL, LMn_47 hL, LMS_48 hL, LMn_48 hL, LMS_49 hL, LMn_49 hL, LMS_50 hL, LMn_50 hL, LMS_51 hL, LMn_51 hL, LMS_52 hL, LMn_52 hL, LMS_53 hL, LMn_53 hL, LMS_54 hL, LMn_54 hL, LMS_55 hL, LMn_55 hL, LMS_56 hL, LMn_56 hL, LMS_57 hL, LMn_57 hL, LMS_58 hL, LMn_58 hL, LMS_59 hL, LMn_59 hL, LMS_60 hL, LMn_60 hL, LMS_61 hL, LMn_61 hL, LMS_62 hL, LMn_62 hL, LMS_63 hL, LMn_63 hL, LMS_64 hL, LMn_64 hL, LMS_65 hL, LMn_65 hL, LMS_66 hL, LMn_66 hL, LMS_67 hL, LMn_67 hL, LMA_46_2 hL, LMA_46_3 hL, LMA_46_5 hL, LMA_46_6 hL, LMA_46_7 hL, LMA_46_11 hL, LMA_46_12 hL, LMA_46_13 hL, LMA_46_21 hL, LMA_46_22 hL, LMA_46_23 hL, LMA_46_24 hL, LMA_46_25 hL, LMA_46_26 hL, LMA_46_27 hL, LMA_46_31 hL, LMA_46_32 hL, LMA_46_33 hL, LMA_46_34 hL, LMA_46_35 hL, LMA_46_36 hL, e1, c1, mMayK hL iD (show i < m by omega) hq hE]
    rcases my_01 (I := I0) (i := i) (q := q) with hm | hm
    · have hst : bsM I0 A S f q Y (i + 1) = bsM I0 A S f q Y i := funext fun b' => funext fun h' => by
        unfold bsM
        rw [bs, sd1, if_neg]
        simp [pMyM, hm]
      rw [if_pos hm]
      simp only [s172_129, s172_132, isR_ref, isR_nul, isR_ra, nl_int, nl_ref, nl_jk, nl_ra, nl_nul, rf_some, rf_none, nc_nil, nc_i, nc_l, nc_r, nc_n, nc_x, true_and, and_true, and_self, if_true, if_false, ite_true, ite_false, Option.toList_some, Option.toList_none, List.cons_append, List.nil_append, nar_b1, nar_b0, T_ite, reduceIte, reduceCtorEq, one_ne, eq_self, mkC_t, hn_t, va_up_same, not_true_eq_false, not_false_eq_true, Nat.reduceLeDiff, Nat.reduceAdd, Nat.reduceEqDiff, Nat.reduceMul, Nat.reduceSub, Nat.reduceDiv, Nat.reduceMod, Nat.reduceLT, false_and, and_false, false_or, or_false, true_or, or_true, Nat.add_zero, Nat.zero_add, Nat.mul_zero, Nat.zero_mul, Nat.add_left_cancel_iff, Nat.add_right_cancel_iff, nI_1]
      exact ih (i + 1) I J (by omega) hE hN (by rw [hst]; exact hR) hQ
    · have hst : bsM I0 A S f q Y (i + 1) = sx (pRkM I0 A S f i q) (pWtM I0 A S f i q) i (tkN I0 i) Y (bsM I0 A S f q Y i) := funext fun b' => funext fun h' => by
        unfold bsM sx
        rw [bs, sd1]
        simp [pMyM, hm]
      rw [if_neg (by rw [hm]; decide)]
      simp only [s172_123, s172_124, s172_125, s172_126, isR_ref, isR_nul, isR_ra, nl_int, nl_ref, nl_jk, nl_ra, nl_nul, rf_some, rf_none, nc_nil, nc_i, nc_l, nc_r, nc_n, nc_x, true_and, and_true, and_self, if_true, if_false, ite_true, ite_false, Option.toList_some, Option.toList_none, List.cons_append, List.nil_append, nar_b1, nar_b0, T_ite, reduceIte, reduceCtorEq, one_ne, eq_self, mkC_t, hn_t, va_up_same, not_true_eq_false, not_false_eq_true, Nat.reduceLeDiff, Nat.reduceAdd, Nat.reduceEqDiff, Nat.reduceMul, Nat.reduceSub, Nat.reduceDiv, Nat.reduceMod, Nat.reduceLT, false_and, and_false, false_or, or_false, true_or, or_true, Nat.add_zero, Nat.zero_add, Nat.mul_zero, Nat.zero_mul, Nat.add_left_cancel_iff, Nat.add_right_cancel_iff, LMS_46 hL, LMn_46 hL, LMS_47 hL, LMn_47 hL, LMS_48 hL, LMn_48 hL, LMS_49 hL, LMn_49 hL, LMS_50 hL, LMn_50 hL, LMS_51 hL, LMn_51 hL, LMS_52 hL, LMn_52 hL, LMS_53 hL, LMn_53 hL, LMS_54 hL, LMn_54 hL, LMS_55 hL, LMn_55 hL, LMS_56 hL, LMn_56 hL, LMS_57 hL, LMn_57 hL, LMS_58 hL, LMn_58 hL, LMS_59 hL, LMn_59 hL, LMS_60 hL, LMn_60 hL, LMS_61 hL, LMn_61 hL, LMS_62 hL, LMn_62 hL, LMS_63 hL, LMn_63 hL, LMS_64 hL, LMn_64 hL, LMS_65 hL, LMn_65 hL, LMS_66 hL, LMn_66 hL, LMS_67 hL, LMn_67 hL, LMA_46_2 hL, LMA_46_3 hL, LMA_46_5 hL, LMA_46_6 hL, LMA_46_7 hL, LMA_46_11 hL, LMA_46_12 hL, LMA_46_13 hL, LMA_46_21 hL, LMA_46_22 hL, LMA_46_23 hL, LMA_46_24 hL, LMA_46_25 hL, LMA_46_26 hL, LMA_46_27 hL, LMA_46_31 hL, LMA_46_32 hL, LMA_46_33 hL, LMA_46_34 hL, LMA_46_35 hL, LMA_46_36 hL]
      refine mtry hL iT iD hr hf hlo hl9 hE (X := bsM I0 A S f q Y i) (Y := Y) (show i < m by omega) hq hM (fun b h hb => bs_le (M := 59994) (fun _ => pRkM_at.1) hb (fun j h hj => hM j h (by omega)) i) hN hR (fun I1 J1 k1 k2 k3 => ?_)
      simp only [s172_129, s172_132, isR_ref, isR_nul, isR_ra, nl_int, nl_ref, nl_jk, nl_ra, nl_nul, rf_some, rf_none, nc_nil, nc_i, nc_l, nc_r, nc_n, nc_x, true_and, and_true, and_self, if_true, if_false, ite_true, ite_false, Option.toList_some, Option.toList_none, List.cons_append, List.nil_append, nar_b1, nar_b0, T_ite, reduceIte, reduceCtorEq, one_ne, eq_self, mkC_t, hn_t, va_up_same, not_true_eq_false, not_false_eq_true, Nat.reduceLeDiff, Nat.reduceAdd, Nat.reduceEqDiff, Nat.reduceMul, Nat.reduceSub, Nat.reduceDiv, Nat.reduceMod, Nat.reduceLT, false_and, and_false, false_or, or_false, true_or, or_true, Nat.add_zero, Nat.zero_add, Nat.mul_zero, Nat.zero_mul, Nat.add_left_cancel_iff, Nat.add_right_cancel_iff, nI_1]
      refine ih (i + 1) I1 J1 (by omega) k1 (fun k h' h1 h2 => by rw [(k2 _ (by omega)).1]; exact hN k h' h1 h2) (by rw [hst]; exact k3) (fun I2 J2 q1 q2 q3 => hQ I2 J2 q1 (fun j hj => ?_) q3)
      rw [(q2 j hj).1, (q2 j hj).2]
      exact k2 j hj
theorem mf_f (hL : LM A S n) {q : Nat} {v1 : Int32} (hq : q < 12) : ∀ (k i : Nat) (I : Nat → Nat → Int32) (J : Nat → Nat → Int64), i + k = 427 * (q + 1) → 427 * q ≤ i → (∀ j, 427 * q ≤ j → j < i → J 60 j = -1 ∧ I 61 j = -1) →
    (∀ (I' : Nat → Nat → Int32) (J' : Nat → Nat → Int64), (∀ a, a ≠ 61 → I' a = I a) → (∀ j, 427 * (q + 1) ≤ j → J' 60 j = J 60 j ∧ I' 61 j = I 61 j) → (∀ j, 427 * q ≤ j → j < 427 * (q + 1) → J' 60 j = -1 ∧ I' 61 j = -1) → T Ω (d + 1) 172 104 [.ref 46, .int v1, .int (nI q), .int (nI (427 * (q + 1)))] [] (I', J', A, S, n, z) Q) →
    T Ω (d + 1) 172 70 [.ref 46, .int v1, .int (nI q), .int (nI i)] [] (I, J, A, S, n, z) Q := by
  intro k
  have at0 : ∀ {Q : Option Value → AH → Prop} {h : AH}, T Ω d 173 0 [.int (nI (q + 1)), .int 0, .int 0] [] h Q = Q (some (.int (nI (427 * (q + 1))))) h := M_at (a := q + 1) (b := 0) (c := 0)
  induction k with
  | zero =>
    intro i I J hi h0 hI hQ
    obtain rfl : i = 427 * (q + 1) := by omega
    rw [s172_70]
    simp only [s172_71, s172_72, s172_73, s172_74, s172_75, s172_76, s172_79, isR_ref, isR_nul, isR_ra, nl_int, nl_ref, nl_jk, nl_ra, nl_nul, rf_some, rf_none, nc_nil, nc_i, nc_l, nc_r, nc_n, nc_x, true_and, and_true, and_self, if_true, if_false, ite_true, ite_false, Option.toList_some, Option.toList_none, List.cons_append, List.nil_append, nar_b1, nar_b0, T_ite, reduceIte, reduceCtorEq, one_ne, eq_self, mkC_t, hn_t, va_up_same, not_true_eq_false, not_false_eq_true, Nat.reduceLeDiff, Nat.reduceAdd, Nat.reduceEqDiff, Nat.reduceMul, Nat.reduceSub, Nat.reduceDiv, Nat.reduceMod, Nat.reduceLT, false_and, and_false, false_or, or_false, true_or, or_true, Nat.add_zero, Nat.zero_add, Nat.mul_zero, Nat.zero_mul, Nat.add_left_cancel_iff, Nat.add_right_cancel_iff, nI_1, at0, Int32.le_refl]
    exact hQ I J (fun _ _ => rfl) (fun _ _ => ⟨rfl, rfl⟩) hI
  | succ k ih =>
    intro i I J hi h0 hI hQ
    have c1 : ¬ nI (427 * (q + 1)) ≤ nI i := nI_ge (by omega) (by omega)
    rw [s172_70]
    simp only [s172_71, s172_72, s172_73, s172_74, s172_75, s172_76, s172_79, s172_82, s172_83, s172_86, s172_87, s172_90, s172_91, s172_92, s172_95, s172_96, s172_97, s172_98, s172_101, isR_ref, isR_nul, isR_ra, nl_int, nl_ref, nl_jk, nl_ra, nl_nul, rf_some, rf_none, nc_nil, nc_i, nc_l, nc_r, nc_n, nc_x, true_and, and_true, and_self, if_true, if_false, ite_true, ite_false, Option.toList_some, Option.toList_none, List.cons_append, List.nil_append, nar_b1, nar_b0, T_ite, reduceIte, reduceCtorEq, one_ne, eq_self, mkC_t, hn_t, va_up_same, not_true_eq_false, not_false_eq_true, Nat.reduceLeDiff, Nat.reduceAdd, Nat.reduceEqDiff, Nat.reduceMul, Nat.reduceSub, Nat.reduceDiv, Nat.reduceMod, Nat.reduceLT, false_and, and_false, false_or, or_false, true_or, or_true, Nat.add_zero, Nat.zero_add, Nat.mul_zero, Nat.zero_mul, Nat.add_left_cancel_iff, Nat.add_right_cancel_iff, LMS_46 hL, LMn_46 hL, LMS_47 hL, LMn_47 hL, LMS_48 hL, LMn_48 hL, LMS_49 hL, LMn_49 hL, LMS_50 hL, LMn_50 hL, LMS_51 hL, LMn_51 hL, LMS_52 hL, LMn_52 hL, LMS_53 hL, LMn_53 hL, LMS_54 hL, LMn_54 hL, LMS_55 hL, LMn_55 hL, LMS_56 hL, LMn_56 hL, LMS_57 hL, LMn_57 hL, LMS_58 hL, LMn_58 hL, LMS_59 hL, LMn_59 hL, LMS_60 hL, LMn_60 hL, LMS_61 hL, LMn_61 hL, LMS_62 hL, LMn_62 hL, LMS_63 hL, LMn_63 hL, LMS_64 hL, LMn_64 hL, LMS_65 hL, LMn_65 hL, LMS_66 hL, LMn_66 hL, LMS_67 hL, LMn_67 hL, LMA_46_2 hL, LMA_46_3 hL, LMA_46_5 hL, LMA_46_6 hL, LMA_46_7 hL, LMA_46_11 hL, LMA_46_12 hL, LMA_46_13 hL, LMA_46_21 hL, LMA_46_22 hL, LMA_46_23 hL, LMA_46_24 hL, LMA_46_25 hL, LMA_46_26 hL, LMA_46_27 hL, LMA_46_31 hL, LMA_46_32 hL, LMA_46_33 hL, LMA_46_34 hL, LMA_46_35 hL, LMA_46_36 hL, nI_1, at0, c1, vpin (show i < 2147483648 by omega), nI_cl (show i < 2147483648 by omega), show i < 5551 by omega]
    refine ih (i + 1) _ _ (by omega) (by omega) (fun j h1 h2 => ?_) (fun I' J' f1 f2 f3 => hQ I' J' (fun a ha => by rw [f1 a ha, wr_ne ha]) (fun j hj => ?_) f3)
    · by_cases hj : j = i
      · subst hj; rw [wr_at, wr_at]; exact ⟨rfl, rfl⟩
      · rw [wr_at_ne hj, wr_at_ne hj]; exact hI j h1 (by omega)
    · rw [(f2 j hj).1, (f2 j hj).2, wr_at_ne (by omega), wr_at_ne (by omega)]
      exact ⟨rfl, rfl⟩
end EV
