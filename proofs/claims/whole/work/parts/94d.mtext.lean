section EV
variable {Ω : AO} {d : Nat} {L st : List Value} {h : AH} {Q : Option Value → AH → Prop} {I I' I'' I0 : Nat → Nat → Int32} {J J' : Nat → Nat → Int64} {A A' : Nat → Nat → Option Nat} {S : Nat → Nat × Nat} {n z z' : Nat} {x y : Int32} {t : Nat → Nat} {s i e N a : Nat} {K V sT bE : Nat → Nat} {tot : List Int32} {ρ : Nat × Option (List Int32)}
def bEn (t : Nat → Nat) (s a : Nat) : Nat := bdy t s (a + 1)
theorem NT_MT (hs : s ≤ 160) (h : NT I' t s (bdy t s a)) : MT I' (tK t s) (tV t s) (stt t s) (bEn t s) a := by
  obtain ⟨h1, h2, h3⟩ := h
  have hst := (stt_sp (t := t) (s := s) a).2.1
  refine ⟨h1, by omega, ?_, ?_⟩
  · by_cases hlt : stt t s a < s
    · unfold bEn; rw [bdy_s hlt]; exact (h2 hlt).1
    · unfold bEn; rw [bdy_e hlt]; exact (h3 hlt).1
  · by_cases hlt : stt t s a < s
    · have e1 : tK t s a = kD t (stt t s a) (eR t s (stt t s a)) := by unfold tK; rw [if_pos hlt, bdy_s hlt]
      have e2 : tV t s a = vL t (stt t s a) (eR t s (stt t s a)) := by unfold tV; rw [bdy_s hlt]
      rw [e1, e2]
      exact (h2 hlt).2
    · have e1 : tK t s a = 1 := if_neg hlt
      rw [e1]
      exact Or.inl ⟨rfl, (h3 hlt).2⟩
theorem NXH_t (hL : LM A S n) (hs : s ≤ 160) : NXH Ω (tK t s) (tV t s) (stt t s) (bEn t s) N A S n (MX t s) :=
  ⟨fun I I' h g => MX_FM h g, fun a D z I J Q _ hM hT hQ => mnext hL hM hT.2.2.1 (bdy_sp (a + 1)).1 (fun I' f p => hQ I' f (NT_MT hs p))⟩
/-- what the reading of a text changes -/
def FMt (I I' : Nat → Nat → Int32) : Prop := (∀ b, b ≠ 46 → b ≠ 52 → b ≠ 53 → b ≠ 54 → I' b = I b) ∧ (∀ k, k < 14 ∨ 20 < k → I' 46 k = I 46 k) ∧ (∀ j, j < 1020 → I' 52 j = I 52 j ∧ I' 53 j = I 53 j) ∧ ∀ j, j < 18 → I' 54 j = I 54 j
theorem FMt_M (h : FM I I') : FMt I I' := ⟨fun b h1 h2 h3 _ => h.1 b h1 h2 h3, h.2.1, h.2.2, fun j _ => by rw [h.1 54 (by decide) (by decide) (by decide)]⟩
theorem FMt_tr (h : FMt I I') (g : FMt I' I'') : FMt I I'' := ⟨fun b h1 h2 h3 h4 => (g.1 b h1 h2 h3 h4).trans (h.1 b h1 h2 h3 h4), fun k hk => (g.2.1 k hk).trans (h.2.1 k hk), fun j hj => ⟨((g.2.2.1 j hj).1).trans (h.2.2.1 j hj).1, ((g.2.2.1 j hj).2).trans (h.2.2.1 j hj).2⟩, fun j hj => (g.2.2.2 j hj).trans (h.2.2.2 j hj)⟩
theorem FMt_54 {k : Nat} {v : Int32} (hk : 18 ≤ k) : FMt I (wr I 54 k v) := ⟨fun b _ _ _ h4 => wr_ne h4, fun q _ => by rw [wr_ne (by decide)], fun j _ => by rw [wr_ne (by decide), wr_ne (by decide)]; exact ⟨rfl, rfl⟩, fun j hj => wr_at_ne (by omega)⟩
theorem MX_Mt (h : MX t s I) (g : FMt I I') : MX t s I' := by
  unfold MX
  rw [g.2.1 8 (by decide), g.1 51 (by decide) (by decide) (by decide) (by decide), g.1 57 (by decide) (by decide) (by decide) (by decide), g.1 58 (by decide) (by decide) (by decide) (by decide)]
  exact h
def PR (I I' : Nat → Nat → Int32) (K V sT bE : Nat → Nat) (tot : List Int32) (w : Nat) (ρ : Nat × Option (List Int32)) : Prop := match ρ with
  | (a', some l) => MR I' K V sT bE a' (tot ++ l) 0 ∧ ∀ j, I' 54 j = if j = 18 + w then nI (tot ++ l).length else I 54 j
  | (a', none) => ∃ c, MF I' (sT a') c
theorem MR_54 {k : Nat} {v : Int32} {o : Nat} (h : MR I K V sT bE a tot o) : MR (wr I 54 k v) K V sT bE a tot o := by
  obtain ⟨⟨k1, k2, k3, k4⟩, h3, h4, h5, h6⟩ := h
  refine ⟨⟨by rw [wr_ne (by decide)]; exact k1, k2, by rw [wr_ne (by decide)]; exact k3, by rw [wr_ne (by decide)]; exact k4⟩, by rw [wr_ne (by decide)]; exact h3, by rw [wr_ne (by decide)]; exact h4, by rw [wr_ne (by decide)]; exact h5, fun j hj => by rw [wr_ne (by decide), wr_ne (by decide)]; exact h6 j hj⟩
set_option maxHeartbeats 1000000 in
theorem mrule (hL : LM A S n) (hX : NXH Ω K V sT bE N A S n (MX t s)) (hN : N ≤ 160) (hP : TP K V N) {w : Nat} (hw : w < 3) (e : ptx K V (5 + w) a = some ρ) (ha : a ≤ N) (hlen : tot.length ≤ a) (hM : MX t s I) (hR : MR I K V sT bE a tot 0) (hQ : ∀ I', FMt I I' → PR I I' K V sT bE tot w ρ → Q none (I', J, A, S, n, z)) : T Ω (d + 60) 131 0 [.ref 46, .int (nI w)] [] (I, J, A, S, n, z) Q := by
  have ek : 10 + nI w = nI (5 + w + 5) := by rw [show 5 + w + 5 = 10 + w by omega]; exact nI_add 10 w
  unfold ptx at e
  by_cases hK : K a = 5 + w
  · rw [if_pos hK] at e
    have hlt := K_lt hP ha hK (by omega)
    simp only [s131_0, s131_1, s131_3, s131_4, s131_5, s131_8, s131_16, s131_17, isR_ref, isR_nul, isR_ra, nl_int, nl_ref, nl_jk, nl_ra, nl_nul, rf_some, rf_none, nc_nil, nc_i, nc_l, nc_r, nc_n, nc_x, true_and, and_true, and_self, if_true, if_false, ite_true, ite_false, Option.toList_some, Option.toList_none, List.cons_append, List.nil_append, nar_b1, nar_b0, T_ite, reduceIte, reduceCtorEq, one_ne, eq_self, mkC_t, hn_t, va_up_same, not_true_eq_false, not_false_eq_true, Nat.reduceLeDiff, Nat.reduceAdd, Nat.reduceEqDiff, Nat.reduceMul, Nat.reduceSub, Nat.reduceDiv, Nat.reduceMod, Nat.reduceLT, false_and, and_false, false_or, or_false, true_or, or_true, Nat.add_zero, Nat.zero_add, Nat.mul_zero, Nat.zero_mul, Nat.add_left_cancel_iff, Nat.add_right_cancel_iff, LMS_46 hL, LMn_46 hL, LMS_47 hL, LMn_47 hL, LMS_48 hL, LMn_48 hL, LMS_49 hL, LMn_49 hL, LMS_50 hL, LMn_50 hL, LMS_51 hL, LMn_51 hL, LMS_52 hL, LMn_52 hL, LMS_53 hL, LMn_53 hL, LMS_54 hL, LMn_54 hL, LMS_55 hL, LMn_55 hL, LMS_56 hL, LMn_56 hL, LMS_57 hL, LMn_57 hL, LMS_58 hL, LMn_58 hL, LMS_59 hL, LMn_59 hL, LMS_60 hL, LMn_60 hL, LMS_61 hL, LMn_61 hL, LMS_62 hL, LMn_62 hL, LMS_63 hL, LMn_63 hL, LMS_64 hL, LMn_64 hL, LMS_65 hL, LMn_65 hL, LMS_66 hL, LMn_66 hL, LMS_67 hL, LMn_67 hL, LMA_46_2 hL, LMA_46_3 hL, LMA_46_5 hL, LMA_46_6 hL, LMA_46_7 hL, LMA_46_11 hL, LMA_46_12 hL, LMA_46_13 hL, LMA_46_21 hL, LMA_46_22 hL, LMA_46_23 hL, LMA_46_24 hL, LMA_46_25 hL, LMA_46_26 hL, LMA_46_27 hL, LMA_46_31 hL, LMA_46_32 hL, LMA_46_33 hL, LMA_46_34 hL, LMA_46_35 hL, LMA_46_36 hL, ek, mkey_y hL (kk := 5 + w) rfl (by omega) (by omega) hR hK, show ¬ (1 : Int32) = 0 from by decide]
    refine hX.2 a _ z I J _ hlt hM hR.1 (fun I0 f0 p0 => ?_)
    have r0 := MR_FN hR f0 p0
    have hM0 := hX.1 _ _ hM (FM_FN f0)
    simp only [s131_20, s131_21, isR_ref, isR_nul, isR_ra, nl_int, nl_ref, nl_jk, nl_ra, nl_nul, rf_some, rf_none, nc_nil, nc_i, nc_l, nc_r, nc_n, nc_x, true_and, and_true, and_self, if_true, if_false, ite_true, ite_false, Option.toList_some, Option.toList_none, List.cons_append, List.nil_append, nar_b1, nar_b0, T_ite, reduceIte, reduceCtorEq, one_ne, eq_self, mkC_t, hn_t, va_up_same, not_true_eq_false, not_false_eq_true, Nat.reduceLeDiff, Nat.reduceAdd, Nat.reduceEqDiff, Nat.reduceMul, Nat.reduceSub, Nat.reduceDiv, Nat.reduceMod, Nat.reduceLT, false_and, and_false, false_or, or_false, true_or, or_true, Nat.add_zero, Nat.zero_add, Nat.mul_zero, Nat.zero_mul, Nat.add_left_cancel_iff, Nat.add_right_cancel_iff, LMS_46 hL, LMn_46 hL, LMS_47 hL, LMn_47 hL, LMS_48 hL, LMn_48 hL, LMS_49 hL, LMn_49 hL, LMS_50 hL, LMn_50 hL, LMS_51 hL, LMn_51 hL, LMS_52 hL, LMn_52 hL, LMS_53 hL, LMn_53 hL, LMS_54 hL, LMn_54 hL, LMS_55 hL, LMn_55 hL, LMS_56 hL, LMn_56 hL, LMS_57 hL, LMn_57 hL, LMS_58 hL, LMn_58 hL, LMS_59 hL, LMn_59 hL, LMS_60 hL, LMn_60 hL, LMS_61 hL, LMn_61 hL, LMS_62 hL, LMn_62 hL, LMS_63 hL, LMn_63 hL, LMS_64 hL, LMn_64 hL, LMS_65 hL, LMn_65 hL, LMS_66 hL, LMn_66 hL, LMS_67 hL, LMn_67 hL, LMA_46_2 hL, LMA_46_3 hL, LMA_46_5 hL, LMA_46_6 hL, LMA_46_7 hL, LMA_46_11 hL, LMA_46_12 hL, LMA_46_13 hL, LMA_46_21 hL, LMA_46_22 hL, LMA_46_23 hL, LMA_46_24 hL, LMA_46_25 hL, LMA_46_26 hL, LMA_46_27 hL, LMA_46_31 hL, LMA_46_32 hL, LMA_46_33 hL, LMA_46_34 hL, LMA_46_35 hL, LMA_46_36 hL]
    have hO := (mread_all (Ω := Ω) hL hX hN hP 2000).1
    rcases pb_inv e with ⟨a1, l1, e1, e2⟩ | ⟨a1, e1, rfl⟩
    · obtain ⟨w1, w2, w3, _⟩ := pp_ok hP.1 hP.2.1 hP.2.2 2000 0 0 (a + 1) [] _ (by decide) (by omega) e1
      obtain ⟨m1, m2, m3⟩ := w3 (nLp 0 (by decide))
      refine hO 0 (a + 1) tot _ _ J z _ _ e1 (by decide) (by omega) (by omega) hM0 r0 (by omega) (fun I1 f1 p1 => ?_)
      have p1' : MR I1 K V sT bE a1 (tot ++ l1) 0 := p1
      have hM1 := hX.1 _ _ hM0 f1
      have fr1 := FM_tr (FM_FN f0) f1
      by_cases h59 : K a1 = 59
      · rw [if_pos h59] at e2
        cases e2
        have hlt1 := K_lt hP w1 h59 (by decide)
        simp only [s131_24, s131_25, s131_27, s131_30, s131_38, s131_39, isR_ref, isR_nul, isR_ra, nl_int, nl_ref, nl_jk, nl_ra, nl_nul, rf_some, rf_none, nc_nil, nc_i, nc_l, nc_r, nc_n, nc_x, true_and, and_true, and_self, if_true, if_false, ite_true, ite_false, Option.toList_some, Option.toList_none, List.cons_append, List.nil_append, nar_b1, nar_b0, T_ite, reduceIte, reduceCtorEq, one_ne, eq_self, mkC_t, hn_t, va_up_same, not_true_eq_false, not_false_eq_true, Nat.reduceLeDiff, Nat.reduceAdd, Nat.reduceEqDiff, Nat.reduceMul, Nat.reduceSub, Nat.reduceDiv, Nat.reduceMod, Nat.reduceLT, false_and, and_false, false_or, or_false, true_or, or_true, Nat.add_zero, Nat.zero_add, Nat.mul_zero, Nat.zero_mul, Nat.add_left_cancel_iff, Nat.add_right_cancel_iff, LMS_46 hL, LMn_46 hL, LMS_47 hL, LMn_47 hL, LMS_48 hL, LMn_48 hL, LMS_49 hL, LMn_49 hL, LMS_50 hL, LMn_50 hL, LMS_51 hL, LMn_51 hL, LMS_52 hL, LMn_52 hL, LMS_53 hL, LMn_53 hL, LMS_54 hL, LMn_54 hL, LMS_55 hL, LMn_55 hL, LMS_56 hL, LMn_56 hL, LMS_57 hL, LMn_57 hL, LMS_58 hL, LMn_58 hL, LMS_59 hL, LMn_59 hL, LMS_60 hL, LMn_60 hL, LMS_61 hL, LMn_61 hL, LMS_62 hL, LMn_62 hL, LMS_63 hL, LMn_63 hL, LMS_64 hL, LMn_64 hL, LMS_65 hL, LMn_65 hL, LMS_66 hL, LMn_66 hL, LMS_67 hL, LMn_67 hL, LMA_46_2 hL, LMA_46_3 hL, LMA_46_5 hL, LMA_46_6 hL, LMA_46_7 hL, LMA_46_11 hL, LMA_46_12 hL, LMA_46_13 hL, LMA_46_21 hL, LMA_46_22 hL, LMA_46_23 hL, LMA_46_24 hL, LMA_46_25 hL, LMA_46_26 hL, LMA_46_27 hL, LMA_46_31 hL, LMA_46_32 hL, LMA_46_33 hL, LMA_46_34 hL, LMA_46_35 hL, LMA_46_36 hL, msgn_y hL (k := 59) (kk := 59) rfl (by decide) (by decide) p1' h59, show ¬ (1 : Int32) = 0 from by decide]
        refine hX.2 a1 _ z I1 J _ hlt1 hM1 p1'.1 (fun I2 f2 p2 => ?_)
        have r2 := MR_FN p1' f2 p2
        have e18 : 18 + nI w = nI (18 + w) := nI_add 18 w
        simp only [s131_42, s131_43, s131_46, s131_48, s131_49, s131_50, s131_51, s131_54, s131_55, isR_ref, isR_nul, isR_ra, nl_int, nl_ref, nl_jk, nl_ra, nl_nul, rf_some, rf_none, nc_nil, nc_i, nc_l, nc_r, nc_n, nc_x, true_and, and_true, and_self, if_true, if_false, ite_true, ite_false, Option.toList_some, Option.toList_none, List.cons_append, List.nil_append, nar_b1, nar_b0, T_ite, reduceIte, reduceCtorEq, one_ne, eq_self, mkC_t, hn_t, va_up_same, not_true_eq_false, not_false_eq_true, Nat.reduceLeDiff, Nat.reduceAdd, Nat.reduceEqDiff, Nat.reduceMul, Nat.reduceSub, Nat.reduceDiv, Nat.reduceMod, Nat.reduceLT, false_and, and_false, false_or, or_false, true_or, or_true, Nat.add_zero, Nat.zero_add, Nat.mul_zero, Nat.zero_mul, Nat.add_left_cancel_iff, Nat.add_right_cancel_iff, LMS_46 hL, LMn_46 hL, LMS_47 hL, LMn_47 hL, LMS_48 hL, LMn_48 hL, LMS_49 hL, LMn_49 hL, LMS_50 hL, LMn_50 hL, LMS_51 hL, LMn_51 hL, LMS_52 hL, LMn_52 hL, LMS_53 hL, LMn_53 hL, LMS_54 hL, LMn_54 hL, LMS_55 hL, LMn_55 hL, LMS_56 hL, LMn_56 hL, LMS_57 hL, LMn_57 hL, LMS_58 hL, LMn_58 hL, LMS_59 hL, LMn_59 hL, LMS_60 hL, LMn_60 hL, LMS_61 hL, LMn_61 hL, LMS_62 hL, LMn_62 hL, LMS_63 hL, LMn_63 hL, LMS_64 hL, LMn_64 hL, LMS_65 hL, LMn_65 hL, LMS_66 hL, LMn_66 hL, LMS_67 hL, LMn_67 hL, LMA_46_2 hL, LMA_46_3 hL, LMA_46_5 hL, LMA_46_6 hL, LMA_46_7 hL, LMA_46_11 hL, LMA_46_12 hL, LMA_46_13 hL, LMA_46_21 hL, LMA_46_22 hL, LMA_46_23 hL, LMA_46_24 hL, LMA_46_25 hL, LMA_46_26 hL, LMA_46_27 hL, LMA_46_31 hL, LMA_46_32 hL, LMA_46_33 hL, LMA_46_34 hL, LMA_46_35 hL, LMA_46_36 hL, r2.2.2.2.1, e18, vpin (show 18 + w < 2147483648 by omega), nI_cl (show 18 + w < 2147483648 by omega), show 18 + w < 21 by omega]
        refine hQ _ (FMt_tr (FMt_M (FM_tr fr1 (FM_FN f2))) (FMt_54 (by omega))) ⟨MR_54 r2, fun j => ?_⟩
        have e54 : I2 54 = I 54 := by rw [f2.1 54 (by decide), fr1.1 54 (by decide) (by decide) (by decide)]
        rw [wr_rd, e54]
        by_cases hj : j = 18 + w
        · rw [if_pos ⟨rfl, hj⟩, if_pos hj]
        · rw [if_neg (fun g => hj g.2), if_neg hj]
      · rw [if_neg h59] at e2
        cases e2
        simp only [s131_24, s131_25, s131_27, s131_30, s131_33, s131_34, s131_37, isR_ref, isR_nul, isR_ra, nl_int, nl_ref, nl_jk, nl_ra, nl_nul, rf_some, rf_none, nc_nil, nc_i, nc_l, nc_r, nc_n, nc_x, true_and, and_true, and_self, if_true, if_false, ite_true, ite_false, Option.toList_some, Option.toList_none, List.cons_append, List.nil_append, nar_b1, nar_b0, T_ite, reduceIte, reduceCtorEq, one_ne, eq_self, mkC_t, hn_t, va_up_same, not_true_eq_false, not_false_eq_true, Nat.reduceLeDiff, Nat.reduceAdd, Nat.reduceEqDiff, Nat.reduceMul, Nat.reduceSub, Nat.reduceDiv, Nat.reduceMod, Nat.reduceLT, false_and, and_false, false_or, or_false, true_or, or_true, Nat.add_zero, Nat.zero_add, Nat.mul_zero, Nat.zero_mul, Nat.add_left_cancel_iff, Nat.add_right_cancel_iff, LMS_46 hL, LMn_46 hL, LMS_47 hL, LMn_47 hL, LMS_48 hL, LMn_48 hL, LMS_49 hL, LMn_49 hL, LMS_50 hL, LMn_50 hL, LMS_51 hL, LMn_51 hL, LMS_52 hL, LMn_52 hL, LMS_53 hL, LMn_53 hL, LMS_54 hL, LMn_54 hL, LMS_55 hL, LMn_55 hL, LMS_56 hL, LMn_56 hL, LMS_57 hL, LMn_57 hL, LMS_58 hL, LMn_58 hL, LMS_59 hL, LMn_59 hL, LMS_60 hL, LMn_60 hL, LMS_61 hL, LMn_61 hL, LMS_62 hL, LMn_62 hL, LMS_63 hL, LMn_63 hL, LMS_64 hL, LMn_64 hL, LMS_65 hL, LMn_65 hL, LMS_66 hL, LMn_66 hL, LMS_67 hL, LMn_67 hL, LMA_46_2 hL, LMA_46_3 hL, LMA_46_5 hL, LMA_46_6 hL, LMA_46_7 hL, LMA_46_11 hL, LMA_46_12 hL, LMA_46_13 hL, LMA_46_21 hL, LMA_46_22 hL, LMA_46_23 hL, LMA_46_24 hL, LMA_46_25 hL, LMA_46_26 hL, LMA_46_27 hL, LMA_46_31 hL, LMA_46_32 hL, LMA_46_33 hL, LMA_46_34 hL, LMA_46_35 hL, LMA_46_36 hL, msgn_n hL (k := 59) (kk := 59) rfl (by decide) (by decide) p1' h59, mfau_y hL p1']
        exact hQ _ (FMt_M (FM_tr fr1 (FM_46 (by decide)))) ⟨_, MF_fau p1'⟩
    · refine hO 0 (a + 1) tot _ _ J z _ _ e1 (by decide) (by omega) (by omega) hM0 r0 (by omega) (fun I1 f1 p1 => ?_)
      obtain ⟨c, c1, c2⟩ := p1
      simp only [s131_24, s131_25, s131_27, s131_30, s131_33, s131_34, s131_37, isR_ref, isR_nul, isR_ra, nl_int, nl_ref, nl_jk, nl_ra, nl_nul, rf_some, rf_none, nc_nil, nc_i, nc_l, nc_r, nc_n, nc_x, true_and, and_true, and_self, if_true, if_false, ite_true, ite_false, Option.toList_some, Option.toList_none, List.cons_append, List.nil_append, nar_b1, nar_b0, T_ite, reduceIte, reduceCtorEq, one_ne, eq_self, mkC_t, hn_t, va_up_same, not_true_eq_false, not_false_eq_true, Nat.reduceLeDiff, Nat.reduceAdd, Nat.reduceEqDiff, Nat.reduceMul, Nat.reduceSub, Nat.reduceDiv, Nat.reduceMod, Nat.reduceLT, false_and, and_false, false_or, or_false, true_or, or_true, Nat.add_zero, Nat.zero_add, Nat.mul_zero, Nat.zero_mul, Nat.add_left_cancel_iff, Nat.add_right_cancel_iff, LMS_46 hL, LMn_46 hL, LMS_47 hL, LMn_47 hL, LMS_48 hL, LMn_48 hL, LMS_49 hL, LMn_49 hL, LMS_50 hL, LMn_50 hL, LMS_51 hL, LMn_51 hL, LMS_52 hL, LMn_52 hL, LMS_53 hL, LMn_53 hL, LMS_54 hL, LMn_54 hL, LMS_55 hL, LMn_55 hL, LMS_56 hL, LMn_56 hL, LMS_57 hL, LMn_57 hL, LMS_58 hL, LMn_58 hL, LMS_59 hL, LMn_59 hL, LMS_60 hL, LMn_60 hL, LMS_61 hL, LMn_61 hL, LMS_62 hL, LMn_62 hL, LMS_63 hL, LMn_63 hL, LMS_64 hL, LMn_64 hL, LMS_65 hL, LMn_65 hL, LMS_66 hL, LMn_66 hL, LMS_67 hL, LMn_67 hL, LMA_46_2 hL, LMA_46_3 hL, LMA_46_5 hL, LMA_46_6 hL, LMA_46_7 hL, LMA_46_11 hL, LMA_46_12 hL, LMA_46_13 hL, LMA_46_21 hL, LMA_46_22 hL, LMA_46_23 hL, LMA_46_24 hL, LMA_46_25 hL, LMA_46_26 hL, LMA_46_27 hL, LMA_46_31 hL, LMA_46_32 hL, LMA_46_33 hL, LMA_46_34 hL, LMA_46_35 hL, LMA_46_36 hL, msgn_f hL (MF_ge c2), mfau_f hL (MF_ge c2)]
      exact hQ I1 (FMt_M (FM_tr (FM_FN f0) f1)) ⟨c, c2⟩
  · rw [if_neg hK] at e
    cases e
    simp only [s131_0, s131_1, s131_3, s131_4, s131_5, s131_8, s131_11, s131_12, s131_15, isR_ref, isR_nul, isR_ra, nl_int, nl_ref, nl_jk, nl_ra, nl_nul, rf_some, rf_none, nc_nil, nc_i, nc_l, nc_r, nc_n, nc_x, true_and, and_true, and_self, if_true, if_false, ite_true, ite_false, Option.toList_some, Option.toList_none, List.cons_append, List.nil_append, nar_b1, nar_b0, T_ite, reduceIte, reduceCtorEq, one_ne, eq_self, mkC_t, hn_t, va_up_same, not_true_eq_false, not_false_eq_true, Nat.reduceLeDiff, Nat.reduceAdd, Nat.reduceEqDiff, Nat.reduceMul, Nat.reduceSub, Nat.reduceDiv, Nat.reduceMod, Nat.reduceLT, false_and, and_false, false_or, or_false, true_or, or_true, Nat.add_zero, Nat.zero_add, Nat.mul_zero, Nat.zero_mul, Nat.add_left_cancel_iff, Nat.add_right_cancel_iff, LMS_46 hL, LMn_46 hL, LMS_47 hL, LMn_47 hL, LMS_48 hL, LMn_48 hL, LMS_49 hL, LMn_49 hL, LMS_50 hL, LMn_50 hL, LMS_51 hL, LMn_51 hL, LMS_52 hL, LMn_52 hL, LMS_53 hL, LMn_53 hL, LMS_54 hL, LMn_54 hL, LMS_55 hL, LMn_55 hL, LMS_56 hL, LMn_56 hL, LMS_57 hL, LMn_57 hL, LMS_58 hL, LMn_58 hL, LMS_59 hL, LMn_59 hL, LMS_60 hL, LMn_60 hL, LMS_61 hL, LMn_61 hL, LMS_62 hL, LMn_62 hL, LMS_63 hL, LMn_63 hL, LMS_64 hL, LMn_64 hL, LMS_65 hL, LMn_65 hL, LMS_66 hL, LMn_66 hL, LMS_67 hL, LMn_67 hL, LMA_46_2 hL, LMA_46_3 hL, LMA_46_5 hL, LMA_46_6 hL, LMA_46_7 hL, LMA_46_11 hL, LMA_46_12 hL, LMA_46_13 hL, LMA_46_21 hL, LMA_46_22 hL, LMA_46_23 hL, LMA_46_24 hL, LMA_46_25 hL, LMA_46_26 hL, LMA_46_27 hL, LMA_46_31 hL, LMA_46_32 hL, LMA_46_33 hL, LMA_46_34 hL, LMA_46_35 hL, LMA_46_36 hL, ek, mkey_n hL (kk := 5 + w) rfl (by omega) (by omega) hR hK, mfau_y hL hR]
    exact hQ _ (FMt_M (FM_46 (by decide))) ⟨_, MF_fau hR⟩
theorem MR_end (hR : MR I K V sT bE a tot 0) : I 46 19 = 4 ↔ K a = 1 := by
  obtain ⟨⟨_, _, _, k4⟩, _⟩ := hR
  constructor
  · intro h
    rw [h] at k4
    rcases k4 with g | g | g | g | g | g
    · exact g.1
    · exact absurd g.2.1 (by decide)
    · exact absurd g.2.1 (by decide)
    · exact absurd g.2 (by decide)
    · exact absurd g.2.2.1 (by decide)
    · exact absurd g.2.2.1 (by decide)
  · intro h
    rw [h] at k4
    rcases k4 with g | g | g | g | g | g
    · exact g.2
    · omega
    · omega
    · omega
    · omega
    · omega
/-- the copying of the steps; of the ends -/
theorem mcp_1 (hL : LM A S n) {tx c : Nat} (htx : tx < 6) (hc : c ≤ 160) : ∀ (k q : Nat) (I : Nat → Nat → Int32), q + k = c → I 46 9 = nI tx → I 46 14 = nI c → (∀ I' : Nat → Nat → Int32, (∀ b, b ≠ 52 → b ≠ 53 → I' b = I b) → (∀ j, (j < 170 * tx + q ∨ 170 * tx + c ≤ j) → I' 52 j = I 52 j ∧ I' 53 j = I 53 j) → (∀ j, q ≤ j → j < c → I' 52 (170 * tx + j) = I 52 (1020 + j) ∧ I' 53 (170 * tx + j) = I 53 (1020 + j)) → T Ω d 126 166 [.ref 46, .int (nI c)] [] (I', J, A, S, n, z) Q) → T Ω d 126 102 [.ref 46, .int (nI q)] [] (I, J, A, S, n, z) Q := by
  intro k
  induction k with
  | zero =>
    intro q I hq h9 h14 hQ
    obtain rfl : q = c := by omega
    rw [s126_102]
    simp only [s126_103, s126_104, s126_107, isR_ref, isR_nul, isR_ra, nl_int, nl_ref, nl_jk, nl_ra, nl_nul, rf_some, rf_none, nc_nil, nc_i, nc_l, nc_r, nc_n, nc_x, true_and, and_true, and_self, if_true, if_false, ite_true, ite_false, Option.toList_some, Option.toList_none, List.cons_append, List.nil_append, nar_b1, nar_b0, T_ite, reduceIte, reduceCtorEq, one_ne, eq_self, mkC_t, hn_t, va_up_same, not_true_eq_false, not_false_eq_true, Nat.reduceLeDiff, Nat.reduceAdd, Nat.reduceEqDiff, Nat.reduceMul, Nat.reduceSub, Nat.reduceDiv, Nat.reduceMod, Nat.reduceLT, false_and, and_false, false_or, or_false, true_or, or_true, Nat.add_zero, Nat.zero_add, Nat.mul_zero, Nat.zero_mul, Nat.add_left_cancel_iff, Nat.add_right_cancel_iff, LMS_46 hL, LMn_46 hL, LMS_47 hL, LMn_47 hL, LMS_48 hL, LMn_48 hL, LMS_49 hL, LMn_49 hL, LMS_50 hL, LMn_50 hL, LMS_51 hL, LMn_51 hL, LMS_52 hL, LMn_52 hL, LMS_53 hL, LMn_53 hL, LMS_54 hL, LMn_54 hL, LMS_55 hL, LMn_55 hL, LMS_56 hL, LMn_56 hL, LMS_57 hL, LMn_57 hL, LMS_58 hL, LMn_58 hL, LMS_59 hL, LMn_59 hL, LMS_60 hL, LMn_60 hL, LMS_61 hL, LMn_61 hL, LMS_62 hL, LMn_62 hL, LMS_63 hL, LMn_63 hL, LMS_64 hL, LMn_64 hL, LMS_65 hL, LMn_65 hL, LMS_66 hL, LMn_66 hL, LMS_67 hL, LMn_67 hL, LMA_46_2 hL, LMA_46_3 hL, LMA_46_5 hL, LMA_46_6 hL, LMA_46_7 hL, LMA_46_11 hL, LMA_46_12 hL, LMA_46_13 hL, LMA_46_21 hL, LMA_46_22 hL, LMA_46_23 hL, LMA_46_24 hL, LMA_46_25 hL, LMA_46_26 hL, LMA_46_27 hL, LMA_46_31 hL, LMA_46_32 hL, LMA_46_33 hL, LMA_46_34 hL, LMA_46_35 hL, LMA_46_36 hL, h14, Int32.le_refl]
    exact hQ I (fun _ _ _ => rfl) (fun _ _ => ⟨rfl, rfl⟩) (fun j h1 h2 => by omega)
  | succ k ih =>
    intro q I hq h9 h14 hQ
    have g1 : ¬ nI c ≤ nI q := nI_ge (by omega) (by omega)
    have e9 : ∀ {v : Int32}, wr I 52 (170 * tx + q) v 46 9 = nI tx := fun {v} => by rw [wr_ne (by decide)]; exact h9
    have e53 : ∀ {v : Int32}, wr I 52 (170 * tx + q) v 53 = I 53 := fun {v} => by rw [wr_ne (by decide)]
    rw [s126_102]
    simp only [s126_103, s126_104, s126_107, s126_110, s126_111, s126_114, s126_117, s126_118, s126_121, s126_122, s126_123, s126_124, s126_125, s126_128, s126_131, s126_132, s126_133, s126_134, s126_135, s126_136, s126_139, s126_142, s126_143, s126_146, s126_147, s126_148, s126_149, s126_150, s126_153, s126_156, s126_157, s126_158, s126_159, s126_160, s126_163, isR_ref, isR_nul, isR_ra, nl_int, nl_ref, nl_jk, nl_ra, nl_nul, rf_some, rf_none, nc_nil, nc_i, nc_l, nc_r, nc_n, nc_x, true_and, and_true, and_self, if_true, if_false, ite_true, ite_false, Option.toList_some, Option.toList_none, List.cons_append, List.nil_append, nar_b1, nar_b0, T_ite, reduceIte, reduceCtorEq, one_ne, eq_self, mkC_t, hn_t, va_up_same, not_true_eq_false, not_false_eq_true, Nat.reduceLeDiff, Nat.reduceAdd, Nat.reduceEqDiff, Nat.reduceMul, Nat.reduceSub, Nat.reduceDiv, Nat.reduceMod, Nat.reduceLT, false_and, and_false, false_or, or_false, true_or, or_true, Nat.add_zero, Nat.zero_add, Nat.mul_zero, Nat.zero_mul, Nat.add_left_cancel_iff, Nat.add_right_cancel_iff, LMS_46 hL, LMn_46 hL, LMS_47 hL, LMn_47 hL, LMS_48 hL, LMn_48 hL, LMS_49 hL, LMn_49 hL, LMS_50 hL, LMn_50 hL, LMS_51 hL, LMn_51 hL, LMS_52 hL, LMn_52 hL, LMS_53 hL, LMn_53 hL, LMS_54 hL, LMn_54 hL, LMS_55 hL, LMn_55 hL, LMS_56 hL, LMn_56 hL, LMS_57 hL, LMn_57 hL, LMS_58 hL, LMn_58 hL, LMS_59 hL, LMn_59 hL, LMS_60 hL, LMn_60 hL, LMS_61 hL, LMn_61 hL, LMS_62 hL, LMn_62 hL, LMS_63 hL, LMn_63 hL, LMS_64 hL, LMn_64 hL, LMS_65 hL, LMn_65 hL, LMS_66 hL, LMn_66 hL, LMS_67 hL, LMn_67 hL, LMA_46_2 hL, LMA_46_3 hL, LMA_46_5 hL, LMA_46_6 hL, LMA_46_7 hL, LMA_46_11 hL, LMA_46_12 hL, LMA_46_13 hL, LMA_46_21 hL, LMA_46_22 hL, LMA_46_23 hL, LMA_46_24 hL, LMA_46_25 hL, LMA_46_26 hL, LMA_46_27 hL, LMA_46_31 hL, LMA_46_32 hL, LMA_46_33 hL, LMA_46_34 hL, LMA_46_35 hL, LMA_46_36 hL, h14, h9, e9, e53, g1, lit_170, lit_1020, pk_mul, nI_add, vpin (show 170 * tx + q < 2147483648 by omega), nI_cl (show 170 * tx + q < 2147483648 by omega), show 170 * tx + q < 1190 by omega, vpin (show 1020 + q < 2147483648 by omega), nI_cl (show 1020 + q < 2147483648 by omega), show 1020 + q < 1190 by omega, nI_1]
    refine ih (q + 1) _ (by omega) (by rw [wr_ne (by decide), wr_ne (by decide)]; exact h9) (by rw [wr_ne (by decide), wr_ne (by decide)]; exact h14) (fun I' f1 f2 f3 => hQ I' (fun b h1 h2 => by rw [f1 b h1 h2, wr_ne h2, wr_ne h1]) (fun j hj => ?_) (fun j h1 h2 => ?_))
    · obtain ⟨w1, w2⟩ := f2 j (by omega)
      rw [w1, w2, wr_ne (by decide), wr_at_ne (by omega), wr_at_ne (by omega), wr_ne (by decide)]
      exact ⟨rfl, rfl⟩
    · by_cases hjq : j = q
      · subst hjq
        obtain ⟨w1, w2⟩ := f2 (170 * tx + j) (by omega)
        rw [w1, w2, wr_ne (by decide), wr_at, wr_at]
        exact ⟨rfl, rfl⟩
      · obtain ⟨w1, w2⟩ := f3 j (by omega) h2
        rw [w1, w2, wr_ne (by decide), wr_at_ne (by omega), wr_at_ne (by omega), wr_ne (by decide)]
        exact ⟨rfl, rfl⟩
theorem mcp_2 (hL : LM A S n) {tx : Nat} (htx : tx < 6) : ∀ (k q : Nat) (I : Nat → Nat → Int32), q + k = 3 → I 46 9 = nI tx → (∀ I' : Nat → Nat → Int32, (∀ b, b ≠ 54 → I' b = I b) → (∀ j, (j < 3 * tx + q ∨ 3 * tx + 3 ≤ j) → I' 54 j = I 54 j) → (∀ j, q ≤ j → j < 3 → I' 54 (3 * tx + j) = I 54 (18 + j)) → T Ω d 126 201 [.ref 46, .int (nI 3)] [] (I', J, A, S, n, z) Q) → T Ω d 126 168 [.ref 46, .int (nI q)] [] (I, J, A, S, n, z) Q := by
  intro k
  induction k with
  | zero =>
    intro q I hq h9 hQ
    obtain rfl : q = 3 := by omega
    rw [s126_168]
    simp only [s126_169, s126_170, isR_ref, isR_nul, isR_ra, nl_int, nl_ref, nl_jk, nl_ra, nl_nul, rf_some, rf_none, nc_nil, nc_i, nc_l, nc_r, nc_n, nc_x, true_and, and_true, and_self, if_true, if_false, ite_true, ite_false, Option.toList_some, Option.toList_none, List.cons_append, List.nil_append, nar_b1, nar_b0, T_ite, reduceIte, reduceCtorEq, one_ne, eq_self, mkC_t, hn_t, va_up_same, not_true_eq_false, not_false_eq_true, Nat.reduceLeDiff, Nat.reduceAdd, Nat.reduceEqDiff, Nat.reduceMul, Nat.reduceSub, Nat.reduceDiv, Nat.reduceMod, Nat.reduceLT, false_and, and_false, false_or, or_false, true_or, or_true, Nat.add_zero, Nat.zero_add, Nat.mul_zero, Nat.zero_mul, Nat.add_left_cancel_iff, Nat.add_right_cancel_iff, show (3 : Int32) ≤ nI 3 from by decide]
    exact hQ I (fun _ _ => rfl) (fun _ _ => rfl) (fun j h1 h2 => by omega)
  | succ k ih =>
    intro q I hq h9 hQ
    have g1 : ¬ (3 : Int32) ≤ nI q := nI_ge (b := 3) (by omega) (by decide)
    have e18 : 18 + nI q = nI (18 + q) := nI_add 18 q
    have e3 : 3 * nI tx = nI (3 * tx) := pk_mul 3 tx
    rw [s126_168]
    simp only [s126_169, s126_170, s126_173, s126_174, s126_177, s126_178, s126_179, s126_182, s126_183, s126_184, s126_185, s126_186, s126_189, s126_191, s126_192, s126_193, s126_194, s126_195, s126_198, isR_ref, isR_nul, isR_ra, nl_int, nl_ref, nl_jk, nl_ra, nl_nul, rf_some, rf_none, nc_nil, nc_i, nc_l, nc_r, nc_n, nc_x, true_and, and_true, and_self, if_true, if_false, ite_true, ite_false, Option.toList_some, Option.toList_none, List.cons_append, List.nil_append, nar_b1, nar_b0, T_ite, reduceIte, reduceCtorEq, one_ne, eq_self, mkC_t, hn_t, va_up_same, not_true_eq_false, not_false_eq_true, Nat.reduceLeDiff, Nat.reduceAdd, Nat.reduceEqDiff, Nat.reduceMul, Nat.reduceSub, Nat.reduceDiv, Nat.reduceMod, Nat.reduceLT, false_and, and_false, false_or, or_false, true_or, or_true, Nat.add_zero, Nat.zero_add, Nat.mul_zero, Nat.zero_mul, Nat.add_left_cancel_iff, Nat.add_right_cancel_iff, LMS_46 hL, LMn_46 hL, LMS_47 hL, LMn_47 hL, LMS_48 hL, LMn_48 hL, LMS_49 hL, LMn_49 hL, LMS_50 hL, LMn_50 hL, LMS_51 hL, LMn_51 hL, LMS_52 hL, LMn_52 hL, LMS_53 hL, LMn_53 hL, LMS_54 hL, LMn_54 hL, LMS_55 hL, LMn_55 hL, LMS_56 hL, LMn_56 hL, LMS_57 hL, LMn_57 hL, LMS_58 hL, LMn_58 hL, LMS_59 hL, LMn_59 hL, LMS_60 hL, LMn_60 hL, LMS_61 hL, LMn_61 hL, LMS_62 hL, LMn_62 hL, LMS_63 hL, LMn_63 hL, LMS_64 hL, LMn_64 hL, LMS_65 hL, LMn_65 hL, LMS_66 hL, LMn_66 hL, LMS_67 hL, LMn_67 hL, LMA_46_2 hL, LMA_46_3 hL, LMA_46_5 hL, LMA_46_6 hL, LMA_46_7 hL, LMA_46_11 hL, LMA_46_12 hL, LMA_46_13 hL, LMA_46_21 hL, LMA_46_22 hL, LMA_46_23 hL, LMA_46_24 hL, LMA_46_25 hL, LMA_46_26 hL, LMA_46_27 hL, LMA_46_31 hL, LMA_46_32 hL, LMA_46_33 hL, LMA_46_34 hL, LMA_46_35 hL, LMA_46_36 hL, h9, g1, e18, e3, nI_add, vpin (show 3 * tx + q < 2147483648 by omega), nI_cl (show 3 * tx + q < 2147483648 by omega), show 3 * tx + q < 21 by omega, vpin (show 18 + q < 2147483648 by omega), nI_cl (show 18 + q < 2147483648 by omega), show 18 + q < 21 by omega, nI_1]
    refine ih (q + 1) _ (by omega) (by rw [wr_ne (by decide)]; exact h9) (fun I' f1 f2 f3 => hQ I' (fun b h1 => by rw [f1 b h1, wr_ne h1]) (fun j hj => by rw [f2 j (by omega), wr_at_ne (by omega)]) (fun j h1 h2 => ?_))
    by_cases hjq : j = q
    · subst hjq
      rw [f2 _ (by omega), wr_at]
    · rw [f3 j (by omega) h2, wr_at_ne (by omega)]
/-- what M_text leaves -/
def FTx (I I' : Nat → Nat → Int32) (tx : Nat) : Prop := (∀ b, b ≠ 46 → b ≠ 52 → b ≠ 53 → b ≠ 54 → I' b = I b) ∧ (∀ k, (k < 14 ∨ 20 < k) → k ≠ 8 → k ≠ 9 → I' 46 k = I 46 k) ∧ I' 46 8 = 0 ∧ (∀ j, j < 170 * tx → I' 52 j = I 52 j ∧ I' 53 j = I 53 j) ∧ ∀ j, j < 3 * tx → I' 54 j = I 54 j
def PTM (I I' : Nat → Nat → Int32) (tx : Nat) (ρ : Nat × Option (List Int32 × List Int32 × List Int32)) : Prop := match ρ with
  | (_, some (l1, l2, l3)) => I' 46 9 = nI (tx + 1) ∧ (∀ j, j < (l1 ++ l2 ++ l3).length → I' 52 (170 * tx + j) = actI ((l1 ++ l2 ++ l3).getD j 0) ∧ I' 53 (170 * tx + j) = witI ((l1 ++ l2 ++ l3).getD j 0)) ∧ I' 54 (3 * tx) = nI l1.length ∧ I' 54 (3 * tx + 1) = nI (l1 ++ l2).length ∧ I' 54 (3 * tx + 2) = nI (l1 ++ l2 ++ l3).length
  | (_, none) => I' 46 9 = I 46 9
def rTx (tx : Nat) (sT : Nat → Nat) (ρ : Nat × Option (List Int32 × List Int32 × List Int32)) : Int32 := match ρ with
  | (_, some _) => nI tx
  | (a, none) => -100 - nI (sT a)
set_option maxHeartbeats 2000000 in
theorem mtext (hL : LM A S n) (hM : MX t s I) (hN : ¬ stt t s N < s) (hNs : N ≤ s) {tx : Nat} (htx : tx < 6) (h9 : I 46 9 = nI tx) {ρ : Nat × Option (List Int32 × List Int32 × List Int32)} (e : ptt (tK t s) (tV t s) = some ρ) (hQ : ∀ I', FTx I I' tx → PTM I I' tx ρ → Q (some (.int (rTx tx (stt t s) ρ))) (I', J, A, S, n, z)) : T Ω (d + 70) 126 0 [.ref 46, jk] [] (I, J, A, S, n, z) Q := by
  have hP := TP_t hN
  have s160 := hM.1
  have hX : NXH Ω (tK t s) (tV t s) (stt t s) (bEn t s) N A S n (MX t s) := NXH_t hL s160
  have n6 : ¬ nI tx = 6 := fun g => by have := (nI_eq (b := 6) (by omega) (by decide)).mp g; omega
  have fr0 : FM I (wr (wr (wr (wr I 46 18 0) 46 15 (-1)) 46 16 0) 46 14 0) := FM_tr (FM_46 (by decide)) (FM_tr (FM_46 (by decide)) (FM_tr (FM_46 (by decide)) (FM_46 (by decide))))
  have hM0 := MX_FM hM fr0
  simp only [s126_0, s126_1, s126_4, s126_6, s126_9, s126_11, s126_12, s126_13, s126_14, s126_17, s126_18, s126_19, s126_22, s126_23, s126_24, s126_27, s126_28, s126_29, s126_32, s126_33, isR_ref, isR_nul, isR_ra, nl_int, nl_ref, nl_jk, nl_ra, nl_nul, rf_some, rf_none, nc_nil, nc_i, nc_l, nc_r, nc_n, nc_x, true_and, and_true, and_self, if_true, if_false, ite_true, ite_false, Option.toList_some, Option.toList_none, List.cons_append, List.nil_append, nar_b1, nar_b0, T_ite, reduceIte, reduceCtorEq, one_ne, eq_self, mkC_t, hn_t, va_up_same, not_true_eq_false, not_false_eq_true, Nat.reduceLeDiff, Nat.reduceAdd, Nat.reduceEqDiff, Nat.reduceMul, Nat.reduceSub, Nat.reduceDiv, Nat.reduceMod, Nat.reduceLT, false_and, and_false, false_or, or_false, true_or, or_true, Nat.add_zero, Nat.zero_add, Nat.mul_zero, Nat.zero_mul, Nat.add_left_cancel_iff, Nat.add_right_cancel_iff, LMS_46 hL, LMn_46 hL, LMS_47 hL, LMn_47 hL, LMS_48 hL, LMn_48 hL, LMS_49 hL, LMn_49 hL, LMS_50 hL, LMn_50 hL, LMS_51 hL, LMn_51 hL, LMS_52 hL, LMn_52 hL, LMS_53 hL, LMn_53 hL, LMS_54 hL, LMn_54 hL, LMS_55 hL, LMn_55 hL, LMS_56 hL, LMn_56 hL, LMS_57 hL, LMn_57 hL, LMS_58 hL, LMn_58 hL, LMS_59 hL, LMn_59 hL, LMS_60 hL, LMn_60 hL, LMS_61 hL, LMn_61 hL, LMS_62 hL, LMn_62 hL, LMS_63 hL, LMn_63 hL, LMS_64 hL, LMn_64 hL, LMS_65 hL, LMn_65 hL, LMS_66 hL, LMn_66 hL, LMS_67 hL, LMn_67 hL, LMA_46_2 hL, LMA_46_3 hL, LMA_46_5 hL, LMA_46_6 hL, LMA_46_7 hL, LMA_46_11 hL, LMA_46_12 hL, LMA_46_13 hL, LMA_46_21 hL, LMA_46_22 hL, LMA_46_23 hL, LMA_46_24 hL, LMA_46_25 hL, LMA_46_26 hL, LMA_46_27 hL, LMA_46_31 hL, LMA_46_32 hL, LMA_46_33 hL, LMA_46_34 hL, LMA_46_35 hL, LMA_46_36 hL, h9, n6]
  refine mnext (i := 0) hL hM0 (by rw [wr_at_ne (by decide), wr_at_ne (by decide), wr_at_ne (by decide), wr_at]; rfl) (Nat.zero_le _) (fun I1 f1 p1 => ?_)
  have p1' : MT I1 (tK t s) (tV t s) (stt t s) (bEn t s) 0 := NT_MT s160 p1
  have hR : MR I1 (tK t s) (tV t s) (stt t s) (bEn t s) 0 [] 0 := ⟨p1', by rw [f1.2 15 (by decide), wr_at_ne (by decide), wr_at_ne (by decide), wr_at], by rw [f1.2 16 (by decide), wr_at_ne (by decide), wr_at]; rfl, by rw [f1.2 14 (by decide), wr_at]; rfl, fun j hj => by simp at hj⟩
  have fr1 : FMt I I1 := FMt_M (FM_tr fr0 (FM_FN f1))
  have hM1 := MX_Mt hM fr1
  have flt : ∀ (I' : Nat → Nat → Int32) (x c a : Nat) (v1 : Value), FMt I I' → MF I' x c → x = stt t s a → ρ = (a, none) → T Ω (d + 70) 126 61 [.ref 46, v1] [] (I', J, A, S, n, z) Q := by
    intro I' x c a v1 f p hx hρ
    have ge := MF_ge p
    have e15 : wr I' 46 8 0 46 15 = nI x := by rw [wr_at_ne (by decide)]; exact p.1
    have nlt : ¬ nI x < 0 := nI_pos (by have := p.2.1; omega)
    simp only [s126_61, s126_62, s126_65, s126_80, s126_81, s126_82, s126_85, s126_86, s126_89, s126_92, s126_94, s126_95, s126_98, s126_99, isR_ref, isR_nul, isR_ra, nl_int, nl_ref, nl_jk, nl_ra, nl_nul, rf_some, rf_none, nc_nil, nc_i, nc_l, nc_r, nc_n, nc_x, true_and, and_true, and_self, if_true, if_false, ite_true, ite_false, Option.toList_some, Option.toList_none, List.cons_append, List.nil_append, nar_b1, nar_b0, T_ite, reduceIte, reduceCtorEq, one_ne, eq_self, mkC_t, hn_t, va_up_same, not_true_eq_false, not_false_eq_true, Nat.reduceLeDiff, Nat.reduceAdd, Nat.reduceEqDiff, Nat.reduceMul, Nat.reduceSub, Nat.reduceDiv, Nat.reduceMod, Nat.reduceLT, false_and, and_false, false_or, or_false, true_or, or_true, Nat.add_zero, Nat.zero_add, Nat.mul_zero, Nat.zero_mul, Nat.add_left_cancel_iff, Nat.add_right_cancel_iff, LMS_46 hL, LMn_46 hL, LMS_47 hL, LMn_47 hL, LMS_48 hL, LMn_48 hL, LMS_49 hL, LMn_49 hL, LMS_50 hL, LMn_50 hL, LMS_51 hL, LMn_51 hL, LMS_52 hL, LMn_52 hL, LMS_53 hL, LMn_53 hL, LMS_54 hL, LMn_54 hL, LMS_55 hL, LMn_55 hL, LMS_56 hL, LMn_56 hL, LMS_57 hL, LMn_57 hL, LMS_58 hL, LMn_58 hL, LMS_59 hL, LMn_59 hL, LMS_60 hL, LMn_60 hL, LMS_61 hL, LMn_61 hL, LMS_62 hL, LMn_62 hL, LMS_63 hL, LMn_63 hL, LMS_64 hL, LMn_64 hL, LMS_65 hL, LMn_65 hL, LMS_66 hL, LMn_66 hL, LMS_67 hL, LMn_67 hL, LMA_46_2 hL, LMA_46_3 hL, LMA_46_5 hL, LMA_46_6 hL, LMA_46_7 hL, LMA_46_11 hL, LMA_46_12 hL, LMA_46_13 hL, LMA_46_21 hL, LMA_46_22 hL, LMA_46_23 hL, LMA_46_24 hL, LMA_46_25 hL, LMA_46_26 hL, LMA_46_27 hL, LMA_46_31 hL, LMA_46_32 hL, LMA_46_33 hL, LMA_46_34 hL, LMA_46_35 hL, LMA_46_36 hL, ge, e15, nlt]
    subst hρ
    have key := hQ (wr I' 46 8 0) ⟨fun b h1 h2 h3 h4 => by rw [wr_ne h1]; exact f.1 b h1 h2 h3 h4, fun k hk h8 h9 => by rw [wr_at_ne h8]; exact f.2.1 k hk, wr_at, fun j hj => by rw [wr_ne (by decide), wr_ne (by decide)]; exact f.2.2.1 j (by omega), fun j hj => by rw [wr_ne (by decide)]; exact f.2.2.2 j (by omega)⟩ (by show wr I' 46 8 0 46 9 = I 46 9; rw [wr_at_ne (by decide)]; exact f.2.1 9 (by decide))
    rw [hx]
    exact key
  have f38 : ∀ (I' : Nat → Nat → Int32) (x c a k : Nat), FMt I I' → MF I' x c → x = stt t s a → ρ = (a, none) → k ≤ 3 → T Ω (d + 70) 126 38 [.ref 46, .int (nI k)] [] (I', J, A, S, n, z) Q := by
    intro I' x c a k f p hx hρ hk
    have ge := MF_ge p
    have go := flt I' x c a (.int (nI k)) f p hx hρ
    simp only [s126_38, s126_39, s126_40, s126_43, s126_44, s126_47, isR_ref, isR_nul, isR_ra, nl_int, nl_ref, nl_jk, nl_ra, nl_nul, rf_some, rf_none, nc_nil, nc_i, nc_l, nc_r, nc_n, nc_x, true_and, and_true, and_self, if_true, if_false, ite_true, ite_false, Option.toList_some, Option.toList_none, List.cons_append, List.nil_append, nar_b1, nar_b0, T_ite, reduceIte, reduceCtorEq, one_ne, eq_self, mkC_t, hn_t, va_up_same, not_true_eq_false, not_false_eq_true, Nat.reduceLeDiff, Nat.reduceAdd, Nat.reduceEqDiff, Nat.reduceMul, Nat.reduceSub, Nat.reduceDiv, Nat.reduceMod, Nat.reduceLT, false_and, and_false, false_or, or_false, true_or, or_true, Nat.add_zero, Nat.zero_add, Nat.mul_zero, Nat.zero_mul, Nat.add_left_cancel_iff, Nat.add_right_cancel_iff, LMS_46 hL, LMn_46 hL, LMS_47 hL, LMn_47 hL, LMS_48 hL, LMn_48 hL, LMS_49 hL, LMn_49 hL, LMS_50 hL, LMn_50 hL, LMS_51 hL, LMn_51 hL, LMS_52 hL, LMn_52 hL, LMS_53 hL, LMn_53 hL, LMS_54 hL, LMn_54 hL, LMS_55 hL, LMn_55 hL, LMS_56 hL, LMn_56 hL, LMS_57 hL, LMn_57 hL, LMS_58 hL, LMn_58 hL, LMS_59 hL, LMn_59 hL, LMS_60 hL, LMn_60 hL, LMS_61 hL, LMn_61 hL, LMS_62 hL, LMn_62 hL, LMS_63 hL, LMn_63 hL, LMS_64 hL, LMn_64 hL, LMS_65 hL, LMn_65 hL, LMS_66 hL, LMn_66 hL, LMS_67 hL, LMn_67 hL, LMA_46_2 hL, LMA_46_3 hL, LMA_46_5 hL, LMA_46_6 hL, LMA_46_7 hL, LMA_46_11 hL, LMA_46_12 hL, LMA_46_13 hL, LMA_46_21 hL, LMA_46_22 hL, LMA_46_23 hL, LMA_46_24 hL, LMA_46_25 hL, LMA_46_26 hL, LMA_46_27 hL, LMA_46_31 hL, LMA_46_32 hL, LMA_46_33 hL, LMA_46_34 hL, LMA_46_35 hL, LMA_46_36 hL, ge]
    split
    · exact go
    · exact go
  have run : ∀ (I' : Nat → Nat → Int32) (k : Nat) (Q' : Option Value → AH → Prop), k < 3 → I' 46 15 = -1 → T Ω (d + 69) 131 0 [.ref 46, .int (nI k)] [] (I', J, A, S, n, z) (fun r h' => T Ω (d + 69 + 1) 126 55 [.ref 46, .int (nI k)] (r.toList ++ []) h' Q') → T Ω (d + 70) 126 38 [.ref 46, .int (nI k)] [] (I', J, A, S, n, z) Q' := by
    intro I' k Q' hk h15 hT
    have g2 : ¬ (2 : Int32) < nI k := nI_nlt (a := 2) (by omega) (by decide)
    simp only [s126_38, s126_39, s126_40, s126_43, s126_44, s126_47, s126_50, s126_51, s126_52, isR_ref, isR_nul, isR_ra, nl_int, nl_ref, nl_jk, nl_ra, nl_nul, rf_some, rf_none, nc_nil, nc_i, nc_l, nc_r, nc_n, nc_x, true_and, and_true, and_self, if_true, if_false, ite_true, ite_false, Option.toList_some, Option.toList_none, List.cons_append, List.nil_append, nar_b1, nar_b0, T_ite, reduceIte, reduceCtorEq, one_ne, eq_self, mkC_t, hn_t, va_up_same, not_true_eq_false, not_false_eq_true, Nat.reduceLeDiff, Nat.reduceAdd, Nat.reduceEqDiff, Nat.reduceMul, Nat.reduceSub, Nat.reduceDiv, Nat.reduceMod, Nat.reduceLT, false_and, and_false, false_or, or_false, true_or, or_true, Nat.add_zero, Nat.zero_add, Nat.mul_zero, Nat.zero_mul, Nat.add_left_cancel_iff, Nat.add_right_cancel_iff, LMS_46 hL, LMn_46 hL, LMS_47 hL, LMn_47 hL, LMS_48 hL, LMn_48 hL, LMS_49 hL, LMn_49 hL, LMS_50 hL, LMn_50 hL, LMS_51 hL, LMn_51 hL, LMS_52 hL, LMn_52 hL, LMS_53 hL, LMn_53 hL, LMS_54 hL, LMn_54 hL, LMS_55 hL, LMn_55 hL, LMS_56 hL, LMn_56 hL, LMS_57 hL, LMn_57 hL, LMS_58 hL, LMn_58 hL, LMS_59 hL, LMn_59 hL, LMS_60 hL, LMn_60 hL, LMS_61 hL, LMn_61 hL, LMS_62 hL, LMn_62 hL, LMS_63 hL, LMn_63 hL, LMS_64 hL, LMn_64 hL, LMS_65 hL, LMn_65 hL, LMS_66 hL, LMn_66 hL, LMS_67 hL, LMn_67 hL, LMA_46_2 hL, LMA_46_3 hL, LMA_46_5 hL, LMA_46_6 hL, LMA_46_7 hL, LMA_46_11 hL, LMA_46_12 hL, LMA_46_13 hL, LMA_46_21 hL, LMA_46_22 hL, LMA_46_23 hL, LMA_46_24 hL, LMA_46_25 hL, LMA_46_26 hL, LMA_46_27 hL, LMA_46_31 hL, LMA_46_32 hL, LMA_46_33 hL, LMA_46_34 hL, LMA_46_35 hL, LMA_46_36 hL, g2, h15, show ¬ (0 : Int32) ≤ -1 from by decide]
    exact hT
  unfold ptt at e
  simp only [s126_36, s126_37, isR_ref, isR_nul, isR_ra, nl_int, nl_ref, nl_jk, nl_ra, nl_nul, rf_some, rf_none, nc_nil, nc_i, nc_l, nc_r, nc_n, nc_x, true_and, and_true, and_self, if_true, if_false, ite_true, ite_false, Option.toList_some, Option.toList_none, List.cons_append, List.nil_append, nar_b1, nar_b0, T_ite, reduceIte, reduceCtorEq, one_ne, eq_self, mkC_t, hn_t, va_up_same, not_true_eq_false, not_false_eq_true, Nat.reduceLeDiff, Nat.reduceAdd, Nat.reduceEqDiff, Nat.reduceMul, Nat.reduceSub, Nat.reduceDiv, Nat.reduceMod, Nat.reduceLT, false_and, and_false, false_or, or_false, true_or, or_true, Nat.add_zero, Nat.zero_add, Nat.mul_zero, Nat.zero_mul, Nat.add_left_cancel_iff, Nat.add_right_cancel_iff]
  refine run I1 0 Q (by decide) hR.2.1 ?_
  rcases h1 : ptx (tK t s) (tV t s) 5 0 with _ | ⟨a1, _ | l1⟩
  · rw [h1] at e; exact absurd e (by simp)
  · rw [h1] at e
    cases e
    refine mrule hL hX (by omega) hP (w := 0) (by decide) h1 (Nat.zero_le _) (Nat.le_refl _) hM1 hR (fun I2 f2 p2 => ?_)
    obtain ⟨c, c2⟩ := p2
    simp only [s126_55, s126_58, isR_ref, isR_nul, isR_ra, nl_int, nl_ref, nl_jk, nl_ra, nl_nul, rf_some, rf_none, nc_nil, nc_i, nc_l, nc_r, nc_n, nc_x, true_and, and_true, and_self, if_true, if_false, ite_true, ite_false, Option.toList_some, Option.toList_none, List.cons_append, List.nil_append, nar_b1, nar_b0, T_ite, reduceIte, reduceCtorEq, one_ne, eq_self, mkC_t, hn_t, va_up_same, not_true_eq_false, not_false_eq_true, Nat.reduceLeDiff, Nat.reduceAdd, Nat.reduceEqDiff, Nat.reduceMul, Nat.reduceSub, Nat.reduceDiv, Nat.reduceMod, Nat.reduceLT, false_and, and_false, false_or, or_false, true_or, or_true, Nat.add_zero, Nat.zero_add, Nat.mul_zero, Nat.zero_mul, Nat.add_left_cancel_iff, Nat.add_right_cancel_iff, nI_1]
    exact f38 I2 _ c a1 1 (FMt_tr fr1 f2) c2 rfl rfl (by decide)
  rw [h1] at e
  obtain ⟨o1, o2, o3, o4⟩ := ptx_ok hP (by decide) (Nat.zero_le _) h1
  refine mrule hL hX (by omega) hP (w := 0) (by decide) h1 (Nat.zero_le _) (Nat.le_refl _) hM1 hR (fun I2 f2 p2 => ?_)
  obtain ⟨r2, n2⟩ := p2
  rw [List.nil_append] at r2 n2
  have fr2 := FMt_tr fr1 f2
  simp only [s126_55, s126_58, isR_ref, isR_nul, isR_ra, nl_int, nl_ref, nl_jk, nl_ra, nl_nul, rf_some, rf_none, nc_nil, nc_i, nc_l, nc_r, nc_n, nc_x, true_and, and_true, and_self, if_true, if_false, ite_true, ite_false, Option.toList_some, Option.toList_none, List.cons_append, List.nil_append, nar_b1, nar_b0, T_ite, reduceIte, reduceCtorEq, one_ne, eq_self, mkC_t, hn_t, va_up_same, not_true_eq_false, not_false_eq_true, Nat.reduceLeDiff, Nat.reduceAdd, Nat.reduceEqDiff, Nat.reduceMul, Nat.reduceSub, Nat.reduceDiv, Nat.reduceMod, Nat.reduceLT, false_and, and_false, false_or, or_false, true_or, or_true, Nat.add_zero, Nat.zero_add, Nat.mul_zero, Nat.zero_mul, Nat.add_left_cancel_iff, Nat.add_right_cancel_iff, nI_1]
  refine run I2 1 Q (by decide) r2.2.1 ?_
  simp only at e
  rcases h2 : ptx (tK t s) (tV t s) 6 a1 with _ | ⟨a2, _ | l2⟩
  · rw [h2] at e; exact absurd e (by simp)
  · rw [h2] at e
    cases e
    refine mrule hL hX (by omega) hP (w := 1) (by decide) h2 o1 (by omega) (MX_Mt hM fr2) r2 (fun I3 f3 p3 => ?_)
    obtain ⟨c, c2⟩ := p3
    simp only [s126_55, s126_58, isR_ref, isR_nul, isR_ra, nl_int, nl_ref, nl_jk, nl_ra, nl_nul, rf_some, rf_none, nc_nil, nc_i, nc_l, nc_r, nc_n, nc_x, true_and, and_true, and_self, if_true, if_false, ite_true, ite_false, Option.toList_some, Option.toList_none, List.cons_append, List.nil_append, nar_b1, nar_b0, T_ite, reduceIte, reduceCtorEq, one_ne, eq_self, mkC_t, hn_t, va_up_same, not_true_eq_false, not_false_eq_true, Nat.reduceLeDiff, Nat.reduceAdd, Nat.reduceEqDiff, Nat.reduceMul, Nat.reduceSub, Nat.reduceDiv, Nat.reduceMod, Nat.reduceLT, false_and, and_false, false_or, or_false, true_or, or_true, Nat.add_zero, Nat.zero_add, Nat.mul_zero, Nat.zero_mul, Nat.add_left_cancel_iff, Nat.add_right_cancel_iff, nI_1]
    exact f38 I3 _ c a2 2 (FMt_tr fr2 f3) c2 rfl rfl (by decide)
  rw [h2] at e
  obtain ⟨o5, o6, o7, o8⟩ := ptx_ok hP (by decide) o1 h2
  refine mrule hL hX (by omega) hP (w := 1) (by decide) h2 o1 (by omega) (MX_Mt hM fr2) r2 (fun I3 f3 p3 => ?_)
  obtain ⟨r3, n3⟩ := p3
  have fr3 := FMt_tr fr2 f3
  have hl2 : (l1 ++ l2).length ≤ a2 := by rw [List.length_append]; omega
  simp only [s126_55, s126_58, isR_ref, isR_nul, isR_ra, nl_int, nl_ref, nl_jk, nl_ra, nl_nul, rf_some, rf_none, nc_nil, nc_i, nc_l, nc_r, nc_n, nc_x, true_and, and_true, and_self, if_true, if_false, ite_true, ite_false, Option.toList_some, Option.toList_none, List.cons_append, List.nil_append, nar_b1, nar_b0, T_ite, reduceIte, reduceCtorEq, one_ne, eq_self, mkC_t, hn_t, va_up_same, not_true_eq_false, not_false_eq_true, Nat.reduceLeDiff, Nat.reduceAdd, Nat.reduceEqDiff, Nat.reduceMul, Nat.reduceSub, Nat.reduceDiv, Nat.reduceMod, Nat.reduceLT, false_and, and_false, false_or, or_false, true_or, or_true, Nat.add_zero, Nat.zero_add, Nat.mul_zero, Nat.zero_mul, Nat.add_left_cancel_iff, Nat.add_right_cancel_iff, nI_1]
  refine run I3 2 Q (by decide) r3.2.1 ?_
  simp only at e
  rcases h3 : ptx (tK t s) (tV t s) 7 a2 with _ | ⟨a3, _ | l3⟩
  · rw [h3] at e; exact absurd e (by simp)
  · rw [h3] at e
    cases e
    refine mrule hL hX (by omega) hP (w := 2) (by decide) h3 o5 hl2 (MX_Mt hM fr3) r3 (fun I4 f4 p4 => ?_)
    obtain ⟨c, c2⟩ := p4
    simp only [s126_55, s126_58, isR_ref, isR_nul, isR_ra, nl_int, nl_ref, nl_jk, nl_ra, nl_nul, rf_some, rf_none, nc_nil, nc_i, nc_l, nc_r, nc_n, nc_x, true_and, and_true, and_self, if_true, if_false, ite_true, ite_false, Option.toList_some, Option.toList_none, List.cons_append, List.nil_append, nar_b1, nar_b0, T_ite, reduceIte, reduceCtorEq, one_ne, eq_self, mkC_t, hn_t, va_up_same, not_true_eq_false, not_false_eq_true, Nat.reduceLeDiff, Nat.reduceAdd, Nat.reduceEqDiff, Nat.reduceMul, Nat.reduceSub, Nat.reduceDiv, Nat.reduceMod, Nat.reduceLT, false_and, and_false, false_or, or_false, true_or, or_true, Nat.add_zero, Nat.zero_add, Nat.mul_zero, Nat.zero_mul, Nat.add_left_cancel_iff, Nat.add_right_cancel_iff, nI_1]
    exact f38 I4 _ c a3 3 (FMt_tr fr3 f4) c2 rfl rfl (by decide)
  rw [h3] at e
  obtain ⟨o9, o10, o11, o12⟩ := ptx_ok hP (by decide) o5 h3
  refine mrule hL hX (by omega) hP (w := 2) (by decide) h3 o5 hl2 (MX_Mt hM fr3) r3 (fun I4 f4 p4 => ?_)
  obtain ⟨r4, n4⟩ := p4
  have fr4 := FMt_tr fr3 f4
  have hl3 : (l1 ++ l2 ++ l3).length ≤ a3 := by rw [List.length_append]; omega
  simp only [s126_55, s126_58, isR_ref, isR_nul, isR_ra, nl_int, nl_ref, nl_jk, nl_ra, nl_nul, rf_some, rf_none, nc_nil, nc_i, nc_l, nc_r, nc_n, nc_x, true_and, and_true, and_self, if_true, if_false, ite_true, ite_false, Option.toList_some, Option.toList_none, List.cons_append, List.nil_append, nar_b1, nar_b0, T_ite, reduceIte, reduceCtorEq, one_ne, eq_self, mkC_t, hn_t, va_up_same, not_true_eq_false, not_false_eq_true, Nat.reduceLeDiff, Nat.reduceAdd, Nat.reduceEqDiff, Nat.reduceMul, Nat.reduceSub, Nat.reduceDiv, Nat.reduceMod, Nat.reduceLT, false_and, and_false, false_or, or_false, true_or, or_true, Nat.add_zero, Nat.zero_add, Nat.mul_zero, Nat.zero_mul, Nat.add_left_cancel_iff, Nat.add_right_cancel_iff, nI_1]
  simp only at e
  have rend := MR_end r4
  simp only [s126_38, s126_39, s126_40, s126_61, s126_62, s126_65, s126_68, s126_69, s126_72, s126_73, isR_ref, isR_nul, isR_ra, nl_int, nl_ref, nl_jk, nl_ra, nl_nul, rf_some, rf_none, nc_nil, nc_i, nc_l, nc_r, nc_n, nc_x, true_and, and_true, and_self, if_true, if_false, ite_true, ite_false, Option.toList_some, Option.toList_none, List.cons_append, List.nil_append, nar_b1, nar_b0, T_ite, reduceIte, reduceCtorEq, one_ne, eq_self, mkC_t, hn_t, va_up_same, not_true_eq_false, not_false_eq_true, Nat.reduceLeDiff, Nat.reduceAdd, Nat.reduceEqDiff, Nat.reduceMul, Nat.reduceSub, Nat.reduceDiv, Nat.reduceMod, Nat.reduceLT, false_and, and_false, false_or, or_false, true_or, or_true, Nat.add_zero, Nat.zero_add, Nat.mul_zero, Nat.zero_mul, Nat.add_left_cancel_iff, Nat.add_right_cancel_iff, LMS_46 hL, LMn_46 hL, LMS_47 hL, LMn_47 hL, LMS_48 hL, LMn_48 hL, LMS_49 hL, LMn_49 hL, LMS_50 hL, LMn_50 hL, LMS_51 hL, LMn_51 hL, LMS_52 hL, LMn_52 hL, LMS_53 hL, LMn_53 hL, LMS_54 hL, LMn_54 hL, LMS_55 hL, LMn_55 hL, LMS_56 hL, LMn_56 hL, LMS_57 hL, LMn_57 hL, LMS_58 hL, LMn_58 hL, LMS_59 hL, LMn_59 hL, LMS_60 hL, LMn_60 hL, LMS_61 hL, LMn_61 hL, LMS_62 hL, LMn_62 hL, LMS_63 hL, LMn_63 hL, LMS_64 hL, LMn_64 hL, LMS_65 hL, LMn_65 hL, LMS_66 hL, LMn_66 hL, LMS_67 hL, LMn_67 hL, LMA_46_2 hL, LMA_46_3 hL, LMA_46_5 hL, LMA_46_6 hL, LMA_46_7 hL, LMA_46_11 hL, LMA_46_12 hL, LMA_46_13 hL, LMA_46_21 hL, LMA_46_22 hL, LMA_46_23 hL, LMA_46_24 hL, LMA_46_25 hL, LMA_46_26 hL, LMA_46_27 hL, LMA_46_31 hL, LMA_46_32 hL, LMA_46_33 hL, LMA_46_34 hL, LMA_46_35 hL, LMA_46_36 hL, show (2 : Int32) < nI 3 from by decide, r4.2.1, show ¬ (0 : Int32) ≤ -1 from by decide]
  by_cases hK : tK t s a3 = 1
  · rw [if_pos hK] at e
    cases e
    rw [if_pos (rend.mpr hK)]
    have e15 : wr I4 46 8 0 46 15 = -1 := by rw [wr_at_ne (by decide)]; exact r4.2.1
    have e9 : wr I4 46 8 0 46 9 = nI tx := by rw [wr_at_ne (by decide), fr4.2.1 9 (by decide)]; exact h9
    have e14 : wr I4 46 8 0 46 14 = nI (l1 ++ l2 ++ l3).length := by rw [wr_at_ne (by decide)]; exact r4.2.2.2.1
    simp only [s126_80, s126_81, s126_82, s126_85, s126_86, s126_89, s126_92, s126_94, s126_95, s126_98, s126_99, s126_100, s126_101, isR_ref, isR_nul, isR_ra, nl_int, nl_ref, nl_jk, nl_ra, nl_nul, rf_some, rf_none, nc_nil, nc_i, nc_l, nc_r, nc_n, nc_x, true_and, and_true, and_self, if_true, if_false, ite_true, ite_false, Option.toList_some, Option.toList_none, List.cons_append, List.nil_append, nar_b1, nar_b0, T_ite, reduceIte, reduceCtorEq, one_ne, eq_self, mkC_t, hn_t, va_up_same, not_true_eq_false, not_false_eq_true, Nat.reduceLeDiff, Nat.reduceAdd, Nat.reduceEqDiff, Nat.reduceMul, Nat.reduceSub, Nat.reduceDiv, Nat.reduceMod, Nat.reduceLT, false_and, and_false, false_or, or_false, true_or, or_true, Nat.add_zero, Nat.zero_add, Nat.mul_zero, Nat.zero_mul, Nat.add_left_cancel_iff, Nat.add_right_cancel_iff, LMS_46 hL, LMn_46 hL, LMS_47 hL, LMn_47 hL, LMS_48 hL, LMn_48 hL, LMS_49 hL, LMn_49 hL, LMS_50 hL, LMn_50 hL, LMS_51 hL, LMn_51 hL, LMS_52 hL, LMn_52 hL, LMS_53 hL, LMn_53 hL, LMS_54 hL, LMn_54 hL, LMS_55 hL, LMn_55 hL, LMS_56 hL, LMn_56 hL, LMS_57 hL, LMn_57 hL, LMS_58 hL, LMn_58 hL, LMS_59 hL, LMn_59 hL, LMS_60 hL, LMn_60 hL, LMS_61 hL, LMn_61 hL, LMS_62 hL, LMn_62 hL, LMS_63 hL, LMn_63 hL, LMS_64 hL, LMn_64 hL, LMS_65 hL, LMn_65 hL, LMS_66 hL, LMn_66 hL, LMS_67 hL, LMn_67 hL, LMA_46_2 hL, LMA_46_3 hL, LMA_46_5 hL, LMA_46_6 hL, LMA_46_7 hL, LMA_46_11 hL, LMA_46_12 hL, LMA_46_13 hL, LMA_46_21 hL, LMA_46_22 hL, LMA_46_23 hL, LMA_46_24 hL, LMA_46_25 hL, LMA_46_26 hL, LMA_46_27 hL, LMA_46_31 hL, LMA_46_32 hL, LMA_46_33 hL, LMA_46_34 hL, LMA_46_35 hL, LMA_46_36 hL, e15, show (-1 : Int32) < 0 from by decide]
    refine mcp_1 hL htx (c := (l1 ++ l2 ++ l3).length) (by omega) (l1 ++ l2 ++ l3).length 0 _ (by omega) e9 e14 (fun I5 k1 k2 k3 => ?_)
    have g9 : I5 46 9 = nI tx := by rw [k1 46 (by decide) (by decide)]; exact e9
    simp only [s126_166, s126_167, isR_ref, isR_nul, isR_ra, nl_int, nl_ref, nl_jk, nl_ra, nl_nul, rf_some, rf_none, nc_nil, nc_i, nc_l, nc_r, nc_n, nc_x, true_and, and_true, and_self, if_true, if_false, ite_true, ite_false, Option.toList_some, Option.toList_none, List.cons_append, List.nil_append, nar_b1, nar_b0, T_ite, reduceIte, reduceCtorEq, one_ne, eq_self, mkC_t, hn_t, va_up_same, not_true_eq_false, not_false_eq_true, Nat.reduceLeDiff, Nat.reduceAdd, Nat.reduceEqDiff, Nat.reduceMul, Nat.reduceSub, Nat.reduceDiv, Nat.reduceMod, Nat.reduceLT, false_and, and_false, false_or, or_false, true_or, or_true, Nat.add_zero, Nat.zero_add, Nat.mul_zero, Nat.zero_mul, Nat.add_left_cancel_iff, Nat.add_right_cancel_iff]
    refine mcp_2 hL htx 3 0 I5 (by decide) g9 (fun I6 j1 j2 j3 => ?_)
    have h69 : I6 46 9 = nI tx := by rw [j1 46 (by decide)]; exact g9
    have ep : nI (tx + 1) - 1 = nI tx := nI_pred tx
    simp only [s126_201, s126_202, s126_203, s126_206, s126_207, s126_208, s126_211, s126_212, s126_215, s126_216, s126_217, isR_ref, isR_nul, isR_ra, nl_int, nl_ref, nl_jk, nl_ra, nl_nul, rf_some, rf_none, nc_nil, nc_i, nc_l, nc_r, nc_n, nc_x, true_and, and_true, and_self, if_true, if_false, ite_true, ite_false, Option.toList_some, Option.toList_none, List.cons_append, List.nil_append, nar_b1, nar_b0, T_ite, reduceIte, reduceCtorEq, one_ne, eq_self, mkC_t, hn_t, va_up_same, not_true_eq_false, not_false_eq_true, Nat.reduceLeDiff, Nat.reduceAdd, Nat.reduceEqDiff, Nat.reduceMul, Nat.reduceSub, Nat.reduceDiv, Nat.reduceMod, Nat.reduceLT, false_and, and_false, false_or, or_false, true_or, or_true, Nat.add_zero, Nat.zero_add, Nat.mul_zero, Nat.zero_mul, Nat.add_left_cancel_iff, Nat.add_right_cancel_iff, LMS_46 hL, LMn_46 hL, LMS_47 hL, LMn_47 hL, LMS_48 hL, LMn_48 hL, LMS_49 hL, LMn_49 hL, LMS_50 hL, LMn_50 hL, LMS_51 hL, LMn_51 hL, LMS_52 hL, LMn_52 hL, LMS_53 hL, LMn_53 hL, LMS_54 hL, LMn_54 hL, LMS_55 hL, LMn_55 hL, LMS_56 hL, LMn_56 hL, LMS_57 hL, LMn_57 hL, LMS_58 hL, LMn_58 hL, LMS_59 hL, LMn_59 hL, LMS_60 hL, LMn_60 hL, LMS_61 hL, LMn_61 hL, LMS_62 hL, LMn_62 hL, LMS_63 hL, LMn_63 hL, LMS_64 hL, LMn_64 hL, LMS_65 hL, LMn_65 hL, LMS_66 hL, LMn_66 hL, LMS_67 hL, LMn_67 hL, LMA_46_2 hL, LMA_46_3 hL, LMA_46_5 hL, LMA_46_6 hL, LMA_46_7 hL, LMA_46_11 hL, LMA_46_12 hL, LMA_46_13 hL, LMA_46_21 hL, LMA_46_22 hL, LMA_46_23 hL, LMA_46_24 hL, LMA_46_25 hL, LMA_46_26 hL, LMA_46_27 hL, LMA_46_31 hL, LMA_46_32 hL, LMA_46_33 hL, LMA_46_34 hL, LMA_46_35 hL, LMA_46_36 hL, h69, nI_1, wr_at, ep]
    have x54 : ∀ q, wr I6 46 9 (nI (tx + 1)) 54 q = I6 54 q := fun q => by rw [wr_ne (by decide)]
    have x5 : I5 54 = I4 54 := by rw [k1 54 (by decide) (by decide), wr_ne (by decide)]
    have y2 : I4 54 20 = nI (l1 ++ l2 ++ l3).length := by rw [n4 20, if_pos rfl]
    have y1 : I4 54 19 = nI (l1 ++ l2).length := by rw [n4 19, if_neg (by decide), n3 19, if_pos rfl]
    have y0 : I4 54 18 = nI l1.length := by rw [n4 18, if_neg (by decide), n3 18, if_neg (by decide), n2 18, if_pos rfl]
    refine hQ _ ⟨fun b q1 q2 q3 q4 => ?_, fun k hk q8 q9 => ?_, ?_, fun j hj => ?_, fun j hj => ?_⟩ ⟨wr_at, fun j hj => ?_, ?_, ?_, ?_⟩
    · rw [wr_ne q1, j1 b q4, k1 b q2 q3, wr_ne q1]; exact fr4.1 b q1 q2 q3 q4
    · rw [wr_at_ne q9, j1 46 (by decide), k1 46 (by decide) (by decide), wr_at_ne q8]; exact fr4.2.1 k hk
    · rw [wr_at_ne (by decide), j1 46 (by decide), k1 46 (by decide) (by decide), wr_at]
    · rw [wr_ne (by decide), wr_ne (by decide), j1 52 (by decide), j1 53 (by decide), (k2 j (by omega)).1, (k2 j (by omega)).2, wr_ne (by decide), wr_ne (by decide)]
      exact fr4.2.2.1 j (by omega)
    · rw [x54, j2 j (by omega), x5]; exact fr4.2.2.2 j (by omega)
    · rw [wr_ne (by decide), wr_ne (by decide), j1 52 (by decide), j1 53 (by decide), (k3 j (Nat.zero_le _) hj).1, (k3 j (Nat.zero_le _) hj).2, wr_ne (by decide), wr_ne (by decide)]
      exact r4.2.2.2.2 j hj
    · rw [x54]
      have := j3 0 (Nat.le_refl _) (by decide)
      rw [Nat.add_zero, Nat.add_zero] at this
      rw [this, x5]; exact y0
    · rw [x54, j3 1 (by decide) (by decide), x5]; exact y1
    · rw [x54, j3 2 (by decide) (by decide), x5]; exact y2
  · rw [if_neg hK] at e
    cases e
    rw [if_neg (fun g => hK (rend.mp g))]
    have p5 := MF_fau r4
    have fr5 : FMt I (wr I4 46 15 (nI (stt t s a3))) := FMt_tr fr4 (FMt_M (FM_46 (by decide)))
    have go := flt _ _ _ a3 (.int (nI 3)) fr5 p5 rfl rfl
    have ge := MF_ge p5
    simp only [s126_76, s126_77, isR_ref, isR_nul, isR_ra, nl_int, nl_ref, nl_jk, nl_ra, nl_nul, rf_some, rf_none, nc_nil, nc_i, nc_l, nc_r, nc_n, nc_x, true_and, and_true, and_self, if_true, if_false, ite_true, ite_false, Option.toList_some, Option.toList_none, List.cons_append, List.nil_append, nar_b1, nar_b0, T_ite, reduceIte, reduceCtorEq, one_ne, eq_self, mkC_t, hn_t, va_up_same, not_true_eq_false, not_false_eq_true, Nat.reduceLeDiff, Nat.reduceAdd, Nat.reduceEqDiff, Nat.reduceMul, Nat.reduceSub, Nat.reduceDiv, Nat.reduceMod, Nat.reduceLT, false_and, and_false, false_or, or_false, true_or, or_true, Nat.add_zero, Nat.zero_add, Nat.mul_zero, Nat.zero_mul, Nat.add_left_cancel_iff, Nat.add_right_cancel_iff, LMS_46 hL, LMn_46 hL, LMS_47 hL, LMn_47 hL, LMS_48 hL, LMn_48 hL, LMS_49 hL, LMn_49 hL, LMS_50 hL, LMn_50 hL, LMS_51 hL, LMn_51 hL, LMS_52 hL, LMn_52 hL, LMS_53 hL, LMn_53 hL, LMS_54 hL, LMn_54 hL, LMS_55 hL, LMn_55 hL, LMS_56 hL, LMn_56 hL, LMS_57 hL, LMn_57 hL, LMS_58 hL, LMn_58 hL, LMS_59 hL, LMn_59 hL, LMS_60 hL, LMn_60 hL, LMS_61 hL, LMn_61 hL, LMS_62 hL, LMn_62 hL, LMS_63 hL, LMn_63 hL, LMS_64 hL, LMn_64 hL, LMS_65 hL, LMn_65 hL, LMS_66 hL, LMn_66 hL, LMS_67 hL, LMn_67 hL, LMA_46_2 hL, LMA_46_3 hL, LMA_46_5 hL, LMA_46_6 hL, LMA_46_7 hL, LMA_46_11 hL, LMA_46_12 hL, LMA_46_13 hL, LMA_46_21 hL, LMA_46_22 hL, LMA_46_23 hL, LMA_46_24 hL, LMA_46_25 hL, LMA_46_26 hL, LMA_46_27 hL, LMA_46_31 hL, LMA_46_32 hL, LMA_46_33 hL, LMA_46_34 hL, LMA_46_35 hL, LMA_46_36 hL, mfau_y hL r4]
    simp only [s126_61, s126_62, s126_65, isR_ref, isR_nul, isR_ra, nl_int, nl_ref, nl_jk, nl_ra, nl_nul, rf_some, rf_none, nc_nil, nc_i, nc_l, nc_r, nc_n, nc_x, true_and, and_true, and_self, if_true, if_false, ite_true, ite_false, Option.toList_some, Option.toList_none, List.cons_append, List.nil_append, nar_b1, nar_b0, T_ite, reduceIte, reduceCtorEq, one_ne, eq_self, mkC_t, hn_t, va_up_same, not_true_eq_false, not_false_eq_true, Nat.reduceLeDiff, Nat.reduceAdd, Nat.reduceEqDiff, Nat.reduceMul, Nat.reduceSub, Nat.reduceDiv, Nat.reduceMod, Nat.reduceLT, false_and, and_false, false_or, or_false, true_or, or_true, Nat.add_zero, Nat.zero_add, Nat.mul_zero, Nat.zero_mul, Nat.add_left_cancel_iff, Nat.add_right_cancel_iff, LMS_46 hL, LMn_46 hL, LMS_47 hL, LMn_47 hL, LMS_48 hL, LMn_48 hL, LMS_49 hL, LMn_49 hL, LMS_50 hL, LMn_50 hL, LMS_51 hL, LMn_51 hL, LMS_52 hL, LMn_52 hL, LMS_53 hL, LMn_53 hL, LMS_54 hL, LMn_54 hL, LMS_55 hL, LMn_55 hL, LMS_56 hL, LMn_56 hL, LMS_57 hL, LMn_57 hL, LMS_58 hL, LMn_58 hL, LMS_59 hL, LMn_59 hL, LMS_60 hL, LMn_60 hL, LMS_61 hL, LMn_61 hL, LMS_62 hL, LMn_62 hL, LMS_63 hL, LMn_63 hL, LMS_64 hL, LMn_64 hL, LMS_65 hL, LMn_65 hL, LMS_66 hL, LMn_66 hL, LMS_67 hL, LMn_67 hL, LMA_46_2 hL, LMA_46_3 hL, LMA_46_5 hL, LMA_46_6 hL, LMA_46_7 hL, LMA_46_11 hL, LMA_46_12 hL, LMA_46_13 hL, LMA_46_21 hL, LMA_46_22 hL, LMA_46_23 hL, LMA_46_24 hL, LMA_46_25 hL, LMA_46_26 hL, LMA_46_27 hL, LMA_46_31 hL, LMA_46_32 hL, LMA_46_33 hL, LMA_46_34 hL, LMA_46_35 hL, LMA_46_36 hL, ge] at go
    exact go
end EV
