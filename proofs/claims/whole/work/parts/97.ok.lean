theorem Inv_lay : ∀ I J A S n z, Inv (I, J, A, S, n, z) → 0 < n ∧ (S 0).1 = 10 := by
  rintro I J A S n z ⟨p, m, t, s, iL, -⟩
  have lc : LC A S n := iL.1
  exact ⟨Nat.lt_of_lt_of_le (by decide) lc.1, by rw [LCS_0 lc]⟩
set_option maxHeartbeats 1000000 in
/-- the law's run, on every script -/
theorem law_ok : LawOK := by
  intro L xs hL
  have key : T (L, xs) (419 + 80 + 1) 191 0 [.retAddr 0, jk, jk, jk] [] h00 (fun r h' => r = some (.int 1) ∧ hn h' ≤ 3146 ∧ hz h' ≤ 40000 + 215460) := by
    unfold h00
    simp only [s191_0, s191_3, s191_4, isR_ref, isR_nul, isR_ra, nl_int, nl_ref, nl_jk, nl_ra, nl_nul, rf_some, rf_none, nc_nil, nc_i, nc_l, nc_r, nc_n, nc_x, true_and, and_true, and_self, if_true, if_false, ite_true, ite_false, Option.toList_some, Option.toList_none, List.cons_append, List.nil_append, nar_b1, nar_b0, T_ite, reduceIte, reduceCtorEq, one_ne, eq_self, mkC_t, hn_t, va_up_same, not_true_eq_false, not_false_eq_true, Nat.reduceLeDiff, Nat.reduceAdd, Nat.reduceEqDiff, Nat.reduceMul, Nat.reduceSub, Nat.reduceDiv, Nat.reduceMod, Nat.reduceLT, false_and, and_false, false_or, or_false, true_or, or_true, Nat.add_zero, Nat.zero_add, Nat.mul_zero, Nat.zero_mul, Nat.add_left_cancel_iff, Nat.add_right_cancel_iff]
    refine init_C (fun I J A S z hC => ?_)
    simp only [s191_7, s191_8, s191_11, s191_12, isR_ref, isR_nul, isR_ra, nl_int, nl_ref, nl_jk, nl_ra, nl_nul, rf_some, rf_none, nc_nil, nc_i, nc_l, nc_r, nc_n, nc_x, true_and, and_true, and_self, if_true, if_false, ite_true, ite_false, Option.toList_some, Option.toList_none, List.cons_append, List.nil_append, nar_b1, nar_b0, T_ite, reduceIte, reduceCtorEq, one_ne, eq_self, mkC_t, hn_t, va_up_same, not_true_eq_false, not_false_eq_true, Nat.reduceLeDiff, Nat.reduceAdd, Nat.reduceEqDiff, Nat.reduceMul, Nat.reduceSub, Nat.reduceDiv, Nat.reduceMod, Nat.reduceLT, false_and, and_false, false_or, or_false, true_or, or_true, Nat.add_zero, Nat.zero_add, Nat.mul_zero, Nat.zero_mul, Nat.add_left_cancel_iff, Nat.add_right_cancel_iff]
    refine init_M (d := 489) hC (fun I' J' A' S' z' hv hz' => ?_)
    simp only [s191_15, s191_16, s191_17, isR_ref, isR_nul, isR_ra, nl_int, nl_ref, nl_jk, nl_ra, nl_nul, rf_some, rf_none, nc_nil, nc_i, nc_l, nc_r, nc_n, nc_x, true_and, and_true, and_self, if_true, if_false, ite_true, ite_false, Option.toList_some, Option.toList_none, List.cons_append, List.nil_append, nar_b1, nar_b0, T_ite, reduceIte, reduceCtorEq, one_ne, eq_self, mkC_t, hn_t, va_up_same, not_true_eq_false, not_false_eq_true, Nat.reduceLeDiff, Nat.reduceAdd, Nat.reduceEqDiff, Nat.reduceMul, Nat.reduceSub, Nat.reduceDiv, Nat.reduceMod, Nat.reduceLT, false_and, and_false, false_or, or_false, true_or, or_true, Nat.add_zero, Nat.zero_add, Nat.mul_zero, Nat.zero_mul, Nat.add_left_cancel_iff, Nat.add_right_cancel_iff]
    have e := law_loop (d := 499) (z0 := 40000) (xs := xs) (Inv := Inv) Inv_lay hL (fun _ => cpl_place) (fun _ => cpl_set) (fun _ => cpl_doing) (fun _ => cpl_told) (fun _ => cpl_feed) (fun _ => cpl_text) (fun _ => cpl_force) (fun _ => cpl_worth) (fun _ => cpl_parts) (fun _ => cpl_mean) (fun _ => cpl_takes) (fun _ => cpl_odds) (fun _ => cpl_drawn) (fun _ => cpl_judge) (fun _ => cpl_value) (fun _ => cpl_best) (fun _ => cpl_look) (fun _ => cpl_rises) (fun _ => cpl_more) (fun _ => cpl_worst) (fun _ => cpl_last) (fun _ => cpl_image) (fun _ => cpl_back) (fun _ => cpl_count) (fun _ => cpl_sheet) (fun _ => cpl_cell) (fun _ => cpl_copy) (fun _ => cpl_places) (fun _ => cpl_taken) 513 0 (I', J', A', S', 68, z') hv (by omega) (by omega) (Nat.le_refl _) (by show z' ≤ 40000 + 70 * 0; omega)
    exact e
  obtain ⟨f, r, h', e, rfl, h1, h2⟩ := key
  exact ⟨f, h', e, by omega, by omega⟩
