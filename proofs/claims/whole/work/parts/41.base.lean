theorem isR_ref {r : Nat} : isR (.ref r) = true := rfl
theorem isR_nul : isR .null = true := rfl
theorem isR_ra {r : Nat} : isR (.retAddr r) = true := rfl
theorem nl_int {x : Int32} : nl (.int x) = true := rfl
theorem nl_ref {r : Nat} : nl (.ref r) = true := rfl
theorem nl_ra {r : Nat} : nl (.retAddr r) = true := rfl
theorem nl_jk : nl jk = true := rfl
theorem nl_nul : nl .null = true := rfl
theorem rf_some {a : Nat} : va_rf (some a) = .ref a := rfl
theorem rf_none : va_rf none = .null := rfl
theorem nc_nil : ncat [] = 0 := rfl
theorem nc_i {x : Int32} {st : List Value} : ncat (.int x :: st) = 1 + ncat st := rfl
theorem nc_l {x : Int64} {st : List Value} : ncat (.long x :: st) = 2 + ncat st := rfl
theorem nc_r {x : Nat} {st : List Value} : ncat (.ref x :: st) = 1 + ncat st := rfl
theorem nc_n {st : List Value} : ncat (.null :: st) = 1 + ncat st := rfl
theorem nc_x {x : Nat} {st : List Value} : ncat (.retAddr x :: st) = 1 + ncat st := rfl
theorem nar_b1 : (narrow .boolean (.int 1) = .int 1) = True := eq_true rfl
theorem nar_b0 : (narrow .boolean (.int 0) = .int 0) = True := eq_true rfl
theorem wr_rd {α : Type} {I : Nat → Nat → α} {a k a' k' : Nat} {v : α} : wr I a k v a' k' = if a' = a ∧ k' = k then v else I a' k' := by
  by_cases h1 : a' = a
  · subst h1
    by_cases h2 : k' = k
    · subst h2; simp [wr_at]
    · simp [wr_at_ne h2, h2]
  · rw [wr_ne h1]; simp [h1]
