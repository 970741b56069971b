theorem isR_ref {r : Nat} : isR (.ref r) = true := rfl
theorem isR_nul : isR .null = true := rfl
theorem isR_ra {r : Nat} : isR (.retAddr r) = true := rfl
theorem nl_int {x : Int32} : nl (.int x) = true := rfl
theorem nl_ref {r : Nat} : nl (.ref r) = true := rfl
theorem nl_ra {r : Nat} : nl (.retAddr r) = true := rfl
theorem nl_jk : nl jk = true := rfl
theorem nl_nul : nl .null = true := rfl
theorem rf_some {a : Nat} : va_rf (some a) = .ref a := rfl
theorem rf_none : va_rf none = .null := rfl
theorem nc_nil : ncat [] = 0 := rfl
theorem nc_i {x : Int32} {st : List Value} : ncat (.int x :: st) = 1 + ncat st := rfl
theorem nc_l {x : Int64} {st : List Value} : ncat (.long x :: st) = 2 + ncat st := rfl
theorem nc_r {x : Nat} {st : List Value} : ncat (.ref x :: st) = 1 + ncat st := rfl
theorem nc_n {st : List Value} : ncat (.null :: st) = 1 + ncat st := rfl
theorem nc_x {x : Nat} {st : List Value} : ncat (.retAddr x :: st) = 1 + ncat st := rfl
theorem nar_b1 : (narrow .boolean (.int 1) = .int 1) = True := eq_true rfl
theorem nar_b0 : (narrow .boolean (.int 0) = .int 0) = True := eq_true rfl
theorem wr_rd {α : Type} {I : Nat → Nat → α} {a k a' k' : Nat} {v : α} : wr I a k v a' k' = if a' = a ∧ k' = k then v else I a' k' := by
  by_cases h1 : a' = a
  · subst h1
    by_cases h2 : k' = k
    · subst h2; simp [wr_at]
    · simp [wr_at_ne h2, h2]
  · rw [wr_ne h1]; simp [h1]
theorem b01_0 {c : Prop} [Decidable c] : ((if c then (1 : Int32) else 0) = 0) = ¬ c := by
  by_cases h : c <;> simp [h]
theorem b01_n {c : Prop} [Decidable c] : (narrow .boolean (.int (if c then 1 else 0)) = .int (if c then 1 else 0)) = True := by
  by_cases h : c
  · simp only [if_pos h]; exact nar_b1
  · simp only [if_neg h]; exact nar_b0
theorem nI_lt' {a b : Nat} (ha : a < 2147483648) (hb : b < 2147483648) : (nI a < nI b) = (a < b) := propext (nI_ltI ha hb)
theorem nI_le' {a b : Nat} (ha : a < 2147483648) (hb : b < 2147483648) : (nI a ≤ nI b) = (a ≤ b) := propext (nI_leI ha hb)
theorem nI_eq' {a b : Nat} (ha : a < 2147483648) (hb : b < 2147483648) : (nI a = nI b) = (a = b) := propext (nI_eq ha hb)
theorem nI_cl {a : Nat} (ha : a < 2147483648) : (nI a).toNatClampNeg = a := nI_clamp ha
theorem vpin {k N : Nat} (hk : k < 2147483648) : vp_in (nI k) N = (k < N) := by
  apply propext
  unfold vp_in
  rw [nI_clamp hk]
  constructor
  · intro h
    exact Nat.not_le.mp fun q => h (Or.inr q)
  · rintro h (q | q)
    · exact nI_pos hk q
    · omega
theorem nI_subs {a b : Nat} (h : b ≤ a) : nI a - nI b = nI (a - b) := pk_sub h
theorem nI_div {a b : Nat} (ha : a < 2147483648) (h0 : 0 < b) (hb : b < 2147483648) : nI a / nI b = nI (a / b) := pk_div ha h0 hb
theorem nI_rem {a b : Nat} (ha : a < 2147483648) (h0 : 0 < b) (hb : b < 2147483648) : nI a - nI a / nI b * nI b = nI (a % b) := pk_rem ha h0 hb
theorem nI_ltz {a : Nat} (ha : a < 2147483648) : (nI a < 0) = False := eq_false (nI_pos ha)
theorem nI_gez {a : Nat} (ha : a < 2147483648) : (0 ≤ nI a) = True := eq_true (nI_pos' ha)
theorem nI_eqz {a : Nat} (ha : a < 2147483648) : (nI a = 0) = (a = 0) := by rw [show (0 : Int32) = nI 0 from rfl, nI_eq' ha (by omega)]
theorem i32_cases (x : Int32) : x < 0 ∨ ∃ k : Nat, k < 2147483648 ∧ x = nI k := by
  by_cases h : x < 0
  · exact Or.inl h
  · exact Or.inr (nI_of h)
