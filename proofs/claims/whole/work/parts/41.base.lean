theorem isR_ref {r : Nat} : isR (.ref r) = true := rfl
theorem isR_nul : isR .null = true := rfl
theorem isR_ra {r : Nat} : isR (.retAddr r) = true := rfl
theorem nl_int {x : Int32} : nl (.int x) = true := rfl
theorem nl_ref {r : Nat} : nl (.ref r) = true := rfl
theorem nl_ra {r : Nat} : nl (.retAddr r) = true := rfl
theorem nl_jk : nl jk = true := rfl
theorem nl_nul : nl .null = true := rfl
theorem rf_some {a : Nat} : va_rf (some a) = .ref a := rfl
theorem rf_none : va_rf none = .null := rfl
theorem nc_nil : ncat [] = 0 := rfl
theorem nc_i {x : Int32} {st : List Value} : ncat (.int x :: st) = 1 + ncat st := rfl
theorem nc_l {x : Int64} {st : List Value} : ncat (.long x :: st) = 2 + ncat st := rfl
theorem nc_r {x : Nat} {st : List Value} : ncat (.ref x :: st) = 1 + ncat st := rfl
theorem nc_n {st : List Value} : ncat (.null :: st) = 1 + ncat st := rfl
theorem nc_x {x : Nat} {st : List Value} : ncat (.retAddr x :: st) = 1 + ncat st := rfl
theorem nar_b1 : (narrow .boolean (.int 1) = .int 1) = True := eq_true rfl
theorem nar_b0 : (narrow .boolean (.int 0) = .int 0) = True := eq_true rfl
theorem one_ne : ((1 : Int32) = 0) = False := eq_false (by decide)
theorem wr_rd {α : Type} {I : Nat → Nat → α} {a k a' k' : Nat} {v : α} : wr I a k v a' k' = if a' = a ∧ k' = k then v else I a' k' := by
  by_cases h1 : a' = a
  · subst h1
    by_cases h2 : k' = k
    · subst h2; simp [wr_at]
    · simp [wr_at_ne h2, h2]
  · rw [wr_ne h1]; simp [h1]
theorem b01_0 {c : Prop} [Decidable c] : ((if c then (1 : Int32) else 0) = 0) = ¬ c := by
  by_cases h : c <;> simp [h]
theorem b01_n {c : Prop} [Decidable c] : (narrow .boolean (.int (if c then 1 else 0)) = .int (if c then 1 else 0)) = True := by
  by_cases h : c
  · simp only [if_pos h]; exact nar_b1
  · simp only [if_neg h]; exact nar_b0
theorem nI_lt' {a b : Nat} (ha : a < 2147483648) (hb : b < 2147483648) : (nI a < nI b) = (a < b) := propext (nI_ltI ha hb)
theorem nI_le' {a b : Nat} (ha : a < 2147483648) (hb : b < 2147483648) : (nI a ≤ nI b) = (a ≤ b) := propext (nI_leI ha hb)
theorem nI_eq' {a b : Nat} (ha : a < 2147483648) (hb : b < 2147483648) : (nI a = nI b) = (a = b) := propext (nI_eq ha hb)
theorem nI_cl {a : Nat} (ha : a < 2147483648) : (nI a).toNatClampNeg = a := nI_clamp ha
theorem vpin {k N : Nat} (hk : k < 2147483648) : vp_in (nI k) N = (k < N) := by
  apply propext
  unfold vp_in
  rw [nI_clamp hk]
  constructor
  · intro h
    exact Nat.not_le.mp fun q => h (Or.inr q)
  · rintro h (q | q)
    · exact nI_pos hk q
    · omega
theorem nI_subs {a b : Nat} (h : b ≤ a) : nI a - nI b = nI (a - b) := pk_sub h
theorem nI_div {a b : Nat} (ha : a < 2147483648) (h0 : 0 < b) (hb : b < 2147483648) : nI a / nI b = nI (a / b) := pk_div ha h0 hb
theorem nI_rem {a b : Nat} (ha : a < 2147483648) (h0 : 0 < b) (hb : b < 2147483648) : nI a - nI a / nI b * nI b = nI (a % b) := pk_rem ha h0 hb
theorem nI_ltz {a : Nat} (ha : a < 2147483648) : (nI a < 0) = False := eq_false (nI_pos ha)
theorem nI_gez {a : Nat} (ha : a < 2147483648) : (0 ≤ nI a) = True := eq_true (nI_pos' ha)
theorem nI_eqz {a : Nat} (ha : a < 2147483648) : (nI a = 0) = (a = 0) := by rw [show (0 : Int32) = nI 0 from rfl, nI_eq' ha (by omega)]
theorem i32_cases (x : Int32) : x < 0 ∨ ∃ k : Nat, k < 2147483648 ∧ x = nI k := by
  by_cases h : x < 0
  · exact Or.inl h
  · exact Or.inr (nI_of h)
theorem lit_0 : (0 : Int32) = nI 0 := rfl
theorem lit_1 : (1 : Int32) = nI 1 := rfl
theorem lit_2 : (2 : Int32) = nI 2 := rfl
theorem lit_3 : (3 : Int32) = nI 3 := rfl
theorem lit_4 : (4 : Int32) = nI 4 := rfl
theorem lit_5 : (5 : Int32) = nI 5 := rfl
theorem lit_6 : (6 : Int32) = nI 6 := rfl
theorem lit_7 : (7 : Int32) = nI 7 := rfl
theorem lit_8 : (8 : Int32) = nI 8 := rfl
theorem lit_9 : (9 : Int32) = nI 9 := rfl
theorem lit_10 : (10 : Int32) = nI 10 := rfl
theorem lit_11 : (11 : Int32) = nI 11 := rfl
theorem lit_12 : (12 : Int32) = nI 12 := rfl
theorem lit_13 : (13 : Int32) = nI 13 := rfl
theorem lit_14 : (14 : Int32) = nI 14 := rfl
theorem lit_15 : (15 : Int32) = nI 15 := rfl
theorem lit_16 : (16 : Int32) = nI 16 := rfl
theorem lit_17 : (17 : Int32) = nI 17 := rfl
theorem lit_18 : (18 : Int32) = nI 18 := rfl
theorem lit_19 : (19 : Int32) = nI 19 := rfl
theorem lit_20 : (20 : Int32) = nI 20 := rfl
theorem lit_31 : (31 : Int32) = nI 31 := rfl
theorem lit_32 : (32 : Int32) = nI 32 := rfl
theorem lit_37 : (37 : Int32) = nI 37 := rfl
theorem lit_40 : (40 : Int32) = nI 40 := rfl
theorem lit_41 : (41 : Int32) = nI 41 := rfl
theorem lit_42 : (42 : Int32) = nI 42 := rfl
theorem lit_43 : (43 : Int32) = nI 43 := rfl
theorem lit_45 : (45 : Int32) = nI 45 := rfl
theorem lit_47 : (47 : Int32) = nI 47 := rfl
theorem lit_48 : (48 : Int32) = nI 48 := rfl
theorem lit_49 : (49 : Int32) = nI 49 := rfl
theorem lit_57 : (57 : Int32) = nI 57 := rfl
theorem lit_59 : (59 : Int32) = nI 59 := rfl
theorem lit_60 : (60 : Int32) = nI 60 := rfl
theorem lit_61 : (61 : Int32) = nI 61 := rfl
theorem lit_63 : (63 : Int32) = nI 63 := rfl
theorem lit_64 : (64 : Int32) = nI 64 := rfl
theorem lit_97 : (97 : Int32) = nI 97 := rfl
theorem lit_99 : (99 : Int32) = nI 99 := rfl
theorem lit_100 : (100 : Int32) = nI 100 := rfl
theorem lit_122 : (122 : Int32) = nI 122 := rfl
theorem lit_160 : (160 : Int32) = nI 160 := rfl
theorem lit_161 : (161 : Int32) = nI 161 := rfl
theorem lit_170 : (170 : Int32) = nI 170 := rfl
theorem lit_255 : (255 : Int32) = nI 255 := rfl
theorem lit_343 : (343 : Int32) = nI 343 := rfl
theorem lit_427 : (427 : Int32) = nI 427 := rfl
theorem lit_991 : (991 : Int32) = nI 991 := rfl
theorem lit_999 : (999 : Int32) = nI 999 := rfl
theorem lit_1020 : (1020 : Int32) = nI 1020 := rfl
theorem lit_1190 : (1190 : Int32) = nI 1190 := rfl
theorem lit_5551 : (5551 : Int32) = nI 5551 := rfl
theorem lit_9999 : (9999 : Int32) = nI 9999 := rfl
theorem lit_1000000 : (1000000 : Int32) = nI 1000000 := rfl
theorem ti_of {x : Int32} (k : Nat) (hk : k < 2147483648) : (x.toInt = (k : Int)) = (x = nI k) := by
  apply propext
  constructor
  · intro h
    exact Int32.toInt_inj.mp (by rw [h, nI_toInt hk])
  · rintro rfl
    exact nI_toInt hk
theorem ti_0 {x : Int32} : (x.toInt = 0) = (x = 0) := ti_of 0 (by decide)
theorem ti_1 {x : Int32} : (x.toInt = 1) = (x = 1) := ti_of 1 (by decide)
theorem ti_2 {x : Int32} : (x.toInt = 2) = (x = 2) := ti_of 2 (by decide)
theorem ti_3 {x : Int32} : (x.toInt = 3) = (x = 3) := ti_of 3 (by decide)
theorem ti_4 {x : Int32} : (x.toInt = 4) = (x = 4) := ti_of 4 (by decide)
theorem ti_5 {x : Int32} : (x.toInt = 5) = (x = 5) := ti_of 5 (by decide)
theorem ti_6 {x : Int32} : (x.toInt = 6) = (x = 6) := ti_of 6 (by decide)
theorem ti_7 {x : Int32} : (x.toInt = 7) = (x = 7) := ti_of 7 (by decide)
theorem ti_8 {x : Int32} : (x.toInt = 8) = (x = 8) := ti_of 8 (by decide)
theorem ti_9 {x : Int32} : (x.toInt = 9) = (x = 9) := ti_of 9 (by decide)
theorem ti_10 {x : Int32} : (x.toInt = 10) = (x = 10) := ti_of 10 (by decide)
theorem ti_11 {x : Int32} : (x.toInt = 11) = (x = 11) := ti_of 11 (by decide)
theorem ti_12 {x : Int32} : (x.toInt = 12) = (x = 12) := ti_of 12 (by decide)
theorem ti_13 {x : Int32} : (x.toInt = 13) = (x = 13) := ti_of 13 (by decide)
theorem ti_14 {x : Int32} : (x.toInt = 14) = (x = 14) := ti_of 14 (by decide)
theorem ti_15 {x : Int32} : (x.toInt = 15) = (x = 15) := ti_of 15 (by decide)
theorem ti_16 {x : Int32} : (x.toInt = 16) = (x = 16) := ti_of 16 (by decide)
theorem ti_17 {x : Int32} : (x.toInt = 17) = (x = 17) := ti_of 17 (by decide)
theorem ti_18 {x : Int32} : (x.toInt = 18) = (x = 18) := ti_of 18 (by decide)
theorem ti_19 {x : Int32} : (x.toInt = 19) = (x = 19) := ti_of 19 (by decide)
theorem ti_20 {x : Int32} : (x.toInt = 20) = (x = 20) := ti_of 20 (by decide)
theorem ti_21 {x : Int32} : (x.toInt = 21) = (x = 21) := ti_of 21 (by decide)
theorem ti_22 {x : Int32} : (x.toInt = 22) = (x = 22) := ti_of 22 (by decide)
theorem ti_23 {x : Int32} : (x.toInt = 23) = (x = 23) := ti_of 23 (by decide)
theorem ti_24 {x : Int32} : (x.toInt = 24) = (x = 24) := ti_of 24 (by decide)
theorem ti_25 {x : Int32} : (x.toInt = 25) = (x = 25) := ti_of 25 (by decide)
theorem ti_26 {x : Int32} : (x.toInt = 26) = (x = 26) := ti_of 26 (by decide)
theorem ti_27 {x : Int32} : (x.toInt = 27) = (x = 27) := ti_of 27 (by decide)
theorem ti_28 {x : Int32} : (x.toInt = 28) = (x = 28) := ti_of 28 (by decide)
theorem ti_29 {x : Int32} : (x.toInt = 29) = (x = 29) := ti_of 29 (by decide)
theorem ti_30 {x : Int32} : (x.toInt = 30) = (x = 30) := ti_of 30 (by decide)
theorem ti_31 {x : Int32} : (x.toInt = 31) = (x = 31) := ti_of 31 (by decide)
theorem mkC_t {I : Nat → Nat → Int32} {J : Nat → Nat → Int64} {A : Nat → Nat → Option Nat} {S : Nat → Nat × Nat} {n z k l w : Nat} : mkC (I, J, A, S, n, z) k l w = (va_up I n (fun _ => 0), va_up J n (fun _ => 0), va_up A n (fun _ => none), va_up S n (k, l), n + 1, z + w) := rfl
theorem hn_t {I : Nat → Nat → Int32} {J : Nat → Nat → Int64} {A : Nat → Nat → Option Nat} {S : Nat → Nat × Nat} {n z : Nat} : hn (I, J, A, S, n, z) = n := rfl
theorem va_up_same {α : Type} {f : Nat → α} {k : Nat} {v : α} : va_up f k v k = v := by simp [va_up]
theorem va_up_rd {α : Type} {f : Nat → α} {k j : Nat} {v : α} : va_up f k v j = if j = k then v else f j := rfl
