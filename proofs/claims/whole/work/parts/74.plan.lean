section PL
/-- the best values: a value stands with 1 added, 0 where there is none; the doing by which likewise -/
def sE (r b : Nat) (Y : Nat → Nat) : Nat → Nat
  | 0 => 0
  | k + 1 => sE r b Y k + cs k b r * (Y k - 1)
def ex (r w b : Nat) (Y : Nat → Nat) : Nat := if Y b = 0 then 0 else sE r b Y (b + 1) / 100 ^ b - b * (10 * w) + 1
def stx (r w i b : Nat) (Y : Nat → Nat) (e : Nat × Nat) : Nat × Nat := if e.1 < ex r w b Y then (ex r w b Y, i + 1) else e
def sd1 (my : Nat → Bool) (tk rk wt : Nat → Nat) (b h : Nat) (Y : Nat → Nat → Nat) (i : Nat) (e : Nat × Nat) : Nat × Nat :=
  if my i = true ∧ tk i ≤ h then stx (rk i) (wt i) i b (fun k => Y k (h - tk i)) e else e
def bs (my : Nat → Bool) (tk rk wt : Nat → Nat) (b h : Nat) (Y : Nat → Nat → Nat) : Nat → Nat × Nat
  | 0 => (0, 0)
  | i + 1 => sd1 my tk rk wt b h Y i (bs my tk rk wt b h Y i)
def VV (np m w0 : Nat) (my : Nat → Nat → Bool) (tk : Nat → Nat) (rk wt : Nat → Nat → Nat) : Nat → Nat → Nat → Nat
  | 0, b, _ => b * w0 + 1
  | j + 1, b, h => (bs (fun i => my i (np - 1 - j)) tk (fun i => rk i (np - 1 - j)) (fun i => wt i (np - 1 - j)) b h (VV np m w0 my tk rk wt j) m).1
def BB (np m w0 : Nat) (my : Nat → Nat → Bool) (tk : Nat → Nat) (rk wt : Nat → Nat → Nat) (j b h : Nat) : Nat := (bs (fun i => my i (np - 1 - j)) tk (fun i => rk i (np - 1 - j)) (fun i => wt i (np - 1 - j)) b h (VV np m w0 my tk rk wt j) m).2
theorem sE_le {r b M : Nat} {Y : Nat → Nat} : ∀ k, (∀ j, j < k → Y j ≤ M + 1) → sE r b Y k ≤ M * sC r b k := by
  intro k
  induction k with
  | zero => intro _; exact Nat.zero_le _
  | succ k ih =>
    intro hY
    rw [sE, sC, Nat.mul_add]
    have h1 := ih (fun j hj => hY j (by omega))
    have h2 : cs k b r * (Y k - 1) ≤ M * cs k b r := by
      rw [Nat.mul_comm]
      exact Nat.mul_le_mul_right _ (by have := hY k (by omega); omega)
    omega
theorem sC_le1 : ∀ r, r < 101 → ∀ b, b < 7 → sC r b (b + 1) ≤ 100 ^ b := by decide +kernel
theorem sE_le2 {r b M : Nat} {Y : Nat → Nat} (hr : r ≤ 100) (hb : b ≤ 6) (hY : ∀ j, j ≤ b → Y j ≤ M + 1) : sE r b Y (b + 1) ≤ M * 100 ^ b :=
  Nat.le_trans (sE_le (b + 1) (fun j hj => hY j (by omega))) (Nat.mul_le_mul_left M (sC_le1 r (by omega) b (by omega)))
theorem sE_div {r b M : Nat} {Y : Nat → Nat} (hr : r ≤ 100) (hb : b ≤ 6) (hY : ∀ j, j ≤ b → Y j ≤ M + 1) : sE r b Y (b + 1) / 100 ^ b ≤ M := by
  have h := sE_le2 hr hb hY
  exact Nat.div_le_of_le_mul (by rw [Nat.mul_comm]; exact h)
theorem ex_le {r w b M : Nat} {Y : Nat → Nat} (hr : r ≤ 100) (hb : b ≤ 6) (hY : ∀ j, j ≤ b → Y j ≤ M + 1) : ex r w b Y ≤ M + 1 := by
  unfold ex
  have := sE_div hr hb hY
  split <;> omega
theorem ex_0 {r w b : Nat} {Y : Nat → Nat} : ex r w b Y = 0 ↔ Y b = 0 := by
  unfold ex
  split <;> omega
theorem stx_le {r w i b M : Nat} {Y : Nat → Nat} {e : Nat × Nat} (hr : r ≤ 100) (hb : b ≤ 6) (hY : ∀ j, j ≤ b → Y j ≤ M + 1) (he : e.1 ≤ M + 1) : (stx r w i b Y e).1 ≤ M + 1 := by
  unfold stx
  split
  · exact ex_le hr hb hY
  · exact he
theorem bs_le {my : Nat → Bool} {tk rk wt : Nat → Nat} {b h M : Nat} {Y : Nat → Nat → Nat} (hr : ∀ i, rk i ≤ 100) (hb : b ≤ 6) (hY : ∀ j h, j ≤ b → Y j h ≤ M + 1) : ∀ i, (bs my tk rk wt b h Y i).1 ≤ M + 1 := by
  intro i
  induction i with
  | zero => exact Nat.zero_le _
  | succ i ih =>
    rw [bs, sd1]
    split
    · exact stx_le (hr i) hb (fun j hj => hY j _ hj) ih
    · exact ih
theorem bs_snd {my : Nat → Bool} {tk rk wt : Nat → Nat} {b h : Nat} {Y : Nat → Nat → Nat} : ∀ i, (bs my tk rk wt b h Y i).2 ≤ i := by
  intro i
  induction i with
  | zero => exact Nat.zero_le _
  | succ i ih =>
    rw [bs, sd1, stx]
    split
    · split
      · exact Nat.le_refl _
      · exact Nat.le_succ_of_le ih
    · exact Nat.le_succ_of_le ih
theorem VV_le {np m w0 : Nat} {my : Nat → Nat → Bool} {tk : Nat → Nat} {rk wt : Nat → Nat → Nat} (hw : w0 ≤ 9999) (hr : ∀ i q, rk i q ≤ 100) : ∀ (j b h : Nat), b ≤ 6 → VV np m w0 my tk rk wt j b h ≤ 59995 := by
  intro j
  induction j with
  | zero =>
    intro b h hb
    rw [VV]
    have : b * w0 ≤ 6 * 9999 := Nat.mul_le_mul hb hw
    omega
  | succ j ih =>
    intro b h hb
    rw [VV]
    exact bs_le (M := 59994) (fun i => hr i _) hb (fun k h hk => ih k h (by omega)) m
theorem sE_cg {r b : Nat} {Y Y' : Nat → Nat} : ∀ k, (∀ j, j < k → Y j = Y' j) → sE r b Y k = sE r b Y' k := by
  intro k
  induction k with
  | zero => intro _; rfl
  | succ k ih =>
    intro hY
    rw [sE, sE, ih (fun j hj => hY j (by omega)), hY k (by omega)]
theorem ex_cg {r w b : Nat} {Y Y' : Nat → Nat} (hY : ∀ j, j ≤ b → Y j = Y' j) : ex r w b Y = ex r w b Y' := by
  unfold ex
  rw [hY b (Nat.le_refl _), sE_cg (b + 1) (fun j hj => hY j (by omega))]
theorem stx_cg {r w i b : Nat} {Y Y' : Nat → Nat} {e : Nat × Nat} (hY : ∀ j, j ≤ b → Y j = Y' j) : stx r w i b Y e = stx r w i b Y' e := by
  unfold stx
  rw [ex_cg hY]
theorem bs_cg {my my' : Nat → Bool} {tk tk' rk rk' wt wt' : Nat → Nat} {b h h' : Nat} {Y Y' : Nat → Nat → Nat} : ∀ m, (∀ i, i < m → my i = my' i ∧ (tk i ≤ h ↔ tk' i ≤ h') ∧ rk i = rk' i ∧ wt i = wt' i ∧ (my i = true → tk i ≤ h → ∀ j, j ≤ b → Y j (h - tk i) = Y' j (h' - tk' i))) → bs my tk rk wt b h Y m = bs my' tk' rk' wt' b h' Y' m := by
  intro m
  induction m with
  | zero => intro _; rfl
  | succ m ih =>
    intro hi
    obtain ⟨h1, h2, h3, h4, h5⟩ := hi m (by omega)
    rw [bs, bs, ih (fun i hi' => hi i (by omega)), sd1, sd1]
    by_cases hc : my m = true ∧ tk m ≤ h
    · rw [if_pos hc, if_pos ⟨by rw [← h1]; exact hc.1, h2.mp hc.2⟩, ← h3, ← h4]
      exact stx_cg (h5 hc.1 hc.2)
    · rw [if_neg hc, if_neg (fun g => hc ⟨by rw [h1]; exact g.1, h2.mpr g.2⟩)]
theorem VV_cg {np m w0 w0' : Nat} {my my' : Nat → Nat → Bool} {tk tk' : Nat → Nat} {rk rk' wt wt' : Nat → Nat → Nat} (hw : w0 = w0') (hp : ∀ i q, i < m → q < np → my i q = my' i q ∧ tk i = tk' i ∧ rk i q = rk' i q ∧ wt i q = wt' i q) : ∀ (j b h : Nat), j ≤ np → VV np m w0 my tk rk wt j b h = VV np m w0' my' tk' rk' wt' j b h := by
  intro j
  induction j with
  | zero => intro b h _; rw [VV, VV, hw]
  | succ j ih =>
    intro b h hj
    rw [VV, VV]
    refine congrArg Prod.fst (bs_cg m (fun i hi => ?_))
    obtain ⟨h1, h2, h3, h4⟩ := hp i (np - 1 - j) hi (by omega)
    exact ⟨h1, by rw [h2], h3, h4, fun _ _ k _ => by rw [h2]; exact ih k _ (by omega)⟩
theorem BB_cg {np m w0 w0' : Nat} {my my' : Nat → Nat → Bool} {tk tk' : Nat → Nat} {rk rk' wt wt' : Nat → Nat → Nat} (hw : w0 = w0') (hp : ∀ i q, i < m → q < np → my i q = my' i q ∧ tk i = tk' i ∧ rk i q = rk' i q ∧ wt i q = wt' i q) (j b h : Nat) (hj : j < np) : BB np m w0 my tk rk wt j b h = BB np m w0' my' tk' rk' wt' j b h := by
  unfold BB
  refine congrArg Prod.snd (bs_cg m (fun i hi => ?_))
  obtain ⟨h1, h2, h3, h4⟩ := hp i (np - 1 - j) hi (by omega)
  exact ⟨h1, by rw [h2], h3, h4, fun _ _ k _ => by rw [h2]; exact VV_cg hw hp j k _ (by omega)⟩
theorem bs_sat {np m w0 : Nat} {my : Nat → Nat → Bool} {tk : Nat → Nat} {rk wt : Nat → Nat → Nat} {j b h : Nat} (ht : ∀ i, i < m → tk i ≤ 4) (hs : ∀ b h, 4 * j ≤ h → VV np m w0 my tk rk wt j b h = VV np m w0 my tk rk wt j b (4 * j)) (hh : 4 * (j + 1) ≤ h) (my1 : Nat → Bool) (rk1 wt1 : Nat → Nat) : bs my1 tk rk1 wt1 b h (VV np m w0 my tk rk wt j) m = bs my1 tk rk1 wt1 b (4 * (j + 1)) (VV np m w0 my tk rk wt j) m := by
  refine bs_cg m (fun i hi => ?_)
  have h4 := ht i hi
  refine ⟨rfl, ⟨fun _ => by omega, fun _ => by omega⟩, rfl, rfl, fun _ _ k _ => ?_⟩
  rw [hs k (h - tk i) (by omega), hs k (4 * (j + 1) - tk i) (by omega)]
theorem VV_sat {np m w0 : Nat} {my : Nat → Nat → Bool} {tk : Nat → Nat} {rk wt : Nat → Nat → Nat} (ht : ∀ i, i < m → tk i ≤ 4) : ∀ (j b h : Nat), 4 * j ≤ h → VV np m w0 my tk rk wt j b h = VV np m w0 my tk rk wt j b (4 * j) := by
  intro j
  induction j with
  | zero => intro b h _; rw [VV, VV]
  | succ j ih =>
    intro b h hh
    rw [VV, VV, bs_sat ht ih hh]
theorem BB_sat {np m w0 : Nat} {my : Nat → Nat → Bool} {tk : Nat → Nat} {rk wt : Nat → Nat → Nat} (ht : ∀ i, i < m → tk i ≤ 4) {j b h : Nat} (hh : 4 * (j + 1) ≤ h) : BB np m w0 my tk rk wt j b h = BB np m w0 my tk rk wt j b (4 * (j + 1)) := by
  unfold BB
  rw [bs_sat ht (VV_sat ht j) hh]
theorem VV_min {np m w0 : Nat} {my : Nat → Nat → Bool} {tk : Nat → Nat} {rk wt : Nat → Nat → Nat} (ht : ∀ i, i < m → tk i ≤ 4) (j b h : Nat) : VV np m w0 my tk rk wt j b (min h (4 * j)) = VV np m w0 my tk rk wt j b h := by
  by_cases hh : 4 * j ≤ h
  · rw [Nat.min_eq_right hh, VV_sat ht j b h hh]
  · rw [Nat.min_eq_left (by omega)]
theorem BB_min {np m w0 : Nat} {my : Nat → Nat → Bool} {tk : Nat → Nat} {rk wt : Nat → Nat → Nat} (ht : ∀ i, i < m → tk i ≤ 4) (j b h : Nat) : BB np m w0 my tk rk wt j b (min h (4 * (j + 1))) = BB np m w0 my tk rk wt j b h := by
  by_cases hh : 4 * (j + 1) ≤ h
  · rw [Nat.min_eq_right hh, BB_sat ht hh]
  · rw [Nat.min_eq_left (by omega)]
theorem bs_pos {my : Nat → Bool} {tk rk wt : Nat → Nat} {b h : Nat} {Y : Nat → Nat → Nat} : ∀ m, (bs my tk rk wt b h Y m).1 ≠ 0 ↔ ∃ i, i < m ∧ my i = true ∧ tk i ≤ h ∧ Y b (h - tk i) ≠ 0 := by
  intro m
  induction m with
  | zero =>
    refine ⟨fun h => absurd rfl h, fun ⟨i, h, _⟩ => by omega⟩
  | succ m ih =>
    rw [bs, sd1]
    have hx := ex_0 (r := rk m) (w := wt m) (b := b) (Y := fun k => Y k (h - tk m))
    constructor
    · intro hh
      split at hh
      · next hc =>
        rw [stx] at hh
        split at hh
        · exact ⟨m, by omega, hc.1, hc.2, fun e => hh (hx.mpr e)⟩
        · obtain ⟨i, h1, h2⟩ := ih.mp hh
          exact ⟨i, by omega, h2⟩
      · obtain ⟨i, h1, h2⟩ := ih.mp hh
        exact ⟨i, by omega, h2⟩
    · rintro ⟨i, h1, h2, h3, h4⟩
      by_cases him : i = m
      · subst him
        rw [if_pos ⟨h2, h3⟩, stx]
        have h5 : ex (rk i) (wt i) b (fun k => Y k (h - tk i)) ≠ 0 := fun e => h4 (hx.mp e)
        split
        · exact h5
        · next hlt => intro e; omega
      · have h5 := ih.mpr ⟨i, by omega, h2, h3, h4⟩
        split
        · rw [stx]
          split
          · next hlt => intro e; simp only at e; omega
          · exact h5
        · exact h5
end PL
