section PP
variable {K V : Nat → Nat} {f g o a N : Nat} {l : List Int32} {ρ : Nat × Option (List Int32)}
def rkg (g : Nat) : Nat := if g = 0 then 6 else if g = 2 then 5 else if g = 4 then 4 else if g = 5 then 3 else if g = 7 then 2 else 1
theorem pp_tot (hN : K N = 1) (h2 : ∀ a, K a = 2 → V a ≤ 9999) (h3 : ∀ a, K a = 3 → V a < 6) : ∀ (M g o a : Nat) (l : List Int32), g ≤ 9 → a ≤ N → 10 * (N - a) + rkg g < M → ∃ ρ, pp K V M g o a l = some ρ := by
  have hlt : ∀ a, a ≤ N → K a ≠ 1 → a < N := fun a h1 h2 => by
    rcases Nat.lt_or_ge a N with h | h
    · exact h
    · obtain rfl : a = N := by omega
      exact absurd hN h2
  intro M
  induction M with
  | zero => intro g o a l _ _ h; omega
  | succ M ih =>
    -- a head, then something behind it
    have two : ∀ (gh o a : Nat) (k : Nat → List Int32 → Option (Nat × Option (List Int32))), gh ≤ 9 → ¬ isLp gh → a ≤ N → 10 * (N - a) + rkg gh < M → (∀ a1 l1, a < a1 → a1 ≤ N → ∃ ρ, k a1 l1 = some ρ) → ∃ ρ, pb (pp K V M gh o a []) k = some ρ := by
      intro gh o a k q1 q2 ha hM hk
      obtain ⟨⟨a1, o1⟩, e1⟩ := ih gh o a [] q1 ha hM
      rw [e1]
      cases o1 with
      | none => exact ⟨_, rfl⟩
      | some l1 =>
        obtain ⟨w1, w2, w3, _⟩ := pp_ok hN h2 h3 M gh o a [] _ q1 ha e1
        exact hk a1 l1 (w3 q2).1 w1
    have rl1 : rkg 1 = 1 := rfl
    have rl2 : rkg 2 = 5 := rfl
    have rl3 : rkg 3 = 1 := rfl
    have rl4 : rkg 4 = 4 := rfl
    have rl5 : rkg 5 = 3 := rfl
    have rl6 : rkg 6 = 1 := rfl
    have rl7 : rkg 7 = 2 := rfl
    have rl8 : rkg 8 = 1 := rfl
    have rl9 : rkg 9 = 1 := rfl
    have rl0 : rkg 0 = 6 := rfl
    intro g o a l hg ha hM
    rcases (show g = 0 ∨ g = 1 ∨ g = 2 ∨ g = 3 ∨ g = 4 ∨ g = 5 ∨ g = 6 ∨ g = 7 ∨ g = 8 ∨ g = 9 by omega) with rfl | rfl | rfl | rfl | rfl | rfl | rfl | rfl | rfl | rfl
    · rw [pp_0]
      exact two 2 o a _ (by decide) (nLp 2 (by decide)) ha (by omega) (fun a1 l1 h1 h2 => ih 1 o a1 l1 (by decide) h2 (by omega))
    · rw [pp_1]
      split
      · next hk =>
        have := hlt a ha (by omega)
        exact two 2 o (a + 1) _ (by decide) (nLp 2 (by decide)) (by omega) (by omega) (fun a1 l1 h1 h2 => ih 1 o a1 _ (by decide) h2 (by omega))
      · exact ⟨_, rfl⟩
    · rw [pp_2]
      exact two 4 o a _ (by decide) (nLp 4 (by decide)) ha (by omega) (fun a1 l1 h1 h2 => ih 3 o a1 l1 (by decide) h2 (by omega))
    · rw [pp_3]
      split
      · next hk =>
        have := hlt a ha (by omega)
        exact two 4 o (a + 1) _ (by decide) (nLp 4 (by decide)) (by omega) (by omega) (fun a1 l1 h1 h2 => ih 3 o a1 _ (by decide) h2 (by omega))
      · exact ⟨_, rfl⟩
    · rw [pp_4]
      split
      · next hk =>
        have := hlt a ha (by omega)
        split
        · exact ⟨_, rfl⟩
        · exact two 4 (o + 1) (a + 1) _ (by decide) (nLp 4 (by decide)) (by omega) (by omega) (fun a1 l1 h1 h2 => ⟨_, rfl⟩)
      · refine two 5 o a _ (by decide) (nLp 5 (by decide)) ha (by omega) (fun a1 l1 q1 q2 => ?_)
        split
        · next hk =>
          have := hlt a1 q2 (by omega)
          exact two 5 o (a1 + 1) _ (by decide) (nLp 5 (by decide)) (by omega) (by omega) (fun a2 l2 h1 h2 => ⟨_, rfl⟩)
        · exact ⟨_, rfl⟩
    · rw [pp_5]
      exact two 7 o a _ (by decide) (nLp 7 (by decide)) ha (by omega) (fun a1 l1 h1 h2 => ih 6 o a1 l1 (by decide) h2 (by omega))
    · rw [pp_6]
      split
      · next hk =>
        have := hlt a ha (by omega)
        exact two 7 o (a + 1) _ (by decide) (nLp 7 (by decide)) (by omega) (by omega) (fun a1 l1 h1 h2 => ih 6 o a1 _ (by decide) h2 (by omega))
      · exact ⟨_, rfl⟩
    · rw [pp_7]
      exact two 9 o a _ (by decide) (nLp 9 (by decide)) ha (by omega) (fun a1 l1 h1 h2 => ih 8 o a1 l1 (by decide) h2 (by omega))
    · rw [pp_8]
      split
      · next hk =>
        have := hlt a ha (by omega)
        exact two 9 o (a + 1) _ (by decide) (nLp 9 (by decide)) (by omega) (by omega) (fun a1 l1 h1 h2 => ih 8 o a1 _ (by decide) h2 (by omega))
      · exact ⟨_, rfl⟩
    · rw [pp_9]
      split
      · exact ⟨_, rfl⟩
      split
      · exact ⟨_, rfl⟩
      split
      · next hk =>
        have := hlt a ha (by omega)
        split
        · exact ⟨_, rfl⟩
        · exact two 9 (o + 1) (a + 1) _ (by decide) (nLp 9 (by decide)) (by omega) (by omega) (fun a1 l1 h1 h2 => ⟨_, rfl⟩)
      split
      · next hk =>
        have := hlt a ha (by omega)
        split
        · exact ⟨_, rfl⟩
        · refine two 0 (o + 1) (a + 1) _ (by decide) (nLp 0 (by decide)) (by omega) (by omega) (fun a1 l1 h1 h2 => ?_)
          split
          · exact ⟨_, rfl⟩
          · exact ⟨_, rfl⟩
      · exact ⟨_, rfl⟩
theorem gd_s {c : Int32} {r : List Int32} {j : Nat} : (c :: r).getD (j + 1) 0 = r.getD j 0 := rfl
/-- the class's evaluation of a row that holds the code -/
theorem evC_L {F fn : Nat → Int32} : ∀ (l : List Int32) (i : Nat) (st : List Int32), (∀ j, j < l.length → fn (i + j) = l.getD j 0) → evC F fn l.length i st = evL F l st := by
  intro l
  induction l with
  | nil => intro i st _; rfl
  | cons c r ih =>
    intro i st hf
    have e0 : fn i = c := hf 0 (by simp)
    have er : ∀ st', evC F fn r.length (i + 1) st' = evL F r st' := fun st' => ih (i + 1) st' (fun j hj => by
      have := hf (j + 1) (by simp; omega)
      rw [show i + 1 + j = i + (j + 1) by omega]
      exact this)
    show evC F fn (r.length + 1) i st = (ev1 F c st).bind (evL F r)
    rw [evC_s, e0]
    simp only [er]
    unfold ev1
    split
    · split
      · rfl
      · split <;> rfl
    · cases st with
      | nil => rfl
      | cons a r1 =>
        simp only
        split
        · rfl
        · split
          · rfl
          · cases r1 <;> rfl
def actI (c : Int32) : Int32 := if 0 ≤ c then (if c < 10000 then 1 else 2) else if c = -10 then 3 else if c = -11 then 4 else if c = -8 then 5 else if c = -9 then 6 else -c
def witI (c : Int32) : Int32 := if 0 ≤ c then (if c < 10000 then c else c - 10000) else 0
/-- the reference's evaluation of steps that hold the code -/
theorem evM_L {F fn gn : Nat → Int32} : ∀ (l : List Int32) (i : Nat) (st : List Int32), (∀ c ∈ l, okc c) → (∀ j, j < l.length → fn (i + j) = actI (l.getD j 0) ∧ gn (i + j) = witI (l.getD j 0)) → evM F fn gn l.length i st = evL F l st := by
  intro l
  induction l with
  | nil => intro i st _ _; rfl
  | cons c r ih =>
    intro i st ho hf
    obtain ⟨e0, g0⟩ : fn i = actI c ∧ gn i = witI c := hf 0 (by simp)
    have er : ∀ st', evM F fn gn r.length (i + 1) st' = evL F r st' := fun st' => ih (i + 1) st' (fun c hc => ho c (List.mem_cons_of_mem _ hc)) (fun j hj => by
      have := hf (j + 1) (by simp; omega)
      rw [show i + 1 + j = i + (j + 1) by omega]
      exact this)
    show evM F fn gn (r.length + 1) i st = (ev1 F c st).bind (evL F r)
    rw [evM_s, e0, g0]
    simp only [er]
    rcases ho c List.mem_cons_self with ⟨k, hk, rfl⟩ | rfl | rfl | rfl | rfl | rfl | rfl | rfl | rfl | rfl
    · have h0 : 0 ≤ nI k := nI_pos' (by omega)
      unfold ev1 actI witI
      by_cases h1 : k < 10000
      · have h2 : nI k < 10000 := nI_lt (b := 10000) h1 (by decide)
        simp only [if_pos h0, if_pos h2, if_true]
        rfl
      · have h2 : ¬ nI k < 10000 := nI_nlt (b := 10000) (by omega) (by omega)
        have h3 : nI k < 10006 := nI_lt (b := 10006) hk (by decide)
        have e : nI k - 10000 = nI (k - 10000) := nI_subs (b := 10000) (by omega)
        have h4 : 0 ≤ nI (k - 10000) ∧ nI (k - 10000) < 6 := ⟨nI_pos' (by omega), nI_lt (b := 6) (by omega) (by decide)⟩
        simp only [if_pos h0, if_neg h2, if_pos h3, e, if_pos h4, show ¬ (2 : Int32) = 1 from by decide, if_true, if_false]
        rfl
    all_goals (cases st with
      | nil => rfl
      | cons a1 r1 => (first
        | rfl
        | (cases r1 with
          | nil => rfl
          | cons b1 r2 => rfl)))
end PP
