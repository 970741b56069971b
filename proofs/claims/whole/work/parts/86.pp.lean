section PP
/-- the reading of tokens (kinds K, amounts V): none where the fuel runs out; (a, none) a fault at token a; (a, some l) read up to token a, with code l -/
def pb (r : Option (Nat × Option (List Int32))) (k : Nat → List Int32 → Option (Nat × Option (List Int32))) : Option (Nat × Option (List Int32)) := match r with
  | some (a, some l) => k a l
  | r => r
def pp (K V : Nat → Nat) : Nat → Nat → Nat → Nat → List Int32 → Option (Nat × Option (List Int32))
  | 0, _, _, _, _ => none
  | f + 1, g, o, a, l =>
    if g = 0 then pb (pp K V f 2 o a []) (fun a' l' => pp K V f 1 o a' l')
    else if g = 1 then (if K a = 8 then pb (pp K V f 2 o (a + 1) []) (fun a' l' => pp K V f 1 o a' (l ++ l' ++ [-8])) else some (a, some l))
    else if g = 2 then pb (pp K V f 4 o a []) (fun a' l' => pp K V f 3 o a' l')
    else if g = 3 then (if K a = 9 then pb (pp K V f 4 o (a + 1) []) (fun a' l' => pp K V f 3 o a' (l ++ l' ++ [-9])) else some (a, some l))
    else if g = 4 then (if K a = 10 then (if 5 ≤ o then some (a, none) else pb (pp K V f 4 (o + 1) (a + 1) []) (fun a' l' => some (a', some (l' ++ [-10]))))
      else pb (pp K V f 5 o a []) (fun a' l' => if K a' = 60 ∨ K a' = 61 then pb (pp K V f 5 o (a' + 1) []) (fun a'' l'' => some (a'', some (l' ++ l'' ++ [-nI (K a')]))) else some (a', some l')))
    else if g = 5 then pb (pp K V f 7 o a []) (fun a' l' => pp K V f 6 o a' l')
    else if g = 6 then (if K a = 43 ∨ K a = 45 then pb (pp K V f 7 o (a + 1) []) (fun a' l' => pp K V f 6 o a' (l ++ l' ++ [-nI (K a)])) else some (a, some l))
    else if g = 7 then pb (pp K V f 9 o a []) (fun a' l' => pp K V f 8 o a' l')
    else if g = 8 then (if K a = 42 then pb (pp K V f 9 o (a + 1) []) (fun a' l' => pp K V f 8 o a' (l ++ l' ++ [-42])) else some (a, some l))
    else if K a = 2 then some (a + 1, some [nI (V a)])
    else if K a = 3 then some (a + 1, some [nI (10000 + V a)])
    else if K a = 45 then (if 5 ≤ o then some (a, none) else pb (pp K V f 9 (o + 1) (a + 1) []) (fun a' l' => some (a', some (l' ++ [-11]))))
    else if K a = 40 then (if 5 ≤ o then some (a, none) else pb (pp K V f 0 (o + 1) (a + 1) []) (fun a' l' => if K a' = 41 then some (a' + 1, some l') else some (a', none)))
    else some (a, none)
variable {K V : Nat → Nat} {f g o a N : Nat} {l : List Int32} {ρ : Nat × Option (List Int32)}
theorem pp_0 : pp K V (f + 1) 0 o a l = pb (pp K V f 2 o a []) (fun a' l' => pp K V f 1 o a' l') := rfl
theorem pp_1 : pp K V (f + 1) 1 o a l = if K a = 8 then pb (pp K V f 2 o (a + 1) []) (fun a' l' => pp K V f 1 o a' (l ++ l' ++ [-8])) else some (a, some l) := rfl
theorem pp_2 : pp K V (f + 1) 2 o a l = pb (pp K V f 4 o a []) (fun a' l' => pp K V f 3 o a' l') := rfl
theorem pp_3 : pp K V (f + 1) 3 o a l = if K a = 9 then pb (pp K V f 4 o (a + 1) []) (fun a' l' => pp K V f 3 o a' (l ++ l' ++ [-9])) else some (a, some l) := rfl
theorem pp_4 : pp K V (f + 1) 4 o a l = if K a = 10 then (if 5 ≤ o then some (a, none) else pb (pp K V f 4 (o + 1) (a + 1) []) (fun a' l' => some (a', some (l' ++ [-10])))) else pb (pp K V f 5 o a []) (fun a' l' => if K a' = 60 ∨ K a' = 61 then pb (pp K V f 5 o (a' + 1) []) (fun a'' l'' => some (a'', some (l' ++ l'' ++ [-nI (K a')]))) else some (a', some l')) := rfl
theorem pp_5 : pp K V (f + 1) 5 o a l = pb (pp K V f 7 o a []) (fun a' l' => pp K V f 6 o a' l') := rfl
theorem pp_6 : pp K V (f + 1) 6 o a l = if K a = 43 ∨ K a = 45 then pb (pp K V f 7 o (a + 1) []) (fun a' l' => pp K V f 6 o a' (l ++ l' ++ [-nI (K a)])) else some (a, some l) := rfl
theorem pp_7 : pp K V (f + 1) 7 o a l = pb (pp K V f 9 o a []) (fun a' l' => pp K V f 8 o a' l') := rfl
theorem pp_8 : pp K V (f + 1) 8 o a l = if K a = 42 then pb (pp K V f 9 o (a + 1) []) (fun a' l' => pp K V f 8 o a' (l ++ l' ++ [-42])) else some (a, some l) := rfl
theorem pp_9 : pp K V (f + 1) 9 o a l = if K a = 2 then some (a + 1, some [nI (V a)]) else if K a = 3 then some (a + 1, some [nI (10000 + V a)]) else if K a = 45 then (if 5 ≤ o then some (a, none) else pb (pp K V f 9 (o + 1) (a + 1) []) (fun a' l' => some (a', some (l' ++ [-11])))) else if K a = 40 then (if 5 ≤ o then some (a, none) else pb (pp K V f 0 (o + 1) (a + 1) []) (fun a' l' => if K a' = 41 then some (a' + 1, some l') else some (a', none))) else some (a, none) := rfl
theorem pb_inv {r : Option (Nat × Option (List Int32))} {k : Nat → List Int32 → Option (Nat × Option (List Int32))} (h : pb r k = some ρ) : (∃ a l, r = some (a, some l) ∧ k a l = some ρ) ∨ (∃ a, r = some (a, none) ∧ ρ = (a, none)) := by
  match r, h with
  | some (a, some l), h => exact Or.inl ⟨a, l, rfl, h⟩
  | some (a, none), h => exact Or.inr ⟨a, rfl, (Option.some.inj h).symm⟩
  | none, h => exact absurd h (by simp [pb])
theorem pb_s {a : Nat} {l : List Int32} {k : Nat → List Int32 → Option (Nat × Option (List Int32))} : pb (some (a, some l)) k = k a l := rfl
theorem pb_n {a : Nat} {k : Nat → List Int32 → Option (Nat × Option (List Int32))} : pb (some (a, none)) k = some (a, none) := rfl
/-- evaluation of a list of code -/
def ev1 (F : Nat → Int32) (c : Int32) (st : List Int32) : Option (List Int32) :=
  if 0 ≤ c then (if c < 10000 then some (c :: st) else if c < 10006 then some (F (c - 10000).toNatClampNeg :: st) else none)
  else (match st with
    | [] => none
    | a :: r => if c = -10 then some ((if a = 0 then 1 else 0) :: r) else if c = -11 then some (-a :: r) else (match r with
      | [] => none
      | b :: r' => some (jn (-c) b a :: r')))
def evL (F : Nat → Int32) : List Int32 → List Int32 → Option (List Int32)
  | [], st => some st
  | c :: r, st => (ev1 F c st).bind (evL F r)
theorem evL_app (F : Nat → Int32) : ∀ (l1 l2 st : List Int32), evL F (l1 ++ l2) st = (evL F l1 st).bind (evL F l2) := by
  intro l1
  induction l1 with
  | nil => intro l2 st; rfl
  | cons c r ih =>
    intro l2 st
    show (ev1 F c st).bind (evL F (r ++ l2)) = ((ev1 F c st).bind (evL F r)).bind (evL F l2)
    cases ev1 F c st with
    | none => rfl
    | some s => exact ih l2 s
/-- code that leaves one number more -/
def wf (l : List Int32) : Prop := ∀ (F : Nat → Int32) (st : List Int32), ∃ v, evL F l st = some (v :: st)
/-- the codes that a reading makes -/
def okc (c : Int32) : Prop := (∃ k, k < 10006 ∧ c = nI k) ∨ c = -8 ∨ c = -9 ∨ c = -10 ∨ c = -11 ∨ c = -42 ∨ c = -43 ∨ c = -45 ∨ c = -60 ∨ c = -61
theorem wf_num {k : Nat} (hk : k < 10006) : wf [nI k] := by
  intro F st
  have h0 : 0 ≤ nI k := nI_pos' (by omega)
  by_cases h1 : k < 10000
  · have h2 : nI k < 10000 := nI_lt (b := 10000) h1 (by decide)
    exact ⟨nI k, by simp only [evL, ev1, if_pos h0, if_pos h2]; rfl⟩
  · have h2 : ¬ nI k < 10000 := nI_nlt (b := 10000) (by omega) (by omega)
    have h3 : nI k < 10006 := nI_lt (b := 10006) hk (by decide)
    exact ⟨F (nI k - 10000).toNatClampNeg, by simp only [evL, ev1, if_pos h0, if_neg h2, if_pos h3]; rfl⟩
theorem wf_un {l : List Int32} {c : Int32} (h : wf l) (hc : c = -10 ∨ c = -11) : wf (l ++ [c]) := by
  intro F st
  obtain ⟨v, e⟩ := h F st
  rw [evL_app, e]
  rcases hc with rfl | rfl
  · exact ⟨if v = 0 then 1 else 0, rfl⟩
  · exact ⟨-v, rfl⟩
theorem wf_bi {l1 l2 : List Int32} {c : Int32} (h1 : wf l1) (h2 : wf l2) (hc : c < 0) (hc0 : ¬ c = -10) (hc1 : ¬ c = -11) : wf (l1 ++ l2 ++ [c]) := by
  intro F st
  obtain ⟨v, e⟩ := h1 F st
  obtain ⟨w, e2⟩ := h2 F (v :: st)
  refine ⟨jn (-c) v w, ?_⟩
  rw [evL_app, evL_app, e]
  show ((evL F l2 (v :: st)).bind (evL F [c])) = _
  rw [e2]
  show (ev1 F c (w :: v :: st)).bind (evL F []) = _
  simp only [ev1, if_neg (Int32.not_le.mpr hc), if_neg hc0, if_neg hc1]
  rfl
/-- what a reading gives -/
def isLp (g : Nat) : Prop := g = 1 ∨ g = 3 ∨ g = 6 ∨ g = 8
def okR (N g a : Nat) (l : List Int32) (ρ : Nat × Option (List Int32)) : Prop := match ρ with
  | (a', some l') => a' ≤ N ∧ (∀ c ∈ l', c ∈ l ∧ isLp g ∨ okc c) ∧ ((¬ isLp g → a < a' ∧ l'.length + a ≤ a' ∧ wf l') ∧ (isLp g → a ≤ a' ∧ (∃ l2, l' = l ++ l2) ∧ l'.length + a ≤ l.length + a' ∧ (wf l → wf l')))
  | (a', none) => a ≤ a' ∧ a' ≤ N
theorem nLp (g : Nat) (h : g = 0 ∨ g = 2 ∨ g = 4 ∨ g = 5 ∨ g = 7 ∨ g = 9) : ¬ isLp g := by unfold isLp; omega
/-- a level: a head, then a loop -/
theorem okR_seq {gh gl a a1 : Nat} {l1 : List Int32} (h : okR N gh a [] (a1, some l1)) (hh : ¬ isLp gh) (hl : isLp gl) (h2 : okR N gl a1 l1 ρ) {g : Nat} (hg : ¬ isLp g) : okR N g a l ρ := by
  obtain ⟨q1, q2, q3, q4⟩ := h
  obtain ⟨w1, w2, w3⟩ := q3 hh
  obtain ⟨a', o'⟩ := ρ
  cases o' with
  | none => exact ⟨by have := h2.1; omega, h2.2⟩
  | some l' =>
    obtain ⟨k1, k2, k3, k4⟩ := h2
    obtain ⟨m1, m2, m3, m4⟩ := k4 hl
    refine ⟨k1, fun c hc => Or.inr ?_, fun _ => ⟨by omega, by omega, m4 w3⟩, fun h => absurd h hg⟩
    rcases k2 c hc with ⟨h3, _⟩ | h3
    · rcases q2 c h3 with ⟨_, h4⟩ | h4
      · exact absurd h4 hh
      · exact h4
    · exact h3
/-- a turn of a loop -/
theorem okR_lp {gh gl a a1 : Nat} {l1 : List Int32} {c : Int32} (hc : okc c) (hc0 : c < 0) (hc1 : ¬ c = -10) (hc2 : ¬ c = -11) (h : okR N gh (a + 1) [] (a1, some l1)) (hh : ¬ isLp gh) (hl : isLp gl) (h2 : okR N gl a1 (l ++ l1 ++ [c]) ρ) : okR N gl a l ρ := by
  obtain ⟨q1, q2, q3, q4⟩ := h
  obtain ⟨w1, w2, w3⟩ := q3 hh
  obtain ⟨a', o'⟩ := ρ
  cases o' with
  | none => exact ⟨by have := h2.1; omega, h2.2⟩
  | some l' =>
    obtain ⟨k1, k2, k3, k4⟩ := h2
    obtain ⟨m1, ⟨l2, m2⟩, m3, m4⟩ := k4 hl
    simp only [List.length_append, List.length_singleton] at m3
    refine ⟨k1, fun x hx => ?_, fun h => absurd hl h, fun _ => ⟨by omega, ⟨l1 ++ [c] ++ l2, by rw [m2]; simp⟩, by omega, fun hw => m4 (wf_bi hw w3 hc0 hc1 hc2)⟩⟩
    rcases k2 x hx with ⟨h3, _⟩ | h3
    · simp only [List.mem_append, List.mem_singleton] at h3
      rcases h3 with (h3 | h3) | h3
      · exact Or.inl ⟨h3, hl⟩
      · rcases q2 x h3 with ⟨_, h4⟩ | h4
        · exact absurd h4 hh
        · exact Or.inr h4
      · subst h3; exact Or.inr hc
    · exact Or.inr h3
theorem okR_f {gh a a1 : Nat} {g : Nat} (h : okR N gh a [] (a1, none)) {b : Nat} (hb : b ≤ a) : okR N g b l (a1, none) := ⟨Nat.le_trans hb h.1, h.2⟩
theorem okR_0 {gl : Nat} (ha : a ≤ N) (hl : isLp gl) : okR N gl a l (a, some l) := ⟨ha, fun c hc => Or.inl ⟨hc, hl⟩, fun h => absurd hl h, fun _ => ⟨Nat.le_refl _, ⟨[], by simp⟩, Nat.le_refl _, fun h => h⟩⟩
theorem okc_n {k : Nat} (hk : k = 43 ∨ k = 45 ∨ k = 60 ∨ k = 61) : okc (-nI k) ∧ -nI k < 0 ∧ ¬ -nI k = -10 ∧ ¬ -nI k = -11 := by
  rcases hk with rfl | rfl | rfl | rfl
  · exact ⟨by unfold okc; right; right; right; right; right; right; left; rfl, by decide, by decide, by decide⟩
  · exact ⟨by unfold okc; right; right; right; right; right; right; right; left; rfl, by decide, by decide, by decide⟩
  · exact ⟨by unfold okc; right; right; right; right; right; right; right; right; left; rfl, by decide, by decide, by decide⟩
  · exact ⟨by unfold okc; right; right; right; right; right; right; right; right; right; rfl, by decide, by decide, by decide⟩
theorem pp_ok (hN : K N = 1) (h2 : ∀ a, K a = 2 → V a ≤ 9999) (h3 : ∀ a, K a = 3 → V a < 6) : ∀ (f g o a : Nat) (l : List Int32) (ρ : Nat × Option (List Int32)), g ≤ 9 → a ≤ N → pp K V f g o a l = some ρ → okR N g a l ρ := by
  have hlt : ∀ a, a ≤ N → K a ≠ 1 → a < N := fun a h1 h2 => by
    rcases Nat.lt_or_ge a N with h | h
    · exact h
    · obtain rfl : a = N := by omega
      exact absurd hN h2
  have seqs : ∀ (f gh gl g o a : Nat) (l : List Int32) (ρ : Nat × Option (List Int32)), (∀ (g o a : Nat) (l : List Int32) (ρ : Nat × Option (List Int32)), g ≤ 9 → a ≤ N → pp K V f g o a l = some ρ → okR N g a l ρ) → gh ≤ 9 → gl ≤ 9 → ¬ isLp gh → isLp gl → ¬ isLp g → a ≤ N → pb (pp K V f gh o a []) (fun a' l' => pp K V f gl o a' l') = some ρ → okR N g a l ρ := by
    intro f gh gl g o a l ρ ih q1 q2 q3 q4 q5 ha h
    rcases pb_inv h with ⟨a1, l1, e1, e2⟩ | ⟨a1, e1, rfl⟩
    · have w := ih gh o a [] _ q1 ha e1
      exact okR_seq w q3 q4 (ih gl o a1 l1 ρ q2 w.1 e2) q5
    · exact okR_f (ih gh o a [] _ q1 ha e1) (Nat.le_refl _)
  have lps : ∀ (f gh gl o a : Nat) (c : Int32) (l : List Int32) (ρ : Nat × Option (List Int32)), (∀ (g o a : Nat) (l : List Int32) (ρ : Nat × Option (List Int32)), g ≤ 9 → a ≤ N → pp K V f g o a l = some ρ → okR N g a l ρ) → gh ≤ 9 → gl ≤ 9 → ¬ isLp gh → isLp gl → okc c → c < 0 → ¬ c = -10 → ¬ c = -11 → a < N → pb (pp K V f gh o (a + 1) []) (fun a' l' => pp K V f gl o a' (l ++ l' ++ [c])) = some ρ → okR N gl a l ρ := by
    intro f gh gl o a c l ρ ih q1 q2 q3 q4 c1 c2 c3 c4 ha h
    rcases pb_inv h with ⟨a1, l1, e1, e2⟩ | ⟨a1, e1, rfl⟩
    · have w := ih gh o (a + 1) [] _ q1 (by omega) e1
      exact okR_lp c1 c2 c3 c4 w q3 q4 (ih gl o a1 _ ρ q2 w.1 e2)
    · exact okR_f (ih gh o (a + 1) [] _ q1 (by omega) e1) (by omega)
  intro f
  induction f with
  | zero => intro g o a l ρ _ _ h; exact absurd h (by simp [pp])
  | succ f ih =>
    intro g o a l ρ hg ha h
    rcases (show g = 0 ∨ g = 1 ∨ g = 2 ∨ g = 3 ∨ g = 4 ∨ g = 5 ∨ g = 6 ∨ g = 7 ∨ g = 8 ∨ g = 9 by omega) with rfl | rfl | rfl | rfl | rfl | rfl | rfl | rfl | rfl | rfl
    · rw [pp_0] at h
      exact seqs f 2 1 0 o a l ρ ih (by decide) (by decide) (nLp 2 (by decide)) (by unfold isLp; decide) (nLp 0 (by decide)) ha h
    · rw [pp_1] at h
      by_cases hk : K a = 8
      · rw [if_pos hk] at h
        exact lps f 2 1 o a (-8) l ρ ih (by decide) (by decide) (nLp 2 (by decide)) (by unfold isLp; decide) (by unfold okc; simp) (by decide) (by decide) (by decide) (hlt a ha (by omega)) h
      · rw [if_neg hk] at h
        cases h
        exact okR_0 ha (by unfold isLp; decide)
    · rw [pp_2] at h
      exact seqs f 4 3 2 o a l ρ ih (by decide) (by decide) (nLp 4 (by decide)) (by unfold isLp; decide) (nLp 2 (by decide)) ha h
    · rw [pp_3] at h
      by_cases hk : K a = 9
      · rw [if_pos hk] at h
        exact lps f 4 3 o a (-9) l ρ ih (by decide) (by decide) (nLp 4 (by decide)) (by unfold isLp; decide) (by unfold okc; simp) (by decide) (by decide) (by decide) (hlt a ha (by omega)) h
      · rw [if_neg hk] at h
        cases h
        exact okR_0 ha (by unfold isLp; decide)
    · rw [pp_4] at h
      have n4 := nLp 4 (by decide)
      have n5 := nLp 5 (by decide)
      by_cases hk : K a = 10
      · rw [if_pos hk] at h
        by_cases ho : 5 ≤ o
        · rw [if_pos ho] at h
          cases h
          exact ⟨Nat.le_refl _, ha⟩
        · rw [if_neg ho] at h
          have hl := hlt a ha (by omega)
          rcases pb_inv h with ⟨a1, l1, e1, e2⟩ | ⟨a1, e1, rfl⟩
          · obtain ⟨w1, w2, w3, _⟩ := ih 4 (o + 1) (a + 1) [] _ (by decide) (by omega) e1
            obtain ⟨m1, m2, m3⟩ := w3 n4
            cases e2
            refine ⟨w1, fun c hc => Or.inr ?_, fun _ => ⟨by omega, by simp only [List.length_append, List.length_singleton]; omega, wf_un m3 (Or.inl rfl)⟩, fun h => absurd h n4⟩
            simp only [List.mem_append, List.mem_singleton] at hc
            rcases hc with hc | rfl
            · rcases w2 c hc with ⟨_, h4⟩ | h4
              · exact absurd h4 n4
              · exact h4
            · unfold okc; simp
          · exact okR_f (ih 4 (o + 1) (a + 1) [] _ (by decide) (by omega) e1) (by omega)
      · rw [if_neg hk] at h
        rcases pb_inv h with ⟨a1, l1, e1, e2⟩ | ⟨a1, e1, rfl⟩
        · obtain ⟨w1, w2, w3, _⟩ := ih 5 o a [] _ (by decide) ha e1
          obtain ⟨m1, m2, m3⟩ := w3 n5
          have w2' : ∀ c ∈ l1, okc c := fun c hc => by
            rcases w2 c hc with ⟨_, h4⟩ | h4
            · exact absurd h4 n5
            · exact h4
          by_cases hk6 : K a1 = 60 ∨ K a1 = 61
          · rw [if_pos hk6] at e2
            have hl := hlt a1 w1 (by omega)
            rcases pb_inv e2 with ⟨a2, l2, e3, e4⟩ | ⟨a2, e3, rfl⟩
            · obtain ⟨y1, y2, y3, _⟩ := ih 5 o (a1 + 1) [] _ (by decide) (by omega) e3
              obtain ⟨z1, z2, z3⟩ := y3 n5
              obtain ⟨c1, c2, c3, c4⟩ := okc_n (k := K a1) (by omega)
              cases e4
              refine ⟨y1, fun c hc => Or.inr ?_, fun _ => ⟨by omega, by simp only [List.length_append, List.length_singleton]; omega, wf_bi m3 z3 c2 c3 c4⟩, fun h => absurd h n4⟩
              simp only [List.mem_append, List.mem_singleton] at hc
              rcases hc with (hc | hc) | rfl
              · exact w2' c hc
              · rcases y2 c hc with ⟨_, h4⟩ | h4
                · exact absurd h4 n5
                · exact h4
              · exact c1
            · have := ih 5 o (a1 + 1) [] _ (by decide) (by omega) e3
              exact okR_f this (by omega)
          · rw [if_neg hk6] at e2
            cases e2
            exact ⟨w1, fun c hc => Or.inr (w2' c hc), fun _ => ⟨m1, m2, m3⟩, fun h => absurd h n4⟩
        · exact okR_f (ih 5 o a [] _ (by decide) ha e1) (Nat.le_refl _)
    · rw [pp_5] at h
      exact seqs f 7 6 5 o a l ρ ih (by decide) (by decide) (nLp 7 (by decide)) (by unfold isLp; decide) (nLp 5 (by decide)) ha h
    · rw [pp_6] at h
      by_cases hk : K a = 43 ∨ K a = 45
      · rw [if_pos hk] at h
        obtain ⟨c1, c2, c3, c4⟩ := okc_n (k := K a) (by omega)
        exact lps f 7 6 o a (-nI (K a)) l ρ ih (by decide) (by decide) (nLp 7 (by decide)) (by unfold isLp; decide) c1 c2 c3 c4 (hlt a ha (by omega)) h
      · rw [if_neg hk] at h
        cases h
        exact okR_0 ha (by unfold isLp; decide)
    · rw [pp_7] at h
      exact seqs f 9 8 7 o a l ρ ih (by decide) (by decide) (nLp 9 (by decide)) (by unfold isLp; decide) (nLp 7 (by decide)) ha h
    · rw [pp_8] at h
      by_cases hk : K a = 42
      · rw [if_pos hk] at h
        exact lps f 9 8 o a (-42) l ρ ih (by decide) (by decide) (nLp 9 (by decide)) (by unfold isLp; decide) (by unfold okc; simp) (by decide) (by decide) (by decide) (hlt a ha (by omega)) h
      · rw [if_neg hk] at h
        cases h
        exact okR_0 ha (by unfold isLp; decide)
    · rw [pp_9] at h
      have n9 := nLp 9 (by decide)
      have n0 := nLp 0 (by decide)
      by_cases k2 : K a = 2
      · rw [if_pos k2] at h
        cases h
        have hl := hlt a ha (by omega)
        have := h2 a k2
        exact ⟨hl, fun c hc => Or.inr (Or.inl ⟨V a, by omega, by simpa using hc⟩), fun _ => ⟨by omega, by simp; omega, wf_num (by omega)⟩, fun h => absurd h n9⟩
      rw [if_neg k2] at h
      by_cases k3 : K a = 3
      · rw [if_pos k3] at h
        cases h
        have hl := hlt a ha (by omega)
        have := h3 a k3
        exact ⟨hl, fun c hc => Or.inr (Or.inl ⟨10000 + V a, by omega, by simpa using hc⟩), fun _ => ⟨by omega, by simp; omega, wf_num (by omega)⟩, fun h => absurd h n9⟩
      rw [if_neg k3] at h
      by_cases k45 : K a = 45
      · rw [if_pos k45] at h
        by_cases ho : 5 ≤ o
        · rw [if_pos ho] at h
          cases h
          exact ⟨Nat.le_refl _, ha⟩
        · rw [if_neg ho] at h
          have hl := hlt a ha (by omega)
          rcases pb_inv h with ⟨a1, l1, e1, e2⟩ | ⟨a1, e1, rfl⟩
          · obtain ⟨w1, w2, w3, _⟩ := ih 9 (o + 1) (a + 1) [] _ (by decide) (by omega) e1
            obtain ⟨m1, m2, m3⟩ := w3 n9
            cases e2
            refine ⟨w1, fun c hc => Or.inr ?_, fun _ => ⟨by omega, by simp only [List.length_append, List.length_singleton]; omega, wf_un m3 (Or.inr rfl)⟩, fun h => absurd h n9⟩
            simp only [List.mem_append, List.mem_singleton] at hc
            rcases hc with hc | rfl
            · rcases w2 c hc with ⟨_, h4⟩ | h4
              · exact absurd h4 n9
              · exact h4
            · unfold okc; simp
          · exact okR_f (ih 9 (o + 1) (a + 1) [] _ (by decide) (by omega) e1) (by omega)
      rw [if_neg k45] at h
      by_cases k40 : K a = 40
      · rw [if_pos k40] at h
        by_cases ho : 5 ≤ o
        · rw [if_pos ho] at h
          cases h
          exact ⟨Nat.le_refl _, ha⟩
        · rw [if_neg ho] at h
          have hl := hlt a ha (by omega)
          rcases pb_inv h with ⟨a1, l1, e1, e2⟩ | ⟨a1, e1, rfl⟩
          · obtain ⟨w1, w2, w3, _⟩ := ih 0 (o + 1) (a + 1) [] _ (by decide) (by omega) e1
            obtain ⟨m1, m2, m3⟩ := w3 n0
            by_cases k41 : K a1 = 41
            · rw [if_pos k41] at e2
              have hl1 := hlt a1 w1 (by omega)
              cases e2
              refine ⟨hl1, fun c hc => Or.inr ?_, fun _ => ⟨by omega, by omega, m3⟩, fun h => absurd h n9⟩
              rcases w2 c hc with ⟨_, h4⟩ | h4
              · exact absurd h4 n0
              · exact h4
            · rw [if_neg k41] at e2
              cases e2
              exact ⟨by omega, w1⟩
          · exact okR_f (ih 0 (o + 1) (a + 1) [] _ (by decide) (by omega) e1) (by omega)
      rw [if_neg k40] at h
      cases h
      exact ⟨Nat.le_refl _, ha⟩
end PP
