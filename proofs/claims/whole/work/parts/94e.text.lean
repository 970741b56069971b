section EV
variable {Ω : AO} {d : Nat} {L st : List Value} {h : AH} {Q : Option Value → AH → Prop} {I I' I'' I0 : Nat → Nat → Int32} {J J' : Nat → Nat → Int64} {A A' : Nat → Nat → Option Nat} {S S' : Nat → Nat × Nat} {n n' z z' : Nat} {x y : Int32} {K V sT bE : Nat → Nat} {N : Nat}
theorem ptt_tot (hP : TP K V N) (hN : N ≤ 160) : ∃ ρ, ptt K V = some ρ := by
  obtain ⟨⟨a1, o1⟩, e1⟩ := ptx_tot hP hN (key := 5) (by decide) (Nat.zero_le _)
  unfold ptt
  rw [e1]
  cases o1 with
  | none => exact ⟨_, rfl⟩
  | some l1 =>
    obtain ⟨w1, _⟩ := ptx_ok hP (by decide) (Nat.zero_le _) e1
    obtain ⟨⟨a2, o2⟩, e2⟩ := ptx_tot hP hN (key := 6) (by decide) w1
    simp only [e2]
    cases o2 with
    | none => exact ⟨_, rfl⟩
    | some l2 =>
      obtain ⟨w2, _⟩ := ptx_ok hP (by decide) w1 e2
      obtain ⟨⟨a3, o3⟩, e3⟩ := ptx_tot hP hN (key := 7) (by decide) w2
      simp only [e3]
      cases o3 with
      | none => exact ⟨_, rfl⟩
      | some l3 =>
        simp only
        split
        · exact ⟨_, rfl⟩
        · exact ⟨_, rfl⟩
/-- a text that was read -/
theorem ptt_ok (hP : TP K V N) {a : Nat} {l1 l2 l3 : List Int32} (h : ptt K V = some (a, some (l1, l2, l3))) : a ≤ N ∧ (l1 ++ l2 ++ l3).length + 6 ≤ a ∧ wf l1 ∧ wf l2 ∧ wf l3 ∧ (∀ c ∈ l1, okc c) ∧ (∀ c ∈ l2, okc c) ∧ ∀ c ∈ l3, okc c := by
  unfold ptt at h
  rcases h1 : ptx K V 5 0 with _ | ⟨a1, _ | m1⟩
  · rw [h1] at h; exact absurd h (by simp)
  · rw [h1] at h; exact absurd h (by simp)
  rw [h1] at h
  obtain ⟨o1, o2, o3, o4⟩ := ptx_ok hP (by decide) (Nat.zero_le _) h1
  simp only at h
  rcases h2 : ptx K V 6 a1 with _ | ⟨a2, _ | m2⟩
  · rw [h2] at h; exact absurd h (by simp)
  · rw [h2] at h; exact absurd h (by simp)
  rw [h2] at h
  obtain ⟨o5, o6, o7, o8⟩ := ptx_ok hP (by decide) o1 h2
  simp only at h
  rcases h3 : ptx K V 7 a2 with _ | ⟨a3, _ | m3⟩
  · rw [h3] at h; exact absurd h (by simp)
  · rw [h3] at h; exact absurd h (by simp)
  rw [h3] at h
  obtain ⟨o9, o10, o11, o12⟩ := ptx_ok hP (by decide) o5 h3
  simp only at h
  split at h
  · have e := Option.some.inj h
    have e1 := congrArg Prod.fst e
    have e2 := Option.some.inj (congrArg Prod.snd e)
    simp only at e1
    obtain rfl : m1 = l1 := congrArg Prod.fst e2
    have e3 := congrArg Prod.snd e2
    obtain rfl : m2 = l2 := congrArg Prod.fst e3
    obtain rfl : m3 = l3 := congrArg Prod.snd e3
    subst e1
    exact ⟨o9, by rw [List.length_append, List.length_append]; omega, o3, o7, o11, o4, o8, o12⟩
  · exact absurd h (by simp)
theorem ptt_f (hP : TP K V N) {a : Nat} (h : ptt K V = some (a, none)) : a ≤ N := by
  unfold ptt at h
  rcases h1 : ptx K V 5 0 with _ | ⟨a1, _ | m1⟩
  · rw [h1] at h; exact absurd h (by simp)
  · rw [h1] at h
    have := ptx_ok hP (by decide) (Nat.zero_le _) h1
    cases h
    exact this.2
  rw [h1] at h
  obtain ⟨o1, o2, o3, o4⟩ := ptx_ok hP (by decide) (Nat.zero_le _) h1
  simp only at h
  rcases h2 : ptx K V 6 a1 with _ | ⟨a2, _ | m2⟩
  · rw [h2] at h; exact absurd h (by simp)
  · rw [h2] at h
    have := ptx_ok hP (by decide) o1 h2
    cases h
    exact this.2
  rw [h2] at h
  obtain ⟨o5, o6, o7, o8⟩ := ptx_ok hP (by decide) o1 h2
  simp only at h
  rcases h3 : ptx K V 7 a2 with _ | ⟨a3, _ | m3⟩
  · rw [h3] at h; exact absurd h (by simp)
  · rw [h3] at h
    have := ptx_ok hP (by decide) o5 h3
    cases h
    exact this.2
  rw [h3] at h
  obtain ⟨o9, o10, o11, o12⟩ := ptx_ok hP (by decide) o5 h3
  simp only at h
  split at h
  · exact absurd h (by simp)
  · cases h
    exact o9
theorem evM_cg {F f g f' g' : Nat → Int32} : ∀ (k i : Nat) (st : List Int32), (∀ q, i ≤ q → q < i + k → f q = f' q ∧ g q = g' q) → evM F f g k i st = evM F f' g' k i st := by
  intro k
  induction k with
  | zero => intro i st _; rfl
  | succ k ih =>
    intro i st hq
    obtain ⟨e1, e2⟩ := hq i (Nat.le_refl _) (by omega)
    have er : ∀ st', evM F f g k (i + 1) st' = evM F f' g' k (i + 1) st' := fun st' => ih (i + 1) st' (fun q h1 h2 => hq q (by omega) (by omega))
    rw [evM_s, evM_s, e1, e2]
    simp only [er]
theorem PtR_al {k w r : Nat} (h : PtR I S k w r) (hw : w < 3) (e1 : I' r = I r) (e2 : S' r = S r) (e3 : 0 < k → (∀ q, q < 170 → I' 52 (170 * k + q) = I 52 (170 * k + q) ∧ I' 53 (170 * k + q) = I 53 (170 * k + q)) ∧ ∀ q, q < 3 → I' 54 (3 * k + q) = I 54 (3 * k + q)) : PtR I' S' k w r := by
  obtain ⟨i, j, h1, h2, h3, h4⟩ := h
  refine ⟨i, j, h1, h2, fun hk => ?_, fun F => ?_⟩
  · obtain ⟨q1, q2, q3⟩ := h3 hk
    obtain ⟨_, f2⟩ := e3 hk
    refine ⟨q1, fun h0 => ?_, ?_⟩
    · have := q2 h0
      rw [show 3 * k + w - 1 = 3 * k + (w - 1) by omega] at this ⊢
      rw [f2 (w - 1) (by omega)]; exact this
    · rw [f2 w hw]; exact q3
  · obtain ⟨v, v1, v2, v3⟩ := h4 F
    refine ⟨v, by rw [e1, e2]; exact v1, v2, fun hk => ?_⟩
    obtain ⟨f1, _⟩ := e3 hk
    rw [evM_cg (f' := fun q => I 52 (170 * k + q)) (g' := fun q => I 53 (170 * k + q)) (j - i) i [] (fun q h1 h2 => f1 q (by omega))]
    exact v3 hk
theorem IvD_up {m : Nat} (h : IvD I A S n m) (hn : n ≤ n') (e1 : I' 1 3 = I 1 3) (e2 : I' 46 4 = I 46 4) (e3 : I' 49 = I 49) (e4 : I' 50 = I 50) (e5 : A' 9 = A 9) (e6 : ∀ a, 68 ≤ a → a < n → I' a = I a ∧ S' a = S a) : IvD I' A' S' n' m := by
  obtain ⟨h1, h2, h3, h4⟩ := h
  refine ⟨h1, by rw [e1]; exact h2, by rw [e2]; exact h3, fun i hi => ?_⟩
  obtain ⟨a, k, e, g1, g2, g3, g4, g5, g6, g7, g8, g9, g10⟩ := h4 i hi
  obtain ⟨q1, q2⟩ := e6 a g2 g3
  exact ⟨a, k, e, by rw [e5]; exact g1, g2, by omega, by rw [q2]; exact g4, g5, g6, by rw [q1]; exact g7, by rw [q1]; exact g8, by rw [e3]; exact g9, by rw [e4]; exact g10⟩
/-- one text more -/
theorem IvT_add {t : Nat} (h : IvT I A S n t) (h1t : 1 ≤ t) (ht : t < 6) (hn : n + 4 = n') (h68 : 68 ≤ n) {l1 l2 l3 : List Int32} (w1 : wf l1) (w2 : wf l2) (w3 : wf l3) (c1 : ∀ c ∈ l1, okc c) (c2 : ∀ c ∈ l2, okc c) (c3 : ∀ c ∈ l3, okc c) (hl : (l1 ++ l2 ++ l3).length < 160)
    (e1 : I' 5 1 = nI (t + 1)) (e2 : I' 46 9 = nI (t + 1)) (e3 : I' 2 3 = I 2 3) (e4 : I' 46 10 = I 46 10) (e5 : ∀ r, okA r n → I' r = I r ∧ A' r = A r ∧ S' r = S r) (e6 : ∀ k, k < t → A' 6 k = A 6 k) (e7 : A' 6 t = some n)
    (s0 : (S' n).1 = 9) (a0 : A' n 0 = some (n + 1) ∧ A' n 1 = some (n + 2) ∧ A' n 2 = some (n + 3)) (b1 : S' (n + 1) = (13, l1.length) ∧ ∀ j, j < l1.length → I' (n + 1) j = l1.getD j 0) (b2 : S' (n + 2) = (13, l2.length) ∧ ∀ j, j < l2.length → I' (n + 2) j = l2.getD j 0) (b3 : S' (n + 3) = (13, l3.length) ∧ ∀ j, j < l3.length → I' (n + 3) j = l3.getD j 0)
    (m1 : ∀ j, j < 170 * t → I' 52 j = I 52 j ∧ I' 53 j = I 53 j) (m2 : ∀ j, j < 3 * t → I' 54 j = I 54 j)
    (m3 : ∀ j, j < (l1 ++ l2 ++ l3).length → I' 52 (170 * t + j) = actI ((l1 ++ l2 ++ l3).getD j 0) ∧ I' 53 (170 * t + j) = witI ((l1 ++ l2 ++ l3).getD j 0)) (m4 : I' 54 (3 * t) = nI l1.length ∧ I' 54 (3 * t + 1) = nI (l1 ++ l2).length ∧ I' 54 (3 * t + 2) = nI (l1 ++ l2 ++ l3).length) : IvT I' A' S' n' (t + 1) := by
  obtain ⟨h1, h2, h3, h4, ⟨f, h5, h6, h7⟩, h8⟩ := h
  have ll : (l1 ++ l2 ++ l3).length = l1.length + l2.length + l3.length := by rw [List.length_append, List.length_append]
  have ll2 : (l1 ++ l2).length = l1.length + l2.length := List.length_append
  refine ⟨by omega, by omega, e1, e2, ⟨f, by omega, by rw [e3]; exact h6, by rw [e4]; exact h7⟩, fun k hk => ?_⟩
  by_cases hkt : k = t
  · subst hkt
    refine ⟨n, e7, ⟨by omega, Or.inr h68⟩, s0, fun w hw => ?_⟩
    have key : ∀ (r i : Nat) (l : List Int32), wf l → (∀ c ∈ l, okc c) → l.length < 160 → i + l.length ≤ 160 → (S' r = (13, l.length) ∧ ∀ j, j < l.length → I' r j = l.getD j 0) → (w = 0 → i = 0) → (0 < w → I' 54 (3 * k + w - 1) = nI i) → I' 54 (3 * k + w) = nI (i + l.length) → (∀ j, j < l.length → I' 52 (170 * k + (i + j)) = actI (l.getD j 0) ∧ I' 53 (170 * k + (i + j)) = witI (l.getD j 0)) → PtR I' S' k w r := by
      intro r i l hwf hok hlen hil hS q1 q2 q3 q4
      refine ⟨i, i + l.length, by omega, hil, fun _ => ⟨q1, q2, q3⟩, fun F => ?_⟩
      obtain ⟨v, hv⟩ := hwf F []
      refine ⟨v, ?_, fun h0 => by omega, fun _ => ?_⟩
      · rw [hS.1]
        rw [evC_L l 0 [] (fun j hj => by rw [Nat.zero_add]; exact hS.2 j hj)]
        exact hv
      · rw [Nat.add_sub_cancel_left, evM_L l i [] hok (fun j hj => q4 j hj)]
        exact hv
    rcases (show w = 0 ∨ w = 1 ∨ w = 2 by omega) with rfl | rfl | rfl
    · refine ⟨n + 1, a0.1, ⟨by omega, Or.inr (by omega)⟩, by rw [b1.1], by rw [b1.1]; show l1.length < 160; omega, key (n + 1) 0 l1 w1 c1 (by omega) (by omega) b1 (fun _ => rfl) (fun h => by omega) (by rw [Nat.zero_add, Nat.add_zero]; exact m4.1) (fun j hj => ?_)⟩
      have := m3 j (by omega)
      rw [gd_l (by rw [ll2]; omega), gd_l hj] at this
      rw [Nat.zero_add]; exact this
    · refine ⟨n + 2, a0.2.1, ⟨by omega, Or.inr (by omega)⟩, by rw [b2.1], by rw [b2.1]; show l2.length < 160; omega, key (n + 2) l1.length l2 w2 c2 (by omega) (by omega) b2 (fun h => by omega) (fun h => by rw [show 3 * k + 1 - 1 = 3 * k by omega]; exact m4.1) (by rw [← ll2]; exact m4.2.1) (fun j hj => ?_)⟩
      have := m3 (l1.length + j) (by omega)
      rw [gd_l (by rw [ll2]; omega), gd_r] at this
      exact this
    · refine ⟨n + 3, a0.2.2, ⟨by omega, Or.inr (by omega)⟩, by rw [b3.1], by rw [b3.1]; show l3.length < 160; omega, key (n + 3) (l1 ++ l2).length l3 w3 c3 (by omega) (by omega) b3 (fun h => by omega) (fun h => by rw [show 3 * k + 2 - 1 = 3 * k + 1 by omega]; exact m4.2.1) (by rw [← List.length_append]; exact m4.2.2) (fun j hj => ?_)⟩
      have := m3 ((l1 ++ l2).length + j) (by omega)
      rw [gd_r] at this
      exact this
  · obtain ⟨a, g1, g2, g3, g4⟩ := h8 k (by omega)
    obtain ⟨f1, f2, f3⟩ := e5 a g2
    refine ⟨a, by rw [e6 k (by omega)]; exact g1, ⟨by have := g2.1; omega, g2.2⟩, by rw [f3]; exact g3, fun w hw => ?_⟩
    obtain ⟨r, k1, k2, k3, k4, k5⟩ := g4 w hw
    obtain ⟨f4, f5, f6⟩ := e5 r k2
    refine ⟨r, by rw [f2]; exact k1, ⟨by have := k2.1; omega, k2.2⟩, by rw [f6]; exact k3, by rw [f6]; exact k4, PtR_al k5 hw f4 f6 (fun h0 => ⟨fun q hq => m1 _ (by omega), fun q hq => m2 _ (by omega)⟩)⟩
end EV
