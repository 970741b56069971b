/-! what holds between the calls, of both systems at once -/
def bO (k : Nat) : Nat := if k % 4 < 2 then 9 else 1
def bN (k : Nat) : Nat := if k < 2 then 9 else if k = 2 then 6 else if k = 3 then 99 else 60
def IvL (A : Nat → Nat → Option Nat) (S : Nat → Nat × Nat) (n : Nat) : Prop := LC A S n ∧ LM A S n ∧ ((A 16 2 = some 21 ∧ A 16 3 = some 22) ∨ (A 16 2 = some 22 ∧ A 16 3 = some 21))
def IvP (I : Nat → Nat → Int32) (p : Nat) : Prop := p ≤ 12 ∧ I 2 2 = nI p ∧ I 46 1 = nI p ∧ (∀ k, k < 4 * p → I 3 k = I 47 k ∧ ∃ v, v ≤ bO k ∧ I 47 k = nI v) ∧ ∀ k, k < 5 → I 4 k = I 48 k ∧ ∃ v, v ≤ bN k ∧ I 48 k = nI v
def IvD (I : Nat → Nat → Int32) (A : Nat → Nat → Option Nat) (S : Nat → Nat × Nat) (n m : Nat) : Prop := m ≤ 8 ∧ I 1 3 = nI m ∧ I 46 4 = nI m ∧ ∀ i, i < m → ∃ a k e, A 9 i = some a ∧ 68 ≤ a ∧ a < n ∧ (S a).1 = 1 ∧ k ≤ 5 ∧ e ≤ 9 ∧ I a 0 = nI k ∧ I a 1 = nI e ∧ I 49 i = nI k ∧ I 50 i = nI e
def ltr (k : Nat) : Int32 := [102, 97, 108, 108, 32, 114, 111, 99, 107, 115, 32, 119, 97, 116, 101, 114, 32, 100, 101, 101, 112, 32, 108, 111, 111, 107, 101, 100, 32, 108, 111, 97, 100, 32, 114, 105, 115, 107, 32, 119, 101, 116, 32, 119, 111, 114, 116, 104, 32, 111, 114, 32, 97, 110, 100, 32, 110, 111, 116, 32].getD k 0
def mnt (k : Nat) : Int32 := [0, 1, 2, 3, 4, 5, 10, 11, 12, 13, 14, 15].getD k 0
def IvB (I : Nat → Nat → Int32) (s : Nat) : Prop := s ≤ 160 ∧ I 10 1 = nI s ∧ I 46 8 = nI s ∧ (∀ i, i < s → ∃ v, v < 256 ∧ I 11 i = nI v ∧ I 51 i = (nI v).toInt8.toInt32) ∧ (∀ k, k < 60 → I 57 k = ltr k) ∧ ∀ k, k < 12 → I 58 k = mnt k
def IvI (I : Nat → Nat → Int32) (p t : Nat) : Prop := (I 0 6 = 0 ∧ I 46 28 = 0) ∨ (I 0 6 = 1 ∧ I 46 28 = 1 ∧ ∃ kp kf, kp ≤ p ∧ kf < t ∧ I 31 2 = nI kp ∧ I 46 29 = nI kp ∧ I 31 3 = nI kf ∧ I 46 30 = nI kf ∧ (∀ k, k < 4 * kp → I 32 k = I 62 k ∧ ∃ v, v ≤ bO k ∧ I 62 k = nI v) ∧ ∀ k, k < 5 → I 33 k = I 63 k ∧ ∃ v, v ≤ bN k ∧ I 63 k = nI v)
def IvS (I : Nat → Nat → Int32) : Prop := ∀ q, q < 4 → (I (34 + 2 * q) 1 = -1 ∧ I 64 q = -1) ∨ ∃ so sz, so ≤ 2 ∧ sz ≤ 40 ∧ I (34 + 2 * q) 1 = nI so ∧ I 64 q = nI so ∧ I (34 + 2 * q) 2 = nI sz ∧ I 65 q = nI sz ∧ ∀ i, i < sz → I (35 + 2 * q) i = I 66 (40 * q + i)
/-- what a text's code in the class comes to -/
def jn (c a b : Int32) : Int32 := if c = 43 then a + b else if c = 45 then a - b else if c = 42 then a * b else if c = 60 then (if a < b then 1 else 0) else if c = 61 then (if a = b then 1 else 0) else if c = 9 then (if ¬ a = 0 ∧ ¬ b = 0 then 1 else 0) else (if ¬ a = 0 ∨ ¬ b = 0 then 1 else 0)
/-- the class's evaluation of code f, from place i on, k steps, with a pile (head: top) -/
def evC (F : Nat → Int32) (f : Nat → Int32) : Nat → Nat → List Int32 → Option (List Int32)
  | 0, _, st => some st
  | k + 1, i, st =>
    if 0 ≤ f i then (if f i < 10000 then evC F f k (i + 1) (f i :: st) else if f i < 10006 then evC F f k (i + 1) (F (f i - 10000).toNatClampNeg :: st) else none)
    else (match st with
      | [] => none
      | a :: r => if f i = -10 then evC F f k (i + 1) ((if a = 0 then 1 else 0) :: r) else if f i = -11 then evC F f k (i + 1) (-a :: r) else (match r with
        | [] => none
        | b :: r' => evC F f k (i + 1) (jn (-f i) b a :: r')))
def tw (c a b : Int32) : Int32 := if c = 5 then (if ¬ a = 0 ∨ ¬ b = 0 then 1 else 0) else if c = 6 then (if ¬ a = 0 ∧ ¬ b = 0 then 1 else 0) else if c = 60 then (if a < b then 1 else 0) else if c = 61 then (if a = b then 1 else 0) else if c = 43 then a + b else if c = 45 then a - b else a * b
/-- the reference's evaluation of steps (f, g) from place i on, k steps -/
def evM (F : Nat → Int32) (f g : Nat → Int32) : Nat → Nat → List Int32 → Option (List Int32)
  | 0, _, st => some st
  | k + 1, i, st =>
    if f i = 1 then evM F f g k (i + 1) (g i :: st) else if f i = 2 then (if 0 ≤ g i ∧ g i < 6 then evM F f g k (i + 1) (F (g i).toNatClampNeg :: st) else none)
    else (match st with
      | [] => none
      | a :: r => if f i = 3 then evM F f g k (i + 1) ((if a = 0 then 1 else 0) :: r) else if f i = 4 then evM F f g k (i + 1) (-a :: r) else (match r with
        | [] => none
        | b :: r' => evM F f g k (i + 1) (tw (f i) b a :: r')))
def okA (a n : Nat) : Prop := a < n ∧ ((42 ≤ a ∧ a < 46) ∨ 68 ≤ a)
/-- TEXT 0 -/
def frm (w : Nat) (F : Nat → Int32) : Int32 := if w = 0 then F 0 * 4 + F 1 - F 4 * 9 else if w = 1 then F 0 + F 3 - F 4 else F 5 * 10
/-- a part w of text k: the class's row r and the reference's steps come to one number -/
def PtR (I : Nat → Nat → Int32) (S : Nat → Nat × Nat) (k w r : Nat) : Prop := ∃ i j : Nat, i ≤ j ∧ j ≤ 160 ∧ (0 < k → (w = 0 → i = 0) ∧ (0 < w → I 54 (3 * k + w - 1) = nI i) ∧ I 54 (3 * k + w) = nI j) ∧ ∀ F : Nat → Int32, ∃ v, evC F (I r) (S r).2 0 [] = some [v] ∧ (k = 0 → v = frm w F) ∧ (0 < k → evM F (fun q => I 52 (170 * k + q)) (fun q => I 53 (170 * k + q)) (j - i) i [] = some [v])
def IvT (I : Nat → Nat → Int32) (A : Nat → Nat → Option Nat) (S : Nat → Nat × Nat) (n t : Nat) : Prop := 1 ≤ t ∧ t ≤ 6 ∧ I 5 1 = nI t ∧ I 46 9 = nI t ∧ (∃ f, f < t ∧ I 2 3 = nI f ∧ I 46 10 = nI f) ∧ ∀ k, k < t → ∃ a, A 6 k = some a ∧ okA a n ∧ (S a).1 = 9 ∧ ∀ w, w < 3 → ∃ r, A a w = some r ∧ okA r n ∧ (S r).1 = 13 ∧ (S r).2 < 160 ∧ PtR I S k w r
def Inv (h : AH) : Prop := ∃ p m t s : Nat, IvL (hA h) (hSh h) (hn h) ∧ IvP (hI h) p ∧ IvD (hI h) (hA h) (hSh h) (hn h) m ∧ IvT (hI h) (hA h) (hSh h) (hn h) t ∧ IvB (hI h) s ∧ IvI (hI h) p t ∧ IvS (hI h)
section FR
variable {I I' : Nat → Nat → Int32} {A : Nat → Nat → Option Nat} {S : Nat → Nat × Nat} {n p m t s : Nat}
theorem IvP_fr (h : IvP I p) (e1 : I' 2 2 = I 2 2) (e2 : I' 46 1 = I 46 1) (e3 : I' 3 = I 3) (e4 : I' 47 = I 47) (e5 : I' 4 = I 4) (e6 : I' 48 = I 48) : IvP I' p := by
  unfold IvP at *
  rw [e1, e2, e3, e4, e5, e6]
  exact h
theorem IvD_fr (h : IvD I A S n m) (e1 : I' 1 3 = I 1 3) (e2 : I' 46 4 = I 46 4) (e3 : I' 49 = I 49) (e4 : I' 50 = I 50) (e5 : ∀ a, 68 ≤ a → I' a = I a) : IvD I' A S n m := by
  obtain ⟨h1, h2, h3, h4⟩ := h
  refine ⟨h1, by rw [e1]; exact h2, by rw [e2]; exact h3, fun i hi => ?_⟩
  obtain ⟨a, k, e, g1, g2, g3, g4, g5, g6, g7, g8, g9, g10⟩ := h4 i hi
  exact ⟨a, k, e, g1, g2, g3, g4, g5, g6, by rw [e5 a g2]; exact g7, by rw [e5 a g2]; exact g8, by rw [e3]; exact g9, by rw [e4]; exact g10⟩
theorem IvB_fr (h : IvB I s) (e1 : I' 10 1 = I 10 1) (e2 : I' 46 8 = I 46 8) (e3 : I' 11 = I 11) (e4 : I' 51 = I 51) (e5 : I' 57 = I 57) (e6 : I' 58 = I 58) : IvB I' s := by
  unfold IvB at *
  rw [e1, e2, e3, e4, e5, e6]
  exact h
theorem IvI_fr (h : IvI I p t) (e0 : I' 0 6 = I 0 6) (e1 : I' 46 28 = I 46 28) (e2 : I' 31 = I 31) (e3 : I' 46 29 = I 46 29) (e4 : I' 46 30 = I 46 30) (e5 : I' 32 = I 32) (e6 : I' 62 = I 62) (e7 : I' 33 = I 33) (e8 : I' 63 = I 63) : IvI I' p t := by
  unfold IvI at *
  rw [e0, e1, e2, e3, e4, e5, e6, e7, e8]
  exact h
theorem IvI_mono {p' t' : Nat} (h : IvI I p t) (hp : p ≤ p') (ht : t ≤ t') : IvI I p' t' := by
  rcases h with h | ⟨h1, h2, kp, kf, h3, h4, h5⟩
  · exact Or.inl h
  · exact Or.inr ⟨h1, h2, kp, kf, by omega, by omega, h5⟩
theorem IvS_fr (h : IvS I) (e0 : ∀ a, 34 ≤ a → a ≤ 41 → I' a = I a) (e1 : I' 64 = I 64) (e2 : I' 65 = I 65) (e3 : I' 66 = I 66) : IvS I' := by
  intro q hq
  rw [e0 (34 + 2 * q) (by omega) (by omega), e0 (35 + 2 * q) (by omega) (by omega), e1, e2, e3]
  exact h q hq
theorem PtR_fr {k w r : Nat} (h : PtR I S k w r) (e1 : I' r = I r) (e2 : I' 52 = I 52) (e3 : I' 53 = I 53) (e4 : I' 54 = I 54) : PtR I' S k w r := by
  unfold PtR at *
  rw [e1, e2, e3, e4]
  exact h
theorem IvT_fr (h : IvT I A S n t) (e1 : I' 5 1 = I 5 1) (e2 : I' 46 9 = I 46 9) (e3 : I' 2 3 = I 2 3) (e4 : I' 46 10 = I 46 10) (e5 : ∀ r, ((42 ≤ r ∧ r < 46) ∨ 68 ≤ r) → I' r = I r) (e6 : I' 52 = I 52) (e7 : I' 53 = I 53) (e8 : I' 54 = I 54) : IvT I' A S n t := by
  obtain ⟨h1, h2, h3, h4, ⟨f, h5, h6, h7⟩, h8⟩ := h
  refine ⟨h1, h2, by rw [e1]; exact h3, by rw [e2]; exact h4, ⟨f, h5, by rw [e3]; exact h6, by rw [e4]; exact h7⟩, fun k hk => ?_⟩
  obtain ⟨a, g1, g2, g3, g4⟩ := h8 k hk
  refine ⟨a, g1, g2, g3, fun w hw => ?_⟩
  obtain ⟨r, k1, k2, k3, k4, k5⟩ := g4 w hw
  exact ⟨r, k1, k2, k3, k4, PtR_fr k5 (e5 r k2.2) e6 e7 e8⟩
end FR
