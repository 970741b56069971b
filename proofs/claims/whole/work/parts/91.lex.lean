section LX
/-- the tokens of a tape t of s bytes -/
def isL (b : Nat) : Bool := Nat.ble 97 b && Nat.ble b 122
def isG (b : Nat) : Bool := Nat.ble 48 b && Nat.ble b 57
def isBl (b : Nat) : Bool := b == 32 || b == 10
def isSg (b : Nat) : Bool := b == 40 || b == 41 || b == 59 || b == 43 || b == 45 || b == 42 || b == 60 || b == 61
def ct (t : Nat → Nat) (i : Nat) : Bool := !(i == 0) && ((isL (t i) && isL (t (i - 1))) || (isG (t i) && isG (t (i - 1))))
def erk (t : Nat → Nat) : Nat → Nat → Nat
  | 0, i => i
  | k + 1, i => if ct t i = true then erk t k (i + 1) else i
def eR (t : Nat → Nat) (s i : Nat) : Nat := erk t (s - (i + 1)) (i + 1)
def nxk (t : Nat → Nat) : Nat → Nat → Nat
  | 0, i => i
  | k + 1, i => if isBl (t i) = true then nxk t k (i + 1) else i
def nX (t : Nat → Nat) (s i : Nat) : Nat := nxk t (s - i) i
def bdy (t : Nat → Nat) (s : Nat) : Nat → Nat
  | 0 => 0
  | a + 1 => if nX t s (bdy t s a) < s then eR t s (nX t s (bdy t s a)) else s
def stt (t : Nat → Nat) (s a : Nat) : Nat := nX t s (bdy t s a)
def wdl : List (List Nat) := [[102, 97, 108, 108], [114, 111, 99, 107, 115], [119, 97, 116, 101, 114], [100, 101, 101, 112], [108, 111, 111, 107, 101, 100], [108, 111, 97, 100], [114, 105, 115, 107], [119, 101, 116], [119, 111, 114, 116, 104], [111, 114], [97, 110, 100], [110, 111, 116]]
def mF (t : Nat → Nat) (i : Nat) (w : List Nat) : Nat → Nat → Bool
  | 0, _ => true
  | k + 1, q => t q == w.getD (q - i) 0 && mF t i w k (q + 1)
def mW (t : Nat → Nat) (i e w : Nat) : Bool := e - i == (wdl.getD w []).length && mF t i (wdl.getD w []) (e - i) i
def wIx (t : Nat → Nat) (i e : Nat) : Nat := if mW t i e 0 = true then 0 else if mW t i e 1 = true then 1 else if mW t i e 2 = true then 2 else if mW t i e 3 = true then 3 else if mW t i e 4 = true then 4 else if mW t i e 5 = true then 5 else if mW t i e 6 = true then 6 else if mW t i e 7 = true then 7 else if mW t i e 8 = true then 8 else if mW t i e 9 = true then 9 else if mW t i e 10 = true then 10 else if mW t i e 11 = true then 11 else 12
def nmk (t : Nat → Nat) : Nat → Nat → Nat → Nat
  | 0, _, u => u
  | k + 1, q, u => nmk t k (q + 1) (u * 10 + (t q - 48))
def kD (t : Nat → Nat) (i e : Nat) : Nat := if isL (t i) = true then (if wIx t i e < 6 then 3 else if wIx t i e < 12 then wIx t i e - 1 else 4) else if isG (t i) = true then (if e - i ≤ 4 then 2 else 4) else if isSg (t i) = true then t i else 4
def vL (t : Nat → Nat) (i e : Nat) : Nat := if isL (t i) = true then wIx t i e else if isG (t i) = true then nmk t (e - i) i 0 else 0
def tK (t : Nat → Nat) (s a : Nat) : Nat := if stt t s a < s then kD t (stt t s a) (bdy t s (a + 1)) else 1
def tV (t : Nat → Nat) (s a : Nat) : Nat := vL t (stt t s a) (bdy t s (a + 1))
variable {t : Nat → Nat} {s i : Nat}
theorem isL_iff {b : Nat} : isL b = true ↔ 97 ≤ b ∧ b ≤ 122 := by simp [isL]
theorem isG_iff {b : Nat} : isG b = true ↔ 48 ≤ b ∧ b ≤ 57 := by simp [isG]
theorem isBl_iff {b : Nat} : isBl b = true ↔ b = 32 ∨ b = 10 := by simp [isBl]
theorem ct_iff : ct t i = true ↔ i ≠ 0 ∧ ((isL (t i) = true ∧ isL (t (i - 1)) = true) ∨ (isG (t i) = true ∧ isG (t (i - 1)) = true)) := by simp [ct]
theorem nxk_sp : ∀ (k i : Nat), i ≤ nxk t k i ∧ nxk t k i ≤ i + k ∧ (∀ j, i ≤ j → j < nxk t k i → isBl (t j) = true) ∧ (nxk t k i < i + k → ¬ isBl (t (nxk t k i)) = true) := by
  intro k
  induction k with
  | zero => intro i; exact ⟨Nat.le_refl _, Nat.le_refl _, fun j h1 h2 => absurd (Nat.lt_of_le_of_lt h1 h2) (Nat.lt_irrefl _), fun h => absurd h (Nat.lt_irrefl _)⟩
  | succ k ih =>
    intro i
    rw [nxk]
    by_cases h : isBl (t i) = true
    · rw [if_pos h]
      obtain ⟨h1, h2, h3, h4⟩ := ih (i + 1)
      refine ⟨by omega, by omega, fun j q1 q2 => ?_, fun q => h4 (by omega)⟩
      by_cases hj : j = i
      · subst hj; exact h
      · exact h3 j (by omega) q2
    · rw [if_neg h]
      exact ⟨Nat.le_refl _, by omega, fun j h1 h2 => absurd (Nat.lt_of_le_of_lt h1 h2) (Nat.lt_irrefl _), fun _ => h⟩
theorem nX_sp (hi : i ≤ s) : i ≤ nX t s i ∧ nX t s i ≤ s ∧ (∀ j, i ≤ j → j < nX t s i → isBl (t j) = true) ∧ (nX t s i < s → ¬ isBl (t (nX t s i)) = true) := by
  obtain ⟨h1, h2, h3, h4⟩ := nxk_sp (t := t) (s - i) i
  exact ⟨h1, by unfold nX; omega, h3, fun h => h4 (by unfold nX at h; omega)⟩
theorem erk_sp : ∀ (k i : Nat), i ≤ erk t k i ∧ erk t k i ≤ i + k ∧ (∀ j, i ≤ j → j < erk t k i → ct t j = true) ∧ (erk t k i < i + k → ¬ ct t (erk t k i) = true) := by
  intro k
  induction k with
  | zero => intro i; exact ⟨Nat.le_refl _, Nat.le_refl _, fun j h1 h2 => absurd (Nat.lt_of_le_of_lt h1 h2) (Nat.lt_irrefl _), fun h => absurd h (Nat.lt_irrefl _)⟩
  | succ k ih =>
    intro i
    rw [erk]
    by_cases h : ct t i = true
    · rw [if_pos h]
      obtain ⟨h1, h2, h3, h4⟩ := ih (i + 1)
      refine ⟨by omega, by omega, fun j q1 q2 => ?_, fun q => h4 (by omega)⟩
      by_cases hj : j = i
      · subst hj; exact h
      · exact h3 j (by omega) q2
    · rw [if_neg h]
      exact ⟨Nat.le_refl _, by omega, fun j h1 h2 => absurd (Nat.lt_of_le_of_lt h1 h2) (Nat.lt_irrefl _), fun _ => h⟩
theorem eR_sp (hi : i < s) : i + 1 ≤ eR t s i ∧ eR t s i ≤ s ∧ (∀ j, i + 1 ≤ j → j < eR t s i → ct t j = true) ∧ (eR t s i < s → ¬ ct t (eR t s i) = true) := by
  obtain ⟨h1, h2, h3, h4⟩ := erk_sp (t := t) (s - (i + 1)) (i + 1)
  exact ⟨h1, by unfold eR; omega, h3, fun h => h4 (by unfold eR at h; omega)⟩
theorem bdy_sp : ∀ a, bdy t s a ≤ s ∧ (bdy t s a < s → ¬ ct t (bdy t s a) = true) := by
  intro a
  cases a with
  | zero => exact ⟨Nat.zero_le _, fun _ => by show ¬ ct t 0 = true; rw [ct_iff]; exact fun h => h.1 rfl⟩
  | succ a =>
    rw [bdy]
    split
    · next h =>
      obtain ⟨_, h2, _, h4⟩ := eR_sp (t := t) h
      exact ⟨h2, h4⟩
    · exact ⟨Nat.le_refl _, fun h => absurd h (Nat.lt_irrefl _)⟩
theorem stt_sp (a : Nat) : bdy t s a ≤ stt t s a ∧ stt t s a ≤ s ∧ (∀ j, bdy t s a ≤ j → j < stt t s a → isBl (t j) = true) ∧ (stt t s a < s → ¬ isBl (t (stt t s a)) = true ∧ ¬ ct t (stt t s a) = true) := by
  obtain ⟨b1, b2⟩ := bdy_sp (t := t) (s := s) a
  obtain ⟨h1, h2, h3, h4⟩ := nX_sp (t := t) b1
  refine ⟨h1, h2, h3, fun h => ⟨h4 h, ?_⟩⟩
  by_cases he : stt t s a = bdy t s a
  · rw [he]; exact b2 (by rw [← he]; exact h)
  · have hb := h3 (stt t s a - 1) (by unfold stt at *; omega) (by unfold stt at *; omega)
    rw [ct_iff]
    rintro ⟨_, ⟨_, g⟩ | ⟨_, g⟩⟩
    · rw [isBl_iff] at hb; rw [isL_iff] at g; omega
    · rw [isBl_iff] at hb; rw [isG_iff] at g; omega
theorem bdy_s {a : Nat} (h : stt t s a < s) : bdy t s (a + 1) = eR t s (stt t s a) := by
  rw [bdy]; exact if_pos h
theorem bdy_e {a : Nat} (h : ¬ stt t s a < s) : bdy t s (a + 1) = s := by
  rw [bdy]; exact if_neg h
/-- a run is of one sort -/
theorem run_L (hi : i < s) (h : isL (t i) = true) : ∀ j, i ≤ j → j < eR t s i → isL (t j) = true := by
  obtain ⟨_, _, h3, _⟩ := eR_sp (t := t) hi
  intro j
  induction j with
  | zero => intro h1 _; obtain rfl : i = 0 := by omega
            exact h
  | succ j ih =>
    intro h1 h2
    by_cases hj : j + 1 = i
    · rw [hj]; exact h
    · have := ih (by omega) (by omega)
      have hc := h3 (j + 1) (by omega) h2
      rw [ct_iff, Nat.add_sub_cancel] at hc
      rcases hc.2 with g | g
      · exact g.1
      · rw [isL_iff] at this; have := isG_iff.mp g.2; omega
theorem run_G (hi : i < s) (h : isG (t i) = true) : ∀ j, i ≤ j → j < eR t s i → isG (t j) = true := by
  obtain ⟨_, _, h3, _⟩ := eR_sp (t := t) hi
  intro j
  induction j with
  | zero => intro h1 _; obtain rfl : i = 0 := by omega
            exact h
  | succ j ih =>
    intro h1 h2
    by_cases hj : j + 1 = i
    · rw [hj]; exact h
    · have := ih (by omega) (by omega)
      have hc := h3 (j + 1) (by omega) h2
      rw [ct_iff, Nat.add_sub_cancel] at hc
      rcases hc.2 with g | g
      · rw [isG_iff] at this; have := isL_iff.mp g.2; omega
      · exact g.1
theorem nmk_le : ∀ (k q u : Nat), (∀ j, q ≤ j → j < q + k → t j ≤ 57) → nmk t k q u + 1 ≤ (u + 1) * 10 ^ k := by
  intro k
  induction k with
  | zero => intro q u _; rw [nmk]; omega
  | succ k ih =>
    intro q u hj
    rw [nmk]
    have h1 := ih (q + 1) (u * 10 + (t q - 48)) (fun j h1 h2 => hj j (by omega) (by omega))
    have h2 := hj q (Nat.le_refl _) (by omega)
    have h3 : (u * 10 + (t q - 48) + 1) * 10 ^ k ≤ ((u + 1) * 10) * 10 ^ k := Nat.mul_le_mul_right _ (by omega)
    rw [Nat.pow_succ, Nat.mul_comm (10 ^ k) 10, ← Nat.mul_assoc]
    exact Nat.le_trans h1 h3
theorem wIx_le (e : Nat) : wIx t i e ≤ 12 := by unfold wIx; (repeat' split) <;> omega
theorem kD_lt {e : Nat} (hb : t i < 256) : kD t i e < 256 ∧ kD t i e ≠ 1 := by
  have h1 := wIx_le (t := t) (i := i) e
  unfold kD
  split
  · split
    · omega
    · split <;> omega
  · split
    · split <;> omega
    · split
      · next h => simp [isSg] at h; omega
      · omega
theorem kD_2 {e : Nat} (h : kD t i e = 2) : isL (t i) = false ∧ isG (t i) = true ∧ e - i ≤ 4 := by
  have h1 := wIx_le (t := t) (i := i) e
  unfold kD at h
  split at h
  · split at h
    · omega
    · split at h <;> omega
  · next hl =>
    split at h
    · next hg =>
      split at h
      · next he => exact ⟨by simpa using hl, hg, he⟩
      · omega
    · split at h
      · next h2 => simp [isSg] at h2; omega
      · omega
theorem kD_3 {e : Nat} (h : kD t i e = 3) : isL (t i) = true ∧ wIx t i e < 6 := by
  have h1 := wIx_le (t := t) (i := i) e
  unfold kD at h
  split at h
  · next hl =>
    split at h
    · next h6 => exact ⟨hl, h6⟩
    · split at h <;> omega
  · split at h
    · split at h <;> omega
    · split at h
      · next h2 => simp [isSg] at h2; omega
      · omega
/-- a tape's tokens can be read -/
theorem TP_t {N : Nat} (hN : ¬ stt t s N < s) : TP (tK t s) (tV t s) N := by
  refine ⟨if_neg hN, fun a h => ?_, fun a h => ?_⟩
  · unfold tK at h
    split at h
    · next hs =>
      obtain ⟨h1, h2, h3⟩ := kD_2 h
      have hn := nmk_le (t := t) (bdy t s (a + 1) - stt t s a) (stt t s a) 0 (fun j q1 q2 => by
        rw [bdy_s hs] at q2
        have := isG_iff.mp (run_G hs h2 j q1 (by have := (eR_sp (t := t) hs).1; omega))
        omega)
      unfold tV vL
      rw [if_neg (by rw [h1]; simp), if_pos h2]
      have : 10 ^ (bdy t s (a + 1) - stt t s a) ≤ 10 ^ 4 := Nat.pow_le_pow_right (by decide) h3
      omega
    · omega
  · unfold tK at h
    split at h
    · obtain ⟨h1, h2⟩ := kD_3 h
      unfold tV vL
      rw [if_pos h1]
      exact h2
    · omega
/-- how many tokens there are -/
theorem stt_up {a : Nat} (h : stt t s a < s) : stt t s a < stt t s (a + 1) := by
  have h1 := (eR_sp (t := t) h).1
  have h2 := (stt_sp (t := t) (s := s) (a + 1)).1
  rw [bdy_s h] at h2
  omega
theorem tok_N : ∃ N, N ≤ s ∧ ¬ stt t s N < s ∧ ∀ a, a < N → stt t s a < s := by
  obtain ⟨N, h1, h2⟩ := pk_least (fun N => ¬ stt t s N < s) (by
    have key : ∀ a, a ≤ stt t s a ∨ ∃ b, ¬ stt t s b < s := by
      intro a
      induction a with
      | zero => exact Or.inl (Nat.zero_le _)
      | succ a ih =>
        rcases ih with ih | ih
        · by_cases h : stt t s a < s
          · have := stt_up h
            exact Or.inl (by omega)
          · exact Or.inr ⟨a, h⟩
        · exact Or.inr ih
    rcases key s with h | h
    · exact ⟨s, by omega⟩
    · exact h)
  refine ⟨N, ?_, h1, fun a ha => Classical.not_not.mp (h2 a ha)⟩
  have key : ∀ a, a ≤ N → a ≤ stt t s a := by
    intro a
    induction a with
    | zero => intro _; exact Nat.zero_le _
    | succ a ih =>
      intro h
      have := stt_up (Classical.not_not.mp (h2 a (by omega)))
      have := ih (by omega)
      omega
  have := key N (Nat.le_refl _)
  have := (stt_sp (t := t) (s := s) N).2.1
  omega
end LX
