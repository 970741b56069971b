section EV
variable {Ω : AO} {d : Nat} {L st : List Value} {h : AH} {Q : Option Value → AH → Prop} {I I' I'' : Nat → Nat → Int32} {J J' : Nat → Nat → Int64} {A A' : Nat → Nat → Option Nat} {S : Nat → Nat × Nat} {n z z' : Nat} {x y a b : Int32}
/-- all but the scratch cells is as it was -/
def EA (I I' : Nat → Nat → Int32) : Prop := ∀ a, a ≠ 7 → a ≠ 8 → a ≠ 16 → a ≠ 21 → a ≠ 22 → a ≠ 23 → a ≠ 55 → a ≠ 56 → a ≠ 61 → I' a = I a
theorem EA_refl : EA I I := fun _ _ _ _ _ _ _ _ _ _ => rfl
theorem EA_tr (h : EA I I') (g : EA I' I'') : EA I I'' := fun a h1 h2 h3 h4 h5 h6 h7 h8 h9 => (g a h1 h2 h3 h4 h5 h6 h7 h8 h9).trans (h a h1 h2 h3 h4 h5 h6 h7 h8 h9)
theorem EA_KC (h : EA I I') (g : KC I' I'') : EA I I'' := fun a h1 h2 h3 h4 h5 h6 h7 h8 h9 => (g a h1 h2).trans (h a h1 h2 h3 h4 h5 h6 h7 h8 h9)
theorem EA_KM (h : EA I I') (g : KM I' I'') : EA I I'' := fun a h1 h2 h3 h4 h5 h6 h7 h8 h9 => (g a h7 h8).trans (h a h1 h2 h3 h4 h5 h6 h7 h8 h9)
theorem EA_at (h : EA I I') {c : Nat} (hc : (c = 7 ∨ c = 8 ∨ c = 16 ∨ c = 21 ∨ c = 22 ∨ c = 23 ∨ c = 55 ∨ c = 56 ∨ c = 61) → False) : I' c = I c :=
  h c (fun e => hc (by omega)) (fun e => hc (by omega)) (fun e => hc (by omega)) (fun e => hc (by omega)) (fun e => hc (by omega)) (fun e => hc (by omega)) (fun e => hc (by omega)) (fun e => hc (by omega)) (fun e => hc (by omega))
theorem IvT_EA {t : Nat} (iT : IvT I A S n t) (h : EA I I') : IvT I' A S n t := by
  refine IvT_fr iT ?_ ?_ ?_ ?_ (fun r hr => EA_at h (by omega)) (EA_at h (by decide)) (EA_at h (by decide)) (EA_at h (by decide))
  · rw [EA_at h (by decide)]
  · rw [EA_at h (by decide)]
  · rw [EA_at h (by decide)]
  · rw [EA_at h (by decide)]
theorem tv_EA {t f w : Nat} {F : Nat → Int32} (iT : IvT I A S n t) (hf : f < t) (hw : w < 3) (h : EA I I') : tv I' A S f w F = tv I A S f w F :=
  tv_KC iT hf hw (fun r hr => EA_at h (by have := hr.2; omega))
def rkC (I : Nat → Nat → Int32) (A : Nat → Nat → Option Nat) (S : Nat → Nat × Nat) (f i q : Nat) : Int32 := rsk (I 49 i) (I 50 i) (tv I A S f 0 (fcN (I 3) (I 4) q))
def rkM (I : Nat → Nat → Int32) (A : Nat → Nat → Option Nat) (S : Nat → Nat × Nat) (f i q : Nat) : Int32 := rsk (I 49 i) (I 50 i) (tv I A S f 0 (fcN (I 47) (I 48) q))
def wtC (I : Nat → Nat → Int32) (A : Nat → Nat → Option Nat) (S : Nat → Nat × Nat) (f i q : Nat) : Int32 := wts (I 49 i) (I 50 i) (tv I A S f 1 (fcN (I 3) (I 4) q)) (I 4 3)
def wtM (I : Nat → Nat → Int32) (A : Nat → Nat → Option Nat) (S : Nat → Nat × Nat) (f i q : Nat) : Int32 := wts (I 49 i) (I 50 i) (tv I A S f 1 (fcN (I 47) (I 48) q)) (I 48 3)
def wrC (I : Nat → Nat → Int32) (A : Nat → Nat → Option Nat) (S : Nat → Nat × Nat) (f : Nat) : Int32 := bnd (tv I A S f 2 (fc0 (I 4))) 9999
def wrM (I : Nat → Nat → Int32) (A : Nat → Nat → Option Nat) (S : Nat → Nat × Nat) (f : Nat) : Int32 := bnd (tv I A S f 2 (fc0 (I 48))) 9999
theorem rk_eq {p f i q : Nat} (iP : IvP I p) (hq : q < p) : rkC I A S f i q = rkM I A S f i q := by
  unfold rkC rkM; rw [fcN_eq iP hq]
theorem wt_eq {p f i q : Nat} (iP : IvP I p) (hq : q < p) : wtC I A S f i q = wtM I A S f i q := by
  unfold wtC wtM; rw [fcN_eq iP hq, (iP.2.2.2.2 3 (by decide)).1]
theorem wr_eqP {p f : Nat} (iP : IvP I p) : wrC I A S f = wrM I A S f := by
  unfold wrC wrM; rw [fc0_eq iP]
theorem bnd_rng {v : Int32} {g : Nat} (hg : g < 2147483648) : ∃ u, u ≤ g ∧ bnd v (nI g) = nI u := by
  unfold bnd
  split
  · next h =>
    split
    · next h2 =>
      obtain ⟨u, hu, e⟩ := w10 (N := g) hg h h2
      exact ⟨u, hu, e⟩
    · exact ⟨g, Nat.le_refl _, rfl⟩
  · exact ⟨0, Nat.zero_le _, rfl⟩
theorem rsk_rng (k e v : Int32) : ∃ u, u ≤ 100 ∧ rsk k e v = nI u := by
  unfold rsk
  split
  · exact ⟨0, by decide, rfl⟩
  split
  · exact ⟨2, by decide, rfl⟩
  exact bnd_rng (g := 100) (by decide)
theorem wts_rng (k e v : Int32) {g : Nat} (hg : g < 2147483648) : ∃ u, u ≤ g ∧ wts k e v (nI g) = nI u := by
  unfold wts
  split
  · exact bnd_rng hg
  split
  · exact bnd_rng hg
  · exact bnd_rng hg
theorem IvD_at {m i : Nat} (iD : IvD I A S n m) (hi : i < m) : ∃ a k e, A 9 i = some a ∧ 68 ≤ a ∧ a < n ∧ (S a).1 = 1 ∧ k ≤ 5 ∧ e ≤ 9 ∧ I a 0 = nI k ∧ I a 1 = nI e ∧ I 49 i = nI k ∧ I 50 i = nI e ∧ i < 8 := by
  obtain ⟨d1, d2, d3, d4⟩ := iD
  obtain ⟨a, k, e, g1, g2, g3, g4, g5, g6, g7, g8, g9, g10⟩ := d4 i hi
  exact ⟨a, k, e, g1, g2, g3, g4, g5, g6, g7, g8, g9, g10, by omega⟩
theorem riskK (hL : LC A S n) {t m f q i : Nat} (iT : IvT I A S n t) (iD : IvD I A S n m) (hr : I 2 3 = nI f) (hf : f < t) (hq : q < 12) (hi : i < m) (hE : EA I I') (hQ : ∀ I'', KC I' I'' → Q (some (.int (rkC I A S f i q))) (I'', J, A, S, n, z)) : T Ω (d + 3) 17 0 [.ref 1, .int (nI i), .int (nI q)] [] (I', J, A, S, n, z) Q := by
  obtain ⟨a, k, e, g1, g2, g3, g4, g5, g6, g7, g8, g9, g10, g11⟩ := IvD_at iD hi
  have ea : I' a = I a := EA_at hE (by omega)
  refine riskAt hL (IvT_EA iT hE) (by rw [EA_at hE (by decide)]; exact hr) hf hq g11 g1 g2 g3 g4 (k := k) (by rw [ea]; exact g7) g5 (fun I'' hK => ?_)
  have := hQ I'' hK
  unfold rkC at this
  rw [ea, g8, tv_EA iT hf (by decide) hE, EA_at hE (by decide), EA_at hE (by decide)]
  rw [g9, g10] at this
  exact this
theorem wetsK (hL : LC A S n) {t m f q i lo : Nat} (iT : IvT I A S n t) (iD : IvD I A S n m) (hr : I 2 3 = nI f) (hf : f < t) (hq : q < 12) (hi : i < m) (hlo : I 4 3 = nI lo) (hl9 : lo ≤ 99) (hE : EA I I') (hQ : ∀ I'', KC I' I'' → Q (some (.int (wtC I A S f i q))) (I'', J, A, S, n, z)) : T Ω (d + 3) 19 0 [.ref 1, .int (nI i), .int (nI q)] [] (I', J, A, S, n, z) Q := by
  obtain ⟨a, k, e, g1, g2, g3, g4, g5, g6, g7, g8, g9, g10, g11⟩ := IvD_at iD hi
  have ea : I' a = I a := EA_at hE (by omega)
  have e4 : I' 4 = I 4 := EA_at hE (by decide)
  refine wetsAt hL (IvT_EA iT hE) (by rw [EA_at hE (by decide)]; exact hr) hf hq g11 g1 g2 g3 g4 (k := k) (by rw [ea]; exact g7) g5 (by rw [e4, hlo]; exact nI_pos' (by omega)) (fun I'' hK => ?_)
  have := hQ I'' hK
  unfold wtC at this
  rw [ea, g8, tv_EA iT hf (by decide) hE, e4, EA_at hE (by decide)]
  rw [g9, g10] at this
  exact this
theorem runRiskK (hL : LC A S n) {t f q : Nat} (iT : IvT I A S n t) (hr : I 2 3 = nI f) (hf : f < t) (hq : q < 12) (hE : EA I I') (hQ : ∀ I'', KC I' I'' → Q (some (.int (tv I A S f 0 (fcN (I 3) (I 4) q)))) (I'', J, A, S, n, z)) : T Ω (d + 2) 18 0 [.ref 1, .int (nI q)] [] (I', J, A, S, n, z) Q := by
  refine runRisk hL (IvT_EA iT hE) (by rw [EA_at hE (by decide)]; exact hr) hf hq (fun I'' hK => ?_)
  rw [tv_EA iT hf (by decide) hE, EA_at hE (by decide), EA_at hE (by decide)]
  exact hQ I'' hK
theorem runWetsK (hL : LC A S n) {t f q : Nat} (iT : IvT I A S n t) (hr : I 2 3 = nI f) (hf : f < t) (hq : q < 12) (hE : EA I I') (hQ : ∀ I'', KC I' I'' → Q (some (.int (tv I A S f 1 (fcN (I 3) (I 4) q)))) (I'', J, A, S, n, z)) : T Ω (d + 2) 20 0 [.ref 1, .int (nI q)] [] (I', J, A, S, n, z) Q := by
  refine runWets hL (IvT_EA iT hE) (by rw [EA_at hE (by decide)]; exact hr) hf hq (fun I'' hK => ?_)
  rw [tv_EA iT hf (by decide) hE, EA_at hE (by decide), EA_at hE (by decide)]
  exact hQ I'' hK
theorem worthK (hL : LC A S n) {t f : Nat} (iT : IvT I A S n t) (hr : I 2 3 = nI f) (hf : f < t) (hE : EA I I') (hQ : ∀ I'', KC I' I'' → Q (some (.int (wrC I A S f))) (I'', J, A, S, n, z)) : T Ω (d + 2) 22 0 [.ref 1] [] (I', J, A, S, n, z) Q := by
  refine boatsWorth hL (IvT_EA iT hE) (by rw [EA_at hE (by decide)]; exact hr) hf (fun I'' hK => ?_)
  rw [tv_EA iT hf (by decide) hE, EA_at hE (by decide)]
  exact hQ I'' hK
theorem MxF_EA {f w : Nat} {F : Nat → Int32} {v : Int32} (h : MxF I f w F v) (hE : EA I I') : MxF I' f w F v := MxF_KM h (EA_at hE (by decide)) (EA_at hE (by decide)) (EA_at hE (by decide))
theorem mRiskK (hL : LM A S n) {t m f q i : Nat} (iT : IvT I A S n t) (iD : IvD I A S n m) (hr : I 46 10 = nI f) (hf : f < t) (hq : q < 12) (hi : i < m) (hE : EA I I') (hQ : ∀ I'', KM I' I'' → Q (some (.int (rkM I A S f i q))) (I'', J, A, S, n, z)) : T Ω (d + 2) 147 0 [.ref 46, .int (nI i), .int (nI q), jk] [] (I', J, A, S, n, z) Q := by
  obtain ⟨a, k, e, g1, g2, g3, g4, g5, g6, g7, g8, g9, g10, g11⟩ := IvD_at iD hi
  obtain ⟨_, _, _, _, _, _, _, _, _, _, _, mx⟩ := IvT_tv iT hf (w := 0) (by decide) (fcN (I 47) (I 48) q)
  have := iT.2.1
  refine M_riskOf hL (f := f) (k := k) (by rw [EA_at hE (by decide)]; exact hr) (by omega) g11 (by rw [EA_at hE (by decide)]; exact g9) g5 hq (v := tv I A S f 0 (fcN (I 47) (I 48) q)) (by rw [EA_at hE (c := 47) (by decide), EA_at hE (c := 48) (by decide)]; exact MxF_EA mx hE) (fun I'' hM => ?_)
  have h2 := hQ I'' hM
  unfold rkM at h2
  rw [EA_at hE (c := 50) (by decide)]
  rw [g9] at h2
  exact h2
theorem mWetsK (hL : LM A S n) {t m f q i : Nat} (iT : IvT I A S n t) (iD : IvD I A S n m) (hr : I 46 10 = nI f) (hf : f < t) (hq : q < 12) (hi : i < m) (hE : EA I I') (hQ : ∀ I'', KM I' I'' → Q (some (.int (wtM I A S f i q))) (I'', J, A, S, n, z)) : T Ω (d + 2) 152 0 [.ref 46, .int (nI i), .int (nI q), jk, jk] [] (I', J, A, S, n, z) Q := by
  obtain ⟨a, k, e, g1, g2, g3, g4, g5, g6, g7, g8, g9, g10, g11⟩ := IvD_at iD hi
  obtain ⟨_, _, _, _, _, _, _, _, _, _, _, mx⟩ := IvT_tv iT hf (w := 1) (by decide) (fcN (I 47) (I 48) q)
  have := iT.2.1
  refine M_wetsOf hL (f := f) (k := k) (by rw [EA_at hE (by decide)]; exact hr) (by omega) g11 (by rw [EA_at hE (by decide)]; exact g9) g5 hq (v := tv I A S f 1 (fcN (I 47) (I 48) q)) (by rw [EA_at hE (c := 47) (by decide), EA_at hE (c := 48) (by decide)]; exact MxF_EA mx hE) (fun I'' hM => ?_)
  have h2 := hQ I'' hM
  unfold wtM at h2
  rw [EA_at hE (c := 50) (by decide), EA_at hE (c := 48) (by decide)]
  rw [g9] at h2
  exact h2
theorem mWorthK (hL : LM A S n) {t f : Nat} (iT : IvT I A S n t) (hr : I 46 10 = nI f) (hf : f < t) (hE : EA I I') (hQ : ∀ I'', KM I' I'' → Q (some (.int (wrM I A S f))) (I'', J, A, S, n, z)) : T Ω (d + 2) 155 0 [.ref 46] [] (I', J, A, S, n, z) Q := by
  obtain ⟨_, _, _, _, _, _, _, _, _, _, _, mx⟩ := IvT_tv iT hf (w := 2) (by decide) (fc0 (I 48))
  have := iT.2.1
  exact M_worthNow hL (f := f) (by rw [EA_at hE (by decide)]; exact hr) (by omega) (by rw [EA_at hE (c := 48) (by decide)]; exact MxF_EA mx hE) (fun I'' hM => hQ I'' hM)
/-- the half days of a doing; whether it may -/
def tkN (I : Nat → Nat → Int32) (i : Nat) : Nat := tk (I 49 i).toNatClampNeg (I 50 i).toNatClampNeg
def myC (I : Nat → Nat → Int32) (i q : Nat) : Int32 := mayB (I 49 i).toNatClampNeg (I 3 (4 * q + 1)) (I 3 (4 * q + 2)) (I 4 0)
def myM (I : Nat → Nat → Int32) (i q : Nat) : Int32 := mayB (I 49 i).toNatClampNeg (I 47 (4 * q + 1)) (I 47 (4 * q + 2)) (I 48 0)
theorem my_eq {p i q : Nat} (iP : IvP I p) (hq : q < p) : myC I i q = myM I i q := mayB_eq iP hq
theorem my_01 {i q : Nat} : myM I i q = 0 ∨ myM I i q = 1 := by
  unfold myM mayB; split
  · exact Or.inr rfl
  · exact Or.inl rfl
theorem my_01C {i q : Nat} : myC I i q = 0 ∨ myC I i q = 1 := by
  unfold myC mayB; split
  · exact Or.inr rfl
  · exact Or.inl rfl
theorem tkN_le {m i : Nat} (iD : IvD I A S n m) (hi : i < m) : tkN I i ≤ 4 := by
  obtain ⟨a, k, e, g1, g2, g3, g4, g5, g6, g7, g8, g9, g10, g11⟩ := IvD_at iD hi
  unfold tkN
  rw [g9, g10, nI_cl (by omega), nI_cl (by omega)]
  exact tk_le g6
theorem halfK {m i a : Nat} (iD : IvD I A S n m) (hi : i < m) (ha : A 9 i = some a) (hE : EA I I') : T Ω d 4 0 [.ref a] [] (I', J, A, S, n, z) Q = Q (some (.int (nI (tkN I i)))) (I', J, A, S, n, z) := by
  obtain ⟨a', k, e, g1, g2, g3, g4, g5, g6, g7, g8, g9, g10, g11⟩ := IvD_at iD hi
  obtain rfl : a' = a := Option.some.inj (g1.symm.trans ha)
  have ea : I' a' = I a' := EA_at hE (by omega)
  rw [halfDays g3 g4 (by rw [ea]; exact g7) g5 (by rw [ea]; exact g8) g6]
  unfold tkN
  rw [g9, g10, nI_cl (by omega), nI_cl (by omega)]
theorem mTkK (hL : LM A S n) {m i : Nat} (iD : IvD I A S n m) (hi : i < m) (hE : EA I I') : T Ω d 146 0 [.ref 46, .int (nI i)] [] (I', J, A, S, n, z) Q = Q (some (.int (nI (tkN I i)))) (I', J, A, S, n, z) := by
  obtain ⟨a', k, e, g1, g2, g3, g4, g5, g6, g7, g8, g9, g10, g11⟩ := IvD_at iD hi
  rw [M_tk hL g11 (k := k) (e := e) (by rw [EA_at hE (by decide)]; exact g9) (by rw [EA_at hE (by decide)]; exact g10) g5 g6]
  unfold tkN
  rw [g9, g10, nI_cl (by omega), nI_cl (by omega)]
theorem mayK (hL : LC A S n) {m q i : Nat} (iD : IvD I A S n m) (hi : i < m) (hq : q < 12) (hE : EA I I') : T Ω (d + 1) 21 0 [.ref 1, .int (nI i), .int (nI q)] [] (I', J, A, S, n, z) Q = Q (some (.int (myC I i q))) (I', J, A, S, n, z) := by
  obtain ⟨a, k, e, g1, g2, g3, g4, g5, g6, g7, g8, g9, g10, g11⟩ := IvD_at iD hi
  have ea : I' a = I a := EA_at hE (by omega)
  rw [mayAt hL hq g11 g1 g3 g4 (by rw [ea]; exact g7) g5, EA_at hE (c := 3) (by decide), EA_at hE (c := 4) (by decide)]
  unfold myC
  rw [g9, nI_cl (by omega)]
theorem mMayK (hL : LM A S n) {m q i : Nat} (iD : IvD I A S n m) (hi : i < m) (hq : q < 12) (hE : EA I I') : T Ω d 153 0 [.ref 46, .int (nI i), .int (nI q)] [] (I', J, A, S, n, z) Q = Q (some (.int (myM I i q))) (I', J, A, S, n, z) := by
  obtain ⟨a, k, e, g1, g2, g3, g4, g5, g6, g7, g8, g9, g10, g11⟩ := IvD_at iD hi
  rw [M_mayB hL g11 (k := k) (by rw [EA_at hE (by decide)]; exact g9) g5 hq, EA_at hE (c := 47) (by decide), EA_at hE (c := 48) (by decide)]
  unfold myM
  rw [g9, nI_cl (by omega)]
end EV
