theorem ald_some {kd : Nat} {Ω : AO} {ty : FieldType} {rd : Nat → Nat → Value} {st : List Value} {h : AH} {k : Value → List Value → Nx} {z : Nat × List Value × List Value × AH} (e : ald kd Ω ty rd st h k = some z) :
    (∃ i a r, st = .int i :: .ref a :: r ∧ a < hn h ∧ (hSh h a).1 = kd ∧ vp_in i (hSh h a).2 ∧ k (rd a i.toNatClampNeg) r = some z) ∨ (∃ i j r N f, st = .int i :: .retAddr j :: r ∧ xA Ω j = some (ty, N, f) ∧ vp_in i N ∧ k (f i.toNatClampNeg) r = some z) := by
  unfold ald at e
  split at e
  · split at e
    · rename_i ho
      obtain ⟨h1, h2, h3⟩ := own_iff.mp ho
      exact Or.inl ⟨_, _, _, rfl, h1, h2, h3, e⟩
    · cases e
  · split at e
    · split at e
      · rename_i hA ho
        obtain ⟨rfl, h3⟩ := ho
        exact Or.inr ⟨_, _, _, _, _, rfl, hA, inB_iff.mp h3, e⟩
      · cases e
    · cases e
  · cases e
theorem xA_cv {Ω : AO} {j N : Nat} {t : FieldType} {f : Nat → Value} (h : xA Ω j = some (t, N, f)) (b : Nat) (xo : Nat → Option Nat) (k : Nat) : cv b xo (f k) = f k := by
  unfold xA at h
  repeat' split at h
  all_goals first | (cases h; rfl) | (cases h)
theorem cv_x {b : Nat} {xo : Nat → Option Nat} {j q : Nat} (h : xo j = some q) : cv b xo (.retAddr j) = .ref q := by
  show va_rf (xo j) = _
  rw [h]
  rfl
theorem gfd_some {o x : Nat} {st : List Value} {h : AH} {k : Value → List Value → Nx} {z : Nat × List Value × List Value × AH} (e : gfd o x st h k = some z) :
    (∃ a r cc f, st = .ref a :: r ∧ fInf o x = some (cc, f) ∧ a < hn h ∧ (hSh h a).1 = cc ∧ k (if kTy cc f = .int ∨ kTy cc f = .boolean then .int (hI h a f) else va_rf (hA h a f)) r = some z) ∨
    (∃ j r f, st = .retAddr j :: r ∧ xInf o x = some f ∧ 16 ≤ j ∧ j < 30 ∧ (if f = 0 then k (.retAddr (j + 16)) r else k (.int 0) r) = some z) := by
  unfold gfd at e
  split at e
  · split at e
    · split at e
      · rename_i hf hq
        exact Or.inl ⟨_, _, _, _, rfl, hf, hq.1, hq.2, e⟩
      · cases e
    · cases e
  · split at e
    · split at e
      · rename_i hf hq
        exact Or.inr ⟨_, _, _, rfl, hf, hq.1, hq.2, e⟩
      · cases e
    · cases e
  · cases e
theorem pfd_some {o x : Nat} {ini : Bool} {st : List Value} {h : AH} {k : List Value → AH → Nx} {z : Nat × List Value × List Value × AH} (e : pfd o x ini st h k = some z) :
    ∃ v a r cc f, st = v :: .ref a :: r ∧ fInf o x = some (cc, f) ∧ a < hn h ∧ (hSh h a).1 = cc ∧ fitV (kTy cc f) v = true ∧ ((kF cc f).2.2.1 = false ∨ (ini = true ∧ cc = o)) ∧ k r (wrV h a f v) = some z := by
  unfold pfd at e
  split at e
  · split at e
    · split at e
      · rename_i hf hq
        exact ⟨_, _, _, _, _, rfl, hf, hq.1, hq.2.1, hq.2.2.1, hq.2.2.2, e⟩
      · cases e
    · cases e
  · cases e
theorem wrV_n (h : AH) (a f : Nat) (v : Value) : hn (wrV h a f v) = hn h ∧ hz (wrV h a f v) = hz h ∧ hSh (wrV h a f v) = hSh h ∧ hJ (wrV h a f v) = hJ h := by
  cases v <;> exact ⟨rfl, rfl, rfl, rfl⟩
theorem wrV_ne {h : AH} {a f : Nat} {v : Value} {q : Nat} (hq : q ≠ a) : hI (wrV h a f v) q = hI h q ∧ hA (wrV h a f v) q = hA h q := by
  cases v <;> first | exact ⟨rfl, rfl⟩ | exact ⟨wr_ne hq, rfl⟩ | exact ⟨rfl, wr_ne hq⟩
theorem cE_congr {cy : Nat → ClassId} {b : Nat} {h h' : AH} {q : Nat} (e1 : hSh h' q = hSh h q) (e2 : hI h' q = hI h q) (e3 : hJ h' q = hJ h q) (e4 : hA h' q = hA h q) : cE cy b h' q = cE cy b h q := by
  simp only [cE, cFs, e1, e2, e3, e4]
theorem wrV_cE {cy : Nat → ClassId} {b : Nat} {h : AH} {a f : Nat} {v : Value} {q : Nat} (hq : q ≠ a) : cE cy b (wrV h a f v) q = cE cy b h q := by
  obtain ⟨-, -, e1, e2⟩ := wrV_n h a f v
  obtain ⟨e3, e4⟩ := wrV_ne (h := h) (f := f) (v := v) hq
  exact cE_congr (by rw [e1]) e3 (by rw [e2]) e4
theorem wrV_fs {b : Nat} {xo : Nat → Option Nat} {h : AH} {a f cc : Nat} {v : Value} (hf : f < kN cc) (hv : fitV (kTy cc f) v = true) : cFs b (wrV h a f v) cc a = (cFs b h cc a).set f (cv b xo v) := by
  apply List.ext_getElem?
  intro k
  by_cases hk : k < kN cc
  · rw [cFs_get hk]
    by_cases e : f = k
    · subst e
      rw [show ((cFs b h cc a).set f (cv b xo v))[f]? = some (cv b xo v) from List.getElem?_set_self (by simpa [cFs] using hf)]
      cases hT : kTy cc f <;> rw [hT] at hv <;> cases v <;> simp only [fitV, Bool.false_eq_true] at hv <;> simp only [wrV, cv, cO, va_rf, reduceCtorEq, or_false, false_or, or_self, if_true, if_false] <;> first | (show some (Value.int (wr (hI h) a f _ a f)) = _; rw [wr_at]) | (show some (va_rf ((wr (hA h) a f _ a f).map _)) = _; rw [wr_at]; rfl)
    · rw [List.getElem?_set_ne e, cFs_get hk]
      have e' : k ≠ f := fun z => e z.symm
      have g1 : hI (wrV h a f v) a k = hI h a k := by cases v <;> first | rfl | exact wr_at_ne e'
      have g2 : hA (wrV h a f v) a k = hA h a k := by cases v <;> first | rfl | exact wr_at_ne e'
      rw [g1, g2]
  · rw [List.getElem?_eq_none (by simp [cFs]; omega), List.getElem?_eq_none (by simp [cFs]; omega)]
theorem fitV_narrow {b : Nat} {xo : Nat → Option Nat} {t : FieldType} {v : Value} (hv : fitV t v = true) : narrow t (cv b xo v) = cv b xo v ∧ fits t (cv b xo v) = true := by
  cases t <;> cases v <;> simp only [fitV, Bool.false_eq_true, decide_eq_true_eq] at hv <;> first | exact ⟨rfl, rfl⟩ | skip
  rcases hv with rfl | rfl <;> exact ⟨rfl, rfl⟩
section ST
variable {p : Program} {l : Launch} {e : Env} {R : Room} {s : State} {m : MethodId} {args : Array Value} {below : List Frame} {meth : Method} {c : Code} {H : Heap} {locs : List Loc} {Q : State → Prop}
variable {Ω : AO} {b : Nat} {xo : Nat → Option Nat} {D : va_G} {cy : Nat → ClassId} {μ d pc len n0 z0 : Nat} {L st L' st' : List Value} {h h' : AH} {pc' : Nat} {ls : Array Slot}
/-- behind a store: the heap's size is what it was -/
theorem wd_put {a : Nat} {E : va_E} {H1 : Heap} {locs1 : List Loc} {g : JFrame} (hb0 : s.heap.size = b + n0) (hw : wd D cy b h H) (hS : va_S (up b) s.heap H locs) (hn0 : n0 ≤ hn h) (e1 : hn h' = hn h) (e0 : hz h' = hz h) (e2 : ∀ q, q ≠ a → cE cy b h' q = cE cy b h q) (e3 : cE cy b h' a = E)
    (hP : va_P D kCl ((cW cy b h).set a (b + a, E)) H1) (hS1 : va_S (up b) H H1 locs1)
    (kk : ∀ H' locs', wd D cy b h' H' → va_S (up b) s.heap H' locs' → W p l e R s m args below meth c H' locs' (hn h' - n0) (hz h' - z0) Q g) : W p l e R s m args below meth c H1 locs1 (hn h - n0) (hz h - z0) Q g := by
  refine W_sz fun hz1 => ?_
  have h2 := hw.2
  have h3 := hS1.1
  have hz2 : H1.size = b + hn h := by omega
  have k := kk H1 locs1 ⟨by rw [← e3, cW_set e1 e2] at hP; exact hP, by rw [hz2, e1]⟩ (va_S_trans hS hS1)
  rw [e1, e0] at k
  exact k
theorem snd_iald (C : Cx p R s m args meth c Ω b xo D cy μ d n0 z0) (hd : decode (mB μ) pc = .ok (.iaload, 1)) (hs : stp Ω (mO μ) (isIni μ) .iaload 1 pc L st h = some (pc', L', st', h')) (hw : wd D cy b h H) (hS : va_S (up b) s.heap H locs)
    (kk : h' = h → L' = L → W p l e R s m args below meth c H locs (hn h - n0) (hz h - z0) Q (F0 m pc' ls (st'.map (cv b xo)))) : W p l e R s m args below meth c H locs (hn h - n0) (hz h - z0) Q (F0 m pc ls (st.map (cv b xo))) := by
  obtain ⟨hx, hb, hml, hown, hts, hr, hlk, hK, hX, hin, hfr, hlo, hb0⟩ := C
  simp only [stp] at hs
  rcases ald_some hs with ⟨i, a, r, rfl, h1, h2, h3, hs2⟩ | ⟨i, j, r, N, f, rfl, hA, h3, hs2⟩
  · cases hs2
    exact va_iald hx hb hK hw.1 _ 1 (wd_int h1 h2 (Or.inr rfl)) (cyT_at cy (k := 13) (by omega) (by omega)) h3 hd (kk rfl rfl)
  · cases hs2
    obtain ⟨q, q1, q2⟩ := hX.1 _ _ _ _ hA
    have k := kk rfl rfl
    rw [List.map_cons, xA_cv hA] at k
    rw [List.map_cons, List.map_cons, cv_x q1]
    exact va_ti hx hb q2 hS h3 rfl hd k
theorem snd_bald (C : Cx p R s m args meth c Ω b xo D cy μ d n0 z0) (hd : decode (mB μ) pc = .ok (.baload, 1)) (hs : stp Ω (mO μ) (isIni μ) .baload 1 pc L st h = some (pc', L', st', h')) (hw : wd D cy b h H) (hS : va_S (up b) s.heap H locs)
    (kk : h' = h → L' = L → W p l e R s m args below meth c H locs (hn h - n0) (hz h - z0) Q (F0 m pc' ls (st'.map (cv b xo)))) : W p l e R s m args below meth c H locs (hn h - n0) (hz h - z0) Q (F0 m pc ls (st.map (cv b xo))) := by
  obtain ⟨hx, hb, hml, hown, hts, hr, hlk, hK, hX, hin, hfr, hlo, hb0⟩ := C
  simp only [stp] at hs
  rcases ald_some hs with ⟨i, a, r, rfl, h1, h2, h3, hs2⟩ | ⟨i, j, r, N, f, rfl, hA, h3, hs2⟩
  · cases hs2
    exact va_bald hx hb hK hw.1 _ 0 (wd_int h1 h2 (Or.inl rfl)) (cyT_at cy (k := 12) (by omega) (by omega)) h3 hd (kk rfl rfl)
  · cases hs2
    obtain ⟨q, q1, q2⟩ := hX.1 _ _ _ _ hA
    have k := kk rfl rfl
    rw [List.map_cons, xA_cv hA] at k
    rw [List.map_cons, List.map_cons, cv_x q1]
    exact va_tb hx hb q2 hS h3 rfl hd k
theorem snd_lald (C : Cx p R s m args meth c Ω b xo D cy μ d n0 z0) (hd : decode (mB μ) pc = .ok (.laload, 1)) (hs : stp Ω (mO μ) (isIni μ) .laload 1 pc L st h = some (pc', L', st', h')) (hw : wd D cy b h H) (hS : va_S (up b) s.heap H locs)
    (kk : h' = h → L' = L → W p l e R s m args below meth c H locs (hn h - n0) (hz h - z0) Q (F0 m pc' ls (st'.map (cv b xo)))) : W p l e R s m args below meth c H locs (hn h - n0) (hz h - z0) Q (F0 m pc ls (st.map (cv b xo))) := by
  obtain ⟨hx, hb, hml, hown, hts, hr, hlk, hK, hX, hin, hfr, hlo, hb0⟩ := C
  simp only [stp] at hs
  rcases ald_some hs with ⟨i, a, r, rfl, h1, h2, h3, hs2⟩ | ⟨i, j, r, N, f, rfl, hA, h3, hs2⟩
  · cases hs2
    exact va_lald hx hb hK hw.1 _ 2 (wd_long h1 h2) (cyT_at cy (k := 14) (by omega) (by omega)) h3 hd (kk rfl rfl)
  · cases hs2
    obtain ⟨q, q1, q2⟩ := hX.1 _ _ _ _ hA
    have k := kk rfl rfl
    rw [List.map_cons, xA_cv hA] at k
    rw [List.map_cons, List.map_cons, cv_x q1]
    exact va_tl hx hb q2 hS h3 rfl hd k
theorem snd_aald (C : Cx p R s m args meth c Ω b xo D cy μ d n0 z0) (hd : decode (mB μ) pc = .ok (.aaload, 1)) (hs : stp Ω (mO μ) (isIni μ) .aaload 1 pc L st h = some (pc', L', st', h')) (hw : wd D cy b h H) (hS : va_S (up b) s.heap H locs)
    (kk : h' = h → L' = L → W p l e R s m args below meth c H locs (hn h - n0) (hz h - z0) Q (F0 m pc' ls (st'.map (cv b xo)))) : W p l e R s m args below meth c H locs (hn h - n0) (hz h - z0) Q (F0 m pc ls (st.map (cv b xo))) := by
  obtain ⟨hx, hb, hml, hown, hts, hr, hlk, hK, hX, hin, hfr, hlo, hb0⟩ := C
  simp only [stp] at hs
  obtain ⟨a, i, r, rfl, hs2⟩ := rk_some hs
  split at hs2
  · rename_i ho
    obtain ⟨⟨h1, h2, h3⟩, h4, h5⟩ := And.intro (own_iff.mp ho.1) ho.2
    cases hs2
    have k := kk rfl rfl
    rw [List.map_cons, cv_rf] at k
    have e : aTy (hSh h a).1 = .object (oN (aCl (hSh h a).1)) := by
      simp only [aTy]
      rw [if_neg (by omega), if_neg (by omega), if_neg (by omega)]
    have ht := cyT_at cy (k := (hSh h a).1) (by omega) h5
    rw [e] at ht
    exact va_aldq hx hb hK hw.1 _ _ (wd_ref h1 rfl h4) ht h3 hd k
  · cases hs2
theorem snd_alen (C : Cx p R s m args meth c Ω b xo D cy μ d n0 z0) (hd : decode (mB μ) pc = .ok (.arraylength, 1)) (hs : stp Ω (mO μ) (isIni μ) .arraylength 1 pc L st h = some (pc', L', st', h')) (hw : wd D cy b h H) (hS : va_S (up b) s.heap H locs)
    (kk : h' = h → L' = L → W p l e R s m args below meth c H locs (hn h - n0) (hz h - z0) Q (F0 m pc' ls (st'.map (cv b xo)))) : W p l e R s m args below meth c H locs (hn h - n0) (hz h - z0) Q (F0 m pc ls (st.map (cv b xo))) := by
  obtain ⟨hx, hb, hml, hown, hts, hr, hlk, hK, hX, hin, hfr, hlo, hb0⟩ := C
  simp only [stp] at hs
  split at hs
  · split at hs
    · rename_i a r ho
      obtain ⟨h1, h2, h3⟩ := ho
      cases hs
      have k := kk rfl rfl
      have ha : ∃ x : vp_A, x.1 = (hSh h a).2 ∧ (cW cy b h)[a]? = some (b + a, .inl (cy (hSh h a).1, x)) := by
        refine ⟨((hSh h a).2, if (hSh h a).1 = 14 then .inr (.inl (hJ h a)) else if 15 ≤ (hSh h a).1 then .inr (.inr (.inr (.inr (fun k => cO b (hA h a k))))) else .inl (hI h a)), rfl, ?_⟩
        rw [cW_get h1]
        simp only [cE]
        rw [if_neg (by omega)]
      obtain ⟨x, ex, ha⟩ := ha
      exact va_alen hx hb hK hw.1 _ _ ha (cyT_at cy (k := (hSh h a).1) h2 h3) (by rw [ex]) hd k
    · cases hs
  · split at hs
    · rename_i j r t N f hA
      cases hs
      obtain ⟨q, q1, q2⟩ := hX.1 _ _ _ _ hA
      have k := kk rfl rfl
      rw [List.map_cons, cv_x q1]
      exact va_tlen hx hb q2 hS rfl hd k
    · cases hs
  · cases hs
theorem snd_getf {x : Nat} (C : Cx p R s m args meth c Ω b xo D cy μ d n0 z0) (hd : decode (mB μ) pc = .ok (.getfield x, 3)) (hs : stp Ω (mO μ) (isIni μ) (.getfield x) 3 pc L st h = some (pc', L', st', h')) (hw : wd D cy b h H) (hS : va_S (up b) s.heap H locs)
    (kk : h' = h → L' = L → W p l e R s m args below meth c H locs (hn h - n0) (hz h - z0) Q (F0 m pc' ls (st'.map (cv b xo)))) : W p l e R s m args below meth c H locs (hn h - n0) (hz h - z0) Q (F0 m pc ls (st.map (cv b xo))) := by
  obtain ⟨hx, hb, hml, hown, hts, hr, hlk, hK, hX, hin, hfr, hlo, hb0⟩ := C
  simp only [stp] at hs
  rcases gfd_some hs with ⟨a, r, cc, f, rfl, hf, h1, h2, hs2⟩ | ⟨j, r, f, rfl, hf, h1, h2, hs2⟩
  · cases hs2
    obtain ⟨g1, g2, g3⟩ := fInf_ok hf
    have k := kk rfl rfl
    have hv : (cFs b h cc a)[f]? = some (cv b xo (if kTy cc f = .int ∨ kTy cc f = .boolean then .int (hI h a f) else va_rf (hA h a f))) := by
      rw [cFs_get g2]
      split
      · rfl
      · rw [cv_rf]
    rcases g3 with g3 | g3
    · exact va_get (D := D) (C := oN cc) (T := kT cc) (N := kN cc) hx hb hts (uws_in g1) hown hK hw.1 a (wd_obj hw h1 h2 g1) (kCl_at g1) f g2 (hts _ (gW_in g3 rfl)) (fun _ h9 => h9) hv hd k
    · exact va_getN (D := D) (C := oN cc) (T := kT cc) (N := kN cc) hx hb hts (uws_in g1) hown hK hw.1 a (wd_obj hw h1 h2 g1) (kCl_at g1) f g2 (va_Nw.use rfl (hX.2.2.2.2.2.1 _ (nW_in g3.1 rfl))) (fun _ h9 => h9) hv hd k
  · obtain ⟨q, q', e1, e2, e3, e4, e5⟩ := hX.2.2.2.1 (j - 16) (by omega)
    have ej : 16 + (j - 16) = j := by omega
    have ej2 : 32 + (j - 16) = j + 16 := by omega
    rw [ej] at e1
    rw [ej2] at e2
    have hlink := xInf_ok hf
    rw [List.map_cons, cv_x e1]
    by_cases h0 : f = 0
    · rw [if_pos h0] at hs2 hlink
      cases hs2
      have k := kk rfl rfl
      rw [List.map_cons, cv_x e2] at k
      exact vk_getf hx hb e5 hS hown (hts _ (gW_in hlink rfl)) (fun _ h9 => h9) hd k
    · rw [if_neg h0] at hs2 hlink
      cases hs2
      exact vk_getf hx hb e4 hS hown (hts _ (gW_in hlink rfl)) (fun _ h9 => h9) hd (kk rfl rfl)
theorem snd_gets {x : Nat} (C : Cx p R s m args meth c Ω b xo D cy μ d n0 z0) (hd : decode (mB μ) pc = .ok (.getstatic x, 3)) (hs : stp Ω (mO μ) (isIni μ) (.getstatic x) 3 pc L st h = some (pc', L', st', h')) (hS : va_S (up b) s.heap H locs)
    (kk : h' = h → L' = L → W p l e R s m args below meth c H locs (hn h - n0) (hz h - z0) Q (F0 m pc' ls (st'.map (cv b xo)))) : W p l e R s m args below meth c H locs (hn h - n0) (hz h - z0) Q (F0 m pc ls (st.map (cv b xo))) := by
  obtain ⟨hx, hb, hml, hown, hts, hr, hlk, hK, hX, hin, hfr, hlo, hb0⟩ := C
  simp only [stp, gst] at hs
  split at hs
  · rename_i hg
    cases hs
    obtain ⟨-, g2⟩ := gInf_ok hg
    exact va_gets hx hb hX.2.1 hS hown (hts _ (gW_in g2 rfl)) (fun _ h9 => h9) hd (kk rfl rfl)
  · rename_i j hj hg
    cases hs
    obtain ⟨g1, g2⟩ := gInf_ok hg
    have h0 : 1 ≤ j := Nat.one_le_iff_ne_zero.mpr (fun z => hj (by rw [z]))
    exact va_gets hx hb (hX.2.2.1 j h0 g1) hS hown (hts _ (gW_in g2 rfl)) (fun _ h9 => h9) hd (kk rfl rfl)
  · cases hs
theorem snd_ldc {x : Nat} (C : Cx p R s m args meth c Ω b xo D cy μ d n0 z0) (hd : decode (mB μ) pc = .ok (.ldc x, 2)) (hs : stp Ω (mO μ) (isIni μ) (.ldc x) 2 pc L st h = some (pc', L', st', h'))
    (kk : h' = h → L' = L → W p l e R s m args below meth c H locs (hn h - n0) (hz h - z0) Q (F0 m pc' ls (st'.map (cv b xo)))) : W p l e R s m args below meth c H locs (hn h - n0) (hz h - z0) Q (F0 m pc ls (st.map (cv b xo))) := by
  obtain ⟨hx, hb, hml, hown, hts, hr, hlk, hK, hX, hin, hfr, hlo, hb0⟩ := C
  simp only [stp] at hs
  split at hs
  · rename_i hg
    cases hs
    exact lv_ldc hx hb hown (hts _ (gW_in (iInf_ok hg) rfl)) hd (kk rfl rfl)
  · split at hs
    · rename_i j hg
      cases hs
      obtain ⟨e, he, h1, h2, h3⟩ := sInf_ok hg
      obtain ⟨q, g1, g2⟩ := hX.2.2.2.2.1 e he
      rw [h1, h2] at g2
      rw [h3] at g1
      have k := kk rfl rfl
      rw [List.map_cons, cv_x g1] at k
      exact va_ldcS hx hb hown g2 hd k
    · cases hs
end ST
