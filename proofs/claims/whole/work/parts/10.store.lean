section ST
variable {p : Program} {l : Launch} {e : Env} {R : Room} {s : State} {m : MethodId} {args : Array Value} {below : List Frame} {meth : Method} {c : Code} {H : Heap} {locs : List Loc} {Q : State → Prop}
variable {Ω : AO} {b : Nat} {xo : Nat → Option Nat} {D : va_G} {cy : Nat → ClassId} {μ d pc len n0 z0 : Nat} {L st L' st' : List Value} {h h' : AH} {pc' : Nat} {ls : Array Slot}
theorem snd_iast (C : Cx p R s m args meth c Ω b xo D cy μ d n0 z0) (hd : decode (mB μ) pc = .ok (.iastore, 1)) (hs : stp Ω (mO μ) (isIni μ) .iastore 1 pc L st h = some (pc', L', st', h')) (hw : wd D cy b h H) (hV : va_S (up b) s.heap H locs) (hn0 : n0 ≤ hn h)
    (kk : ∀ H' locs', wd D cy b h' H' → va_S (up b) s.heap H' locs' → L' = L → W p l e R s m args below meth c H' locs' (hn h' - n0) (hz h' - z0) Q (F0 m pc' ls (st'.map (cv b xo)))) : W p l e R s m args below meth c H locs (hn h - n0) (hz h - z0) Q (F0 m pc ls (st.map (cv b xo))) := by
  obtain ⟨hx, hb, hml, hown, hts, hr, hlk, hK, hX, hin, hfr, hlo, hb0⟩ := C
  simp only [stp] at hs
  obtain ⟨x, r, rfl, hs2⟩ := p1i_some hs
  obtain ⟨a, i, r', rfl, hs3⟩ := rk_some hs2
  split at hs3
  · rename_i ho
    obtain ⟨h1, h2, h3⟩ := own_iff.mp ho
    cases hs3
    refine va_iast hx hb hK hw.1 (cW_D cy b h) (va_S_self hV) a 1 (wd_int h1 h2 (Or.inr rfl)) (cyT_at cy (k := 13) (by omega) (by omega)) h3 hd (fun H1 locs1 q1 _ q3 => ?_)
    refine wd_put (h' := sI h (wr (hI h) a i.toNatClampNeg x)) hb0 hw hV hn0 rfl rfl (fun q hq => cE_congr rfl (wr_ne hq) rfl rfl) ?_ q1 q3 (fun H' locs' k1 k2 => kk H' locs' k1 k2 rfl)
    rw [cE_int (h := sI h (wr (hI h) a i.toNatClampNeg x)) h2 (Or.inr rfl)]
    show Sum.inl (cy 13, (hSh h a).2, Sum.inl (wr (hI h) a i.toNatClampNeg x a)) = _
    rw [wr_eq]
    rfl
  · cases hs3
theorem snd_bast (C : Cx p R s m args meth c Ω b xo D cy μ d n0 z0) (hd : decode (mB μ) pc = .ok (.bastore, 1)) (hs : stp Ω (mO μ) (isIni μ) .bastore 1 pc L st h = some (pc', L', st', h')) (hw : wd D cy b h H) (hV : va_S (up b) s.heap H locs) (hn0 : n0 ≤ hn h)
    (kk : ∀ H' locs', wd D cy b h' H' → va_S (up b) s.heap H' locs' → L' = L → W p l e R s m args below meth c H' locs' (hn h' - n0) (hz h' - z0) Q (F0 m pc' ls (st'.map (cv b xo)))) : W p l e R s m args below meth c H locs (hn h - n0) (hz h - z0) Q (F0 m pc ls (st.map (cv b xo))) := by
  obtain ⟨hx, hb, hml, hown, hts, hr, hlk, hK, hX, hin, hfr, hlo, hb0⟩ := C
  simp only [stp] at hs
  obtain ⟨x, r, rfl, hs2⟩ := p1i_some hs
  obtain ⟨a, i, r', rfl, hs3⟩ := rk_some hs2
  split at hs3
  · rename_i ho
    obtain ⟨h1, h2, h3⟩ := own_iff.mp ho
    cases hs3
    refine va_bast hx hb hK hw.1 (cW_D cy b h) (va_S_self hV) a 0 (wd_int h1 h2 (Or.inl rfl)) (cyT_at cy (k := 12) (by omega) (by omega)) h3 hd (fun H1 locs1 q1 _ q3 => ?_)
    refine wd_put (h' := sI h (wr (hI h) a i.toNatClampNeg x.toInt8.toInt32)) hb0 hw hV hn0 rfl rfl (fun q hq => cE_congr rfl (wr_ne hq) rfl rfl) ?_ q1 q3 (fun H' locs' k1 k2 => kk H' locs' k1 k2 rfl)
    rw [cE_int (h := sI h (wr (hI h) a i.toNatClampNeg x.toInt8.toInt32)) h2 (Or.inl rfl)]
    show Sum.inl (cy 12, (hSh h a).2, Sum.inl (wr (hI h) a i.toNatClampNeg x.toInt8.toInt32 a)) = _
    rw [wr_eq]
    rfl
  · cases hs3
theorem snd_last (C : Cx p R s m args meth c Ω b xo D cy μ d n0 z0) (hd : decode (mB μ) pc = .ok (.lastore, 1)) (hs : stp Ω (mO μ) (isIni μ) .lastore 1 pc L st h = some (pc', L', st', h')) (hw : wd D cy b h H) (hV : va_S (up b) s.heap H locs) (hn0 : n0 ≤ hn h)
    (kk : ∀ H' locs', wd D cy b h' H' → va_S (up b) s.heap H' locs' → L' = L → W p l e R s m args below meth c H' locs' (hn h' - n0) (hz h' - z0) Q (F0 m pc' ls (st'.map (cv b xo)))) : W p l e R s m args below meth c H locs (hn h - n0) (hz h - z0) Q (F0 m pc ls (st.map (cv b xo))) := by
  obtain ⟨hx, hb, hml, hown, hts, hr, hlk, hK, hX, hin, hfr, hlo, hb0⟩ := C
  simp only [stp] at hs
  obtain ⟨x, r, rfl, hs2⟩ := p1l_some hs
  obtain ⟨a, i, r', rfl, hs3⟩ := rk_some hs2
  split at hs3
  · rename_i ho
    obtain ⟨h1, h2, h3⟩ := own_iff.mp ho
    cases hs3
    refine va_last hx hb hK hw.1 (cW_D cy b h) (va_S_self hV) a 2 (wd_long h1 h2) (cyT_at cy (k := 14) (by omega) (by omega)) h3 hd (fun H1 locs1 q1 _ q3 => ?_)
    refine wd_put (h' := sJ h (wr (hJ h) a i.toNatClampNeg x)) hb0 hw hV hn0 rfl rfl (fun q hq => cE_congr rfl rfl (wr_ne hq) rfl) ?_ q1 q3 (fun H' locs' k1 k2 => kk H' locs' k1 k2 rfl)
    rw [cE_long (h := sJ h (wr (hJ h) a i.toNatClampNeg x)) h2]
    show Sum.inl (cy 14, (hSh h a).2, Sum.inr (Sum.inl (wr (hJ h) a i.toNatClampNeg x a))) = _
    rw [wr_eq]
    rfl
  · cases hs3
theorem snd_aast (C : Cx p R s m args meth c Ω b xo D cy μ d n0 z0) (hd : decode (mB μ) pc = .ok (.aastore, 1)) (hs : stp Ω (mO μ) (isIni μ) .aastore 1 pc L st h = some (pc', L', st', h')) (hw : wd D cy b h H) (hV : va_S (up b) s.heap H locs) (hn0 : n0 ≤ hn h)
    (kk : ∀ H' locs', wd D cy b h' H' → va_S (up b) s.heap H' locs' → L' = L → W p l e R s m args below meth c H' locs' (hn h' - n0) (hz h' - z0) Q (F0 m pc' ls (st'.map (cv b xo)))) : W p l e R s m args below meth c H locs (hn h - n0) (hz h - z0) Q (F0 m pc ls (st.map (cv b xo))) := by
  obtain ⟨hx, hb, hml, hown, hts, hr, hlk, hK, hX, hin, hfr, hlo, hb0⟩ := C
  simp only [stp] at hs
  split at hs
  · rename_i v r
    obtain ⟨a, i, r', rfl, hs3⟩ := rk_some hs
    split at hs3
    · rename_i ho
      obtain ⟨h0, h4, h5, h6, h7⟩ := ho
      obtain ⟨h1, -, h3⟩ := own_iff.mp h0
      cases hs3
      have e0 : aTy (hSh h a).1 = .object (oN (aCl (hSh h a).1)) := by
        simp only [aTy]
        rw [if_neg (by omega), if_neg (by omega), if_neg (by omega)]
      have ht := cyT_at cy (k := (hSh h a).1) (by omega) h5
      rw [e0] at ht
      have hc12 : aCl (hSh h a).1 < 12 := by
        simp only [aCl]
        split
        · decide
        · split <;> decide
      refine va_astq (r := (oN (aCl (hSh h a).1), kT (aCl (hSh h a).1), kN (aCl (hSh h a).1))) hx hb hK hw.1 (cW_D cy b h) (va_S_self hV) a _ v (aCl (hSh h a).1) (wd_ref h1 rfl h4) ht (wd_obj hw h6 h7 hc12) (kCl_at hc12) h3 hd (fun H1 locs1 q1 _ q3 => ?_)
      refine wd_put (h' := sA h (wr (hA h) a i.toNatClampNeg (some v))) hb0 hw hV hn0 rfl rfl (fun q hq => cE_congr rfl rfl rfl (wr_ne hq)) ?_ q1 q3 (fun H' locs' k1 k2 => kk H' locs' k1 k2 rfl)
      rw [cE_ref (h := sA h (wr (hA h) a i.toNatClampNeg (some v))) (k := (hSh h a).1) rfl h4]
      show Sum.inl (cy (hSh h a).1, (hSh h a).2, Sum.inr (Sum.inr (Sum.inr (Sum.inr (fun j => cO b (wr (hA h) a i.toNatClampNeg (some v) a j)))))) = _
      rw [wr_eq]
      congr 7
      funext j
      simp only [va_up]
      split <;> rfl
    · cases hs3
  · cases hs
theorem snd_putf {x : Nat} (C : Cx p R s m args meth c Ω b xo D cy μ d n0 z0) (hd : decode (mB μ) pc = .ok (.putfield x, 3)) (hs : stp Ω (mO μ) (isIni μ) (.putfield x) 3 pc L st h = some (pc', L', st', h')) (hw : wd D cy b h H) (hV : va_S (up b) s.heap H locs) (hn0 : n0 ≤ hn h)
    (kk : ∀ H' locs', wd D cy b h' H' → va_S (up b) s.heap H' locs' → L' = L → W p l e R s m args below meth c H' locs' (hn h' - n0) (hz h' - z0) Q (F0 m pc' ls (st'.map (cv b xo)))) : W p l e R s m args below meth c H locs (hn h - n0) (hz h - z0) Q (F0 m pc ls (st.map (cv b xo))) := by
  obtain ⟨hx, hb, hml, hown, hts, hr, hlk, hK, hX, hin, hfr, hlo, hb0⟩ := C
  simp only [stp] at hs
  obtain ⟨v, a, r, cc, f, rfl, hf, h1, h2, h3, h4, hs2⟩ := pfd_some hs
  cases hs2
  obtain ⟨g1, g2, g3⟩ := fInf_ok hf
  obtain ⟨w1, w2, w3, w4⟩ := wrV_n h a f v
  have hfl : f < (cFs b h cc a).length := by simpa [cFs] using g2
  obtain ⟨nr, ft⟩ := fitV_narrow (b := b) (xo := xo) h3
  have fin : ∀ (H1 : Heap) (locs1 : List Loc), va_P D kCl ((cW cy b h).set a (b + a, .inr (cc, (cFs b h cc a).set f (cv b xo v)))) H1 → va_D (up b) ((cW cy b h).set a (b + a, .inr (cc, (cFs b h cc a).set f (cv b xo v)))) → va_S (up b) H H1 locs1 → W p l e R s m args below meth c H1 locs1 (hn h - n0) (hz h - z0) Q (F0 m (pc + 3) ls (st'.map (cv b xo))) := by
    intro H1 locs1 q1 _ q3
    refine wd_put (h' := wrV h a f v) hb0 hw hV hn0 w1 w2 (fun q hq => wrV_cE hq) ?_ q1 q3 (fun H' locs' k1 k2 => kk H' locs' k1 k2 rfl)
    rw [cE_obj (h := wrV h a f v) (c := cc) (by rw [w3]; exact h2) g1, wrV_fs (xo := xo) g2 h3]
  rcases g3 with g3 | g3
  · rcases h4 with h4 | ⟨h4, h5⟩
    · exact va_put (D := D) (C := oN cc) (T := kT cc) (N := kN cc) hx hb hts (uws_in g1) (kTy cc) (kF_ok cc g1) (kNm_ok cc g1) hown hK hw.1 (cW_D cy b h) (va_S_self hV) a (wd_obj hw h1 h2 g1) (kCl_at g1) f g2 (hts _ (gW_in g3 rfl)) (fun _ h9 => h9) h4 (kF_ok cc g1 f g2) nr ft hfl hd fin
    · by_cases h6 : (kF cc f).2.2.1 = false
      · exact va_put (D := D) (C := oN cc) (T := kT cc) (N := kN cc) hx hb hts (uws_in g1) (kTy cc) (kF_ok cc g1) (kNm_ok cc g1) hown hK hw.1 (cW_D cy b h) (va_S_self hV) a (wd_obj hw h1 h2 g1) (kCl_at g1) f g2 (hts _ (gW_in g3 rfl)) (fun _ h9 => h9) h6 (kF_ok cc g1 f g2) nr ft hfl hd fin
      · exact va_putF (D := D) (C := oN cc) (T := kT cc) (N := kN cc) hx hb hts (uws_in g1) (kTy cc) (kF_ok cc g1) (kNm_ok cc g1) hown hK hw.1 (cW_D cy b h) (va_S_self hV) a (wd_obj hw h1 h2 g1) (kCl_at g1) f g2 (hts _ (gW_in g3 rfl)) (fun _ h9 => h9) (show (kF cc f).2.2.1 = true by simpa using h6) (hin h4) (by rw [h5]; rfl) (kF_ok cc g1 f g2) nr ft hfl hd fin
  · rcases h4 with h4 | ⟨h4, h5⟩
    · exact va_putN (D := D) (C := oN cc) (T := kT cc) (N := kN cc) hx hb hts (uws_in g1) (kTy cc) (kF_ok cc g1) (kNm_ok cc g1) hown hK hw.1 (cW_D cy b h) (va_S_self hV) a (wd_obj hw h1 h2 g1) (kCl_at g1) f g2 (va_Nw.use rfl (hX.2.2.2.2.2.1 _ (nW_in g3.1 rfl))) (fun _ h9 => h9) h4 (kF_ok cc g1 f g2) nr ft hfl hd fin
    · exact absurd h5 g3.2
end ST
