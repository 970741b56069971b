def kindOK (t : FieldType) : Bool := match t with
  | .int => true
  | .boolean => true
  | .object _ => true
  | .array _ => true
  | _ => false
theorem kTy_ok : ∀ c, c < 12 → ∀ k, k < kN c → kindOK (kTy c k) = true := by decide +kernel
theorem kTy_kind {t : FieldType} (h : kindOK t = true) : t = .int ∨ t = .boolean ∨ (∃ n, t = .object n) ∨ (∃ u, t = .array u) := by
  cases t <;> simp [kindOK] at h ⊢
theorem mkC_n (h : AH) (k l w : Nat) : hn (mkC h k l w) = hn h + 1 := rfl
theorem mkC_z (h : AH) (k l w : Nat) : hz (mkC h k l w) = hz h + w := rfl
theorem mkC_old {cy : Nat → ClassId} {b : Nat} {h : AH} {k l w q : Nat} (hq : q < hn h) : cE cy b (mkC h k l w) q = cE cy b h q := by
  have e : q ≠ hn h := Nat.ne_of_lt hq
  exact cE_congr (va_up_ne _ _ e) (va_up_ne _ _ e) (va_up_ne _ _ e) (va_up_ne _ _ e)
theorem mkC_S (h : AH) (k l w : Nat) : hSh (mkC h k l w) (hn h) = (k, l) := by
  show va_up _ _ _ _ = _
  simp [va_up]
theorem mkC_I (h : AH) (k l w : Nat) : hI (mkC h k l w) (hn h) = fun _ => 0 := by
  show va_up _ _ _ _ = _
  simp [va_up]
theorem mkC_J (h : AH) (k l w : Nat) : hJ (mkC h k l w) (hn h) = fun _ => 0 := by
  show va_up _ _ _ _ = _
  simp [va_up]
theorem mkC_A (h : AH) (k l w : Nat) : hA (mkC h k l w) (hn h) = fun _ => none := by
  show va_up _ _ _ _ = _
  simp [va_up]
theorem wd_new {D : va_G} {cy : Nat → ClassId} {b : Nat} {h : AH} {H H1 : Heap} {k l w : Nat} (hw : wd D cy b h H) (hz : H1.size = H.size + 1) (ho : ∀ q, q < H.size → H1[q]? = H[q]?) (hc : va_at D kCl (b + hn h, cE cy b (mkC h k l w) (hn h)) H1) : wd D cy b (mkC h k l w) H1 := by
  refine ⟨fun i q hq => ?_, by rw [hz, hw.2]; rfl⟩
  obtain ⟨h1, rfl⟩ := cW_inv hq
  rw [mkC_n] at h1
  by_cases e : i < hn h
  · rw [mkC_old e]
    exact (hw.1 i _ (cW_get e)).kept (ho _ (by rw [hw.2]; exact Nat.add_lt_add_left e b))
  · have e2 : i = hn h := by omega
    subst e2
    exact hc
theorem va_S_new {A : Nat → Prop} {H0 H H1 : Heap} {locs : List Loc} (hV : va_S A H0 H locs) (hz : H1.size = H.size + 1) (ho : ∀ q, q < H.size → H1[q]? = H[q]?) : va_S A H0 H1 locs :=
  ⟨Nat.le_trans hV.1 (by omega), fun q h1 h2 => (ho q (Nat.lt_of_lt_of_le h1 hV.1)).trans (hV.2.1 q h1 h2), hV.2.2⟩
theorem arr_cls {D : va_G} {cy : Nat → ClassId} {s : State} (hK : va_K D kCl (cyT cy) s) {k : Nat} (h1 : 12 ≤ k) (h2 : k ≤ 17) : s.vm.findClass ("[" ++ (aTy k).toString) = some (cy k) := by
  have h := (hK.2 _ _ (cyT_at cy h1 h2)).2
  by_cases e1 : k = 12
  · subst e1; exact h
  · by_cases e2 : k = 13
    · subst e2; exact h
    · by_cases e3 : k = 14
      · subst e3; exact h
      · have e : aTy k = .object (oN (aCl k)) := by
          simp only [aTy]
          rw [if_neg e1, if_neg e2, if_neg e3]
        rw [e] at h ⊢
        obtain ⟨kA, comp, -, -, -, h4⟩ := h
        exact h4
section ST
variable {p : Program} {l : Launch} {e : Env} {R : Room} {s : State} {m : MethodId} {args : Array Value} {below : List Frame} {meth : Method} {c : Code} {H : Heap} {locs : List Loc} {Q : State → Prop}
variable {Ω : AO} {b : Nat} {xo : Nat → Option Nat} {D : va_G} {cy : Nat → ClassId} {μ d pc len n0 z0 : Nat} {L st L' st' : List Value} {h h' : AH} {pc' : Nat} {ls : Array Slot}
theorem k_new {k ln w : Nat} {g : JFrame} {H1 : Heap} (hn0 : n0 ≤ hn h) (hz0 : z0 ≤ hz h) (kk : W p l e R s m args below meth c H1 locs (hn (mkC h k ln w) - n0) (hz (mkC h k ln w) - z0) Q g) : W p l e R s m args below meth c H1 locs (hn h - n0 + 1) (hz h - z0 + w) Q g := by
  rw [mkC_n, mkC_z, show hn h + 1 - n0 = hn h - n0 + 1 by omega, show hz h + w - z0 = hz h - z0 + w by omega] at kk
  exact kk
theorem snd_newa {t : ArrayType} (C : Cx p R s m args meth c Ω b xo D cy μ d n0 z0) (hd : decode (mB μ) pc = .ok (.newarray t, 2)) (hs : stp Ω (mO μ) (isIni μ) (.newarray t) 2 pc L st h = some (pc', L', st', h')) (hw : wd D cy b h H) (hV : va_S (up b) s.heap H locs) (hn0 : n0 ≤ hn h) (hz0 : z0 ≤ hz h) (hRc : hn h' - n0 ≤ R.cells) (hRs : hz h' - z0 ≤ R.slots)
    (kk : ∀ H' locs', wd D cy b h' H' → va_S (up b) s.heap H' locs' → L' = L → W p l e R s m args below meth c H' locs' (hn h' - n0) (hz h' - z0) Q (F0 m pc' ls (st'.map (cv b xo)))) : W p l e R s m args below meth c H locs (hn h - n0) (hz h - z0) Q (F0 m pc ls (st.map (cv b xo))) := by
  obtain ⟨hx, hb, hml, hown, hts, hr, hlk, hK, hX, hin, hfr, hlo, hb0⟩ := C
  simp only [stp] at hs
  obtain ⟨x, r, rfl, hs2⟩ := p1i_some hs
  split at hs2
  · rename_i ho
    obtain ⟨h1, h2, h3⟩ := ho
    cases hs2
    have hRc' : hn h - n0 + 1 ≤ R.cells := by rw [mkC_n] at hRc; omega
    have hRs' : hz h - z0 + x.toNatClampNeg ≤ R.slots := by rw [mkC_z] at hRs; omega
    have hb1 : x.toNatClampNeg * componentBytes (newarray.typeOf t) ≤ 536870912 := by
      have : componentBytes (newarray.typeOf t) ≤ 8 := by cases t <;> decide
      calc x.toNatClampNeg * componentBytes (newarray.typeOf t) ≤ 1000000 * 8 := Nat.mul_le_mul h3 this
        _ ≤ _ := by decide
    have hta : atKd t = 12 ∨ atKd t = 13 ∨ atKd t = 14 := by cases t <;> simp [atKd] at h1 ⊢
    have hty : newarray.typeOf t = aTy (atKd t) := by cases t <;> first | rfl | (simp [atKd] at h1)
    have hac : (Cond.arrayClass (newarray.typeOf t)).before args s = true := by
      cases t <;> first | (simp [atKd] at h1; done) | exact hts _ (gW_in (by decide +kernel) rfl)
    refine va_newaK hx hb hac rfl hd rfl h2 rfl hb1 hRc' hRs' rfl (fun H1 cA e1 e2 e3 e4 e5 => ?_)
    rw [hty] at e1 e5
    have ecA : cA = cy (atKd t) := by
      have := arr_cls hK (k := atKd t) (by omega) (by omega)
      exact Option.some.inj (e5.symm.trans this)
    subst ecA
    refine k_new (k := atKd t) (ln := x.toNatClampNeg) (w := x.toNatClampNeg) hn0 hz0 ?_
    have k := kk H1 locs (wd_new hw e2 e3 ?_) (va_S_new hV e2 e3) rfl
    · rw [List.map_cons] at k
      rw [hw.2]
      exact k
    · show va_at D kCl (b + hn h, cE cy b (mkC h (atKd t) x.toNatClampNeg x.toNatClampNeg) (hn h)) H1
      rw [hw.2] at e1
      rcases hta with e | e | e
      · rw [cE_int (k := 12) (by rw [mkC_S]; exact e) (Or.inl rfl), mkC_S, mkC_I]
        show H1[b + hn h]? = some (vp_cell _ _)
        rw [e1, e]
        rfl
      · rw [cE_int (k := 13) (by rw [mkC_S]; exact e) (Or.inr rfl), mkC_S, mkC_I]
        show H1[b + hn h]? = some (vp_cell _ _)
        rw [e1, e]
        rfl
      · rw [cE_long (by rw [mkC_S]; exact e), mkC_S, mkC_J]
        show H1[b + hn h]? = some (vp_cell _ _)
        rw [e1, e]
        rfl
  · cases hs2
theorem snd_anew {y : Nat} (C : Cx p R s m args meth c Ω b xo D cy μ d n0 z0) (hd : decode (mB μ) pc = .ok (.anewarray y, 3)) (hs : stp Ω (mO μ) (isIni μ) (.anewarray y) 3 pc L st h = some (pc', L', st', h')) (hw : wd D cy b h H) (hV : va_S (up b) s.heap H locs) (hn0 : n0 ≤ hn h) (hz0 : z0 ≤ hz h) (hRc : hn h' - n0 ≤ R.cells) (hRs : hz h' - z0 ≤ R.slots)
    (kk : ∀ H' locs', wd D cy b h' H' → va_S (up b) s.heap H' locs' → L' = L → W p l e R s m args below meth c H' locs' (hn h' - n0) (hz h' - z0) Q (F0 m pc' ls (st'.map (cv b xo)))) : W p l e R s m args below meth c H locs (hn h - n0) (hz h - z0) Q (F0 m pc ls (st.map (cv b xo))) := by
  obtain ⟨hx, hb, hml, hown, hts, hr, hlk, hK, hX, hin, hfr, hlo, hb0⟩ := C
  simp only [stp] at hs
  obtain ⟨x, r, rfl, hs2⟩ := p1i_some hs
  split at hs2
  · rename_i q hq
    split at hs2
    · rename_i ho
      obtain ⟨h2, h3⟩ := ho
      cases hs2
      obtain ⟨g1, g2⟩ := aInf_ok hq
      have hRc' : hn h - n0 + 1 ≤ R.cells := by rw [mkC_n] at hRc; omega
      have hRs' : hz h - z0 + x.toNatClampNeg ≤ R.slots := by rw [mkC_z] at hRs; omega
      have hk : 15 ≤ aKd q ∧ aKd q ≤ 17 ∧ aCl (aKd q) = q := by rcases g1 with rfl | rfl | rfl <;> decide
      refine W.anew hx hb hown (hts _ (gW_in g2 rfl)) (va_AO.use (hX.2.2.2.2.2.2 q g1)) rfl hd rfl h2 (by omega) hRc' hRs' (fun cA kA comp f1 f2 f3 f4 => ?_)
      have ecA : cA = cy (aKd q) := by
        have h9 := arr_cls hK (k := aKd q) (by omega) hk.2.1
        have e9 : aTy (aKd q) = .object (oN q) := by
          simp only [aTy]
          rw [if_neg (by omega), if_neg (by omega), if_neg (by omega), hk.2.2]
        rw [e9] at h9
        exact Option.some.inj (f1.symm.trans h9)
      subst ecA
      generalize hH1 : H.push ({ cls := cy (aKd q), slots := Array.replicate x.toNatClampNeg .null, vm := .none } : Cell) = H1
      have e2 : H1.size = H.size + 1 := by rw [← hH1, Array.size_push]
      have e1 : H1[H.size]? = some (arrV (cy (aKd q)) x.toNatClampNeg (fun _ => .null)) := by rw [← hH1, Array.getElem?_push_size, ← arrV_new]
      have e3 : ∀ q : Nat, q < H.size → H1[q]? = H[q]? := fun q hq => by rw [← hH1, Array.getElem?_push, if_neg (Nat.ne_of_lt hq)]
      refine k_new (k := aKd q) (ln := x.toNatClampNeg) (w := x.toNatClampNeg) hn0 hz0 ?_
      have k := kk H1 locs (wd_new hw e2 e3 ?_) (va_S_new hV e2 e3) rfl
      · rw [List.map_cons] at k
        rw [hw.2]
        exact k
      · show va_at D kCl (b + hn h, cE cy b (mkC h (aKd q) x.toNatClampNeg x.toNatClampNeg) (hn h)) H1
        rw [hw.2] at e1
        rw [cE_ref (k := aKd q) (by rw [mkC_S]) hk.1, mkC_S, mkC_A]
        show H1[b + hn h]? = some (vp_cell _ _)
        rw [e1]
        rfl
    · cases hs2
  · cases hs2
theorem snd_new {y : Nat} (C : Cx p R s m args meth c Ω b xo D cy μ d n0 z0) (hd : decode (mB μ) pc = .ok (.new y, 3)) (hs : stp Ω (mO μ) (isIni μ) (.new y) 3 pc L st h = some (pc', L', st', h')) (hw : wd D cy b h H) (hV : va_S (up b) s.heap H locs) (hn0 : n0 ≤ hn h) (hz0 : z0 ≤ hz h) (hRc : hn h' - n0 ≤ R.cells) (hRs : hz h' - z0 ≤ R.slots)
    (kk : ∀ H' locs', wd D cy b h' H' → va_S (up b) s.heap H' locs' → L' = L → W p l e R s m args below meth c H' locs' (hn h' - n0) (hz h' - z0) Q (F0 m pc' ls (st'.map (cv b xo)))) : W p l e R s m args below meth c H locs (hn h - n0) (hz h - z0) Q (F0 m pc ls (st.map (cv b xo))) := by
  obtain ⟨hx, hb, hml, hown, hts, hr, hlk, hK, hX, hin, hfr, hlo, hb0⟩ := C
  simp only [stp] at hs
  split at hs
  · rename_i q hq
    cases hs
    obtain ⟨g1, g2, g3, g4⟩ := nInf_ok hq
    have hRc' : hn h - n0 + 1 ≤ R.cells := by rw [mkC_n] at hRc; omega
    have hRs' : hz h - z0 + kN q ≤ R.slots := by rw [mkC_z] at hRs; omega
    have hKn := hK.1 q _ (kCl_at g1)
    refine W.newcK hx hb hown (hts _ (gW_in g2 rfl)) (hts _ (gW_in g3 rfl)) (hts _ (gW_in g4 rfl)) rfl hd hRc' hRs' hKn.2.1 rfl fun H1 kC hkC e1 e2 e3 => ?_
    refine k_new (k := q) (ln := 0) (w := kN q) hn0 hz0 ?_
    have k := kk H1 locs (wd_new hw e2 e3 ?_) (va_S_new hV e2 e3) rfl
    · rw [List.map_cons] at k
      rw [hw.2]
      exact k
    · show va_at D kCl (b + hn h, cE cy b (mkC h q 0 (kN q)) (hn h)) H1
      rw [hw.2] at e1
      rw [cE_obj (c := q) (by rw [mkC_S]) g1]
      refine ⟨_, kCl_at g1, (u_born (kTy q) hts (uws_in g1) hKn hkC e1 (kF_ok q g1)).to (fun j hj => ?_)⟩
      show defaultValue (kTy q j) = vp_V (cFs b (mkC h q 0 (kN q)) q (hn h)) j
      rw [vp_V, List.getD_eq_getElem?_getD, cFs_get hj, mkC_I, mkC_A]
      have hdv := kTy_kind (kTy_ok q g1 j hj)
      rcases hdv with e9 | e9 | ⟨n9, e9⟩ | ⟨t9, e9⟩ <;> rw [e9] <;> rfl
  · cases hs
theorem snd_ini {x : Nat} (C : Cx p R s m args meth c Ω b xo D cy μ d n0 z0) (hd : decode (mB μ) pc = .ok (.invokespecial x, 3)) (hs : stp Ω (mO μ) (isIni μ) (.invokespecial x) 3 pc L st h = some (pc', L', st', h')) (hl : LR b xo ls (mL μ) L)
    (kk : h' = h → L' = L → W p l e R s m args below meth c H locs (hn h - n0) (hz h - z0) Q (F0 m pc' ls (st'.map (cv b xo)))) : W p l e R s m args below meth c H locs (hn h - n0) (hz h - z0) Q (F0 m pc ls (st.map (cv b xo))) := by
  obtain ⟨hx, hb, hml, hown, hts, hr, hlk, hK, hX, hin, hfr, hlo, hb0⟩ := C
  simp only [stp] at hs
  split at hs
  · rename_i ho
    split at hs
    · split at hs
      · rename_i hc
        cases hs
        refine W.objInit hx hb hown (hts _ (gW_in (oInf_ok ho) rfl)) (hts _ (gW_in (by decide +kernel) rfl)) (hts (.code objectInit ⟨#[0xb1]⟩ 1 none) (gW_in (List.mem_of_getElem? (i := 87) (by rfl)) rfl)) rfl (hl.1.trans hml.symm) rfl hd (by omega) ?_ (kk rfl rfl)
        rw [ncat_cv]
        show 2 * 0 + _ + 12 ≤ _
        omega
      · cases hs
    · cases hs
  · cases hs
theorem snd_sta {x : Nat} (C : Cx p R s m args meth c Ω b xo D cy μ d n0 z0) (hd : decode (mB μ) pc = .ok (.invokestatic x, 3)) (hs : stp Ω (mO μ) (isIni μ) (.invokestatic x) 3 pc L st h = some (pc', L', st', h')) (hw : wd D cy b h H) (hV : va_S (up b) s.heap H locs) (hl : LR b xo ls (mL μ) L) (hn0 : n0 ≤ hn h) (hRc : hn h - n0 ≤ R.cells) (hRs : hz h - z0 ≤ R.slots)
    (kk : ∀ H' locs', wd D cy b h' H' → va_S (up b) s.heap H' locs' → L' = L → W p l e R s m args below meth c H' locs' (hn h' - n0) (hz h' - z0) Q (F0 m pc' ls (st'.map (cv b xo)))) : W p l e R s m args below meth c H locs (hn h - n0) (hz h - z0) Q (F0 m pc ls (st.map (cv b xo))) := by
  obtain ⟨hx, hb, hml, hown, hts, hr, hlk, hK, hX, hin, hfr, hlo, hb0⟩ := C
  simp only [stp] at hs
  split at hs
  · rename_i ho
    obtain ⟨u, v, r, rfl, hs2⟩ := p2i_some hs
    split at hs2
    · rename_i hc
      cases hs2
      refine va_mmax hx hb (hml.trans hl.1.symm) hown (hts _ (gW_in (mInf_ok ho) rfl)) (hts _ (gW_in (by decide +kernel) rfl)) (hts _ (gW_in (by decide +kernel) rfl)) (hts _ (gW_in (by decide +kernel) rfl)) (by omega) ?_ hRc hRs hd (kk H locs hw hV rfl)
      rw [ncat_cv]
      omega
    · cases hs2
  · rename_i k hk ho
    obtain ⟨u, v, r, rfl, hs2⟩ := p2i_some hs
    split at hs2
    · rename_i hc
      cases hs2
      have hmn := mInf_ok ho
      rw [if_neg (fun z => hk (by rw [z]))] at hmn
      refine va_mmin hx hb (hml.trans hl.1.symm) hown (hts _ (gW_in hmn rfl)) (hts _ (gW_in (by decide +kernel) rfl)) (hts _ (gW_in (by decide +kernel) rfl)) (hts _ (gW_in (by decide +kernel) rfl)) (by omega) ?_ hRc hRs hd (kk H locs hw hV rfl)
      rw [ncat_cv]
      omega
    · cases hs2
  · split at hs
    · rename_i hy
      unfold acp at hs
      split at hs
      · rename_i nn dp a sp a0 r
        split at hs
        · rename_i ho
          obtain ⟨h1, h2, h3, h4, h5, h6, h7, h8, h9, h10⟩ := ho
          cases hs
          refine va_copyi hx hb (hml.trans hl.1.symm) hown (hts _ (gW_in (yInf_ok hy) rfl)) (hts _ (gW_in (by decide +kernel) rfl)) (hts _ (gW_in (by decide +kernel) rfl)) (hts _ (gW_in (by decide +kernel) rfl)) hK hw.1 (cW_D cy b h) (va_S_self hV) a0 a 1 1 (wd_int h1 h3 (Or.inr rfl)) (wd_int h2 h4 (Or.inr rfl)) (cyT_at cy (k := 13) (by omega) (by omega)) (cyT_at cy (k := 13) (by omega) (by omega)) rfl h5 h6 h7 h8 h9 (fun _ _ => rfl) (by omega) ?_ hd (fun H1 locs1 q1 _ q3 => ?_)
          · rw [ncat_cv]
            have : nativeFrameWords "java/lang/System" "arraycopy" 5 ≤ 100 := by decide +kernel
            omega
          · refine wd_put (h' := sI h (va_up (hI h) a (va_cpy (hI h a0) (hI h a) sp.toNatClampNeg dp.toNatClampNeg nn.toNatClampNeg))) hb0 hw hV hn0 rfl rfl (fun q hq => cE_congr rfl (va_up_ne _ _ hq) rfl rfl) ?_ q1 q3 (fun H' locs' k1 k2 => kk H' locs' k1 k2 rfl)
            rw [cE_int (h := sI h (va_up (hI h) a (va_cpy (hI h a0) (hI h a) sp.toNatClampNeg dp.toNatClampNeg nn.toNatClampNeg))) h4 (Or.inr rfl)]
            show Sum.inl (cy 13, (hSh h a).2, Sum.inl (va_up (hI h) a _ a)) = _
            simp only [va_up, if_true]
        · cases hs
      · cases hs
    · cases hs
end ST
