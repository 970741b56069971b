theorem cInf_ok {o x y n kd : Nat} (h : cInf o x = some (y, n, kd)) :
    (Cond.methodLink (oN o) x (mY y) ∈ lw_tbl ∨ Cond.methodLinkNest (oN o) x (mY y) "RiverDown" ∈ lw_tbl) ∧ (if kd = 0 then Cond.static (mY y) ∈ lw_tbl else Cond.instanceMethod (mY y) ∈ lw_tbl) ∧ (kd = 2 → Cond.selects (mY y).cls (mY y) (mY y) ∈ lw_tbl) ∧ (kd = 1 → (mY y).name = "<init>" ∧ mR y = none) ∧
    Cond.initialized (mY y).cls ∈ lw_tbl ∧ y ∈ mIs ∧ (parseMethodDescriptor (mY y).desc).map (fun d => d.parameters.length) = some (if kd = 0 then n else n - 1) ∧ (0 < n ∨ kd = 0) ∧ kd ≤ 2 ∧ plainName (mY y).cls = true ∧ ((mY y).cls ≠ "java/lang/invoke/MethodHandle" ∧ (mY y).cls ≠ "java/lang/invoke/VarHandle") ∧ mL y ≤ 60 := by
  obtain ⟨e, he, hv⟩ := Option.map_eq_some_iff.mp h
  obtain ⟨h1, h2⟩ := find_ok cTb_ok he
  obtain ⟨rfl, rfl⟩ := key_ok h1
  cases hv
  simp only [cOk, Bool.and_eq_true, decide_eq_true_eq] at h2
  obtain ⟨⟨⟨⟨⟨⟨⟨⟨⟨⟨⟨a1, a2⟩, a3⟩, a4⟩, a5⟩, a6⟩, a7⟩, a8⟩, a9⟩, a10⟩, a11⟩, a12⟩ := h2
  refine ⟨?_, ?_, ?_, ?_, wAt_mem a5, a6, a7, a8, a9, a10, a11, a12⟩
  · split at a1
    · exact Or.inl (wAt_mem a1)
    · exact Or.inr (wAt_mem a1)
  · split at a2
    · rename_i q; rw [if_pos q]; exact wAt_mem a2
    · rename_i q; rw [if_neg q]; exact wAt_mem a2
  · intro q
    rw [if_pos q] at a3
    exact wAt_mem a3
  · intro q
    rw [if_pos q] at a4
    simp only [Bool.and_eq_true, decide_eq_true_eq] at a4
    exact a4
def fl (args : List Value) : List Value := args.flatMap fun v => if nl v = true then [v] else [v, jk]
theorem nl_iff (v : Value) : nl v = true ↔ ¬ v.category = 2 := by cases v <;> simp [nl, Value.category]
theorem fl_len (b : Nat) (xo : Nat → Option Nat) (args : List Value) : (lg_sl (args.map (cv b xo))).length = (fl args).length := by
  induction args with
  | nil => rfl
  | cons v t ih =>
    simp only [lg_sl, fl, List.map_cons, List.flatMap_cons, List.length_append] at ih ⊢
    rw [ih, cv_cat]
    by_cases h : nl v = true
    · rw [if_pos h, if_neg ((nl_iff v).mp h)]; rfl
    · rw [if_neg h, if_pos (Decidable.not_not.mp fun z => h ((nl_iff v).mpr z))]; rfl
theorem fl_args {b : Nat} {xo : Nat → Option Nat} : ∀ (args : List Value) (k i : Nat) (v : Value), (fl args)[i]? = some v → isJ v = false → (k + i, cv b xo v) ∈ lv_args k (args.map (cv b xo)) := by
  intro args
  induction args with
  | nil => intro k i v h; simp [fl] at h
  | cons w t ih =>
    intro k i v h hj
    have e : fl (w :: t) = (if nl w = true then [w] else [w, jk]) ++ fl t := rfl
    rw [e] at h
    by_cases hn : nl w = true
    · rw [if_pos hn] at h
      cases i with
      | zero =>
        simp at h
        subst h
        exact List.mem_cons_self
      | succ i =>
        simp at h
        have := ih (k + 1) i v h hj
        rw [List.map_cons, lv_args, cv_cat, if_neg ((nl_iff w).mp hn)]
        rw [show k + (i + 1) = k + 1 + i by omega]
        exact List.mem_cons_of_mem _ this
    · rw [if_neg hn] at h
      cases i with
      | zero =>
        simp at h
        subst h
        exact List.mem_cons_self
      | succ i =>
        cases i with
        | zero =>
          simp at h
          subst h
          simp [isJ, jk] at hj
        | succ i =>
          simp at h
          have := ih (k + 2) i v h hj
          rw [List.map_cons, lv_args, cv_cat, if_pos (Decidable.not_not.mp fun z => hn ((nl_iff w).mpr z))]
          rw [show k + (i + 1 + 1) = k + 2 + i by omega]
          exact List.mem_cons_of_mem _ this
theorem LR_entry {b : Nat} {xo : Nat → Option Nat} {n : Nat} {args : List Value} (hl : (entL n args).length = n) : LR b xo ((lg_sl (args.map (cv b xo)) ++ List.replicate (n - (lg_sl (args.map (cv b xo))).length) Slot.unset).toArray) n (entL n args) := by
  have e : entL n args = fl args ++ List.replicate (n - (fl args).length) jk := rfl
  have hle : (fl args).length ≤ n := by
    rw [e, List.length_append, List.length_replicate] at hl
    omega
  have h := lv_entry (args.map (cv b xo)) (n := n) (by rw [fl_len]; exact hle)
  refine ⟨h.1, hl, h.2.1, fun i v hv hj => ?_⟩
  rw [e, List.getElem?_append] at hv
  split at hv
  · have := fl_args (b := b) (xo := xo) args 0 i v hv hj
    rw [Nat.zero_add] at this
    exact h.2.2 _ this
  · rw [List.getElem?_replicate] at hv
    split at hv
    · cases hv
      simp [isJ, jk] at hj
    · cases hv
def Pq (Ω : AO) (b : Nat) (xo : Nat → Option Nat) (D : va_G) (cy : Nat → ClassId) (as : List Value) (h : AH) : Array Value → State → Prop := va_Pc (as.map (cv b xo)) (fun U => wd D cy b h U.heap ∧ va_K D kCl (cyT cy) U ∧ xf Ω b xo U U.heap)
def Qq (b : Nat) (xo : Nat → Option Nat) (D : va_G) (cy : Nat → ClassId) (r : Option Value) (h' : AH) : Array Value → State → Outcome → State → Prop := fun _ st oc t => oc = .returned (r.map (cv b xo)) ∧ wd D cy b h' t.heap ∧ va_F (up b) st t
theorem Pq_blind (Ω : AO) (b : Nat) (xo : Nat → Option Nat) (D : va_G) (cy : Nat → ClassId) (as : List Value) (h : AH) : FrameBlind (Pq Ω b xo D cy as h) := fun a U g mk q => by
  obtain ⟨q0, q1, q2, q3⟩ := q
  exact ⟨q0, q1, va_K.moved (u := U) (U := U.calling g mk a) (Vm.Alike.refl U.vm) q2, xf_same (u := U) (U := U.calling g mk a) rfl (Vm.Alike.refl U.vm) q3⟩
theorem code_good {y : Nat} (hy : y ∈ mIs) : GoodIn gW (Cond.code (mY y) (mB y) (mL y) (mR y) :: gW) := fun w hw => by
  rcases List.mem_cons.mp hw with rfl | hw
  · exact ⟨gW_in (cw_in hy) rfl, Or.inl rfl⟩
  · exact gW_good w hw
theorem ev_mono {Ω : AO} : ∀ (f d μ pc : Nat) (L st : List Value) (h : AH) (r : Option Value) (h' : AH), ev Ω f d μ pc L st h = some (r, h') → hn h ≤ hn h' ∧ hz h ≤ hz h' := by
  intro f
  induction f with
  | zero => intro d μ pc L st h r h' e; cases e
  | succ f ih =>
    intro d μ pc L st h r h' e
    rw [ev] at e
    split at e
    · split at e
      · unfold evG at e
        split at e
        · cases e; exact ⟨Nat.le_refl _, Nat.le_refl _⟩
        · split at e
          · split at e
            · cases e
            · split at e
              · split at e
                · rename_i q
                  have a1 := ih _ _ _ _ _ _ _ _ q
                  have a2 := ih _ _ _ _ _ _ _ _ e
                  omega
                · cases e
              · cases e
          · split at e
            · split at e
              · rename_i q
                have a2 := ih _ _ _ _ _ _ _ _ e
                omega
              · cases e
            · cases e
      · cases e
    · cases e
section ST
variable {p : Program} {l : Launch} {e : Env} {R : Room} {s : State} {m : MethodId} {args : Array Value} {below : List Frame} {meth : Method} {c : Code} {H : Heap} {locs : List Loc} {Q : State → Prop}
variable {Ω : AO} {b : Nat} {xo : Nat → Option Nat} {D : va_G} {cy : Nat → ClassId} {μ d pc len n0 z0 : Nat} {L st L' st' : List Value} {h h' : AH} {pc' : Nat} {ls : Array Slot}
theorem snd_stp (C : Cx p R s m args meth c Ω b xo D cy μ d n0 z0) {i : Instr} (hok : okL i len = true) (hd : decode (mB μ) pc = .ok (i, len)) (hs : stp Ω (mO μ) (isIni μ) i len pc L st h = some (pc', L', st', h'))
    (hw : wd D cy b h H) (hV : va_S (up b) s.heap H locs) (hl : LR b xo ls (mL μ) L) (hn0 : n0 ≤ hn h) (hz0 : z0 ≤ hz h) (hm : hn h ≤ hn h' ∧ hz h ≤ hz h') (hRc : hn h' - n0 ≤ R.cells) (hRs : hz h' - z0 ≤ R.slots)
    (kk : ∀ H' locs' ls', wd D cy b h' H' → va_S (up b) s.heap H' locs' → LR b xo ls' (mL μ) L' → W p l e R s m args below meth c H' locs' (hn h' - n0) (hz h' - z0) Q (F0 m pc' ls' (st'.map (cv b xo)))) : W p l e R s m args below meth c H locs (hn h - n0) (hz h - z0) Q (F0 m pc ls (st.map (cv b xo))) := by
  have k0 : h' = h → L' = L → W p l e R s m args below meth c H locs (hn h - n0) (hz h - z0) Q (F0 m pc' ls (st'.map (cv b xo))) := fun e1 e2 => by subst e1; subst e2; exact kk H locs ls hw hV hl
  have k1 : ∀ H' locs', wd D cy b h' H' → va_S (up b) s.heap H' locs' → L' = L → W p l e R s m args below meth c H' locs' (hn h' - n0) (hz h' - z0) Q (F0 m pc' ls (st'.map (cv b xo))) := fun H' locs' q1 q2 e2 => by subst e2; exact kk H' locs' ls q1 q2 hl
  refine snd_stk C hok hd hs hw hV hl (fun ls' hl' e => by subst e; exact kk H locs ls' hw hV hl') (fun hi => ?_)
  rcases hi with rfl | rfl | rfl | rfl | rfl | rfl | rfl | rfl | rfl | ⟨t, rfl⟩ | ⟨x, rfl⟩ | ⟨x, rfl⟩ | ⟨x, rfl⟩ | ⟨x, rfl⟩ | ⟨x, rfl⟩ | ⟨x, rfl⟩ | ⟨x, rfl⟩ | ⟨x, rfl⟩ <;> simp only [okL, beq_iff_eq] at hok <;> subst hok
  · exact snd_iald C hd hs hw hV k0
  · exact snd_bald C hd hs hw hV k0
  · exact snd_lald C hd hs hw hV k0
  · exact snd_aald C hd hs hw hV k0
  · exact snd_iast C hd hs hw hV hn0 k1
  · exact snd_bast C hd hs hw hV hn0 k1
  · exact snd_last C hd hs hw hV hn0 k1
  · exact snd_aast C hd hs hw hV hn0 k1
  · exact snd_alen C hd hs hw hV k0
  · exact snd_newa C hd hs hw hV hn0 hz0 hRc hRs k1
  · exact snd_anew C hd hs hw hV hn0 hz0 hRc hRs k1
  · exact snd_new C hd hs hw hV hn0 hz0 hRc hRs k1
  · exact snd_getf C hd hs hw hV k0
  · exact snd_putf C hd hs hw hV hn0 k1
  · exact snd_gets C hd hs hV k0
  · exact snd_ini C hd hs hl k0
  · exact snd_sta C hd hs hw hV hl hn0 (by omega) (by omega) k1
  · exact snd_ldc C hd hs k0
/-- behind a call -/
theorem call_go {cells slots mc ms : Nat} {st0 rest : List Value} {a : Array Value} {r1 : Option Value} {h1 : AH} (hr : va_Run p l e R s m args below meth c H locs cells slots mc ms (F0 m pc ls st0) rest (Qq b xo D cy r1 h1 a) (up b)) (hV : va_S (up b) s.heap H locs)
    (kk : ∀ (H1 : Heap) (locs1 : List Loc), wd D cy b h1 H1 → va_S (up b) s.heap H1 locs1 → W p l e R s m args below meth c H1 locs1 (cells + mc) (slots + ms) Q (F0 m (pc + 3) ls ((r1.map (cv b xo)).toList ++ rest))) : W p l e R s m args below meth c H locs cells slots Q (F0 m pc ls st0) := by
  intro T hT X
  obtain ⟨v, st₀, t, T', Lc, h0, X', hL, e1, e2, ⟨hv, hwd, hz, hk⟩, st⟩ := hr T hT X
  have hv : v = r1.map (cv b xo) := by cases hv; rfl
  subst hv
  rw [h0] at hz hk
  obtain ⟨t2, a1, b1⟩ := kk T'.heap (locs ++ Lc) (by rw [e1]; exact hwd)
    ⟨Nat.le_trans hV.1 (by rw [e1]; exact hz), fun q h1 h2 => by rw [e1, hk q (Nat.lt_of_lt_of_le h1 hV.1) h2]; exact hV.2.1 q h1 h2, fun q hq => by
      rcases List.mem_append.mp hq with h | h
      · exact hV.2.2 q h
      · exact hL q h⟩ T' rfl X'
  exact ⟨t2, st t2 a1, b1⟩
end ST
