/-- what is to be proved of a run: from any frame that shows it, the machine comes to its end -/
def Snd (l : Launch) (Ω : AO) (b : Nat) (xo : Nat → Option Nat) (D : va_G) (cy : Nat → ClassId) (d μ pc : Nat) (L st : List Value) (h : AH) (r : Option Value) (h' : AH) : Prop :=
  ∀ (p : Program) (e : Env) (R : Room) (s : State) (m : MethodId) (args : Array Value) (below : List Frame) (meth : Method) (c : Code) (H : Heap) (locs : List Loc) (ls : Array Slot) (n0 z0 : Nat),
    Cx p R s m args meth c Ω b xo D cy μ d n0 z0 → wd D cy b h H → va_S (up b) s.heap H locs → LR b xo ls (mL μ) L → n0 ≤ hn h → z0 ≤ hz h → hn h' - n0 ≤ R.cells → hz h' - z0 ≤ R.slots →
    W p l e R s m args below meth c H locs (hn h - n0) (hz h - z0) (MQ below (Qq b xo D cy r h') args s (hn h' - n0) (hz h' - z0) (up b)) (F0 m pc ls (st.map (cv b xo)))
def rmR (d : Nat) (h h' : AH) : Room := { frames := d + 2, cells := hn h' - hn h, slots := hz h' - hz h, locals := 100 * (d + 2) }
theorem met_of {l : Launch} {Ω : AO} {b : Nat} {xo : Nat → Option Nat} {D : va_G} {cy : Nat → ClassId} {d y : Nat} {as : List Value} {h h' : AH} {r : Option Value} (hpl : plainName (mY y).cls = true) (hle : (entL (mL y) as).length = mL y)
    (hS : Snd l Ω b xo D cy d y 0 (entL (mL y) as) [] h r h') : Met l (mY y) (Cond.code (mY y) (mB y) (mL y) (mR y) :: gW) (rmR d h h') (Pq Ω b xo D cy as h) (Qq b xo D cy r h') (hn h' - hn h) (hz h' - hz h) (up b) := by
  refine Met.ofW (cc := mB y) (maxL := mL y) (ret := mR y) hpl rfl ?_
  intro p e s m args below meth c s₁ B hml hv
  obtain ⟨rfl, hw, hK, hX⟩ := hv
  have hts := atoms_spec (ws := Cond.code (mY y) (mB y) (mL y) (mR y) :: gW) B.pre
  have hown : s.vm.findClass (oN (mO y)) = some m.cls := findClass_of_methodNamed B.named
  have hnm : meth.name = (mY y).name := (name_of_methodNamed B.named B.method).1
  rw [lg_entry_eq]
  have k := hS p e (rmR d h h') s m (as.map (cv b xo)).toArray below meth c s.heap [] _ (hn h) (hz h) ⟨B.exec, B.bytes, hml, hown, fun w hw => hts w (List.mem_cons_of_mem _ hw), B.returns, B.notSynchronized, hK, hX, fun hi => by
      rw [hnm]
      exact beq_iff_eq.mp hi, Nat.le_refl _, Nat.le_refl _, hw.2⟩ hw va_S.rf (LR_entry hle) (Nat.le_refl _) (Nat.le_refl _) (Nat.le_refl _) (Nat.le_refl _)
  rw [Nat.sub_self, Nat.sub_self] at k
  exact k
theorem snd_call {l : Launch} {Ω : AO} {b : Nat} {xo : Nat → Option Nat} {D : va_G} {cy : Nat → ClassId} {d μ pc x kd y : Nat} {L st as rest : List Value} {h h1 h' : AH} {r1 r : Option Value} {i : Instr}
    (hi : (i = .invokestatic x ∧ kd = 0) ∨ (i = .invokespecial x ∧ kd = 1) ∨ (i = .invokevirtual x ∧ kd = 2)) (hd : decode (mB μ) pc = .ok (i, 3)) (hc : cal (mO μ) x kd st h = some (y, as, rest)) (hle : (entL (mL y) as).length = mL y)
    (hm1 : hn h ≤ hn h1 ∧ hz h ≤ hz h1) (hm2 : hn h1 ≤ hn h' ∧ hz h1 ≤ hz h')
    (h1S : Snd l Ω b xo D cy d y 0 (entL (mL y) as) [] h r1 h1) (h2S : Snd l Ω b xo D cy (d + 1) μ (pc + 3) L (r1.toList ++ rest) h1 r h') : Snd l Ω b xo D cy (d + 1) μ pc L st h r h' := by
  intro p e R s m args below meth c H locs ls n0 z0 C hw hV hl hn0 hz0 hRc hRs
  unfold cal at hc
  split at hc
  · rename_i y' n kd' hci
    split at hc
    · rename_i hcond
      obtain ⟨rfl, hnl, hrc, hnc⟩ := hcond
      cases hc
      obtain ⟨a1, a2, a3, a4, a5, a6, a7, a8, a9, a10, a11, a12⟩ := cInf_ok hci
      have hM := met_of a10 hle h1S
      obtain ⟨hx, hb, hml, hown, hts, hr, hlk, hK, hX, hin, hfr, hlo, hb0⟩ := id C
      have hst : st = (st.take n).reverse.reverse ++ st.drop n := by rw [List.reverse_reverse, List.take_append_drop]
      have hstm : st.map (cv b xo) = ((st.take n).reverse.map (cv b xo)).reverse ++ (st.drop n).map (cv b xo) := by
        rw [← List.map_reverse, List.reverse_reverse, ← List.map_append, List.take_append_drop]
      have hlen : (st.take n).reverse.length = n := by rw [List.length_reverse, List.length_take]; omega
      generalize (st.take n).reverse = as at *
      generalize hrs : st.drop n = rest at *
      have hW : 2 * (F0 m pc ls (st.map (cv b xo))).monitorRoom + ((rest.map (cv b xo)).map fun v => v.category).sum ≤ 8 := by
        rw [ncat_cv]
        show 2 * 0 + _ ≤ _
        omega
      have hf : (hn h - n0) + (hn h1 - hn h) ≤ R.cells ∧ (hz h - z0) + (hz h1 - hz h) ≤ R.slots := by omega
      have hR : (rmR d h h1).frames + 1 ≤ R.frames ∧ 8 + (mL y + 11) + (rmR d h h1).locals ≤ R.locals := by
        constructor
        · show d + 2 + 1 ≤ _; omega
        · show 8 + (mL y + 11) + 100 * (d + 2) ≤ _; omega
      have hpre : ∀ U : State, U.heap = H → s.WarmedH U.vm → Pq Ω b xo D cy as h (as.map (cv b xo)).toArray U := fun U hU hWm => by
        refine ⟨rfl, by rw [hU]; exact hw, va_K.moved hWm.alike hK, ?_⟩
        rw [hU]
        exact xf_warm hWm (fun a ha hA => hV.2.1 a ha hA) hX
      have kk : ∀ (H1 : Heap) (locs1 : List Loc), wd D cy b h1 H1 → va_S (up b) s.heap H1 locs1 → W p l e R s m args below meth c H1 locs1 (hn h - n0 + (hn h1 - hn h)) (hz h - z0 + (hz h1 - hz h)) (MQ below (Qq b xo D cy r h') args s (hn h' - n0) (hz h' - z0) (up b)) (F0 m (pc + 3) ls ((r1.map (cv b xo)).toList ++ rest.map (cv b xo))) := fun H1 locs1 q1 q2 => by
        have k := h2S p e R s m args below meth c H1 locs1 ls n0 z0 C q1 q2 hl (by omega) (by omega) hRc hRs
        rw [List.map_append, show (r1.toList).map (cv b xo) = (r1.map (cv b xo)).toList by cases r1 <;> rfl] at k
        rw [show hn h - n0 + (hn h1 - hn h) = hn h1 - n0 by omega, show hz h - z0 + (hz h1 - hz h) = hz h1 - z0 by omega]
        exact k
      have hdl := a7
      rcases hi with ⟨rfl, rfl⟩ | ⟨rfl, rfl⟩ | ⟨rfl, rfl⟩
      · rw [if_pos rfl] at a2 hdl
        rcases a1 with a1 | a1
        · exact call_go (va_runS (As := as.map (cv b xo)) (rest := rest.map (cv b xo)) ⟨hx, hb, hml, hown, hts⟩ hM ⟨callB_of n hts (code_good a6) rfl rfl rfl (hts _ (gW_in a5 rfl)) (hts _ (gW_in a1 rfl)) ⟨a11.1, a11.2, hdl⟩ hR, hts _ (gW_in a2 rfl)⟩ ⟨Pq_blind Ω b xo D cy _ h, hpre⟩ rfl (by rw [List.length_map]; exact hlen) hl.1 hstm hW hd hf) hV kk
        · exact call_go (va_runSN (As := as.map (cv b xo)) (rest := rest.map (cv b xo)) ⟨hx, hb, hml, hown, hts⟩ hM ⟨va_cnB n hts (code_good a6) rfl rfl rfl (hX.2.2.2.2.2.1 _ (nW_in a1 rfl)) (hts _ (gW_in a5 rfl)) ⟨a11.1, a11.2, hdl⟩ hR, hts _ (gW_in a2 rfl), trivial⟩ ⟨Pq_blind Ω b xo D cy _ h, hpre⟩ rfl (by rw [List.length_map]; exact hlen) hl.1 hstm hW hd hf) hV kk
      · rw [if_neg (by decide)] at a2 hdl
        obtain ⟨b1, b2⟩ := a4 rfl
        have hcg := code_good a6
        rw [b2] at hM hcg
        simp only [rcv] at hrc
        split at hrc
        · rename_i q as'
          have hl1 : as'.length = n - 1 := by simp at hlen; omega
          rw [List.map_cons] at hpre hstm
          rcases a1 with a1 | a1
          · exact call_go (va_runI (b := b + q) (As := as'.map (cv b xo)) (rest := rest.map (cv b xo)) ⟨hx, hb, hml, hown, hts⟩ hM ⟨callB_of (n - 1) hts hcg rfl rfl rfl (hts _ (gW_in a5 rfl)) (hts _ (gW_in a1 rfl)) ⟨a11.1, a11.2, hdl⟩ hR, b1, hts _ (gW_in a2 rfl)⟩ ⟨Pq_blind Ω b xo D cy _ h, hpre⟩ rfl (by rw [List.length_map]; exact hl1) hl.1 (by rw [show (F0 m pc ls (st.map (cv b xo))).stack = st.map (cv b xo) from rfl, hstm, List.reverse_cons, List.append_assoc]; rfl) hW hd hf) hV kk
          · exact call_go (va_runIN (b := b + q) (As := as'.map (cv b xo)) (rest := rest.map (cv b xo)) ⟨hx, hb, hml, hown, hts⟩ hM ⟨va_cnB (n - 1) hts hcg rfl rfl rfl (hX.2.2.2.2.2.1 _ (nW_in a1 rfl)) (hts _ (gW_in a5 rfl)) ⟨a11.1, a11.2, hdl⟩ hR, b1, hts _ (gW_in a2 rfl)⟩ ⟨Pq_blind Ω b xo D cy _ h, hpre⟩ rfl (by rw [List.length_map]; exact hl1) hl.1 (by rw [show (F0 m pc ls (st.map (cv b xo))).stack = st.map (cv b xo) from rfl, hstm, List.reverse_cons, List.append_assoc]; rfl) hW hd hf) hV kk
        · cases hrc
      · rw [if_neg (by decide)] at a2 hdl
        have hsel := hts _ (gW_in (a3 rfl) rfl)
        obtain ⟨q, as', e1, e2, e3⟩ : ∃ (q : Nat) (as' : List Value), as.map (cv b xo) = .ref q :: as'.map (cv b xo) ∧ as'.length + 1 = as.length ∧ ∃ cellB : Cell, H[q]? = some cellB ∧ cellB.vm.isStatics = false ∧ s.vm.findClass (mY y).cls = some cellB.cls := by
          simp only [rcv] at hrc
          split at hrc
          · rename_i a as'
            simp only [Bool.and_eq_true, decide_eq_true_eq] at hrc
            obtain ⟨c1, c2, c3⟩ := hrc
            exact ⟨b + a, as', rfl, rfl, va_recv hK hw.1 (kCl_at c3) (wd_obj hw c1 c2 c3)⟩
          · rename_i j as'
            simp only [Bool.and_eq_true, decide_eq_true_eq] at hrc
            obtain ⟨c1, c2, c3⟩ := hrc
            obtain ⟨q, q', g1, g2, g3, -⟩ := hX.2.2.2.1 (j - 16) (by omega)
            rw [show 16 + (j - 16) = j by omega] at g1
            obtain ⟨cell, f1, f2, f3, f4⟩ := g3
            refine ⟨q, as', by rw [List.map_cons, cv_x g1], rfl, cell, ?_, f2, ?_⟩
            · rw [hV.2.1 q (Array.getElem?_eq_some_iff.mp f1).1 f4]; exact f1
            · show s.vm.findClass (oN (mO y)) = _
              rw [c3]; exact f3
          · cases hrc
        have hl1 : as'.length = n - 1 := by omega
        rw [e1] at hpre hstm
        rcases a1 with a1 | a1
        · exact call_go (va_runV (b := q) (C := (mY y).cls) (As := as'.map (cv b xo)) (rest := rest.map (cv b xo)) ⟨hx, hb, hml, hown, hts⟩ hM ⟨callB_of (n - 1) hts (code_good a6) rfl rfl rfl (hts _ (gW_in a5 rfl)) (hts _ (gW_in a1 rfl)) ⟨a11.1, a11.2, hdl⟩ hR, hts _ (gW_in a2 rfl), hsel⟩ ⟨Pq_blind Ω b xo D cy _ h, e3, hpre⟩ rfl (by rw [List.length_map]; exact hl1) hl.1 (by rw [show (F0 m pc ls (st.map (cv b xo))).stack = st.map (cv b xo) from rfl, hstm, List.reverse_cons, List.append_assoc]; rfl) hW hd hf) hV kk
        · exact call_go (va_runVN (b := q) (C := (mY y).cls) (As := as'.map (cv b xo)) (rest := rest.map (cv b xo)) ⟨hx, hb, hml, hown, hts⟩ hM ⟨va_cnB (n - 1) hts (code_good a6) rfl rfl rfl (hX.2.2.2.2.2.1 _ (nW_in a1 rfl)) (hts _ (gW_in a5 rfl)) ⟨a11.1, a11.2, hdl⟩ hR, hts _ (gW_in a2 rfl), hsel⟩ ⟨Pq_blind Ω b xo D cy _ h, e3, hpre⟩ rfl (by rw [List.length_map]; exact hl1) hl.1 (by rw [show (F0 m pc ls (st.map (cv b xo))).stack = st.map (cv b xo) from rfl, hstm, List.reverse_cons, List.append_assoc]; rfl) hW hd hf) hV kk
    · cases hc
  · cases hc
theorem snd_ret {l : Launch} {Ω : AO} {b : Nat} {xo : Nat → Option Nat} {D : va_G} {cy : Nat → ClassId} {d μ pc len : Nat} {L st : List Value} {h : AH} {r : Option Value} {i : Instr} (hok : okL i len = true) (hd : decode (mB μ) pc = .ok (i, len)) (hr0 : rtn (mR μ) i st = some r) : Snd l Ω b xo D cy d μ pc L st h r h := by
  intro p e R s m args below meth c H locs ls n0 z0 C hw hV hl hn0 hz0 hRc hRs
  obtain ⟨hx, hb, hml, hown, hts, hr, hlk, hK, hX, hin, hfr, hlo, hb0⟩ := C
  have hq : ∀ t : State, t.heap = H → s.WarmedH t.vm → Qq b xo D cy r h args s (.returned (r.map (cv b xo))) t := fun t ht _ => ⟨rfl, by rw [ht]; exact hw, hV.F ht⟩
  cases i
  case return_ =>
    simp only [okL, beq_iff_eq] at hok; subst hok
    simp only [rtn] at hr0
    split at hr0
    · rename_i hR
      cases hr0
      exact W.vret hx hb (by rw [hr, hR]) hq hV.2.2 hd hlk
    · cases hr0
  case ireturn =>
    simp only [okL, beq_iff_eq] at hok; subst hok
    simp only [rtn] at hr0
    split at hr0
    · rename_i t v hR
      split at hr0
      · rename_i hn
        cases hr0
        exact W.zret hx hb (by rw [hr, hR]) hn hq hV.2.2 hd hlk
      · cases hr0
    · cases hr0
  case lreturn =>
    simp only [okL, beq_iff_eq] at hok; subst hok
    simp only [rtn] at hr0
    split at hr0
    · rename_i v hR
      cases hr0
      exact W.lret hx hb (by rw [hr, hR]) hq hV.2.2 hd hlk
    · cases hr0
  case areturn =>
    simp only [okL, beq_iff_eq] at hok; subst hok
    simp only [rtn] at hr0
    split at hr0
    · rename_i n v hR
      split at hr0
      · rename_i hv
        cases hr0
        exact W.aret hx hb (by rw [hr, hR]) (Or.inl ⟨_, rfl⟩) (cv_R hv) hq hV.2.2 hd hlk
      · cases hr0
    · rename_i n v hR
      split at hr0
      · rename_i hv
        cases hr0
        exact W.aret hx hb (by rw [hr, hR]) (Or.inr ⟨_, rfl⟩) (cv_R hv) hq hV.2.2 hd hlk
      · cases hr0
    · cases hr0
  all_goals (exfalso; simp only [rtn, reduceCtorEq] at hr0)
theorem snd_ev {l : Launch} {Ω : AO} {b : Nat} {xo : Nat → Option Nat} {D : va_G} {cy : Nat → ClassId} : ∀ (f d μ pc : Nat) (L st : List Value) (h : AH) (r : Option Value) (h' : AH), ev Ω f d μ pc L st h = some (r, h') → Snd l Ω b xo D cy d μ pc L st h r h' := by
  intro f
  induction f with
  | zero => intro d μ pc L st h r h' e; cases e
  | succ f ih =>
    intro d μ pc L st h r h' e
    rw [ev] at e
    split at e
    · rename_i i len hd
      split at e
      · rename_i hok
        unfold evG at e
        split at e
        · rename_i hr
          cases e
          exact snd_ret hok hd hr
        · split at e
          · rename_i y as rest hc
            split at e
            · cases e
            · rename_i d'
              split at e
              · rename_i hle
                split at e
                · rename_i r1 h1 q
                  have m1 := ev_mono _ _ _ _ _ _ _ _ _ q
                  have m2 := ev_mono _ _ _ _ _ _ _ _ _ e
                  have s1 := ih _ _ _ _ _ _ _ _ q
                  have s2 := ih _ _ _ _ _ _ _ _ e
                  have hl3 : len = 3 ∧ ∃ x kd, ((i = .invokestatic x ∧ kd = 0) ∨ (i = .invokespecial x ∧ kd = 1) ∨ (i = .invokevirtual x ∧ kd = 2)) ∧ cal (mO μ) x kd st h = some (y, as, rest) := by
                    cases i <;> first
                      | exact ⟨by simpa [okL] using hok, _, 0, Or.inl ⟨rfl, rfl⟩, hc⟩
                      | exact ⟨by simpa [okL] using hok, _, 1, Or.inr (Or.inl ⟨rfl, rfl⟩), hc⟩
                      | exact ⟨by simpa [okL] using hok, _, 2, Or.inr (Or.inr ⟨rfl, rfl⟩), hc⟩
                      | (exfalso; simp only [cll, reduceCtorEq] at hc)
                  obtain ⟨rfl, x, kd, hi, hcal⟩ := hl3
                  exact snd_call hi hd hcal hle m1 m2 s1 s2
                · cases e
              · cases e
          · split at e
            · rename_i hs
              split at e
              · rename_i hm
                have m2 := ev_mono _ _ _ _ _ _ _ _ _ e
                have s2 := ih _ _ _ _ _ _ _ _ e
                intro p e0 R s m args below meth c H locs ls n0 z0 C hw hV hl hn0 hz0 hRc hRs
                exact snd_stp C hok hd hs hw hV hl hn0 hz0 hm (by omega) (by omega) (fun H' locs' ls' q1 q2 q3 => s2 p e0 R s m args below meth c H' locs' ls' n0 z0 C q1 q2 q3 (by omega) (by omega) hRc hRs)
              · cases e
            · cases e
      · cases e
    · cases e
