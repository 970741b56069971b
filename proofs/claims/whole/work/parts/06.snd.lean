/-! one step of the small machine is one of the machine itself -/
theorem find_ok {α : Type} {l : List α} {p : α → Bool} {chk : α → Bool} (hall : l.all chk = true) {e : α} (h : l.find? p = some e) : p e = true ∧ chk e = true := ⟨List.find?_some h, List.all_eq_true.mp hall e (List.mem_of_find?_eq_some h)⟩
theorem key_ok {a o b x : Nat} (h : (a == o && b == x) = true) : a = o ∧ b = x := by
  simp only [Bool.and_eq_true, beq_iff_eq] at h
  exact h
theorem fInf_ok {o x c f : Nat} (h : fInf o x = some (c, f)) : c < 12 ∧ f < kN c ∧ (Cond.fieldLink (oN o) x (oN c) (kF c f).1 (kF c f).2.1 ∈ lw_tbl ∨ (Cond.fieldLinkNest (oN o) x (oN c) (kF c f).1 (kF c f).2.1 "RiverDown" ∈ lw_tbl ∧ c ≠ o)) := by
  obtain ⟨e, he, hv⟩ := Option.map_eq_some_iff.mp h
  obtain ⟨h1, h2⟩ := find_ok fTb_ok he
  obtain ⟨rfl, rfl⟩ := key_ok h1
  cases hv
  simp only [fOk, Bool.and_eq_true, decide_eq_true_eq] at h2
  refine ⟨h2.1.1, h2.2.1, ?_⟩
  have h3 := wAt_mem h2.2.2
  split at h3
  · exact Or.inl h3
  · rename_i h4
    exact Or.inr ⟨h3, h2.1.2.resolve_left h4⟩
theorem iInf_ok {o x : Nat} {v : Int32} (h : iInf o x = some v) : Cond.constant (oN o) x v ∈ lw_tbl := by
  obtain ⟨e, he, hv⟩ := Option.map_eq_some_iff.mp h
  obtain ⟨h1, h2⟩ := find_ok iTb_ok he
  obtain ⟨rfl, rfl⟩ := key_ok h1
  cases hv
  exact wAt_mem h2
theorem lInf_ok {o x : Nat} {v : Int64} (h : lInf o x = some v) : Cond.constantLong (oN o) x v ∈ lw_tbl := by
  obtain ⟨e, he, hv⟩ := Option.map_eq_some_iff.mp h
  obtain ⟨h1, h2⟩ := find_ok lTb_ok he
  obtain ⟨rfl, rfl⟩ := key_ok h1
  cases hv
  exact wAt_mem h2
theorem sInf_ok {o x j : Nat} (h : sInf o x = some j) : ∃ e ∈ sTb, e.1 = o ∧ e.2.1 = x ∧ e.2.2.1 = j := by
  obtain ⟨e, he, hv⟩ := Option.map_eq_some_iff.mp h
  have hp := List.find?_some he
  obtain ⟨h1, h2⟩ := key_ok hp
  exact ⟨e, List.mem_of_find?_eq_some he, h1, h2, hv⟩
theorem nInf_ok {o x c : Nat} (h : nInf o x = some c) : c < 12 ∧ Cond.classLink (oN o) x (oN c) ∈ lw_tbl ∧ Cond.instantiable (oN c) (kN c) ∈ lw_tbl ∧ Cond.initialized (oN c) ∈ lw_tbl := by
  obtain ⟨e, he, hv⟩ := Option.map_eq_some_iff.mp h
  obtain ⟨h1, h2⟩ := find_ok nTb_ok he
  obtain ⟨rfl, rfl⟩ := key_ok h1
  cases hv
  simp only [Bool.and_eq_true, decide_eq_true_eq] at h2
  exact ⟨h2.1.1.1, wAt_mem h2.1.1.2, wAt_mem h2.1.2, wAt_mem h2.2⟩
theorem aInf_ok {o x c : Nat} (h : aInf o x = some c) : (c = 1 ∨ c = 8 ∨ c = 9) ∧ Cond.classLink (oN o) x (oN c) ∈ lw_tbl := by
  obtain ⟨e, he, hv⟩ := Option.map_eq_some_iff.mp h
  obtain ⟨h1, h2⟩ := find_ok aTb_ok he
  obtain ⟨rfl, rfl⟩ := key_ok h1
  cases hv
  simp only [Bool.and_eq_true, decide_eq_true_eq] at h2
  exact ⟨h2.1.1, wAt_mem h2.1.2⟩
theorem oInf_ok {o x : Nat} (h : oInf o x = true) : Cond.methodLink (oN o) x objectInit ∈ lw_tbl := by
  obtain ⟨e, he⟩ := Option.isSome_iff_exists.mp h
  obtain ⟨h1, h2⟩ := find_ok oTb_ok he
  obtain ⟨rfl, rfl⟩ := key_ok h1
  exact wAt_mem h2
theorem yInf_ok {o x : Nat} (h : yInf o x = true) : Cond.methodLink (oN o) x arraycopyName ∈ lw_tbl := by
  obtain ⟨e, he⟩ := Option.isSome_iff_exists.mp h
  obtain ⟨h1, h2⟩ := find_ok yTb_ok he
  obtain ⟨rfl, rfl⟩ := key_ok h1
  exact wAt_mem h2
theorem mInf_ok {o x k : Nat} (h : mInf o x = some k) : Cond.methodLink (oN o) x (if k = 0 then Lib.Math.max.name else Lib.Math.min.name) ∈ lw_tbl := by
  obtain ⟨e, he, hv⟩ := Option.map_eq_some_iff.mp h
  obtain ⟨h1, h2⟩ := find_ok mTb_ok he
  obtain ⟨rfl, rfl⟩ := key_ok h1
  cases hv
  simp only [Bool.and_eq_true, decide_eq_true_eq] at h2
  exact wAt_mem h2.2
theorem gInf_ok {o x j : Nat} (h : gInf o x = some j) : j < 6 ∧ Cond.fieldLink (oN o) x (xSt.getD j ("", "", "")).1 (xSt.getD j ("", "", "")).2.1 (xSt.getD j ("", "", "")).2.2 ∈ lw_tbl := by
  obtain ⟨e, he, hv⟩ := Option.map_eq_some_iff.mp h
  obtain ⟨h1, h2⟩ := find_ok gTb_ok he
  obtain ⟨rfl, rfl⟩ := key_ok h1
  cases hv
  simp only [Bool.and_eq_true, decide_eq_true_eq] at h2
  exact ⟨h2.1.1, wAt_mem h2.2⟩
theorem xInf_ok {o x k : Nat} (h : xInf o x = some k) : (if k = 0 then Cond.fieldLink (oN o) x "java/lang/String" "value" "[B" else Cond.fieldLink (oN o) x "java/lang/String" "coder" "B") ∈ lw_tbl := by
  obtain ⟨e, he, hv⟩ := Option.map_eq_some_iff.mp h
  obtain ⟨h1, h2⟩ := find_ok xTb_ok he
  obtain ⟨rfl, rfl⟩ := key_ok h1
  cases hv
  simp only [Bool.and_eq_true, decide_eq_true_eq] at h2
  exact wAt_mem h2.2
theorem uws_good {C : String} {T : u_T} {N : Nat} {w : Cond} (h : w ∈ u_ws C T N) : goodWord w = true := by
  obtain ⟨k, -, rfl⟩ := List.mem_map.mp h
  unfold u_lay
  split <;> rfl
theorem uws_in {c : Nat} (hc : c < 12) : ∀ w ∈ u_ws (oN c) (kT c) (kN c), w ∈ gW := fun w hw => gW_in (kLay_ok c hc w hw) (uws_good hw)
theorem p1i_some {st : List Value} {k : Int32 → List Value → Nx} {z : Nat × List Value × List Value × AH} (h : p1i st k = some z) : ∃ x r, st = .int x :: r ∧ k x r = some z := by
  unfold p1i at h
  split at h
  · exact ⟨_, _, rfl, h⟩
  · cases h
theorem p1l_some {st : List Value} {k : Int64 → List Value → Nx} {z : Nat × List Value × List Value × AH} (h : p1l st k = some z) : ∃ x r, st = .long x :: r ∧ k x r = some z := by
  unfold p1l at h
  split at h
  · exact ⟨_, _, rfl, h⟩
  · cases h
theorem p2i_some {st : List Value} {k : Int32 → Int32 → List Value → Nx} {z : Nat × List Value × List Value × AH} (h : p2i st k = some z) : ∃ x y r, st = .int y :: .int x :: r ∧ k x y r = some z := by
  unfold p2i at h
  split at h
  · exact ⟨_, _, _, rfl, h⟩
  · cases h
theorem p2l_some {st : List Value} {k : Int64 → Int64 → List Value → Nx} {z : Nat × List Value × List Value × AH} (h : p2l st k = some z) : ∃ x y r, st = .long y :: .long x :: r ∧ k x y r = some z := by
  unfold p2l at h
  split at h
  · exact ⟨_, _, _, rfl, h⟩
  · cases h
theorem p2li_some {st : List Value} {k : Int64 → Int32 → List Value → Nx} {z : Nat × List Value × List Value × AH} (h : p2li st k = some z) : ∃ x y r, st = .int y :: .long x :: r ∧ k x y r = some z := by
  unfold p2li at h
  split at h
  · exact ⟨_, _, _, rfl, h⟩
  · cases h
theorem rk_some {st : List Value} {k : Nat → Int32 → List Value → Nx} {z : Nat × List Value × List Value × AH} (h : rk st k = some z) : ∃ a i r, st = .int i :: .ref a :: r ∧ k a i r = some z := by
  unfold rk at h
  split at h
  · exact ⟨_, _, _, rfl, h⟩
  · cases h
theorem jmp_some {pc : Nat} {off : Int} {L st : List Value} {h : AH} {z : Nat × List Value × List Value × AH} (e : jmp pc off L st h = some z) : ∃ t : Nat, (pc : Int) + off = (t : Int) ∧ z = (t, L, st, h) := by
  unfold jmp at e
  split at e
  · rename_i h0
    exact ⟨_, (Int.toNat_of_nonneg h0).symm, (Option.some.inj e).symm⟩
  · cases e
theorem brn_some {pc : Nat} {off : Int} {cd : Bool} {L st : List Value} {h : AH} {z : Nat × List Value × List Value × AH} (e : brn pc off cd L st h = some z) : ∃ t : Nat, (pc : Int) + off = (t : Int) ∧ z = (if cd = true then t else pc + 3, L, st, h) := by
  unfold brn at e
  split at e
  · rename_i h0
    exact ⟨_, (Int.toNat_of_nonneg h0).symm, (Option.some.inj e).symm⟩
  · cases e
theorem ldI_some {L : List Value} {i : Nat} {k : Int32 → Nx} {z : Nat × List Value × List Value × AH} (h : ldI L i k = some z) : ∃ x, L[i]? = some (.int x) ∧ k x = some z := by
  unfold ldI at h
  split at h
  · exact ⟨_, by assumption, h⟩
  · cases h
theorem ldL_some {L : List Value} {i : Nat} {k : Int64 → Nx} {z : Nat × List Value × List Value × AH} (h : ldL L i k = some z) : ∃ x, L[i]? = some (.long x) ∧ k x = some z := by
  unfold ldL at h
  split at h
  · exact ⟨_, by assumption, h⟩
  · cases h
theorem ldA_some {L : List Value} {i : Nat} {k : Value → Nx} {z : Nat × List Value × List Value × AH} (h : ldA L i k = some z) : ∃ v, L[i]? = some v ∧ isR v = true ∧ k v = some z := by
  unfold ldA at h
  split at h
  · split at h
    · exact ⟨_, by assumption, by assumption, h⟩
    · cases h
  · cases h
theorem st1_some {L : List Value} {i : Nat} {v : Value} {k : List Value → Nx} {z : Nat × List Value × List Value × AH} (h : st1 L i v k = some z) : i < L.length ∧ stOK L i = true ∧ k (L.set i v) = some z := by
  unfold st1 at h
  split at h
  · rename_i h1
    exact ⟨h1.1, h1.2, h⟩
  · cases h
theorem st2_some {L : List Value} {i : Nat} {v : Value} {k : List Value → Nx} {z : Nat × List Value × List Value × AH} (h : st2 L i v k = some z) : i + 1 < L.length ∧ stOK L i = true ∧ k ((L.set i v).set (i + 1) jk) = some z := by
  unfold st2 at h
  split at h
  · rename_i h1
    exact ⟨h1.1, h1.2, h⟩
  · cases h
theorem own_iff {h : AH} {kd a : Nat} {i : Int32} : own h kd a i = true ↔ a < hn h ∧ (hSh h a).1 = kd ∧ vp_in i (hSh h a).2 := by
  simp only [own, Bool.and_eq_true, decide_eq_true_eq, inB_iff]
theorem isJ_R {v : Value} (h : isR v = true) : isJ v = false := by cases v <;> first | rfl | (simp [isR] at h)
/-- cells: what a kind says -/
theorem cE_obj {cy : Nat → ClassId} {b : Nat} {h : AH} {a c : Nat} (hc : (hSh h a).1 = c) (h12 : c < 12) : cE cy b h a = .inr (c, cFs b h c a) := by
  simp only [cE, hc, h12, if_true]
theorem cE_int {cy : Nat → ClassId} {b : Nat} {h : AH} {a k : Nat} (hk : (hSh h a).1 = k) (h12 : k = 12 ∨ k = 13) : cE cy b h a = .inl (cy k, (hSh h a).2, .inl (hI h a)) := by
  rcases h12 with rfl | rfl <;> simp [cE, hk]
theorem cE_long {cy : Nat → ClassId} {b : Nat} {h : AH} {a : Nat} (hk : (hSh h a).1 = 14) : cE cy b h a = .inl (cy 14, (hSh h a).2, .inr (.inl (hJ h a))) := by
  simp [cE, hk]
theorem cE_ref {cy : Nat → ClassId} {b : Nat} {h : AH} {a k : Nat} (hk : (hSh h a).1 = k) (h1 : 15 ≤ k) : cE cy b h a = .inl (cy k, (hSh h a).2, .inr (.inr (.inr (.inr (fun j => cO b (hA h a j)))))) := by
  have e1 : ¬ k < 12 := by omega
  have e2 : ¬ k = 14 := by omega
  simp [cE, hk, e1, e2, h1]
theorem cFs_get {b : Nat} {h : AH} {c a f : Nat} (hf : f < kN c) : (cFs b h c a)[f]? = some (if kTy c f = .int ∨ kTy c f = .boolean then .int (hI h a f) else va_rf (cO b (hA h a f))) := by
  simp only [cFs, List.getElem?_map, List.getElem?_range hf, Option.map_some]
theorem wr_ne {α : Type} {I : Nat → Nat → α} {a k : Nat} {v : α} {q : Nat} (h : q ≠ a) : wr I a k v q = I q := by
  simp only [wr, va_up, if_neg h]
theorem wr_eq {α : Type} {I : Nat → Nat → α} {a k : Nat} {v : α} : wr I a k v a = va_up (I a) k v := by
  simp only [wr, va_up, if_true]
theorem wr_at {α : Type} {I : Nat → Nat → α} {a k : Nat} {v : α} : wr I a k v a k = v := by
  simp only [wr, va_up, if_true]
theorem wr_at_ne {α : Type} {I : Nat → Nat → α} {a k j : Nat} {v : α} (h : j ≠ k) : wr I a k v a j = I a j := by
  simp only [wr, va_up, if_true, if_neg h]
