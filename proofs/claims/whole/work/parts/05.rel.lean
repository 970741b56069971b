/-! the picture in a heap of the machine itself: cell a stands at b + a -/
def cv (b : Nat) (xo : Nat → Option Nat) (v : Value) : Value := match v with
  | .ref a => .ref (b + a)
  | .retAddr j => va_rf (xo j)
  | v => v
def isJ (v : Value) : Bool := match v with
  | .float _ => true
  | .double _ => true
  | _ => false
def cO (b : Nat) (r : Option Nat) : Option Nat := r.map (fun a => b + a)
def cFs (b : Nat) (h : AH) (c a : Nat) : List Value := (List.range (kN c)).map (fun k => if kTy c k = .int ∨ kTy c k = .boolean then .int (hI h a k) else va_rf (cO b (hA h a k)))
def cE (cy : Nat → ClassId) (b : Nat) (h : AH) (a : Nat) : va_E := if (hSh h a).1 < 12 then .inr ((hSh h a).1, cFs b h (hSh h a).1 a) else .inl (cy (hSh h a).1, ((hSh h a).2, if (hSh h a).1 = 14 then .inr (.inl (hJ h a)) else if 15 ≤ (hSh h a).1 then .inr (.inr (.inr (.inr (fun k => cO b (hA h a k))))) else .inl (hI h a)))
def cW (cy : Nat → ClassId) (b : Nat) (h : AH) : va_W := (List.range (hn h)).map (fun a => (b + a, cE cy b h a))
def aTy (k : Nat) : FieldType := if k = 12 then .byte else if k = 13 then .int else if k = 14 then .long else .object (oN (aCl k))
def cyT (cy : Nat → ClassId) : List (ClassId × FieldType) := (List.range 6).map (fun k => (cy (12 + k), aTy (12 + k)))
def wd (D : va_G) (cy : Nat → ClassId) (b : Nat) (h : AH) (H : Heap) : Prop := va_P D kCl (cW cy b h) H ∧ H.size = b + hn h
abbrev up (b : Nat) : Nat → Prop := fun q => b ≤ q
theorem cyT_at (cy : Nat → ClassId) {k : Nat} (h1 : 12 ≤ k) (h2 : k ≤ 17) : (cyT cy)[k - 12]? = some (cy k, aTy k) := by
  have e : 12 + (k - 12) = k := by omega
  simp only [cyT, List.getElem?_map, List.getElem?_range (show k - 12 < 6 by omega), Option.map_some, e]
theorem kCl_at {c : Nat} (h : c < 12) : kCl[c]? = some (oN c, kT c, kN c) := by
  simp only [kCl, List.getElem?_map, List.getElem?_range h, Option.map_some]
theorem cW_get {cy : Nat → ClassId} {b : Nat} {h : AH} {a : Nat} (ha : a < hn h) : (cW cy b h)[a]? = some (b + a, cE cy b h a) := by
  simp only [cW, List.getElem?_map, List.getElem?_range ha, Option.map_some]
theorem cW_inv {cy : Nat → ClassId} {b : Nat} {h : AH} {k : Nat} {q : Nat × va_E} (hq : (cW cy b h)[k]? = some q) : k < hn h ∧ q = (b + k, cE cy b h k) := by
  have hk : k < (cW cy b h).length := (List.getElem?_eq_some_iff.mp hq).1
  have hk : k < hn h := by simpa [cW] using hk
  rw [cW_get hk] at hq
  exact ⟨hk, (Option.some.inj hq).symm⟩
theorem cW_D (cy : Nat → ClassId) (b : Nat) (h : AH) : va_D (up b) (cW cy b h) := by
  refine ⟨fun i j p q hi hj e => ?_, fun k q hk => ?_⟩
  · obtain ⟨-, rfl⟩ := cW_inv hi
    obtain ⟨-, rfl⟩ := cW_inv hj
    have e : b + i = b + j := e
    omega
  · obtain ⟨-, rfl⟩ := cW_inv hk
    exact Nat.le_add_right b k
theorem cW_set {cy : Nat → ClassId} {b : Nat} {h h' : AH} {a : Nat} (hn' : hn h' = hn h) (he : ∀ q, q ≠ a → cE cy b h' q = cE cy b h q) : (cW cy b h).set a (b + a, cE cy b h' a) = cW cy b h' := by
  apply List.ext_getElem?
  intro k
  by_cases hk : k < hn h
  · rw [cW_get (show k < hn h' by omega), List.getElem?_set]
    by_cases e : a = k
    · subst e
      rw [if_pos rfl, if_pos (by simpa [cW] using hk)]
    · rw [if_neg e, cW_get hk, he k (fun z => e z.symm)]
  · have h1 : (cW cy b h').length ≤ k := by simp [cW]; omega
    have h2 : ((cW cy b h).set a (b + a, cE cy b h' a)).length ≤ k := by simp [cW]; omega
    rw [List.getElem?_eq_none h1, List.getElem?_eq_none h2]
theorem va_P_same {D : va_G} {cl : List vw_C} {ws ws' : va_W} {H : Heap} (h : va_P D cl ws H) (e : ws = ws') : va_P D cl ws' H := e ▸ h
theorem cv_cat (b : Nat) (xo : Nat → Option Nat) (v : Value) : (cv b xo v).category = v.category := by
  cases v <;> simp only [cv, Value.category]
  rename_i j
  cases xo j <;> rfl
theorem nl_cat {v : Value} (h : nl v = true) : v.category = 1 := by
  cases v <;> first | rfl | (simp [nl] at h)
theorem ncat_cv (b : Nat) (xo : Nat → Option Nat) (st : List Value) : ((st.map (cv b xo)).map fun v => v.category).sum = ncat st := by
  simp only [ncat, List.map_map]
  congr 1
  apply List.map_congr_left
  intro v _
  exact cv_cat b xo v
theorem cv_rf (b : Nat) (xo : Nat → Option Nat) (r : Option Nat) : cv b xo (va_rf r) = va_rf (cO b r) := by cases r <;> rfl
theorem cv_R {b : Nat} {xo : Nat → Option Nat} {v : Value} (h : isR v = true) : cv b xo v = .null ∨ ∃ a, cv b xo v = .ref a := by
  cases v <;> first | (simp [isR] at h; done) | exact Or.inl rfl | exact Or.inr ⟨_, rfl⟩ | skip
  rename_i j
  show va_rf (xo j) = .null ∨ ∃ a, va_rf (xo j) = .ref a
  cases xo j
  · exact Or.inl rfl
  · exact Or.inr ⟨_, rfl⟩
/-- what stands outside: the script, static rows, texts; words of nest mates; classes of rows of references -/
def xf (Ω : AO) (b : Nat) (xo : Nat → Option Nat) (U : State) (H : Heap) : Prop :=
  (∀ (j : Nat) (t : FieldType) (N : Nat) (f : Nat → Value), xA Ω j = some (t, N, f) → ∃ q, xo j = some q ∧ va_T t q N f (up b) U H) ∧
  va_Z "java/lang/String" "COMPACT_STRINGS" "Z" (.int 1) (up b) U H ∧
  (∀ j, 1 ≤ j → j < 6 → va_Z (xSt.getD j ("", "", "")).1 (xSt.getD j ("", "", "")).2.1 (xSt.getD j ("", "", "")).2.2 (va_rf (xo j)) (up b) U H) ∧
  (∀ i, i < 14 → ∃ q q', xo (16 + i) = some q ∧ xo (32 + i) = some q' ∧ va_O "java/lang/String" q (up b) U H ∧ va_OF "java/lang/String" "coder" "B" (.int 0) q (up b) U H ∧ va_OF "java/lang/String" "value" "[B" (.ref q') q (up b) U H) ∧
  (∀ e ∈ sTb, ∃ q, xo (16 + e.2.2.1) = some q ∧ vk_R (oN e.1) e.2.1 (sTx.getD e.2.2.1 "") q U) ∧
  (∀ w ∈ nW, va_Nw w U) ∧ (∀ c, c = 1 ∨ c = 8 ∨ c = 9 → va_AO (oN c) U)
theorem nW_warm {s U : State} (hW : s.WarmedH U.vm) {w : Cond} (hw : w ∈ nW) (h : va_Nw w s) : va_Nw w U := by
  have hn := (List.mem_filter.mp hw).2
  cases w <;> first | exact va_Nw.warmF hW h | exact va_Nw.warmM hW h | (simp [isNest] at hn)
theorem nW_same {u U : State} (hv : u.vm = U.vm) {w : Cond} (hw : w ∈ nW) (h : va_Nw w u) : va_Nw w U := by
  have hn := (List.mem_filter.mp hw).2
  cases w <;> first | exact va_tabs rfl hv h | (simp [isNest] at hn)
theorem xf_warm {Ω : AO} {b : Nat} {xo : Nat → Option Nat} {s U : State} {H H' : Heap} (hW : s.WarmedH U.vm) (hk : ∀ a : Nat, a < H.size → ¬ up b a → H'[a]? = H[a]?) (h : xf Ω b xo s H) : xf Ω b xo U H' := by
  obtain ⟨h1, h2, h3, h4, h5, h6, h7⟩ := h
  have al := hW.alike
  refine ⟨fun j t N f e => ?_, (h2.moved al).kept hk, fun j a1 a2 => ((h3 j a1 a2).moved al).kept hk, fun i hi => ?_, fun e he => ?_, fun w hw => nW_warm hW hw (h6 w hw), fun c hc => (h7 c hc).moved al⟩
  · obtain ⟨q, e1, e2⟩ := h1 j t N f e
    exact ⟨q, e1, (e2.moved al).kept hk⟩
  · obtain ⟨q, q', e1, e2, e3, e4, e5⟩ := h4 i hi
    exact ⟨q, q', e1, e2, (e3.moved al).kept hk, (e4.moved al).kept hk, (e5.moved al).kept hk⟩
  · obtain ⟨q, e1, e2⟩ := h5 e he
    exact ⟨q, e1, e2.warm hW⟩
theorem xf_same {Ω : AO} {b : Nat} {xo : Nat → Option Nat} {u U : State} {H : Heap} (hv : U.vm = u.vm) (al : u.vm.Alike U.vm) (h : xf Ω b xo u H) : xf Ω b xo U H := by
  obtain ⟨h1, h2, h3, h4, h5, h6, h7⟩ := h
  refine ⟨fun j t N f e => ?_, h2.moved al, fun j a1 a2 => (h3 j a1 a2).moved al, fun i hi => ?_, fun e he => ?_, fun w hw => nW_same hv.symm hw (h6 w hw), fun c hc => (h7 c hc).moved al⟩
  · obtain ⟨q, e1, e2⟩ := h1 j t N f e
    exact ⟨q, e1, e2.moved al⟩
  · obtain ⟨q, q', e1, e2, e3, e4, e5⟩ := h4 i hi
    exact ⟨q, q', e1, e2, e3.moved al, e4.moved al, e5.moved al⟩
  · obtain ⟨q, e1, e2⟩ := h5 e he
    exact ⟨q, e1, e2.same hv⟩
/-- the locals -/
def LR (b : Nat) (xo : Nat → Option Nat) (ls : Array Slot) (nL : Nat) (L : List Value) : Prop := ls.size = nL ∧ L.length = nL ∧ lv_wf ls ∧ ∀ (i : Nat) (v : Value), L[i]? = some v → isJ v = false → ls[i]? = some (.val (cv b xo v))
def lcl (b : Nat) (xo : Nat → Option Nat) (L : List Value) : List (Nat × Value) := (List.range L.length).filterMap (fun i => match L[i]? with
  | some v => if isJ v then none else some (i, cv b xo v)
  | none => none)
theorem lcl_mem {b : Nat} {xo : Nat → Option Nat} {L : List Value} {q : Nat × Value} : q ∈ lcl b xo L ↔ ∃ v, L[q.1]? = some v ∧ isJ v = false ∧ q.2 = cv b xo v := by
  constructor
  · intro h
    obtain ⟨i, hi, e⟩ := List.mem_filterMap.mp h
    cases hv : L[i]? with
    | none => rw [hv] at e; cases e
    | some v =>
      rw [hv] at e
      by_cases hj : isJ v = true
      · simp [hj] at e
      · simp [hj] at e
        subst e
        exact ⟨v, hv, by simpa using hj, rfl⟩
  · rintro ⟨v, h1, h2, h3⟩
    refine List.mem_filterMap.mpr ⟨q.1, List.mem_range.mpr (List.getElem?_eq_some_iff.mp h1).1, ?_⟩
    rw [h1]
    simp [h2, ← h3]
theorem LR.has {b : Nat} {xo : Nat → Option Nat} {ls : Array Slot} {nL : Nat} {L : List Value} (h : LR b xo ls nL L) : lv_has ls nL (lcl b xo L) := by
  refine ⟨h.1, h.2.2.1, fun q hq => ?_⟩
  obtain ⟨v, h1, h2, h3⟩ := lcl_mem.mp hq
  rw [h3]
  exact h.2.2.2 q.1 v h1 h2
theorem LR.at {b : Nat} {xo : Nat → Option Nat} {ls : Array Slot} {nL : Nat} {L : List Value} (h : LR b xo ls nL L) {i : Nat} {v : Value} (hv : L[i]? = some v) (hj : isJ v = false) : ls[i]? = some (.val (cv b xo v)) := h.2.2.2 i v hv hj
theorem LR.put1 {b : Nat} {xo : Nat → Option Nat} {ls ls' : Array Slot} {nL : Nat} {L : List Value} (h : LR b xo ls nL L) {i : Nat} {v : Value} (hi : i < L.length) (ho : stOK L i = true)
    (h' : lv_has ls' nL ((i, cv b xo v) :: (lcl b xo L).filter (fun q => !(q.1 == i) && !(q.1 + 1 == i && q.2.category == 2)))) : LR b xo ls' nL (L.set i v) := by
  refine ⟨h'.1, by rw [List.length_set]; exact h.2.1, h'.2.1, fun j w hw hj => ?_⟩
  rw [List.getElem?_set] at hw
  by_cases e : i = j
  · subst e
    rw [if_pos rfl, if_pos hi] at hw
    cases hw
    exact h'.2.2 (i, cv b xo v) List.mem_cons_self
  · rw [if_neg e] at hw
    refine h'.2.2 (j, cv b xo w) (List.mem_cons_of_mem _ (List.mem_filter.mpr ⟨lcl_mem.mpr ⟨w, hw, hj, rfl⟩, ?_⟩))
    have e1 : (j == i) = false := by simpa using fun z => e (z.symm)
    simp only [e1, Bool.not_false, Bool.true_and]
    by_cases e2 : j + 1 = i
    · subst e2
      have hn : nl w = true := by
        have := ho
        simp only [stOK, List.getD_eq_getElem?_getD, hw, Option.getD_some] at this
        exact this
      rw [cv_cat, nl_cat hn]
      simp
    · simp [e2]
theorem LR.put2 {b : Nat} {xo : Nat → Option Nat} {ls ls' : Array Slot} {nL : Nat} {L : List Value} (h : LR b xo ls nL L) {i : Nat} {v : Value} (hi : i + 1 < L.length) (ho : stOK L i = true)
    (h' : lv_has ls' nL ((i, cv b xo v) :: (lcl b xo L).filter (fun q => !(q.1 == i) && (!(q.1 == i + 1) && !(q.1 + 1 == i && q.2.category == 2))))) : LR b xo ls' nL ((L.set i v).set (i + 1) jk) := by
  refine ⟨h'.1, by rw [List.length_set, List.length_set]; exact h.2.1, h'.2.1, fun j w hw hj => ?_⟩
  rw [List.getElem?_set] at hw
  by_cases e0 : i + 1 = j
  · subst e0
    rw [if_pos rfl, if_pos (by rw [List.length_set]; exact hi)] at hw
    cases hw
    simp [isJ, jk] at hj
  rw [if_neg e0, List.getElem?_set] at hw
  by_cases e : i = j
  · subst e
    rw [if_pos rfl, if_pos (by omega)] at hw
    cases hw
    exact h'.2.2 (i, cv b xo v) List.mem_cons_self
  · rw [if_neg e] at hw
    refine h'.2.2 (j, cv b xo w) (List.mem_cons_of_mem _ (List.mem_filter.mpr ⟨lcl_mem.mpr ⟨w, hw, hj, rfl⟩, ?_⟩))
    have e1 : (j == i) = false := by simpa using fun z => e (z.symm)
    have e3 : (j == i + 1) = false := by simpa using fun z => e0 (z.symm)
    simp only [e1, e3, Bool.not_false, Bool.true_and]
    by_cases e2 : j + 1 = i
    · subst e2
      have hn : nl w = true := by
        have := ho
        simp only [stOK, List.getD_eq_getElem?_getD, hw, Option.getD_some] at this
        exact this
      rw [cv_cat, nl_cat hn]
      simp
    · simp [e2]
