section ST
variable {p : Program} {l : Launch} {e : Env} {R : Room} {s : State} {m : MethodId} {args : Array Value} {below : List Frame} {meth : Method} {c : Code} {H : Heap} {locs : List Loc} {cells slots : Nat} {Q : State → Prop}
variable {Ω : AO} {b : Nat} {xo : Nat → Option Nat} {D : va_G} {cy : Nat → ClassId} {μ d pc len : Nat} {L st L' st' : List Value} {h h' : AH} {pc' : Nat} {ls : Array Slot}
/-- what holds in a method's body -/
def Cx (p : Program) (R : Room) (s : State) (m : MethodId) (args : Array Value) (meth : Method) (c : Code) (Ω : AO) (b : Nat) (xo : Nat → Option Nat) (D : va_G) (cy : Nat → ClassId) (μ d n0 z0 : Nat) : Prop :=
  p.tables.exec = Jvm.exec ∧ c.code = mB μ ∧ c.maxLocals = mL μ ∧ s.vm.findClass (oN (mO μ)) = some m.cls ∧ (∀ w ∈ gW, w.before args s = true) ∧ meth.sig.returnType = mR μ ∧ meth.locks = false ∧ va_K D kCl (cyT cy) s ∧ xf Ω b xo s s.heap ∧ (isIni μ = true → meth.name = "<init>") ∧ d + 2 ≤ R.frames ∧ 100 * (d + 2) ≤ R.locals ∧ s.heap.size = b + n0
/-- the heap has no more cells than were made -/
theorem W_sz {g : JFrame} (k : H.size ≤ s.heap.size + cells → W p l e R s m args below meth c H locs cells slots Q g) : W p l e R s m args below meth c H locs cells slots Q g := fun T hT X => k (by rw [← hT]; exact X.heapSize) T hT X
theorem va_S_trans {A : Nat → Prop} {H0 H1 : Heap} {locs1 : List Loc} (h1 : va_S A H0 H locs) (h2 : va_S A H H1 locs1) : va_S A H0 H1 locs1 :=
  ⟨Nat.le_trans h1.1 h2.1, fun q hq hA => (h2.2.1 q (Nat.lt_of_lt_of_le hq h1.1) hA).trans (h1.2.1 q hq hA), h2.2.2⟩
theorem va_S_self {A : Nat → Prop} {H0 : Heap} (h1 : va_S A H0 H locs) : va_S A H H locs := ⟨Nat.le_refl _, fun _ _ _ => rfl, h1.2.2⟩
/-- a stack step -/
theorem s_aload {v : Value} (hv : isR v = true) (hx : p.tables.exec = Jvm.exec) {cc : ByteArray} (hb : c.code = cc) {i : Nat} {rest : List Value}
    (hd : decode cc pc = .ok (.aload i, 2)) (hl : ls[i]? = some (.val (cv b xo v))) (k : W p l e R s m args below meth c H locs cells slots Q (F0 m (pc + 2) ls (cv b xo v :: rest))) : W p l e R s m args below meth c H locs cells slots Q (F0 m pc ls rest) := by
  rcases cv_R (b := b) (xo := xo) hv with e | ⟨a, e⟩
  · rw [e] at hl k; exact lv_aloadN hx hb hd hl k
  · rw [e] at hl k; exact lv_aload hx hb hd hl k
theorem s_aload_n {v : Value} (hv : isR v = true) (hx : p.tables.exec = Jvm.exec) {cc : ByteArray} (hb : c.code = cc) {i : Fin 4} {rest : List Value}
    (hd : decode cc pc = .ok (.aload_n i, 1)) (hl : ls[(i : Nat)]? = some (.val (cv b xo v))) (k : W p l e R s m args below meth c H locs cells slots Q (F0 m (pc + 1) ls (cv b xo v :: rest))) : W p l e R s m args below meth c H locs cells slots Q (F0 m pc ls rest) := by
  rcases cv_R (b := b) (xo := xo) hv with e | ⟨a, e⟩
  · rw [e] at hl k; exact lv_aload_nN hx hb hd rfl hl k
  · rw [e] at hl k; exact lv_aload_n hx hb hd rfl hl k
theorem s_astore {v : Value} (hv : isR v = true) (hx : p.tables.exec = Jvm.exec) {cc : ByteArray} (hb : c.code = cc) {i nL : Nat} {rest : List Value} {lv : List (Nat × Value)}
    (hd : decode cc pc = .ok (.astore i, 2)) (hl : lv_has ls nL lv) (hn : i < nL) (k : ∀ ls' : Array Slot, lv_has ls' nL ((i, cv b xo v) :: lv.filter (fun q => !(q.1 == i) && !(q.1 + 1 == i && q.2.category == 2))) → W p l e R s m args below meth c H locs cells slots Q (F0 m (pc + 2) ls' rest)) : W p l e R s m args below meth c H locs cells slots Q (F0 m pc ls (cv b xo v :: rest)) := by
  rcases cv_R (b := b) (xo := xo) hv with e | ⟨a, e⟩
  · rw [e] at k ⊢; exact lv_astoreN hx hb hd hl hn rfl k
  · rw [e] at k ⊢; exact lv_astore hx hb hd hl hn rfl k
theorem s_astore_n {v : Value} (hv : isR v = true) (hx : p.tables.exec = Jvm.exec) {cc : ByteArray} (hb : c.code = cc) {i : Fin 4} {nL : Nat} {rest : List Value} {lv : List (Nat × Value)}
    (hd : decode cc pc = .ok (.astore_n i, 1)) (hl : lv_has ls nL lv) (hn : (i : Nat) < nL) (k : ∀ ls' : Array Slot, lv_has ls' nL (((i : Nat), cv b xo v) :: lv.filter (fun q => !(q.1 == (i : Nat)) && !(q.1 + 1 == (i : Nat) && q.2.category == 2))) → W p l e R s m args below meth c H locs cells slots Q (F0 m (pc + 1) ls' rest)) : W p l e R s m args below meth c H locs cells slots Q (F0 m pc ls (cv b xo v :: rest)) := by
  rcases cv_R (b := b) (xo := xo) hv with e | ⟨a, e⟩
  · rw [e] at k ⊢; exact lv_astore_nN hx hb hd rfl hl hn rfl k
  · rw [e] at k ⊢; exact lv_astore_n hx hb hd rfl hl hn rfl k
theorem s_if {cd : ClassFile.Cond} {x : Int32} {off : Int} {rest : List Value} (hx : p.tables.exec = Jvm.exec) {cc : ByteArray} (hb : c.code = cc) (hd : decode cc pc = .ok (.ifCond cd off, 3)) {t : Nat} (ht : (pc : Int) + off = (t : Int))
    (k : W p l e R s m args below meth c H locs cells slots Q (F0 m (if cnd cd x 0 = true then t else pc + 3) ls rest)) : W p l e R s m args below meth c H locs cells slots Q (F0 m pc ls (.int x :: rest)) := by
  have k1 : cnd cd x 0 = true → W p l e R s m args below meth c H locs cells slots Q (F0 m t ls rest) := fun z => by rw [if_pos z] at k; exact k
  have k2 : ¬ cnd cd x 0 = true → W p l e R s m args below meth c H locs cells slots Q (F0 m (pc + 3) ls rest) := fun z => by rw [if_neg z] at k; exact k
  clear k
  cases cd <;> simp only [cnd, decide_eq_true_eq, Decidable.not_not] at k1 k2
  · exact lv_if_eq hx hb hd ht k1 k2
  · exact lv_if_ne hx hb hd ht k1 k2
  · exact lv_if_lt hx hb hd ht k1 k2
  · exact lv_if_ge hx hb hd ht k1 k2
  · exact lv_if_gt hx hb hd ht k1 k2
  · exact lv_if_le hx hb hd ht k1 k2
theorem s_icmp {cd : ClassFile.Cond} {x y : Int32} {off : Int} {rest : List Value} (hx : p.tables.exec = Jvm.exec) {cc : ByteArray} (hb : c.code = cc) (hd : decode cc pc = .ok (.if_icmp cd off, 3)) {t : Nat} (ht : (pc : Int) + off = (t : Int))
    (k : W p l e R s m args below meth c H locs cells slots Q (F0 m (if cnd cd x y = true then t else pc + 3) ls rest)) : W p l e R s m args below meth c H locs cells slots Q (F0 m pc ls (.int y :: .int x :: rest)) := by
  have k1 : cnd cd x y = true → W p l e R s m args below meth c H locs cells slots Q (F0 m t ls rest) := fun z => by rw [if_pos z] at k; exact k
  have k2 : ¬ cnd cd x y = true → W p l e R s m args below meth c H locs cells slots Q (F0 m (pc + 3) ls rest) := fun z => by rw [if_neg z] at k; exact k
  clear k
  cases cd <;> simp only [cnd, decide_eq_true_eq, Decidable.not_not] at k1 k2
  · exact lv_icmp_eq hx hb hd ht k1 k2
  · exact lv_icmp_ne hx hb hd ht k1 k2
  · exact lv_icmp_lt hx hb hd ht k1 k2
  · exact lv_icmp_ge hx hb hd ht k1 k2
  · exact lv_icmp_gt hx hb hd ht k1 k2
  · exact lv_icmp_le hx hb hd ht k1 k2
/-- reading a cell -/
theorem wd_obj {a cc : Nat} (hw : wd D cy b h H) (ha : a < hn h) (hc : (hSh h a).1 = cc) (h12 : cc < 12) : (cW cy b h)[a]? = some (b + a, .inr (cc, cFs b h cc a)) := by
  rw [cW_get ha, cE_obj hc h12]
theorem wd_int {a k : Nat} (ha : a < hn h) (hc : (hSh h a).1 = k) (h12 : k = 12 ∨ k = 13) : (cW cy b h)[a]? = some (b + a, .inl (cy k, (hSh h a).2, .inl (hI h a))) := by
  rw [cW_get ha, cE_int hc h12]
theorem wd_long {a : Nat} (ha : a < hn h) (hc : (hSh h a).1 = 14) : (cW cy b h)[a]? = some (b + a, .inl (cy 14, (hSh h a).2, .inr (.inl (hJ h a)))) := by
  rw [cW_get ha, cE_long hc]
theorem wd_ref {a k : Nat} (ha : a < hn h) (hc : (hSh h a).1 = k) (h15 : 15 ≤ k) : (cW cy b h)[a]? = some (b + a, .inl (cy k, (hSh h a).2, .inr (.inr (.inr (.inr (fun j => cO b (hA h a j))))))) := by
  rw [cW_get ha, cE_ref hc h15]
/-- a world whose heap has another cell at one place -/
theorem wd_set {a : Nat} {E : va_E} {H1 : Heap} (hw : wd D cy b h H) (ha : a < hn h) (e1 : hn h' = hn h) (e2 : ∀ q, q ≠ a → cE cy b h' q = cE cy b h q) (e3 : cE cy b h' a = E) (hP : va_P D kCl ((cW cy b h).set a (b + a, E)) H1) (hz1 : H1.size = H.size) : wd D cy b h' H1 := by
  refine ⟨?_, by rw [hz1, e1]; exact hw.2⟩
  rw [← e3, cW_set e1 e2] at hP
  exact hP
theorem size_of_S {H0 H1 : Heap} {A : Nat → Prop} {locs1 : List Loc} (hS : va_S A H0 H1 locs1) : H0.size ≤ H1.size := hS.1
end ST
