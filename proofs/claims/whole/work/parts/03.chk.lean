/-! the tables hold: each entry's words stand at their places in lw_tbl -/
def tS (k : Nat) : List Cond := match k with
  | 0 => k2_sels lw_privs
  | 1 => tables_1_1
  | 2 => tables_1_2
  | 3 => tables_1_3
  | 4 => tables_1_4
  | 5 => tables_1_5
  | _ => tables_1_6
theorem tS_in {k : Nat} {w : Cond} (h : w ∈ tS k) : w ∈ lw_tbl := by
  show w ∈ k2_sels lw_privs ++ (tables_1_1 ++ (tables_1_2 ++ (tables_1_3 ++ (tables_1_4 ++ (tables_1_5 ++ tables_1_6)))))
  unfold tS at h
  simp only [List.mem_append]
  split at h
  · exact Or.inl h
  · exact Or.inr (Or.inl h)
  · exact Or.inr (Or.inr (Or.inl h))
  · exact Or.inr (Or.inr (Or.inr (Or.inl h)))
  · exact Or.inr (Or.inr (Or.inr (Or.inr (Or.inl h))))
  · exact Or.inr (Or.inr (Or.inr (Or.inr (Or.inr (Or.inl h)))))
  · exact Or.inr (Or.inr (Or.inr (Or.inr (Or.inr (Or.inr h)))))
def wAt (p : Nat) (w : Cond) : Bool := decide ((tS (p / 1000))[p % 1000]? = some w)
theorem wAt_mem {p : Nat} {w : Cond} (h : wAt p w = true) : w ∈ lw_tbl := tS_in (List.mem_of_getElem? (of_decide_eq_true h))
def fOk (e : Nat × Nat × Nat × Nat × Nat × Nat) : Bool := decide (e.2.2.1 < 12) && decide (e.2.2.2.2.1 = 0 ∨ e.2.2.1 ≠ e.1) && (decide (e.2.2.2.1 < kN e.2.2.1) && wAt e.2.2.2.2.2 (if e.2.2.2.2.1 = 0 then .fieldLink (oN e.1) e.2.1 (oN e.2.2.1) (kF e.2.2.1 e.2.2.2.1).1 (kF e.2.2.1 e.2.2.2.1).2.1 else .fieldLinkNest (oN e.1) e.2.1 (oN e.2.2.1) (kF e.2.2.1 e.2.2.2.1).1 (kF e.2.2.1 e.2.2.2.1).2.1 "RiverDown"))
theorem fTb_ok : fTb.all fOk = true := by decide +kernel
/-- a call: owner, entry, callee, args (with the receiver), kind (0 static, 1 init, 2 virtual), nest, places of the link, of static or instanceMethod, of selects, of initialized, of code -/
def cOk (e : Nat × Nat × Nat × Nat × Nat × Nat × Nat × Nat × Nat × Nat × Nat) : Bool :=
  let y := mY e.2.2.1
  (if e.2.2.2.2.2.1 = 0 then wAt e.2.2.2.2.2.2.1 (.methodLink (oN e.1) e.2.1 y) else wAt e.2.2.2.2.2.2.1 (.methodLinkNest (oN e.1) e.2.1 y "RiverDown")) &&
  (if e.2.2.2.2.1 = 0 then wAt e.2.2.2.2.2.2.2.1 (.static y) else wAt e.2.2.2.2.2.2.2.1 (.instanceMethod y)) &&
  (if e.2.2.2.2.1 = 2 then wAt e.2.2.2.2.2.2.2.2.1 (.selects y.cls y y) else true) &&
  (if e.2.2.2.2.1 = 1 then decide (y.name = "<init>") && decide (mR e.2.2.1 = none) else decide (y.name ≠ "<init>")) &&
  wAt e.2.2.2.2.2.2.2.2.2.1 (.initialized y.cls) && decide (e.2.2.1 ∈ mIs) &&
  decide ((parseMethodDescriptor y.desc).map (fun d => d.parameters.length) = some (if e.2.2.2.2.1 = 0 then e.2.2.2.1 else e.2.2.2.1 - 1)) && decide (0 < e.2.2.2.1 ∨ e.2.2.2.2.1 = 0) && decide (e.2.2.2.2.1 ≤ 2) && decide (plainName y.cls = true) && decide (y.cls ≠ "java/lang/invoke/MethodHandle" ∧ y.cls ≠ "java/lang/invoke/VarHandle") && decide (mL e.2.2.1 ≤ 60)
theorem cTb_ok0 : ((cTb.drop 0).take 40).all cOk = true := by decide +kernel
theorem cTb_ok1 : ((cTb.drop 40).take 40).all cOk = true := by decide +kernel
theorem cTb_ok2 : ((cTb.drop 80).take 40).all cOk = true := by decide +kernel
theorem cTb_ok3 : ((cTb.drop 120).take 40).all cOk = true := by decide +kernel
theorem cTb_ok4 : ((cTb.drop 160).take 40).all cOk = true := by decide +kernel
theorem cTb_ok5 : ((cTb.drop 200).take 40).all cOk = true := by decide +kernel
set_option maxRecDepth 100000 in
theorem cTb_cut : cTb = (cTb.drop 0).take 40 ++ ((cTb.drop 40).take 40 ++ ((cTb.drop 80).take 40 ++ ((cTb.drop 120).take 40 ++ ((cTb.drop 160).take 40 ++ (cTb.drop 200).take 40)))) := rfl
theorem cTb_ok : cTb.all cOk = true := by
  rw [cTb_cut]
  simp only [List.all_append, Bool.and_eq_true]
  exact ⟨cTb_ok0, cTb_ok1, cTb_ok2, cTb_ok3, cTb_ok4, cTb_ok5⟩
set_option maxRecDepth 1000000 in
theorem cw_all : mPs.map (fun p => (tS (p / 1000))[p % 1000]?) = mIs.map (fun k => some (Cond.code (mY k) (mB k) (mL k) (mR k))) := rfl
theorem cw_in {k : Nat} (h : k ∈ mIs) : Cond.code (mY k) (mB k) (mL k) (mR k) ∈ lw_tbl := by
  have h1 : some (Cond.code (mY k) (mB k) (mL k) (mR k)) ∈ mIs.map (fun k => some (Cond.code (mY k) (mB k) (mL k) (mR k))) := List.mem_map.mpr ⟨k, h, rfl⟩
  rw [← cw_all] at h1
  obtain ⟨p, -, hp⟩ := List.mem_map.mp h1
  exact tS_in (List.mem_of_getElem? hp)
theorem mTb_ok : mTb.all (fun e => decide (e.2.2.1 ≤ 1) && wAt e.2.2.2 (.methodLink (oN e.1) e.2.1 (if e.2.2.1 = 0 then Lib.Math.max.name else Lib.Math.min.name))) = true := by decide +kernel
theorem iTb_ok : iTb.all (fun e => wAt e.2.2.2 (.constant (oN e.1) e.2.1 e.2.2.1)) = true := by decide +kernel
theorem lTb_ok : lTb.all (fun e => wAt e.2.2.2 (.constantLong (oN e.1) e.2.1 e.2.2.1)) = true := by decide +kernel
theorem sTb_ok : sTb.all (fun e => decide (e.2.2.1 < 14) && wAt e.2.2.2 (.stringRef (oN e.1) e.2.1 (sTx.getD e.2.2.1 ""))) = true := by decide +kernel
theorem nTb_ok : nTb.all (fun e => decide (e.2.2.1 < 12) && wAt e.2.2.2.1 (.classLink (oN e.1) e.2.1 (oN e.2.2.1)) && wAt e.2.2.2.2.1 (.instantiable (oN e.2.2.1) (kN e.2.2.1)) && wAt e.2.2.2.2.2 (.initialized (oN e.2.2.1))) = true := by decide +kernel
def aKd (c : Nat) : Nat := if c = 1 then 15 else if c = 8 then 16 else 17
def aCl (k : Nat) : Nat := if k = 15 then 1 else if k = 16 then 8 else 9
theorem aTb_ok : aTb.all (fun e => decide (e.2.2.1 = 1 ∨ e.2.2.1 = 8 ∨ e.2.2.1 = 9) && wAt e.2.2.2.1 (.classLink (oN e.1) e.2.1 (oN e.2.2.1)) && wAt e.2.2.2.2 (.arrayOver (.object (oN e.2.2.1)))) = true := by decide +kernel
theorem oTb_ok : oTb.all (fun e => wAt e.2.2 (.methodLink (oN e.1) e.2.1 objectInit)) = true := by decide +kernel
theorem yTb_ok : yTb.all (fun e => wAt e.2.2 (.methodLink (oN e.1) e.2.1 arraycopyName)) = true := by decide +kernel
theorem gTb_ok : gTb.all (fun e => decide (e.2.2.1 < 6) && decide (e.2.2.2.1 = 0) && wAt e.2.2.2.2 (.fieldLink (oN e.1) e.2.1 (xSt.getD e.2.2.1 ("", "", "")).1 (xSt.getD e.2.2.1 ("", "", "")).2.1 (xSt.getD e.2.2.1 ("", "", "")).2.2)) = true := by decide +kernel
theorem xTb_ok : xTb.all (fun e => decide (e.1 = 13) && wAt e.2.2.2 (if e.2.2.1 = 0 then .fieldLink (oN e.1) e.2.1 "java/lang/String" "value" "[B" else .fieldLink (oN e.1) e.2.1 "java/lang/String" "coder" "B")) = true := by decide +kernel
theorem kF_ok : ∀ c, c < 12 → ∀ k, k < kN c → parseFieldDescriptor (kT c k).2.2.1 = some (kTy c k) := by decide +kernel
theorem kNm_ok : ∀ c, c < 12 → ∀ a, a < kN c → ∀ b, b < kN c → a ≠ b → (kT c a).2.1 ≠ (kT c b).2.1 := by decide +kernel
theorem kLay_ok : ∀ c, c < 12 → ∀ w ∈ u_ws (oN c) (kT c) (kN c), w ∈ lw_tbl := by decide +kernel
def isNest (w : Cond) : Bool := match w with
  | .fieldLinkNest .. => true
  | .methodLinkNest .. => true
  | _ => false
def gW : List Cond := lw_tbl.filter goodWord
def nW : List Cond := lw_tbl.filter isNest
theorem gW_in {w : Cond} (h : w ∈ lw_tbl) (g : goodWord w = true) : w ∈ gW := List.mem_filter.mpr ⟨h, g⟩
theorem nW_in {w : Cond} (h : w ∈ lw_tbl) (g : isNest w = true) : w ∈ nW := List.mem_filter.mpr ⟨h, g⟩
theorem gW_good : GoodIn gW gW := fun w hw => ⟨hw, good_of_word (List.mem_filter.mp hw).2⟩
