/-! runs of the small machine, goal first -/
theorem ev_succ {Ω : AO} : ∀ (f d μ pc : Nat) (L st : List Value) (h : AH) (x : Option Value × AH), ev Ω f d μ pc L st h = some x → ev Ω (f + 1) d μ pc L st h = some x := by
  intro f
  induction f with
  | zero => intro d μ pc L st h x e; cases e
  | succ f ih =>
    intro d μ pc L st h x e
    rw [ev] at e ⊢
    split at e
    · rename_i i len hd
      split at e
      · rename_i hok
        rw [if_pos hok]
        unfold evG at e ⊢
        split at e
        · exact e
        · rename_i hr
          split at e
          · rename_i y as rest hc
            split at e
            · cases e
            · split at e
              · rename_i hle
                rw [if_pos hle]
                split at e
                · rename_i r1 h1 q
                  rw [ih _ _ _ _ _ _ _ q]
                  exact ih _ _ _ _ _ _ _ e
                · cases e
              · cases e
          · split at e
            · split at e
              · rename_i hm
                simp only [if_pos hm]
                exact ih _ _ _ _ _ _ _ e
              · cases e
            · cases e
      · cases e
    · cases e
theorem ev_le {Ω : AO} {f g d μ pc : Nat} {L st : List Value} {h : AH} {x : Option Value × AH} (hfg : f ≤ g) (e : ev Ω f d μ pc L st h = some x) : ev Ω g d μ pc L st h = some x := by
  induction hfg with
  | refl => exact e
  | step _ ih => exact ev_succ _ _ _ _ _ _ _ _ ih
def T (Ω : AO) (d μ pc : Nat) (L st : List Value) (h : AH) (Q : Option Value → AH → Prop) : Prop := ∃ f r h', ev Ω f d μ pc L st h = some (r, h') ∧ Q r h'
section TL
variable {Ω : AO} {d μ pc len : Nat} {L st L' st' : List Value} {h h' : AH} {pc' : Nat} {i : Instr} {Q : Option Value → AH → Prop}
theorem T_stp (hd : decode (mB μ) pc = .ok (i, len)) (hok : okL i len = true) (hr : rtn (mR μ) i st = none) (hc : cll (mO μ) i st h = none) (hs : stp Ω (mO μ) (isIni μ) i len pc L st h = some (pc', L', st', h')) (hm : hn h ≤ hn h' ∧ hz h ≤ hz h') : T Ω d μ pc L st h Q = T Ω d μ pc' L' st' h' Q := by
  have key : ∀ f, ev Ω (f + 1) d μ pc L st h = ev Ω f d μ pc' L' st' h' := fun f => by
    rw [ev, hd]
    simp only [if_pos hok, evG, hr, hc, hs, if_pos hm]
  apply propext
  constructor
  · rintro ⟨f, r, x, e, hq⟩
    cases f with
    | zero => cases e
    | succ f => exact ⟨f, r, x, by rw [← key]; exact e, hq⟩
  · rintro ⟨f, r, x, e, hq⟩
    exact ⟨f + 1, r, x, by rw [key]; exact e, hq⟩
theorem T_ret {r : Option Value} (hd : decode (mB μ) pc = .ok (i, len)) (hok : okL i len = true) (hr : rtn (mR μ) i st = some r) : T Ω d μ pc L st h Q = Q r h := by
  have key : ∀ f, ev Ω (f + 1) d μ pc L st h = some (r, h) := fun f => by
    rw [ev, hd]
    simp only [if_pos hok, evG, hr]
  apply propext
  constructor
  · rintro ⟨f, r', x, e, hq⟩
    cases f with
    | zero => cases e
    | succ f =>
      rw [key] at e
      cases e
      exact hq
  · intro hq
    exact ⟨1, r, h, key 0, hq⟩
theorem T_cal {y : Nat} {as rest : List Value} (hd : decode (mB μ) pc = .ok (i, len)) (hok : okL i len = true) (hr : rtn (mR μ) i st = none) (hc : cll (mO μ) i st h = some (y, as, rest)) (hle : (entL (mL y) as).length = mL y) : T Ω (d + 1) μ pc L st h Q = T Ω d y 0 (entL (mL y) as) [] h (fun r h' => T Ω (d + 1) μ (pc + 3) L (r.toList ++ rest) h' Q) := by
  have key : ∀ f, ev Ω (f + 1) (d + 1) μ pc L st h = (match ev Ω f d y 0 (entL (mL y) as) [] h with
        | some (r, h') => ev Ω f (d + 1) μ (pc + 3) L (r.toList ++ rest) h'
        | none => none) := fun f => by
    rw [ev, hd]
    simp only [if_pos hok, evG, hr, hc, if_pos hle]
    rfl
  apply propext
  constructor
  · rintro ⟨f, r, x, e, hq⟩
    cases f with
    | zero => cases e
    | succ f =>
      rw [key] at e
      split at e
      · rename_i r1 h1 q
        exact ⟨f, r1, h1, q, f, r, x, e, hq⟩
      · cases e
  · rintro ⟨f, r1, h1, q, g, r, x, e, hq⟩
    refine ⟨max f g + 1, r, x, ?_, hq⟩
    rw [key, ev_le (Nat.le_max_left f g) q]
    exact ev_le (Nat.le_max_right f g) e
/-- a run that has an answer has no other -/
theorem T_iff {r : Option Value} {h1 : AH} (e : T Ω d μ pc L st h (fun r' h' => r' = r ∧ h' = h1)) : T Ω d μ pc L st h Q = Q r h1 := by
  apply propext
  obtain ⟨f, r0, h0, e0, rfl, rfl⟩ := e
  constructor
  · rintro ⟨g, r, x, e, hq⟩
    have a1 := ev_le (Nat.le_max_left f g) e0
    have a2 := ev_le (Nat.le_max_right f g) e
    rw [a1] at a2
    cases a2
    exact hq
  · intro hq
    exact ⟨f, _, _, e0, hq⟩
theorem T_mono {Q' : Option Value → AH → Prop} (e : T Ω d μ pc L st h Q) (hQ : ∀ r h', Q r h' → Q' r h') : T Ω d μ pc L st h Q' := by
  obtain ⟨f, r, x, e, hq⟩ := e
  exact ⟨f, r, x, e, hQ r x hq⟩
end TL
section TI
variable {Ω : AO} {d μ pc : Nat} {L st : List Value} {h : AH} {Q : Option Value → AH → Prop} {I : Nat → Nat → Int32} {J : Nat → Nat → Int64} {A : Nat → Nat → Option Nat} {S : Nat → Nat × Nat} {n z : Nat}
theorem T_brn {cd : Bool} {i : Instr} {st' : List Value} {off : Int} {t : Nat} (hd : decode (mB μ) pc = .ok (i, 3)) (hok : okL i 3 = true) (hr : rtn (mR μ) i st = none) (hc : cll (mO μ) i st h = none) (hs : stp Ω (mO μ) (isIni μ) i 3 pc L st h = brn pc off cd L st' h) (ht : (pc : Int) + off = (t : Int)) : T Ω d μ pc L st h Q = if cd = true then T Ω d μ t L st' h Q else T Ω d μ (pc + 3) L st' h Q := by
  have hs2 : stp Ω (mO μ) (isIni μ) i 3 pc L st h = some (if cd = true then t else pc + 3, L, st', h) := by
    rw [hs, brn, ht, if_pos (Int.natCast_nonneg t)]
    rfl
  rw [T_stp hd hok hr hc hs2 ⟨Nat.le_refl _, Nat.le_refl _⟩]
  split <;> rfl
theorem T_if_eq {x : Int32} {off : Int} {t : Nat} (hd : decode (mB μ) pc = .ok (.ifCond .eq off, 3)) (ht : (pc : Int) + off = (t : Int)) : T Ω d μ pc L (.int x :: st) h Q = if x = 0 then T Ω d μ t L st h Q else T Ω d μ (pc + 3) L st h Q := by
  rw [T_brn hd rfl rfl rfl rfl ht]; simp only [cnd, decide_eq_true_eq]
theorem T_if_ne {x : Int32} {off : Int} {t : Nat} (hd : decode (mB μ) pc = .ok (.ifCond .ne off, 3)) (ht : (pc : Int) + off = (t : Int)) : T Ω d μ pc L (.int x :: st) h Q = if x = 0 then T Ω d μ (pc + 3) L st h Q else T Ω d μ t L st h Q := by
  rw [T_brn hd rfl rfl rfl rfl ht]; simp only [cnd, decide_eq_true_eq, ite_not]
theorem T_if_lt {x : Int32} {off : Int} {t : Nat} (hd : decode (mB μ) pc = .ok (.ifCond .lt off, 3)) (ht : (pc : Int) + off = (t : Int)) : T Ω d μ pc L (.int x :: st) h Q = if x < 0 then T Ω d μ t L st h Q else T Ω d μ (pc + 3) L st h Q := by
  rw [T_brn hd rfl rfl rfl rfl ht]; simp only [cnd, decide_eq_true_eq]
theorem T_if_ge {x : Int32} {off : Int} {t : Nat} (hd : decode (mB μ) pc = .ok (.ifCond .ge off, 3)) (ht : (pc : Int) + off = (t : Int)) : T Ω d μ pc L (.int x :: st) h Q = if 0 ≤ x then T Ω d μ t L st h Q else T Ω d μ (pc + 3) L st h Q := by
  rw [T_brn hd rfl rfl rfl rfl ht]; simp only [cnd, decide_eq_true_eq]
theorem T_if_gt {x : Int32} {off : Int} {t : Nat} (hd : decode (mB μ) pc = .ok (.ifCond .gt off, 3)) (ht : (pc : Int) + off = (t : Int)) : T Ω d μ pc L (.int x :: st) h Q = if 0 < x then T Ω d μ t L st h Q else T Ω d μ (pc + 3) L st h Q := by
  rw [T_brn hd rfl rfl rfl rfl ht]; simp only [cnd, decide_eq_true_eq]
theorem T_if_le {x : Int32} {off : Int} {t : Nat} (hd : decode (mB μ) pc = .ok (.ifCond .le off, 3)) (ht : (pc : Int) + off = (t : Int)) : T Ω d μ pc L (.int x :: st) h Q = if x ≤ 0 then T Ω d μ t L st h Q else T Ω d μ (pc + 3) L st h Q := by
  rw [T_brn hd rfl rfl rfl rfl ht]; simp only [cnd, decide_eq_true_eq]
theorem T_ic_eq {x y : Int32} {off : Int} {t : Nat} (hd : decode (mB μ) pc = .ok (.if_icmp .eq off, 3)) (ht : (pc : Int) + off = (t : Int)) : T Ω d μ pc L (.int y :: .int x :: st) h Q = if x = y then T Ω d μ t L st h Q else T Ω d μ (pc + 3) L st h Q := by
  rw [T_brn hd rfl rfl rfl rfl ht]; simp only [cnd, decide_eq_true_eq]
theorem T_ic_ne {x y : Int32} {off : Int} {t : Nat} (hd : decode (mB μ) pc = .ok (.if_icmp .ne off, 3)) (ht : (pc : Int) + off = (t : Int)) : T Ω d μ pc L (.int y :: .int x :: st) h Q = if x = y then T Ω d μ (pc + 3) L st h Q else T Ω d μ t L st h Q := by
  rw [T_brn hd rfl rfl rfl rfl ht]; simp only [cnd, decide_eq_true_eq, ite_not]
theorem T_ic_lt {x y : Int32} {off : Int} {t : Nat} (hd : decode (mB μ) pc = .ok (.if_icmp .lt off, 3)) (ht : (pc : Int) + off = (t : Int)) : T Ω d μ pc L (.int y :: .int x :: st) h Q = if x < y then T Ω d μ t L st h Q else T Ω d μ (pc + 3) L st h Q := by
  rw [T_brn hd rfl rfl rfl rfl ht]; simp only [cnd, decide_eq_true_eq]
theorem T_ic_ge {x y : Int32} {off : Int} {t : Nat} (hd : decode (mB μ) pc = .ok (.if_icmp .ge off, 3)) (ht : (pc : Int) + off = (t : Int)) : T Ω d μ pc L (.int y :: .int x :: st) h Q = if y ≤ x then T Ω d μ t L st h Q else T Ω d μ (pc + 3) L st h Q := by
  rw [T_brn hd rfl rfl rfl rfl ht]; simp only [cnd, decide_eq_true_eq]
theorem T_ic_gt {x y : Int32} {off : Int} {t : Nat} (hd : decode (mB μ) pc = .ok (.if_icmp .gt off, 3)) (ht : (pc : Int) + off = (t : Int)) : T Ω d μ pc L (.int y :: .int x :: st) h Q = if y < x then T Ω d μ t L st h Q else T Ω d μ (pc + 3) L st h Q := by
  rw [T_brn hd rfl rfl rfl rfl ht]; simp only [cnd, decide_eq_true_eq]
theorem T_ic_le {x y : Int32} {off : Int} {t : Nat} (hd : decode (mB μ) pc = .ok (.if_icmp .le off, 3)) (ht : (pc : Int) + off = (t : Int)) : T Ω d μ pc L (.int y :: .int x :: st) h Q = if x ≤ y then T Ω d μ t L st h Q else T Ω d μ (pc + 3) L st h Q := by
  rw [T_brn hd rfl rfl rfl rfl ht]; simp only [cnd, decide_eq_true_eq]
theorem T_goto {off : Int} {t : Nat} (hd : decode (mB μ) pc = .ok (.goto off, 3)) (ht : (pc : Int) + off = (t : Int)) : T Ω d μ pc L st h Q = T Ω d μ t L st h Q := by
  refine T_stp hd rfl rfl rfl ?_ ⟨Nat.le_refl _, Nat.le_refl _⟩
  simp only [stp, jmp]
  rw [ht, if_pos (Int.natCast_nonneg t)]
  rfl
end TI
