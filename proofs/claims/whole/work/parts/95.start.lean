/-! the law's entry: what stands outside, the classes' numbers; the claim out of the small machine's run; written by wip/whole/py/gen4.py -/
def h00 : AH := (fun _ _ => 0, fun _ _ => 0, fun _ _ => none, fun _ => (0, 0), 0, 0)
def LawOK : Prop := ∀ (L : Nat) (xs : Nat → Int32), L ≤ 3072 → ∃ f h', ev (L, xs) f 500 191 0 [.retAddr 0, jk, jk, jk] [] h00 = some (some (.int 1), h') ∧ hn h' ≤ 600000 ∧ hz h' ≤ 7302250
def gv1 : List Cond := flatC (Jvm.Cond.and given_1 narrow_1)
theorem mem_seg {α : Type} {l m : List α} {p k : Nat} (h : (l.drop p).take k = m) {x : α} (hx : x ∈ m) : x ∈ l := by
  rw [← h] at hx
  exact List.mem_of_mem_drop (List.mem_of_mem_take hx)
def sOwn : List (String × Nat) := [("RiverDown", 57), ("RiverDown$Reader", 110), ("RiverDown$Reader", 116), ("RiverDown$Reader", 118), ("RiverDown$Reader", 120), ("RiverDown$Reader", 122), ("RiverDown$Reader", 124), ("RiverDown$Reader", 126), ("RiverDown$Reader", 128), ("RiverDown$Reader", 130), ("RiverDown$Reader", 132), ("RiverDown$Reader", 134), ("RiverDown$Reader", 136), ("RiverDown$Reader", 103)]
def sTm (i : Nat) : Term := .string (sOwn.getD i ("", 0)).1 (sOwn.getD i ("", 0)).2
def sLen (i : Nat) : Nat := (sBy.getD i []).length
def sSeg (i : Nat) : List Cond := Cond.exactly (sTm i) "java/lang/String" :: Cond.eq (.field (sTm i) "java/lang/String" "coder" "B") (.int 0) :: Cond.arrayOf (.field (sTm i) "java/lang/String" "value" "[B") .byte :: Cond.eq (.length (.field (sTm i) "java/lang/String" "value" "[B")) (.int (Int32.ofNat (sLen i))) :: (List.range (sLen i)).map (fun j => Cond.eq (.elem (.field (sTm i) "java/lang/String" "value" "[B") (.int (Int32.ofNat j))) (.int ((sBy.getD i []).getD j 0)))
set_option maxRecDepth 100000 in
theorem seg_s0 : (gv1.drop 128).take 85 = sSeg 0 := by decide +kernel
set_option maxRecDepth 100000 in
theorem seg_s1 : (gv1.drop 213).take 8 = sSeg 1 := by decide +kernel
set_option maxRecDepth 100000 in
theorem seg_s2 : (gv1.drop 222).take 9 = sSeg 2 := by decide +kernel
set_option maxRecDepth 100000 in
theorem seg_s3 : (gv1.drop 233).take 9 = sSeg 3 := by decide +kernel
set_option maxRecDepth 100000 in
theorem seg_s4 : (gv1.drop 245).take 8 = sSeg 4 := by decide +kernel
set_option maxRecDepth 100000 in
theorem seg_s5 : (gv1.drop 257).take 10 = sSeg 5 := by decide +kernel
set_option maxRecDepth 100000 in
theorem seg_s6 : (gv1.drop 272).take 8 = sSeg 6 := by decide +kernel
set_option maxRecDepth 100000 in
theorem seg_s7 : (gv1.drop 286).take 8 = sSeg 7 := by decide +kernel
set_option maxRecDepth 100000 in
theorem seg_s8 : (gv1.drop 301).take 7 = sSeg 8 := by decide +kernel
set_option maxRecDepth 100000 in
theorem seg_s9 : (gv1.drop 316).take 9 = sSeg 9 := by decide +kernel
set_option maxRecDepth 100000 in
theorem seg_s10 : (gv1.drop 334).take 6 = sSeg 10 := by decide +kernel
set_option maxRecDepth 100000 in
theorem seg_s11 : (gv1.drop 350).take 7 = sSeg 11 := by decide +kernel
set_option maxRecDepth 100000 in
theorem seg_s12 : (gv1.drop 368).take 7 = sSeg 12 := by decide +kernel
set_option maxRecDepth 100000 in
theorem seg_s13 : (gv1.drop 387).take 12 = sSeg 13 := by decide +kernel
theorem seg_s {i : Nat} (h : i < 14) : ∀ w ∈ sSeg i, w ∈ gv1 := by
  intro w hw
  rcases (show i = 0 ∨ i = 1 ∨ i = 2 ∨ i = 3 ∨ i = 4 ∨ i = 5 ∨ i = 6 ∨ i = 7 ∨ i = 8 ∨ i = 9 ∨ i = 10 ∨ i = 11 ∨ i = 12 ∨ i = 13 by omega) with rfl | rfl | rfl | rfl | rfl | rfl | rfl | rfl | rfl | rfl | rfl | rfl | rfl | rfl
  · exact mem_seg seg_s0 hw
  · exact mem_seg seg_s1 hw
  · exact mem_seg seg_s2 hw
  · exact mem_seg seg_s3 hw
  · exact mem_seg seg_s4 hw
  · exact mem_seg seg_s5 hw
  · exact mem_seg seg_s6 hw
  · exact mem_seg seg_s7 hw
  · exact mem_seg seg_s8 hw
  · exact mem_seg seg_s9 hw
  · exact mem_seg seg_s10 hw
  · exact mem_seg seg_s11 hw
  · exact mem_seg seg_s12 hw
  · exact mem_seg seg_s13 hw
def xT (j : Nat) : Term := .static (xSt.getD j ("", "", "")).1 (xSt.getD j ("", "", "")).2.1 (xSt.getD j ("", "", "")).2.2
def xSeg (j : Nat) : List Cond := Cond.arrayOf (xT j) .int :: Cond.eq (.length (xT j)) (.int (Int32.ofNat (xTab.getD (j - 1) []).length)) :: (List.range (xTab.getD (j - 1) []).length).map (fun k => Cond.eq (.elem (xT j) (.int (Int32.ofNat k))) (.int ((xTab.getD (j - 1) []).getD k 0)))
def xSegL : List Cond := Cond.arrayOf (xT 4) .long :: Cond.eq (.length (xT 4)) (.int (Int32.ofNat 7)) :: (List.range 7).map (fun k => Cond.eq (.elem (xT 4) (.int (Int32.ofNat k))) (.long (xHun.getD k 0)))
set_option maxRecDepth 100000 in
theorem seg_x1 : (gv1.drop 10).take 11 = xSeg 1 := by decide +kernel
set_option maxRecDepth 100000 in
theorem seg_x2 : (gv1.drop 22).take 8 = xSeg 2 := by decide +kernel
set_option maxRecDepth 100000 in
theorem seg_x3 : (gv1.drop 31).take 51 = xSeg 3 := by decide +kernel
set_option maxRecDepth 100000 in
theorem seg_x4 : (gv1.drop 83).take 9 = xSegL := by decide +kernel
set_option maxRecDepth 100000 in
theorem seg_x0 : (gv1.drop 4).take 2 = [Cond.eq (xT 0) (.int 1), Cond.isRef (xT 5)] := by decide +kernel
theorem seg_x {j : Nat} (h1 : 1 ≤ j) (h4 : j < 4) : ∀ w ∈ xSeg j, w ∈ gv1 := by
  intro w hw
  rcases (show j = 1 ∨ j = 2 ∨ j = 3 by omega) with rfl | rfl | rfl
  · exact mem_seg seg_x1 hw
  · exact mem_seg seg_x2 hw
  · exact mem_seg seg_x3 hw
def stOk (e : Nat × String × String × String × Nat) : Bool := true

theorem gx_ini : (List.range 6).all (fun j => wAt (([2005, 3069, 3087, 3235, 4004, 2021] : List Nat).getD j 0) (.laysStatic (xSt.getD j ("", "", "")).1 (xSt.getD j ("", "", "")).2.1 (xSt.getD j ("", "", "")).2.2) && wAt (([1010, 1001, 1020, 1007, 1007, 1012] : List Nat).getD j 0) (.initialized (xSt.getD j ("", "", "")).1)) = true := by decide +kernel
theorem gx_inst : (List.range 12).all (fun c => wAt (([1155, 3089, 1198, 1030, 1149, 1105, 1036, 1060, 1217, 2220, 1022, 4184] : List Nat).getD c 0) (.instantiable (oN c) (kN c))) = true := by decide +kernel
theorem gx_ac : wAt 3018 (.arrayClass .byte) = true ∧ wAt 1058 (.arrayClass .int) = true ∧ wAt 1170 (.arrayClass .long) = true := by decide +kernel
theorem gx_ao : wAt 1083 (.arrayOver (.object (oN 1))) = true ∧ wAt 1214 (.arrayOver (.object (oN 8))) = true ∧ wAt 1066 (.arrayOver (.object (oN 9))) = true := by decide +kernel
theorem sTb_own : sTb.all (fun e => decide (e.2.2.1 < 14) && decide (sOwn.getD e.2.2.1 ("", 0) = (oN e.1, e.2.1))) = true := by decide +kernel
/-- what stands outside, at the law's entry -/
theorem xf_start {s : State} {args : Array Value} {b L : Nat} {xs : Nat → Int32} (hts : ∀ w ∈ lw_tbl, w.before args s = true) (hgv : (Jvm.Cond.and given_1 narrow_1).before args s = true) (hX : va_X b L xs s s.heap) (hbl : b < s.heap.size) :
    ∃ xo, xf (L, xs) s.heap.size xo s s.heap ∧ xo 0 = some b := by
  have hg : ∀ w ∈ gv1, w.before args s = true := flat_of_before _ hgv
  have hA : ∀ a : Nat, a < s.heap.size → ¬ up s.heap.size a := fun a ha => Nat.not_le.mpr ha
  -- the texts
  have hs : ∀ i : Nat, ∃ q : Nat × Nat, i < 14 → (sTm i).eval args s none [] s = some (.ref q.1) ∧ va_O "java/lang/String" q.1 (up s.heap.size) s s.heap ∧ va_OF "java/lang/String" "coder" "B" (.int 0) q.1 (up s.heap.size) s s.heap ∧ va_OF "java/lang/String" "value" "[B" (.ref q.2) q.1 (up s.heap.size) s s.heap ∧ va_T .byte q.2 (sLen i) (fun j => .int ((sBy.getD i []).getD j 0)) (up s.heap.size) s s.heap := by
    intro i
    by_cases hi : i < 14
    · have hm := seg_s hi
      have g1 := hg _ (hm _ (List.mem_cons_self))
      have g2 := hg _ (hm _ (List.mem_cons_of_mem _ List.mem_cons_self))
      have g3 := hg _ (hm _ (List.mem_cons_of_mem _ (List.mem_cons_of_mem _ List.mem_cons_self)))
      have g4 := hg _ (hm _ (List.mem_cons_of_mem _ (List.mem_cons_of_mem _ (List.mem_cons_of_mem _ List.mem_cons_self))))
      have g5 : ∀ j, j < sLen i → (Cond.eq (.elem (.field (sTm i) "java/lang/String" "value" "[B") (.int (Int32.ofNat j))) (.int ((sBy.getD i []).getD j 0))).before args s = true := fun j hj => hg _ (hm _ (List.mem_cons_of_mem _ (List.mem_cons_of_mem _ (List.mem_cons_of_mem _ (List.mem_cons_of_mem _ (List.mem_map.mpr ⟨j, List.mem_range.mpr hj, rfl⟩))))))
      have hlen : sLen i < 2 ^ 31 := by
        rcases (show i = 0 ∨ i = 1 ∨ i = 2 ∨ i = 3 ∨ i = 4 ∨ i = 5 ∨ i = 6 ∨ i = 7 ∨ i = 8 ∨ i = 9 ∨ i = 10 ∨ i = 11 ∨ i = 12 ∨ i = 13 by omega) with rfl | rfl | rfl | rfl | rfl | rfl | rfl | rfl | rfl | rfl | rfl | rfl | rfl | rfl <;> decide +kernel
      obtain ⟨a, c, cA, kA, q1, q2, q3, q4, q5, q6, -⟩ := Cond.exactly_spec (args := args) (first := s) (o := none) (s := s) (idx := []) (t := sTm i) (cls := "java/lang/String") g1
      obtain ⟨t, ht, hT⟩ := va_Tof (f := fun j => .int ((sBy.getD i []).getD j 0)) (A := up s.heap.size) hlen g3 (va_eqt g4) (fun j hj => va_eqt (g5 j hj)) hA
      exact ⟨(a, t), fun _ => ⟨q1, ⟨cA, q3, q5, by rw [q6]; exact q2, hA a (Array.getElem?_eq_some_iff.mp q3).1⟩, vk_OFof q1 (va_eqt g2) hA, vk_OFof q1 ht hA, hT⟩⟩
    · exact ⟨(0, 0), fun h => absurd h hi⟩
  obtain ⟨ad, had⟩ := Classical.axiomOfChoice hs
  -- the static rows
  have hx : ∀ j : Nat, ∃ q : Nat, 1 ≤ j → j < 4 → (xT j).eval args s none [] s = some (.ref q) ∧ va_T .int q (xTab.getD (j - 1) []).length (fun k => .int ((xTab.getD (j - 1) []).getD k 0)) (up s.heap.size) s s.heap := by
    intro j
    by_cases h1 : 1 ≤ j ∧ j < 4
    · have hm := seg_x h1.1 h1.2
      have hlen : (xTab.getD (j - 1) []).length < 2 ^ 31 := by
        rcases (show j = 1 ∨ j = 2 ∨ j = 3 by omega) with rfl | rfl | rfl <;> decide +kernel
      obtain ⟨t, ht, hT⟩ := va_Tof (f := fun k => .int ((xTab.getD (j - 1) []).getD k 0)) (A := up s.heap.size) hlen (hg _ (hm _ List.mem_cons_self)) (va_eqt (hg _ (hm _ (List.mem_cons_of_mem _ List.mem_cons_self)))) (fun k hk => va_eqt (hg _ (hm _ (List.mem_cons_of_mem _ (List.mem_cons_of_mem _ (List.mem_map.mpr ⟨k, List.mem_range.mpr hk, rfl⟩)))))) hA
      exact ⟨t, fun _ _ => ⟨ht, hT⟩⟩
    · exact ⟨0, fun a1 a2 => absurd ⟨a1, a2⟩ h1⟩
  obtain ⟨ax, hax⟩ := Classical.axiomOfChoice hx
  obtain ⟨t4, ht4, hT4⟩ := va_Tof (tm := xT 4) (ty := .long) (N := 7) (f := fun k => .long (xHun.getD k 0)) (A := up s.heap.size) (args := args) (s := s) (by decide) (hg _ (mem_seg seg_x4 List.mem_cons_self)) (va_eqt (hg _ (mem_seg seg_x4 (List.mem_cons_of_mem _ List.mem_cons_self)))) (fun k hk => va_eqtl (hg _ (mem_seg seg_x4 (List.mem_cons_of_mem _ (List.mem_cons_of_mem _ (List.mem_map.mpr ⟨k, List.mem_range.mpr hk, rfl⟩)))))) hA
  have hini : ∀ j, j < 6 → (Cond.laysStatic (xSt.getD j ("", "", "")).1 (xSt.getD j ("", "", "")).2.1 (xSt.getD j ("", "", "")).2.2).before args s = true ∧ (Cond.initialized (xSt.getD j ("", "", "")).1).before args s = true := fun j hj => by
    have h := List.all_eq_true.mp gx_ini j (List.mem_range.mpr hj)
    simp only [Bool.and_eq_true] at h
    exact ⟨hts _ (wAt_mem h.1), hts _ (wAt_mem h.2)⟩
  have h0 := va_Zof (hini 0 (by decide)).1 (hini 0 (by decide)).2 (va_eqt (t := xT 0) (hg _ (mem_seg seg_x0 List.mem_cons_self))) hA
  have h5 := va_Zqof (hini 5 (by decide)).1 (hini 5 (by decide)).2 (hg _ (mem_seg seg_x0 (List.mem_cons_of_mem _ List.mem_cons_self))) hA
  obtain ⟨x5, hx5⟩ : ∃ x5 : Option Nat, va_Z (xSt.getD 5 ("", "", "")).1 (xSt.getD 5 ("", "", "")).2.1 (xSt.getD 5 ("", "", "")).2.2 (va_rf x5) (up s.heap.size) s s.heap := by
    rcases h5 with h | ⟨t, h⟩
    · exact ⟨none, h⟩
    · exact ⟨some t, h⟩
  refine ⟨fun j => if j = 0 then some b else if j < 4 then some (ax j) else if j = 4 then some t4 else if j = 5 then x5 else if j < 30 then some (ad (j - 16)).1 else some (ad (j - 32)).2, ⟨?_, h0, ?_, ?_, ?_, ?_, ?_⟩, rfl⟩
  · intro j t N f e
    unfold xA at e
    by_cases e0 : j = 0
    · subst e0
      rw [if_pos rfl] at e
      cases e
      refine ⟨b, rfl, ?_⟩
      obtain ⟨scr, c1, c2, c3, c4, c5⟩ := hX
      exact ⟨scr, c1, c2, c3, by omega, by rw [c4], c5, hA b hbl⟩
    · rw [if_neg e0] at e
      by_cases e1 : j < 4
      · rw [if_pos e1] at e
        cases e
        exact ⟨ax j, by simp [e0, e1], (hax j (by omega) e1).2⟩
      · rw [if_neg e1] at e
        by_cases e2 : j = 4
        · subst e2
          rw [if_pos rfl] at e
          cases e
          exact ⟨t4, by simp, hT4⟩
        · rw [if_neg e2] at e
          by_cases e3 : 32 ≤ j ∧ j < 46
          · rw [if_pos e3] at e
            cases e
            refine ⟨(ad (j - 32)).2, ?_, (had (j - 32) (by omega)).2.2.2.2⟩
            dsimp only
            rw [if_neg e0, if_neg e1, if_neg e2, if_neg (by omega), if_neg (by omega)]
          · rw [if_neg e3] at e
            cases e
  · intro j a1 a2
    by_cases e1 : j < 4
    · have e := (hax j a1 e1).1
      dsimp only
      rw [if_neg (by omega), if_pos e1]
      exact va_Zref (hini j a2).1 (hini j a2).2 e hA
    · rcases (show j = 4 ∨ j = 5 by omega) with rfl | rfl
      · exact va_Zref (hini 4 (by decide)).1 (hini 4 (by decide)).2 ht4 hA
      · exact hx5
  · intro i hi
    obtain ⟨q1, q2, q3, q4, q5⟩ := had i hi
    refine ⟨(ad i).1, (ad i).2, ?_, ?_, q2, q3, q4⟩
    · dsimp only
      rw [if_neg (by omega), if_neg (by omega), if_neg (by omega), if_neg (by omega), if_pos (by omega), show 16 + i - 16 = i by omega]
    · dsimp only
      rw [if_neg (by omega), if_neg (by omega), if_neg (by omega), if_neg (by omega), if_neg (by omega), show 32 + i - 32 = i by omega]
  · intro e he
    have h1 := List.all_eq_true.mp sTb_own e he
    simp only [Bool.and_eq_true, decide_eq_true_eq] at h1
    have h2 := List.all_eq_true.mp sTb_ok e he
    simp only [Bool.and_eq_true, decide_eq_true_eq] at h2
    refine ⟨(ad e.2.2.1).1, ?_, ?_⟩
    · dsimp only
      rw [if_neg (by omega), if_neg (by omega), if_neg (by omega), if_neg (by omega), if_pos (by omega), show 16 + e.2.2.1 - 16 = e.2.2.1 by omega]
    · have q1 := (had _ h1.1).1
      simp only [sTm, h1.2] at q1
      exact vk_R.of (hts _ (wAt_mem h2.2)) q1
  · intro w hw
    have hn := (List.mem_filter.mp hw)
    have hb := hts w hn.1
    have h2 := hn.2
    cases w <;> first | exact va_Nw.of rfl hb | (simp [isNest] at h2)
  · rintro c (rfl | rfl | rfl)
    · exact va_AO.of (hts _ (wAt_mem gx_ao.1))
    · exact va_AO.of (hts _ (wAt_mem gx_ao.2.1))
    · exact va_AO.of (hts _ (wAt_mem gx_ao.2.2))
/-- the classes' numbers -/
theorem K_start {s : State} {args : Array Value} (hts : ∀ w ∈ lw_tbl, w.before args s = true) : ∃ (D : va_G) (cy : Nat → ClassId), va_K D kCl (cyT cy) s := by
  have h0 : ∀ k : Nat, ∃ q : ClassId × (Nat → Nat), k < 12 → u_Kn s (oN k) (kT k) (kN k) q.1 q.2 := by
    intro k
    by_cases hk : k < 12
    · obtain ⟨cC, iS, h⟩ := u_known (C := oN k) (T := kT k) (N := kN k) (n := kN k) hts (kLay_ok k hk) (hts _ (wAt_mem (List.all_eq_true.mp gx_inst k (List.mem_range.mpr hk))))
      exact ⟨(cC, iS), fun _ => h⟩
    · exact ⟨(0, fun _ => 0), fun h => absurd h hk⟩
  obtain ⟨ad, had⟩ := Classical.axiomOfChoice h0
  have h1 : ∀ k : Nat, ∃ cA : ClassId, 12 ≤ k → k ≤ 17 → ArrOfT s cA (aTy k) ∧ va_RA s cA (aTy k) := by
    intro k
    have prim : ∀ t : FieldType, (∀ C, t ≠ .object C) → (Cond.arrayClass t).before args s = true → ∃ cA : ClassId, ArrOfT s cA t ∧ va_RA s cA t := by
      intro t ht hc
      obtain ⟨c, kA, comp, f1, f2, f3⟩ := Cond.arrayClass_spec hc
      refine ⟨c, fun n z => ⟨(fun k h => by cases h), kA, f2, comp, f3⟩, ?_⟩
      cases t <;> first | exact f1 | exact absurd rfl (ht _)
    have obj : ∀ C : String, va_AO C s → ∃ cA : ClassId, ArrOfT s cA (.object C) ∧ va_RA s cA (.object C) := by
      intro C hc
      obtain ⟨comp, c, kA, f1, f2, f3, f4, f5⟩ := Cond.arrayOver_spec (va_AO.use (A := #[]) hc)
      exact ⟨c, fun n z => ⟨(fun k h => by cases h), kA, f3, comp, f4⟩, kA, comp, f3, f4, f1, f5⟩
    by_cases hk : 12 ≤ k ∧ k ≤ 17
    · have key : ∃ cA : ClassId, ArrOfT s cA (aTy k) ∧ va_RA s cA (aTy k) := by
        rcases (show k = 12 ∨ k = 13 ∨ k = 14 ∨ k = 15 ∨ k = 16 ∨ k = 17 by omega) with rfl | rfl | rfl | rfl | rfl | rfl
        · exact prim .byte (fun C h => by cases h) (hts _ (wAt_mem gx_ac.1))
        · exact prim .int (fun C h => by cases h) (hts _ (wAt_mem gx_ac.2.1))
        · exact prim .long (fun C h => by cases h) (hts _ (wAt_mem gx_ac.2.2))
        · exact obj (oN 1) (va_AO.of (hts _ (wAt_mem gx_ao.1)))
        · exact obj (oN 8) (va_AO.of (hts _ (wAt_mem gx_ao.2.1)))
        · exact obj (oN 9) (va_AO.of (hts _ (wAt_mem gx_ao.2.2)))
      obtain ⟨cA, h⟩ := key
      exact ⟨cA, fun _ _ => h⟩
    · exact ⟨0, fun a1 a2 => absurd ⟨a1, a2⟩ hk⟩
  obtain ⟨cy, hcy⟩ := Classical.axiomOfChoice h1
  refine ⟨(fun k => (ad k).1, fun k => (ad k).2), cy, fun c q hq => ?_, fun k q hq => ?_⟩
  · have hc : c < 12 := by
      have := (List.getElem?_eq_some_iff.mp hq).1
      simpa [kCl] using this
    rw [kCl_at hc] at hq
    cases hq
    exact had c hc
  · have hc : k < 6 := by
      have := (List.getElem?_eq_some_iff.mp hq).1
      simpa [cyT] using this
    have e := cyT_at cy (k := 12 + k) (by omega) (by omega)
    rw [show 12 + k - 12 = k by omega] at e
    rw [e] at hq
    cases hq
    exact hcy (12 + k) (by omega) (by omega)
/-- the law's walk out of the small machine's run -/
theorem walk_start {p : Program} {e : Env} {s : State} {m : MethodId} {below : List Frame} {meth : Method} {c : Code} (l : Launch) {b L : Nat} {xs : Nat → Int32} (hok : LawOK) (hL : L ≤ 3072)
    (hx : p.tables.exec = Jvm.exec) (hb : c.code = code) (hr : meth.sig.returnType = ret) (hml : c.maxLocals = 4) (hown : s.vm.findClass "RiverDownLaw" = some m.cls) (hts : ∀ w ∈ lw_tbl, w.before #[Value.ref b] s = true) (hX : va_X b L xs s s.heap) (hbl : b < s.heap.size) (hlocks : meth.locks = false) (hgv : (Jvm.Cond.and given_1 narrow_1).before #[Value.ref b] s = true) :
    W p l e room_1 s m #[Value.ref b] below meth c s.heap [] 0 0 (fun t => ∃ o, t.status = .running ∧ Ended t below o ∧ o = .returned (some (.int 1)) ∧ Framed s o t [] 600000 7302250) (entryFrame m ([Value.ref b] : List Value).toArray 4) := by
  obtain ⟨f, h', hev, hn1, hz1⟩ := hok L xs hL
  obtain ⟨xo, hxf, hx0⟩ := xf_start hts hgv hX hbl
  obtain ⟨D, cy, hK⟩ := K_start hts
  have hS := snd_ev (l := l) (b := s.heap.size) (xo := xo) (D := D) (cy := cy) f 500 191 0 [.retAddr 0, jk, jk, jk] [] h00 (some (.int 1)) h' hev
  have hwd : wd D cy s.heap.size h00 s.heap := ⟨fun k q hq => by obtain ⟨h1, -⟩ := cW_inv hq; exact absurd h1 (Nat.not_lt_zero k), rfl⟩
  rw [lg_entry_eq]
  have hl : LR s.heap.size xo ((lg_sl ([Value.ref b]) ++ List.replicate (4 - (lg_sl ([Value.ref b])).length) Slot.unset).toArray) 4 [.retAddr 0, jk, jk, jk] := by
    have h := LR_entry (b := s.heap.size) (xo := xo) (n := 4) (args := [.retAddr 0]) rfl
    have e1 : ([Value.retAddr 0] : List Value).map (cv s.heap.size xo) = [Value.ref b] := by
      show [cv s.heap.size xo (.retAddr 0)] = _
      rw [cv_x hx0]
    rw [e1] at h
    exact h
  have k := hS p e room_1 s m #[Value.ref b] below meth c s.heap [] _ 0 0 ⟨hx, hb, hml, hown, fun w hw => hts w (List.mem_filter.mp hw).1, hr, hlocks, hK, hxf, fun hi => by simp [isIni, mD] at hi; exact absurd hi (by decide +kernel), by decide, by decide, rfl⟩ hwd va_S.rf hl (Nat.le_refl _) (Nat.le_refl _) hn1 hz1
  intro T hT X
  obtain ⟨t, a1, o, b1, b2, ⟨q1, -, -⟩, Lc, ⟨⟨v, w1⟩, w2, w3⟩, w4⟩ := k T hT X
  refine ⟨t, a1, o, b1, b2, q1, ⟨v, w1⟩, w2, ?_⟩
  exact w3.weaken (fun y hy hlt => absurd hlt (Nat.not_lt.mpr (w4 y hy))) hn1 hz1

