section ST
variable {p : Program} {l : Launch} {e : Env} {R : Room} {s : State} {m : MethodId} {args : Array Value} {below : List Frame} {meth : Method} {c : Code} {H : Heap} {locs : List Loc} {Q : State → Prop}
variable {Ω : AO} {b : Nat} {xo : Nat → Option Nat} {D : va_G} {cy : Nat → ClassId} {μ d pc len n0 z0 : Nat} {L st L' st' : List Value} {h h' : AH} {pc' : Nat} {ls : Array Slot}
set_option maxHeartbeats 4000000 in
theorem snd_stk (C : Cx p R s m args meth c Ω b xo D cy μ d n0 z0) {i : Instr} (hok : okL i len = true) (hd : decode (mB μ) pc = .ok (i, len)) (hs : stp Ω (mO μ) (isIni μ) i len pc L st h = some (pc', L', st', h'))
    (hw : wd D cy b h H) (hS : va_S (up b) s.heap H locs) (hl : LR b xo ls (mL μ) L)
    (kk : ∀ ls', LR b xo ls' (mL μ) L' → h' = h → W p l e R s m args below meth c H locs (hn h - n0) (hz h - z0) Q (F0 m pc' ls' (st'.map (cv b xo))))
    (kh : ∀ (_ : i = .iaload ∨ i = .baload ∨ i = .laload ∨ i = .aaload ∨ i = .iastore ∨ i = .bastore ∨ i = .lastore ∨ i = .aastore ∨ i = .arraylength ∨ (∃ t, i = .newarray t) ∨ (∃ x, i = .anewarray x) ∨ (∃ x, i = .new x) ∨ (∃ x, i = .getfield x) ∨ (∃ x, i = .putfield x) ∨ (∃ x, i = .getstatic x) ∨ (∃ x, i = .invokespecial x) ∨ (∃ x, i = .invokestatic x) ∨ (∃ x, i = .ldc x)), W p l e R s m args below meth c H locs (hn h - n0) (hz h - z0) Q (F0 m pc ls (st.map (cv b xo)))) :
    W p l e R s m args below meth c H locs (hn h - n0) (hz h - z0) Q (F0 m pc ls (st.map (cv b xo))) := by
  obtain ⟨hx, hb, hml, hown, hts, hr, hlk, hK, hX, hin, hfr, hlo, hb0⟩ := C
  cases i
  case iconst n => simp only [okL, beq_iff_eq] at hok; subst hok; cases hs; exact lv_iconst hx hb hd rfl (kk ls hl rfl)
  case bipush n => simp only [okL, beq_iff_eq] at hok; subst hok; cases hs; exact lv_bipush hx hb hd rfl (kk ls hl rfl)
  case sipush n => simp only [okL, beq_iff_eq] at hok; subst hok; cases hs; exact lv_sipush hx hb hd rfl (kk ls hl rfl)
  case lconst n => simp only [okL, beq_iff_eq] at hok; subst hok; cases hs; exact lv_lconst hx hb hd rfl (kk ls hl rfl)
  case ldc2_w x =>
    simp only [okL, beq_iff_eq] at hok; subst hok
    simp only [stp] at hs
    split at hs
    · rename_i v hv
      cases hs
      exact lv_ldc2 hx hb hown (hts _ (gW_in (lInf_ok hv) rfl)) hd (kk ls hl rfl)
    · cases hs
  case iload j => simp only [okL, beq_iff_eq] at hok; subst hok; obtain ⟨x, hv, hs2⟩ := ldI_some hs; clear hs; have hs := hs2; clear hs2; cases hs; exact lv_iload hx hb hd (hl.at hv rfl) (kk ls hl rfl)
  case iload_n j => simp only [okL, beq_iff_eq] at hok; subst hok; obtain ⟨x, hv, hs2⟩ := ldI_some hs; clear hs; have hs := hs2; clear hs2; cases hs; exact lv_iload_n hx hb hd rfl (hl.at hv rfl) (kk ls hl rfl)
  case lload j => simp only [okL, beq_iff_eq] at hok; subst hok; obtain ⟨x, hv, hs2⟩ := ldL_some hs; clear hs; have hs := hs2; clear hs2; cases hs; exact lv_lload hx hb hd (hl.at hv rfl) (kk ls hl rfl)
  case lload_n j => simp only [okL, beq_iff_eq] at hok; subst hok; obtain ⟨x, hv, hs2⟩ := ldL_some hs; clear hs; have hs := hs2; clear hs2; cases hs; exact lv_lload_n hx hb hd rfl (hl.at hv rfl) (kk ls hl rfl)
  case aload j => simp only [okL, beq_iff_eq] at hok; subst hok; obtain ⟨x, hv, hR, hs2⟩ := ldA_some hs; clear hs; have hs := hs2; clear hs2; cases hs; exact s_aload (b := b) (xo := xo) hR hx hb hd (hl.at hv (isJ_R hR)) (kk ls hl rfl)
  case aload_n j => simp only [okL, beq_iff_eq] at hok; subst hok; obtain ⟨x, hv, hR, hs2⟩ := ldA_some hs; clear hs; have hs := hs2; clear hs2; cases hs; exact s_aload_n (b := b) (xo := xo) hR hx hb hd (hl.at hv (isJ_R hR)) (kk ls hl rfl)
  case istore j =>
    simp only [okL, beq_iff_eq] at hok; subst hok; obtain ⟨x, r, rfl, hs2⟩ := p1i_some hs; clear hs; have hs := hs2; clear hs2; obtain ⟨g1, g2, hs⟩ := st1_some hs; cases hs
    exact lv_istore hx hb hd hl.has (by rw [← hl.2.1]; exact g1) rfl (fun ls' h' => kk ls' (hl.put1 g1 g2 h') rfl)
  case istore_n j =>
    simp only [okL, beq_iff_eq] at hok; subst hok; obtain ⟨x, r, rfl, hs2⟩ := p1i_some hs; clear hs; have hs := hs2; clear hs2; obtain ⟨g1, g2, hs⟩ := st1_some hs; cases hs
    exact lv_istore_n hx hb hd rfl hl.has (by rw [← hl.2.1]; exact g1) rfl (fun ls' h' => kk ls' (hl.put1 g1 g2 h') rfl)
  case lstore j =>
    simp only [okL, beq_iff_eq] at hok; subst hok; obtain ⟨x, r, rfl, hs2⟩ := p1l_some hs; clear hs; have hs := hs2; clear hs2; obtain ⟨g1, g2, hs⟩ := st2_some hs; cases hs
    exact lv_lstore hx hb hd hl.has (by rw [← hl.2.1]; exact g1) rfl (fun ls' h' => kk ls' (hl.put2 g1 g2 h') rfl)
  case lstore_n j =>
    simp only [okL, beq_iff_eq] at hok; subst hok; obtain ⟨x, r, rfl, hs2⟩ := p1l_some hs; clear hs; have hs := hs2; clear hs2; obtain ⟨g1, g2, hs⟩ := st2_some hs; cases hs
    exact lv_lstore_n hx hb hd rfl hl.has (by rw [← hl.2.1]; exact g1) rfl (fun ls' h' => kk ls' (hl.put2 g1 g2 h') rfl)
  case astore j =>
    simp only [okL, beq_iff_eq] at hok; subst hok
    simp only [stp] at hs
    split at hs
    · split at hs
      · rename_i hR
        obtain ⟨g1, g2, hs⟩ := st1_some hs; cases hs
        exact s_astore (b := b) (xo := xo) hR hx hb hd hl.has (by rw [← hl.2.1]; exact g1) (fun ls' h' => kk ls' (hl.put1 g1 g2 h') rfl)
      · cases hs
    · cases hs
  case astore_n j =>
    simp only [okL, beq_iff_eq] at hok; subst hok
    simp only [stp] at hs
    split at hs
    · split at hs
      · rename_i hR
        obtain ⟨g1, g2, hs⟩ := st1_some hs; cases hs
        exact s_astore_n (b := b) (xo := xo) hR hx hb hd hl.has (by rw [← hl.2.1]; exact g1) (fun ls' h' => kk ls' (hl.put1 g1 g2 h') rfl)
      · cases hs
    · cases hs
  case iinc j n =>
    simp only [okL, beq_iff_eq] at hok; subst hok
    obtain ⟨x, hv, hs2⟩ := ldI_some hs; clear hs; have hs := hs2; clear hs2; obtain ⟨g1, g2, hs⟩ := st1_some hs; cases hs
    obtain ⟨k, hk⟩ := List.getElem?_of_mem (lcl_mem (b := b) (xo := xo) (q := (j, .int x)).mpr ⟨.int x, hv, rfl, rfl⟩)
    exact lv_iinc hx hb hd hl.has hk rfl (by rw [← hl.2.1]; exact g1) rfl (fun ls' h' => kk ls' (hl.put1 g1 g2 h') rfl)
  case iadd => simp only [okL, beq_iff_eq] at hok; subst hok; obtain ⟨x, y, r, rfl, hs2⟩ := p2i_some hs; clear hs; have hs := hs2; clear hs2; cases hs; exact lv_iadd hx hb hd (kk ls hl rfl)
  case isub => simp only [okL, beq_iff_eq] at hok; subst hok; obtain ⟨x, y, r, rfl, hs2⟩ := p2i_some hs; clear hs; have hs := hs2; clear hs2; cases hs; exact lv_isub hx hb hd (kk ls hl rfl)
  case imul => simp only [okL, beq_iff_eq] at hok; subst hok; obtain ⟨x, y, r, rfl, hs2⟩ := p2i_some hs; clear hs; have hs := hs2; clear hs2; cases hs; exact lv_imul hx hb hd (kk ls hl rfl)
  case iand => simp only [okL, beq_iff_eq] at hok; subst hok; obtain ⟨x, y, r, rfl, hs2⟩ := p2i_some hs; clear hs; have hs := hs2; clear hs2; cases hs; exact lv_iand hx hb hd (kk ls hl rfl)
  case idiv =>
    simp only [okL, beq_iff_eq] at hok; subst hok; obtain ⟨x, y, r, rfl, hs2⟩ := p2i_some hs; clear hs; have hs := hs2; clear hs2
    split at hs
    · cases hs
    · rename_i hy; cases hs; exact lv_idiv hx hb hd hy (kk ls hl rfl)
  case irem =>
    simp only [okL, beq_iff_eq] at hok; subst hok; obtain ⟨x, y, r, rfl, hs2⟩ := p2i_some hs; clear hs; have hs := hs2; clear hs2
    split at hs
    · cases hs
    · rename_i hy; cases hs; exact lv_irem hx hb hd hy (kk ls hl rfl)
  case ineg => simp only [okL, beq_iff_eq] at hok; subst hok; obtain ⟨x, r, rfl, hs2⟩ := p1i_some hs; clear hs; have hs := hs2; clear hs2; cases hs; exact lv_ineg hx hb hd (kk ls hl rfl)
  case ishr => simp only [okL, beq_iff_eq] at hok; subst hok; obtain ⟨x, y, r, rfl, hs2⟩ := p2i_some hs; clear hs; have hs := hs2; clear hs2; cases hs; exact lv_ishr hx hb hd (kk ls hl rfl)
  case iushr => simp only [okL, beq_iff_eq] at hok; subst hok; obtain ⟨x, y, r, rfl, hs2⟩ := p2i_some hs; clear hs; have hs := hs2; clear hs2; cases hs; exact lv_iushr hx hb hd rfl (kk ls hl rfl)
  case ladd => simp only [okL, beq_iff_eq] at hok; subst hok; obtain ⟨x, y, r, rfl, hs2⟩ := p2l_some hs; clear hs; have hs := hs2; clear hs2; cases hs; exact lv_ladd hx hb hd (kk ls hl rfl)
  case lsub => simp only [okL, beq_iff_eq] at hok; subst hok; obtain ⟨x, y, r, rfl, hs2⟩ := p2l_some hs; clear hs; have hs := hs2; clear hs2; cases hs; exact lv_lsub hx hb hd (kk ls hl rfl)
  case lmul => simp only [okL, beq_iff_eq] at hok; subst hok; obtain ⟨x, y, r, rfl, hs2⟩ := p2l_some hs; clear hs; have hs := hs2; clear hs2; cases hs; exact lv_lmul hx hb hd (kk ls hl rfl)
  case land => simp only [okL, beq_iff_eq] at hok; subst hok; obtain ⟨x, y, r, rfl, hs2⟩ := p2l_some hs; clear hs; have hs := hs2; clear hs2; cases hs; exact lv_land hx hb hd (kk ls hl rfl)
  case lor => simp only [okL, beq_iff_eq] at hok; subst hok; obtain ⟨x, y, r, rfl, hs2⟩ := p2l_some hs; clear hs; have hs := hs2; clear hs2; cases hs; exact lv_lor hx hb hd (kk ls hl rfl)
  case ldiv =>
    simp only [okL, beq_iff_eq] at hok; subst hok; obtain ⟨x, y, r, rfl, hs2⟩ := p2l_some hs; clear hs; have hs := hs2; clear hs2
    split at hs
    · cases hs
    · rename_i hy; cases hs; exact lv_ldiv hx hb hd hy (kk ls hl rfl)
  case lrem =>
    simp only [okL, beq_iff_eq] at hok; subst hok; obtain ⟨x, y, r, rfl, hs2⟩ := p2l_some hs; clear hs; have hs := hs2; clear hs2
    split at hs
    · cases hs
    · rename_i hy; cases hs; exact lv_lrem hx hb hd hy (kk ls hl rfl)
  case lcmp => simp only [okL, beq_iff_eq] at hok; subst hok; obtain ⟨x, y, r, rfl, hs2⟩ := p2l_some hs; clear hs; have hs := hs2; clear hs2; cases hs; exact W.lcmp hx hb hd (kk ls hl rfl)
  case lshl => simp only [okL, beq_iff_eq] at hok; subst hok; obtain ⟨x, y, r, rfl, hs2⟩ := p2li_some hs; clear hs; have hs := hs2; clear hs2; cases hs; exact lv_lshl hx hb hd rfl (kk ls hl rfl)
  case lshr => simp only [okL, beq_iff_eq] at hok; subst hok; obtain ⟨x, y, r, rfl, hs2⟩ := p2li_some hs; clear hs; have hs := hs2; clear hs2; cases hs; exact lv_lshr hx hb hd rfl (kk ls hl rfl)
  case lushr => simp only [okL, beq_iff_eq] at hok; subst hok; obtain ⟨x, y, r, rfl, hs2⟩ := p2li_some hs; clear hs; have hs := hs2; clear hs2; cases hs; exact lv_lushr hx hb hd rfl (kk ls hl rfl)
  case i2l => simp only [okL, beq_iff_eq] at hok; subst hok; obtain ⟨x, r, rfl, hs2⟩ := p1i_some hs; clear hs; have hs := hs2; clear hs2; cases hs; exact lv_i2l hx hb hd rfl (kk ls hl rfl)
  case l2i => simp only [okL, beq_iff_eq] at hok; subst hok; obtain ⟨x, r, rfl, hs2⟩ := p1l_some hs; clear hs; have hs := hs2; clear hs2; cases hs; exact lv_l2i hx hb hd rfl (kk ls hl rfl)
  case i2b => simp only [okL, beq_iff_eq] at hok; subst hok; obtain ⟨x, r, rfl, hs2⟩ := p1i_some hs; clear hs; have hs := hs2; clear hs2; cases hs; exact lv_i2b hx hb hd rfl (kk ls hl rfl)
  case i2s => simp only [okL, beq_iff_eq] at hok; subst hok; obtain ⟨x, r, rfl, hs2⟩ := p1i_some hs; clear hs; have hs := hs2; clear hs2; cases hs; exact lv_i2s hx hb hd rfl (kk ls hl rfl)
  case i2c => simp only [okL, beq_iff_eq] at hok; subst hok; obtain ⟨x, r, rfl, hs2⟩ := p1i_some hs; clear hs; have hs := hs2; clear hs2; cases hs; exact lv_i2c hx hb hd rfl (kk ls hl rfl)
  case dup =>
    simp only [okL, beq_iff_eq] at hok; subst hok
    simp only [stp] at hs
    split at hs
    · split at hs
      · rename_i hv; cases hs; exact lv_dup hx hb hd (by rw [cv_cat]; exact nl_cat hv) (kk ls hl rfl)
      · cases hs
    · cases hs
  case pop =>
    simp only [okL, beq_iff_eq] at hok; subst hok
    simp only [stp] at hs
    split at hs
    · split at hs
      · rename_i hv; cases hs; exact lv_pop hx hb hd (by rw [cv_cat]; exact nl_cat hv) (kk ls hl rfl)
      · cases hs
    · cases hs
  case dup2 =>
    simp only [okL, beq_iff_eq] at hok; subst hok
    simp only [stp] at hs
    split at hs
    · split at hs
      · rename_i hv; cases hs; exact lv_dup2_11 hx hb hd (by rw [cv_cat]; exact nl_cat hv.1) (by rw [cv_cat]; exact nl_cat hv.2) (kk ls hl rfl)
      · cases hs
    · cases hs
  case ifCond cd off =>
    simp only [okL, beq_iff_eq] at hok; subst hok; obtain ⟨x, r, rfl, hs2⟩ := p1i_some hs; clear hs; have hs := hs2; clear hs2; obtain ⟨t, ht, hz⟩ := brn_some hs; cases hz
    exact s_if hx hb hd ht (kk ls hl rfl)
  case if_icmp cd off =>
    simp only [okL, beq_iff_eq] at hok; subst hok; obtain ⟨x, y, r, rfl, hs2⟩ := p2i_some hs; clear hs; have hs := hs2; clear hs2; obtain ⟨t, ht, hz⟩ := brn_some hs; cases hz
    exact s_icmp hx hb hd ht (kk ls hl rfl)
  case goto off =>
    simp only [okL, beq_iff_eq] at hok; subst hok; obtain ⟨t, ht, hz⟩ := jmp_some hs; cases hz
    exact lv_goto hx hb hd ht (kk ls hl rfl)
  case tableswitch df lo hi offs =>
    obtain ⟨x, r, rfl, hs2⟩ := p1i_some hs; clear hs; have hs := hs2; clear hs2
    split at hs
    · rename_i hq
      obtain ⟨t, ht, hz⟩ := jmp_some hs; cases hz
      exact lv_tableOut hx hb hd hq ht (kk ls hl rfl)
    · rename_i hq
      split at hs
      · rename_i off ho
        obtain ⟨t, ht, hz⟩ := jmp_some hs; cases hz
        exact lv_tableIn hx hb hd (fun z => hq (Or.inl z)) (fun z => hq (Or.inr z)) ho ht (kk ls hl rfl)
      · cases hs
  case lookupswitch df ps =>
    obtain ⟨x, r, rfl, hs2⟩ := p1i_some hs; clear hs; have hs := hs2; clear hs2
    split at hs
    · rename_i hq
      obtain ⟨t, ht, hz⟩ := jmp_some hs; cases hz
      exact lv_lookup hx hb hd hq rfl ht (kk ls hl rfl)
    · cases hs
  all_goals first | (exfalso; simp only [stp, reduceCtorEq] at hs; done) | (exact kh (by simp))
end ST
