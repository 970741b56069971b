section TI
variable {Ω : AO} {d μ pc : Nat} {L st : List Value} {h : AH} {Q : Option Value → AH → Prop} {I : Nat → Nat → Int32} {J : Nat → Nat → Int64} {A : Nat → Nat → Option Nat} {S : Nat → Nat × Nat} {n z : Nat}
theorem fit_ref {t : FieldType} {v w : Nat} (h : fitV t (.ref v) = true) : fitV t (.ref w) = true := by
  cases t <;> first | (simp [fitV] at h; done) | rfl
theorem T_stuck {i : Instr} {len : Nat} (hd : decode (mB μ) pc = .ok (i, len)) (hr : rtn (mR μ) i st = none) (hc : cll (mO μ) i st h = none) (hs : stp Ω (mO μ) (isIni μ) i len pc L st h = none) : T Ω d μ pc L st h Q = False := by
  apply propext
  refine ⟨?_, False.elim⟩
  rintro ⟨f, r, x, e, -⟩
  cases f with
  | zero => cases e
  | succ f =>
    rw [ev, hd] at e
    simp only [evG, hr, hc, hs] at e
    split at e <;> cases e
/-- a step under a condition -/
theorem T_cnd {i : Instr} {len : Nat} {P : Prop} {pc' : Nat} {L' st' : List Value} {h' : AH} (hd : decode (mB μ) pc = .ok (i, len)) (hok : okL i len = true) (hr : rtn (mR μ) i st = none) (hc : cll (mO μ) i st h = none) (hs : P → stp Ω (mO μ) (isIni μ) i len pc L st h = some (pc', L', st', h')) (hs0 : ¬ P → stp Ω (mO μ) (isIni μ) i len pc L st h = none) (hm : hn h ≤ hn h' ∧ hz h ≤ hz h') : T Ω d μ pc L st h Q = (P ∧ T Ω d μ pc' L' st' h' Q) := by
  by_cases hp : P
  · rw [T_stp hd hok hr hc (hs hp) hm]
    simp [hp]
  · rw [T_stuck hd hr hc (hs0 hp)]
    simp [hp]
theorem mm {h : AH} : hn h ≤ hn h ∧ hz h ≤ hz h := ⟨Nat.le_refl _, Nat.le_refl _⟩
theorem T_idiv {x y : Int32} (hd : decode (mB μ) pc = .ok (.idiv, 1)) : T Ω d μ pc L (.int y :: .int x :: st) h Q = (¬ y = 0 ∧ T Ω d μ (pc + 1) L (.int (x / y) :: st) h Q) :=
  T_cnd hd rfl rfl rfl (fun hp => by simp only [stp, p2i, if_neg hp]) (fun hp => by simp only [stp, p2i, if_pos (Decidable.not_not.mp hp)]) mm
theorem T_irem {x y : Int32} (hd : decode (mB μ) pc = .ok (.irem, 1)) : T Ω d μ pc L (.int y :: .int x :: st) h Q = (¬ y = 0 ∧ T Ω d μ (pc + 1) L (.int (x - x / y * y) :: st) h Q) :=
  T_cnd hd rfl rfl rfl (fun hp => by simp only [stp, p2i, if_neg hp]) (fun hp => by simp only [stp, p2i, if_pos (Decidable.not_not.mp hp)]) mm
theorem T_ldiv {x y : Int64} (hd : decode (mB μ) pc = .ok (.ldiv, 1)) : T Ω d μ pc L (.long y :: .long x :: st) h Q = (¬ y = 0 ∧ T Ω d μ (pc + 1) L (.long (x / y) :: st) h Q) :=
  T_cnd hd rfl rfl rfl (fun hp => by simp only [stp, p2l, if_neg hp]) (fun hp => by simp only [stp, p2l, if_pos (Decidable.not_not.mp hp)]) mm
theorem T_lrem {x y : Int64} (hd : decode (mB μ) pc = .ok (.lrem, 1)) : T Ω d μ pc L (.long y :: .long x :: st) h Q = (¬ y = 0 ∧ T Ω d μ (pc + 1) L (.long (x - x / y * y) :: st) h Q) :=
  T_cnd hd rfl rfl rfl (fun hp => by simp only [stp, p2l, if_neg hp]) (fun hp => by simp only [stp, p2l, if_pos (Decidable.not_not.mp hp)]) mm
theorem own_t {kd a : Nat} {i : Int32} : own (I, J, A, S, n, z) kd a i = true ↔ a < n ∧ (S a).1 = kd ∧ vp_in i (S a).2 := own_iff
theorem T_iald {a : Nat} {i : Int32} (hd : decode (mB μ) pc = .ok (.iaload, 1)) : T Ω d μ pc L (.int i :: .ref a :: st) (I, J, A, S, n, z) Q = ((a < n ∧ (S a).1 = 13 ∧ vp_in i (S a).2) ∧ T Ω d μ (pc + 1) L (.int (I a i.toNatClampNeg) :: st) (I, J, A, S, n, z) Q) :=
  T_cnd hd rfl rfl rfl (fun hp => by simp only [stp, ald, if_pos (own_t.mpr hp)]; rfl) (fun hp => by simp only [stp, ald]; exact if_neg (fun q => hp (own_t.mp q))) mm
theorem T_bald {a : Nat} {i : Int32} (hd : decode (mB μ) pc = .ok (.baload, 1)) : T Ω d μ pc L (.int i :: .ref a :: st) (I, J, A, S, n, z) Q = ((a < n ∧ (S a).1 = 12 ∧ vp_in i (S a).2) ∧ T Ω d μ (pc + 1) L (.int (I a i.toNatClampNeg) :: st) (I, J, A, S, n, z) Q) :=
  T_cnd hd rfl rfl rfl (fun hp => by simp only [stp, ald, if_pos (own_t.mpr hp)]; rfl) (fun hp => by simp only [stp, ald]; exact if_neg (fun q => hp (own_t.mp q))) mm
theorem T_lald {a : Nat} {i : Int32} (hd : decode (mB μ) pc = .ok (.laload, 1)) : T Ω d μ pc L (.int i :: .ref a :: st) (I, J, A, S, n, z) Q = ((a < n ∧ (S a).1 = 14 ∧ vp_in i (S a).2) ∧ T Ω d μ (pc + 1) L (.long (J a i.toNatClampNeg) :: st) (I, J, A, S, n, z) Q) :=
  T_cnd hd rfl rfl rfl (fun hp => by simp only [stp, ald, if_pos (own_t.mpr hp)]; rfl) (fun hp => by simp only [stp, ald]; exact if_neg (fun q => hp (own_t.mp q))) mm
theorem T_ialx {j N : Nat} {i : Int32} {f : Nat → Value} (hd : decode (mB μ) pc = .ok (.iaload, 1)) (hA : xA Ω j = some (.int, N, f)) : T Ω d μ pc L (.int i :: .retAddr j :: st) h Q = (vp_in i N ∧ T Ω d μ (pc + 1) L (f i.toNatClampNeg :: st) h Q) :=
  T_cnd hd rfl rfl rfl (fun hp => by simp only [stp, ald, hA, inB_iff.mpr hp, and_self, if_true]) (fun hp => by simp only [stp, ald, hA, true_and]; exact if_neg (fun q => hp (inB_iff.mp q))) mm
theorem T_balx {j N : Nat} {i : Int32} {f : Nat → Value} (hd : decode (mB μ) pc = .ok (.baload, 1)) (hA : xA Ω j = some (.byte, N, f)) : T Ω d μ pc L (.int i :: .retAddr j :: st) h Q = (vp_in i N ∧ T Ω d μ (pc + 1) L (f i.toNatClampNeg :: st) h Q) :=
  T_cnd hd rfl rfl rfl (fun hp => by simp only [stp, ald, hA, inB_iff.mpr hp, and_self, if_true]) (fun hp => by simp only [stp, ald, hA, true_and]; exact if_neg (fun q => hp (inB_iff.mp q))) mm
theorem T_lalx {j N : Nat} {i : Int32} {f : Nat → Value} (hd : decode (mB μ) pc = .ok (.laload, 1)) (hA : xA Ω j = some (.long, N, f)) : T Ω d μ pc L (.int i :: .retAddr j :: st) h Q = (vp_in i N ∧ T Ω d μ (pc + 1) L (f i.toNatClampNeg :: st) h Q) :=
  T_cnd hd rfl rfl rfl (fun hp => by simp only [stp, ald, hA, inB_iff.mpr hp, and_self, if_true]) (fun hp => by simp only [stp, ald, hA, true_and]; exact if_neg (fun q => hp (inB_iff.mp q))) mm
theorem T_aald {a : Nat} {i : Int32} (hd : decode (mB μ) pc = .ok (.aaload, 1)) : T Ω d μ pc L (.int i :: .ref a :: st) (I, J, A, S, n, z) Q = ((a < n ∧ (15 ≤ (S a).1 ∧ (S a).1 ≤ 17) ∧ vp_in i (S a).2) ∧ T Ω d μ (pc + 1) L (va_rf (A a i.toNatClampNeg) :: st) (I, J, A, S, n, z) Q) :=
  T_cnd hd rfl rfl rfl (fun hp => by simp only [stp, rk]; exact if_pos ⟨own_t.mpr ⟨hp.1, rfl, hp.2.2⟩, hp.2.1.1, hp.2.1.2⟩) (fun hp => by simp only [stp, rk]; exact if_neg (fun q => hp ⟨(own_t.mp q.1).1, ⟨q.2.1, q.2.2⟩, (own_t.mp q.1).2.2⟩)) mm
theorem T_iast {a : Nat} {i x : Int32} (hd : decode (mB μ) pc = .ok (.iastore, 1)) : T Ω d μ pc L (.int x :: .int i :: .ref a :: st) (I, J, A, S, n, z) Q = ((a < n ∧ (S a).1 = 13 ∧ vp_in i (S a).2) ∧ T Ω d μ (pc + 1) L st (wr I a i.toNatClampNeg x, J, A, S, n, z) Q) :=
  T_cnd hd rfl rfl rfl (fun hp => by simp only [stp, p1i, rk, if_pos (own_t.mpr hp)]; rfl) (fun hp => by simp only [stp, p1i, rk]; exact if_neg (fun q => hp (own_t.mp q))) mm
theorem T_bast {a : Nat} {i x : Int32} (hd : decode (mB μ) pc = .ok (.bastore, 1)) : T Ω d μ pc L (.int x :: .int i :: .ref a :: st) (I, J, A, S, n, z) Q = ((a < n ∧ (S a).1 = 12 ∧ vp_in i (S a).2) ∧ T Ω d μ (pc + 1) L st (wr I a i.toNatClampNeg x.toInt8.toInt32, J, A, S, n, z) Q) :=
  T_cnd hd rfl rfl rfl (fun hp => by simp only [stp, p1i, rk, if_pos (own_t.mpr hp)]; rfl) (fun hp => by simp only [stp, p1i, rk]; exact if_neg (fun q => hp (own_t.mp q))) mm
theorem T_last {a : Nat} {i : Int32} {x : Int64} (hd : decode (mB μ) pc = .ok (.lastore, 1)) : T Ω d μ pc L (.long x :: .int i :: .ref a :: st) (I, J, A, S, n, z) Q = ((a < n ∧ (S a).1 = 14 ∧ vp_in i (S a).2) ∧ T Ω d μ (pc + 1) L st (I, wr J a i.toNatClampNeg x, A, S, n, z) Q) :=
  T_cnd hd rfl rfl rfl (fun hp => by simp only [stp, p1l, rk, if_pos (own_t.mpr hp)]; rfl) (fun hp => by simp only [stp, p1l, rk]; exact if_neg (fun q => hp (own_t.mp q))) mm
theorem T_aast {a q : Nat} {i : Int32} (hd : decode (mB μ) pc = .ok (.aastore, 1)) : T Ω d μ pc L (.ref q :: .int i :: .ref a :: st) (I, J, A, S, n, z) Q = ((a < n ∧ (15 ≤ (S a).1 ∧ (S a).1 ≤ 17) ∧ vp_in i (S a).2 ∧ q < n ∧ (S q).1 = aCl (S a).1) ∧ T Ω d μ (pc + 1) L st (I, J, wr A a i.toNatClampNeg (some q), S, n, z) Q) :=
  T_cnd hd rfl rfl rfl (fun hp => by simp only [stp, rk]; exact if_pos ⟨own_t.mpr ⟨hp.1, rfl, hp.2.2.1⟩, hp.2.1.1, hp.2.1.2, hp.2.2.2.1, hp.2.2.2.2⟩) (fun hp => by simp only [stp, rk]; exact if_neg (fun q => hp ⟨(own_t.mp q.1).1, ⟨q.2.1, q.2.2.1⟩, (own_t.mp q.1).2.2, q.2.2.2.1, q.2.2.2.2⟩)) mm
theorem T_alen {a : Nat} (hd : decode (mB μ) pc = .ok (.arraylength, 1)) : T Ω d μ pc L (.ref a :: st) (I, J, A, S, n, z) Q = ((a < n ∧ 12 ≤ (S a).1 ∧ (S a).1 ≤ 17) ∧ T Ω d μ (pc + 1) L (.int (nI (S a).2) :: st) (I, J, A, S, n, z) Q) :=
  T_cnd hd rfl rfl rfl (fun hp => by simp only [stp]; exact if_pos hp) (fun hp => by simp only [stp]; exact if_neg hp) mm
theorem T_alex {j N : Nat} {t : FieldType} {f : Nat → Value} (hd : decode (mB μ) pc = .ok (.arraylength, 1)) (hA : xA Ω j = some (t, N, f)) : T Ω d μ pc L (.retAddr j :: st) h Q = T Ω d μ (pc + 1) L (.int (nI N) :: st) h Q :=
  T_stp hd rfl rfl rfl (by simp only [stp, hA]; rfl) mm
theorem T_newa {t : ArrayType} {x : Int32} (hd : decode (mB μ) pc = .ok (.newarray t, 2)) : T Ω d μ pc L (.int x :: st) h Q = ((atKd t ≤ 14 ∧ ¬ x < 0 ∧ x.toNatClampNeg ≤ 1000000) ∧ T Ω d μ (pc + 2) L (.ref (hn h) :: st) (mkC h (atKd t) x.toNatClampNeg x.toNatClampNeg) Q) :=
  T_cnd hd rfl rfl rfl (fun hp => by simp only [stp, p1i]; rw [if_pos hp]) (fun hp => by simp only [stp, p1i]; exact if_neg hp) ⟨Nat.le_succ _, Nat.le_add_right _ _⟩
theorem T_anew {y q : Nat} {x : Int32} (hd : decode (mB μ) pc = .ok (.anewarray y, 3)) (hi : aInf (mO μ) y = some q) : T Ω d μ pc L (.int x :: st) h Q = ((¬ x < 0 ∧ x.toNatClampNeg ≤ 1000000) ∧ T Ω d μ (pc + 3) L (.ref (hn h) :: st) (mkC h (aKd q) x.toNatClampNeg x.toNatClampNeg) Q) :=
  T_cnd hd rfl rfl rfl (fun hp => by simp only [stp, p1i, hi]; rw [if_pos hp]) (fun hp => by simp only [stp, p1i, hi]; exact if_neg hp) ⟨Nat.le_succ _, Nat.le_add_right _ _⟩
theorem T_new {y q : Nat} (hd : decode (mB μ) pc = .ok (.new y, 3)) (hi : nInf (mO μ) y = some q) : T Ω d μ pc L st h Q = T Ω d μ (pc + 3) L (.ref (hn h) :: st) (mkC h q 0 (kN q)) Q :=
  T_stp hd rfl rfl rfl (by simp only [stp, hi]) ⟨Nat.le_succ _, Nat.le_add_right _ _⟩
theorem T_geti {y q f a : Nat} (hd : decode (mB μ) pc = .ok (.getfield y, 3)) (hi : fInf (mO μ) y = some (q, f)) (ht : kTy q f = .int ∨ kTy q f = .boolean) : T Ω d μ pc L (.ref a :: st) (I, J, A, S, n, z) Q = ((a < n ∧ (S a).1 = q) ∧ T Ω d μ (pc + 3) L (.int (I a f) :: st) (I, J, A, S, n, z) Q) :=
  T_cnd hd rfl rfl rfl (fun hp => by simp only [stp, gfd, hi]; exact (if_pos hp).trans (by rw [if_pos ht]; rfl)) (fun hp => by simp only [stp, gfd, hi]; exact if_neg hp) mm
theorem T_getr {y q f a : Nat} (hd : decode (mB μ) pc = .ok (.getfield y, 3)) (hi : fInf (mO μ) y = some (q, f)) (ht : ¬ (kTy q f = .int ∨ kTy q f = .boolean)) : T Ω d μ pc L (.ref a :: st) (I, J, A, S, n, z) Q = ((a < n ∧ (S a).1 = q) ∧ T Ω d μ (pc + 3) L (va_rf (A a f) :: st) (I, J, A, S, n, z) Q) :=
  T_cnd hd rfl rfl rfl (fun hp => by simp only [stp, gfd, hi]; exact (if_pos hp).trans (by rw [if_neg ht]; rfl)) (fun hp => by simp only [stp, gfd, hi]; exact if_neg hp) mm
theorem T_getv {y j : Nat} (hd : decode (mB μ) pc = .ok (.getfield y, 3)) (hi : xInf (mO μ) y = some 0) : T Ω d μ pc L (.retAddr j :: st) h Q = ((16 ≤ j ∧ j < 30) ∧ T Ω d μ (pc + 3) L (.retAddr (j + 16) :: st) h Q) :=
  T_cnd hd rfl rfl rfl (fun hp => by simp only [stp, gfd, hi]; exact (if_pos hp).trans (if_pos trivial)) (fun hp => by simp only [stp, gfd, hi]; exact if_neg hp) mm
theorem T_getc {y j : Nat} (hd : decode (mB μ) pc = .ok (.getfield y, 3)) (hi : xInf (mO μ) y = some 1) : T Ω d μ pc L (.retAddr j :: st) h Q = ((16 ≤ j ∧ j < 30) ∧ T Ω d μ (pc + 3) L (.int 0 :: st) h Q) :=
  T_cnd hd rfl rfl rfl (fun hp => by simp only [stp, gfd, hi]; exact (if_pos hp).trans (if_neg (by decide))) (fun hp => by simp only [stp, gfd, hi]; exact if_neg hp) mm
theorem T_puti {y q f a : Nat} {x : Int32} (hd : decode (mB μ) pc = .ok (.putfield y, 3)) (hi : fInf (mO μ) y = some (q, f)) (ht : kTy q f = .int) (hf : (kF q f).2.2.1 = false ∨ (isIni μ = true ∧ q = mO μ)) : T Ω d μ pc L (.int x :: .ref a :: st) (I, J, A, S, n, z) Q = ((a < n ∧ (S a).1 = q) ∧ T Ω d μ (pc + 3) L st (wr I a f x, J, A, S, n, z) Q) :=
  T_cnd hd rfl rfl rfl (fun hp => by simp only [stp, pfd, hi]; exact if_pos ⟨hp.1, hp.2, by rw [ht]; rfl, hf⟩) (fun hp => by simp only [stp, pfd, hi]; exact if_neg (fun q => hp ⟨q.1, q.2.1⟩)) mm
theorem T_putz {y q f a : Nat} {x : Int32} (hd : decode (mB μ) pc = .ok (.putfield y, 3)) (hi : fInf (mO μ) y = some (q, f)) (ht : kTy q f = .boolean) (hf : (kF q f).2.2.1 = false ∨ (isIni μ = true ∧ q = mO μ)) : T Ω d μ pc L (.int x :: .ref a :: st) (I, J, A, S, n, z) Q = ((a < n ∧ (S a).1 = q ∧ (x = 0 ∨ x = 1)) ∧ T Ω d μ (pc + 3) L st (wr I a f x, J, A, S, n, z) Q) :=
  T_cnd hd rfl rfl rfl (fun hp => by simp only [stp, pfd, hi]; exact if_pos ⟨hp.1, hp.2.1, by rw [ht]; exact decide_eq_true hp.2.2, hf⟩) (fun hp => by simp only [stp, pfd, hi]; exact if_neg (fun q => hp ⟨q.1, q.2.1, by have := q.2.2.1; rw [ht] at this; exact of_decide_eq_true this⟩)) mm
theorem T_putr {y q f a v : Nat} (hd : decode (mB μ) pc = .ok (.putfield y, 3)) (hi : fInf (mO μ) y = some (q, f)) (ht : fitV (kTy q f) (.ref 0) = true) (hf : (kF q f).2.2.1 = false ∨ (isIni μ = true ∧ q = mO μ)) : T Ω d μ pc L (.ref v :: .ref a :: st) (I, J, A, S, n, z) Q = ((a < n ∧ (S a).1 = q) ∧ T Ω d μ (pc + 3) L st (I, J, wr A a f (some v), S, n, z) Q) :=
  T_cnd hd rfl rfl rfl (fun hp => by simp only [stp, pfd, hi]; exact if_pos ⟨hp.1, hp.2, fit_ref ht, hf⟩) (fun hp => by simp only [stp, pfd, hi]; exact if_neg (fun q => hp ⟨q.1, q.2.1⟩)) mm
theorem T_gst1 {y : Nat} (hd : decode (mB μ) pc = .ok (.getstatic y, 3)) (hi : gInf (mO μ) y = some 0) : T Ω d μ pc L st h Q = T Ω d μ (pc + 3) L (.int 1 :: st) h Q :=
  T_stp hd rfl rfl rfl (by simp only [stp, gst, hi]) mm
theorem T_gstx {y j : Nat} (hd : decode (mB μ) pc = .ok (.getstatic y, 3)) (hi : gInf (mO μ) y = some (j + 1)) : T Ω d μ pc L st h Q = T Ω d μ (pc + 3) L (.retAddr (j + 1) :: st) h Q :=
  T_stp hd rfl rfl rfl (by simp only [stp, gst, hi]) mm
theorem T_ldci {y : Nat} {v : Int32} (hd : decode (mB μ) pc = .ok (.ldc y, 2)) (hi : iInf (mO μ) y = some v) : T Ω d μ pc L st h Q = T Ω d μ (pc + 2) L (.int v :: st) h Q :=
  T_stp hd rfl rfl rfl (by simp only [stp, hi]) mm
theorem T_ldcs {y j : Nat} (hd : decode (mB μ) pc = .ok (.ldc y, 2)) (hi : iInf (mO μ) y = none) (hj : sInf (mO μ) y = some j) : T Ω d μ pc L st h Q = T Ω d μ (pc + 2) L (.retAddr (16 + j) :: st) h Q :=
  T_stp hd rfl rfl rfl (by simp only [stp, hi, hj]) mm
theorem T_ldc2 {y : Nat} {v : Int64} (hd : decode (mB μ) pc = .ok (.ldc2_w y, 3)) (hi : lInf (mO μ) y = some v) : T Ω d μ pc L st h Q = T Ω d μ (pc + 3) L (.long v :: st) h Q :=
  T_stp hd rfl rfl rfl (by simp only [stp, hi]) mm
theorem T_obj {y a : Nat} (hd : decode (mB μ) pc = .ok (.invokespecial y, 3)) (hi : oInf (mO μ) y = true) (hc : cInf (mO μ) y = none) : T Ω d μ pc L (.ref a :: st) h Q = (ncat st ≤ 8 ∧ T Ω d μ (pc + 3) L st h Q) :=
  T_cnd hd rfl rfl (by simp only [cll, cal, hc]) (fun hp => by simp only [stp, hi, if_true]; rw [if_pos hp]) (fun hp => by simp only [stp, hi, if_true]; exact if_neg hp) mm
theorem T_max {y : Nat} {u v : Int32} (hd : decode (mB μ) pc = .ok (.invokestatic y, 3)) (hi : mInf (mO μ) y = some 0) (hc : cInf (mO μ) y = none) : T Ω d μ pc L (.int v :: .int u :: st) h Q = (ncat st ≤ 8 ∧ T Ω d μ (pc + 3) L (.int (if u < v then v else u) :: st) h Q) :=
  T_cnd hd rfl rfl (by simp only [cll, cal, hc]) (fun hp => by simp only [stp, hi, p2i]; rw [if_pos hp]) (fun hp => by simp only [stp, hi, p2i]; exact if_neg hp) mm
theorem T_min {y : Nat} {u v : Int32} (hd : decode (mB μ) pc = .ok (.invokestatic y, 3)) (hi : mInf (mO μ) y = some 1) (hc : cInf (mO μ) y = none) : T Ω d μ pc L (.int v :: .int u :: st) h Q = (ncat st ≤ 8 ∧ T Ω d μ (pc + 3) L (.int (if v < u then v else u) :: st) h Q) :=
  T_cnd hd rfl rfl (by simp only [cll, cal, hc]) (fun hp => by simp only [stp, hi, p2i]; rw [if_pos hp]) (fun hp => by simp only [stp, hi, p2i]; exact if_neg hp) mm
theorem T_acp {y a a0 : Nat} {sp dp m : Int32} (hd : decode (mB μ) pc = .ok (.invokestatic y, 3)) (hi : mInf (mO μ) y = none) (hy : yInf (mO μ) y = true) (hc : cInf (mO μ) y = none) : T Ω d μ pc L (.int m :: .int dp :: .ref a :: .int sp :: .ref a0 :: st) (I, J, A, S, n, z) Q = ((a0 < n ∧ a < n ∧ (S a0).1 = 13 ∧ (S a).1 = 13 ∧ ¬ sp < 0 ∧ ¬ dp < 0 ∧ ¬ m < 0 ∧ sp.toNatClampNeg + m.toNatClampNeg ≤ (S a0).2 ∧ dp.toNatClampNeg + m.toNatClampNeg ≤ (S a).2 ∧ ncat st ≤ 8) ∧ T Ω d μ (pc + 3) L st (va_up I a (va_cpy (I a0) (I a) sp.toNatClampNeg dp.toNatClampNeg m.toNatClampNeg), J, A, S, n, z) Q) :=
  T_cnd hd rfl rfl (by simp only [cll, cal, hc]) (fun hp => by simp only [stp, hi, hy, if_true, acp]; exact if_pos hp) (fun hp => by simp only [stp, hi, hy, if_true, acp]; exact if_neg hp) mm
/-- calls -/
theorem T_cal0 {x y m kd : Nat} {i : Instr} (hd : decode (mB μ) pc = .ok (i, 3)) (hok : okL i 3 = true) (hr : rtn (mR μ) i st = none) (hcl : cll (mO μ) i st h = cal (mO μ) x kd st h) (hs : stp Ω (mO μ) (isIni μ) i 3 pc L st h = none) (hi : cInf (mO μ) x = some (y, m, kd)) (hm : m ≤ st.length) (hle : (entL (mL y) (st.take m).reverse).length = mL y) :
    T Ω (d + 1) μ pc L st h Q = ((rcv kd y (st.take m).reverse h = true ∧ ncat (st.drop m) ≤ 8) ∧ T Ω d y 0 (entL (mL y) (st.take m).reverse) [] h (fun r h' => T Ω (d + 1) μ (pc + 3) L (r.toList ++ st.drop m) h' Q)) := by
  by_cases hp : rcv kd y (st.take m).reverse h = true ∧ ncat (st.drop m) ≤ 8
  · have hc : cll (mO μ) i st h = some (y, (st.take m).reverse, st.drop m) := by
      rw [hcl]
      simp only [cal, hi]
      exact if_pos ⟨trivial, hm, hp.1, hp.2⟩
    rw [T_cal hd hok hr hc hle]
    simp [hp]
  · have hc : cll (mO μ) i st h = none := by
      rw [hcl]
      simp only [cal, hi]
      exact if_neg (fun q => hp ⟨q.2.2.1, q.2.2.2⟩)
    rw [T_stuck hd hr hc hs]
    simp [hp]
theorem T_ite {c : Prop} [Decidable c] {a b : Nat} : T Ω d μ (if c then a else b) L st h Q = if c then T Ω d μ a L st h Q else T Ω d μ b L st h Q := by split <;> rfl
theorem T_ist {x : Int32} {j : Nat} (hd : decode (mB μ) pc = .ok (.istore j, 2)) (hj : Nat.ble (j + 1) L.length = true) : T Ω d μ pc L (.int x :: st) h Q = (stOK L j = true ∧ T Ω d μ (pc + 2) (L.set j (.int x)) st h Q) :=
  T_cnd hd rfl rfl rfl (fun hp => by simp only [stp, p1i, st1]; exact if_pos ⟨Nat.le_of_ble_eq_true hj, hp⟩) (fun hp => by simp only [stp, p1i, st1]; exact if_neg (fun q => hp q.2)) mm
theorem T_ist_n {x : Int32} {j : Fin 4} (hd : decode (mB μ) pc = .ok (.istore_n j, 1)) (hj : Nat.ble ((j : Nat) + 1) L.length = true) : T Ω d μ pc L (.int x :: st) h Q = (stOK L j = true ∧ T Ω d μ (pc + 1) (L.set j (.int x)) st h Q) :=
  T_cnd hd rfl rfl rfl (fun hp => by simp only [stp, p1i, st1]; exact if_pos ⟨Nat.le_of_ble_eq_true hj, hp⟩) (fun hp => by simp only [stp, p1i, st1]; exact if_neg (fun q => hp q.2)) mm
theorem T_lst {x : Int64} {j : Nat} (hd : decode (mB μ) pc = .ok (.lstore j, 2)) (hj : Nat.ble (j + 1 + 1) L.length = true) : T Ω d μ pc L (.long x :: st) h Q = (stOK L j = true ∧ T Ω d μ (pc + 2) ((L.set j (.long x)).set (j + 1) jk) st h Q) :=
  T_cnd hd rfl rfl rfl (fun hp => by simp only [stp, p1l, st2]; exact if_pos ⟨Nat.le_of_ble_eq_true hj, hp⟩) (fun hp => by simp only [stp, p1l, st2]; exact if_neg (fun q => hp q.2)) mm
theorem T_lst_n {x : Int64} {j : Fin 4} (hd : decode (mB μ) pc = .ok (.lstore_n j, 1)) (hj : Nat.ble ((j : Nat) + 1 + 1) L.length = true) : T Ω d μ pc L (.long x :: st) h Q = (stOK L j = true ∧ T Ω d μ (pc + 1) ((L.set j (.long x)).set ((j : Nat) + 1) jk) st h Q) :=
  T_cnd hd rfl rfl rfl (fun hp => by simp only [stp, p1l, st2]; exact if_pos ⟨Nat.le_of_ble_eq_true hj, hp⟩) (fun hp => by simp only [stp, p1l, st2]; exact if_neg (fun q => hp q.2)) mm
theorem T_ast {v : Value} {j : Nat} (hd : decode (mB μ) pc = .ok (.astore j, 2)) (hv : isR v = true) (hj : Nat.ble (j + 1) L.length = true) : T Ω d μ pc L (v :: st) h Q = (stOK L j = true ∧ T Ω d μ (pc + 2) (L.set j v) st h Q) :=
  T_cnd hd rfl rfl rfl (fun hp => by simp only [stp, st1, hv, if_true]; exact if_pos ⟨Nat.le_of_ble_eq_true hj, hp⟩) (fun hp => by simp only [stp, st1, hv, if_true]; exact if_neg (fun q => hp q.2)) mm
theorem T_ast_n {v : Value} {j : Fin 4} (hd : decode (mB μ) pc = .ok (.astore_n j, 1)) (hv : isR v = true) (hj : Nat.ble ((j : Nat) + 1) L.length = true) : T Ω d μ pc L (v :: st) h Q = (stOK L j = true ∧ T Ω d μ (pc + 1) (L.set j v) st h Q) :=
  T_cnd hd rfl rfl rfl (fun hp => by simp only [stp, st1, hv, if_true]; exact if_pos ⟨Nat.le_of_ble_eq_true hj, hp⟩) (fun hp => by simp only [stp, st1, hv, if_true]; exact if_neg (fun q => hp q.2)) mm
theorem T_inc {x : Int32} {j : Nat} {k : Int} (hd : decode (mB μ) pc = .ok (.iinc j k, 3)) (hv : L[j]? = some (.int x)) (hj : Nat.ble (j + 1) L.length = true) : T Ω d μ pc L st h Q = (stOK L j = true ∧ T Ω d μ (pc + 3) (L.set j (.int (x + Int32.ofInt k))) st h Q) :=
  T_cnd hd rfl rfl rfl (fun hp => by simp only [stp, ldI, hv, st1]; exact if_pos ⟨Nat.le_of_ble_eq_true hj, hp⟩) (fun hp => by simp only [stp, ldI, hv, st1]; exact if_neg (fun q => hp q.2)) mm
theorem T_dup {v : Value} (hd : decode (mB μ) pc = .ok (.dup, 1)) : T Ω d μ pc L (v :: st) h Q = (nl v = true ∧ T Ω d μ (pc + 1) L (v :: v :: st) h Q) :=
  T_cnd hd rfl rfl rfl (fun hp => by simp only [stp]; exact if_pos hp) (fun hp => by simp only [stp]; exact if_neg hp) mm
theorem T_pop {v : Value} (hd : decode (mB μ) pc = .ok (.pop, 1)) : T Ω d μ pc L (v :: st) h Q = (nl v = true ∧ T Ω d μ (pc + 1) L st h Q) :=
  T_cnd hd rfl rfl rfl (fun hp => by simp only [stp]; exact if_pos hp) (fun hp => by simp only [stp]; exact if_neg hp) mm
theorem T_dup2 {v w : Value} (hd : decode (mB μ) pc = .ok (.dup2, 1)) : T Ω d μ pc L (v :: w :: st) h Q = ((nl v = true ∧ nl w = true) ∧ T Ω d μ (pc + 1) L (v :: w :: v :: w :: st) h Q) :=
  T_cnd hd rfl rfl rfl (fun hp => by simp only [stp]; exact if_pos hp) (fun hp => by simp only [stp]; exact if_neg hp) mm
theorem T_ald {v : Value} {j : Nat} (hd : decode (mB μ) pc = .ok (.aload j, 2)) (hv : L[j]? = some v) : T Ω d μ pc L st h Q = (isR v = true ∧ T Ω d μ (pc + 2) L (v :: st) h Q) :=
  T_cnd hd rfl rfl rfl (fun hp => by simp only [stp, ldA, hv]; exact if_pos hp) (fun hp => by simp only [stp, ldA, hv]; exact if_neg hp) mm
theorem T_ald_n {v : Value} {j : Fin 4} (hd : decode (mB μ) pc = .ok (.aload_n j, 1)) (hv : L[(j : Nat)]? = some v) : T Ω d μ pc L st h Q = (isR v = true ∧ T Ω d μ (pc + 1) L (v :: st) h Q) :=
  T_cnd hd rfl rfl rfl (fun hp => by simp only [stp, ldA, hv]; exact if_pos hp) (fun hp => by simp only [stp, ldA, hv]; exact if_neg hp) mm
theorem rcv_v {y a : Nat} {as : List Value} (hy : mO y < 12) : rcv 2 y (.ref a :: as) (I, J, A, S, n, z) = true ↔ a < n ∧ (S a).1 = mO y := by
  show (decide (a < n) && (decide ((S a).1 = mO y) && decide (mO y < 12))) = true ↔ _
  simp [hy]
theorem rcv_x {y j : Nat} {as : List Value} (hy : mO y = 13) : rcv 2 y (.retAddr j :: as) h = true ↔ 16 ≤ j ∧ j < 30 := by
  show (decide (16 ≤ j) && (decide (j < 30) && decide (mO y = 13))) = true ↔ _
  simp [hy]
theorem T_calG {x y m kd k : Nat} {as ent st0 : List Value} {i : Instr} (hd : decode (mB μ) pc = .ok (i, 3)) (hok : okL i 3 = true) (hr : rtn (mR μ) i st0 = none) (hcl : cll (mO μ) i st0 h = cal (mO μ) x kd st0 h) (hs : stp Ω (mO μ) (isIni μ) i 3 pc L st0 h = none) (hi : cInf (mO μ) x = some (y, m, kd)) (hml : mL y = k)
    (h0 : (st0.take m).reverse = as) (h1 : st0.drop m = st) (hm : Nat.ble m st0.length = true) (hen : entL k as = ent) (hel : ent.length = k) :
    T Ω (d + 1) μ pc L st0 h Q = ((rcv kd y as h = true ∧ ncat st ≤ 8) ∧ T Ω d y 0 ent [] h (fun r h' => T Ω (d + 1) μ (pc + 3) L (r.toList ++ st) h' Q)) := by
  subst h0; subst h1; subst hen; subst hml
  exact T_cal0 hd hok hr hcl hs hi (Nat.le_of_ble_eq_true hm) hel
theorem T_calV {x y m k c a : Nat} {as ent st0 : List Value} (hd : decode (mB μ) pc = .ok (.invokevirtual x, 3)) (hi : cInf (mO μ) x = some (y, m, 2)) (hml : mL y = k) (hc : mO y = c) (hc12 : Nat.ble (c + 1) 12 = true)
    (h0 : (st0.take m).reverse = .ref a :: as) (h1 : st0.drop m = st) (hm : Nat.ble m st0.length = true) (hen : entL k (.ref a :: as) = ent) (hel : ent.length = k) :
    T Ω (d + 1) μ pc L st0 (I, J, A, S, n, z) Q = (((a < n ∧ (S a).1 = c) ∧ ncat st ≤ 8) ∧ T Ω d y 0 ent [] (I, J, A, S, n, z) (fun r h' => T Ω (d + 1) μ (pc + 3) L (r.toList ++ st) h' Q)) := by
  rw [T_calG hd rfl rfl rfl rfl hi hml h0 h1 hm hen hel]
  have e := rcv_v (I := I) (J := J) (A := A) (S := S) (n := n) (z := z) (y := y) (a := a) (as := as) (by rw [hc]; exact Nat.le_of_ble_eq_true hc12)
  rw [propext e, hc]
theorem T_calX {x y m k j : Nat} {as ent st0 : List Value} (hd : decode (mB μ) pc = .ok (.invokevirtual x, 3)) (hi : cInf (mO μ) x = some (y, m, 2)) (hml : mL y = k) (hc : mO y = 13)
    (h0 : (st0.take m).reverse = .retAddr j :: as) (h1 : st0.drop m = st) (hm : Nat.ble m st0.length = true) (hen : entL k (.retAddr j :: as) = ent) (hel : ent.length = k) :
    T Ω (d + 1) μ pc L st0 h Q = (((16 ≤ j ∧ j < 30) ∧ ncat st ≤ 8) ∧ T Ω d y 0 ent [] h (fun r h' => T Ω (d + 1) μ (pc + 3) L (r.toList ++ st) h' Q)) := by
  rw [T_calG hd rfl rfl rfl rfl hi hml h0 h1 hm hen hel, propext (rcv_x hc)]
theorem T_calI {x y m k a : Nat} {as ent st0 : List Value} (hd : decode (mB μ) pc = .ok (.invokespecial x, 3)) (hi : cInf (mO μ) x = some (y, m, 1)) (hml : mL y = k) (ho : oInf (mO μ) x = false)
    (h0 : (st0.take m).reverse = .ref a :: as) (h1 : st0.drop m = st) (hm : Nat.ble m st0.length = true) (hen : entL k (.ref a :: as) = ent) (hel : ent.length = k) :
    T Ω (d + 1) μ pc L st0 h Q = (ncat st ≤ 8 ∧ T Ω d y 0 ent [] h (fun r h' => T Ω (d + 1) μ (pc + 3) L (r.toList ++ st) h' Q)) := by
  rw [T_calG hd rfl rfl rfl (by simp only [stp, ho]; rfl) hi hml h0 h1 hm hen hel]
  simp only [rcv, true_and]
theorem T_calS {x y m k : Nat} {as ent st0 : List Value} (hd : decode (mB μ) pc = .ok (.invokestatic x, 3)) (hi : cInf (mO μ) x = some (y, m, 0)) (hml : mL y = k) (ho : mInf (mO μ) x = none) (hy : yInf (mO μ) x = false)
    (h0 : (st0.take m).reverse = as) (h1 : st0.drop m = st) (hm : Nat.ble m st0.length = true) (hen : entL k as = ent) (hel : ent.length = k) :
    T Ω (d + 1) μ pc L st0 h Q = (ncat st ≤ 8 ∧ T Ω d y 0 ent [] h (fun r h' => T Ω (d + 1) μ (pc + 3) L (r.toList ++ st) h' Q)) := by
  rw [T_calG hd rfl rfl rfl (by simp only [stp, ho, hy]; rfl) hi hml h0 h1 hm hen hel]
  simp only [rcv, true_and]
/-- returns -/
theorem T_ri {v : Int32} (hd : decode (mB μ) pc = .ok (.ireturn, 1)) (ht : mR μ = some .int) : T Ω d μ pc L [.int v] h Q = Q (some (.int v)) h :=
  T_ret hd rfl (by rw [ht]; exact if_pos rfl)
theorem T_rn {v : Int32} {t : FieldType} (hd : decode (mB μ) pc = .ok (.ireturn, 1)) (ht : mR μ = some t) : T Ω d μ pc L [.int v] h Q = (narrow t (.int v) = .int v ∧ Q (some (.int v)) h) := by
  by_cases hp : narrow t (.int v) = .int v
  · rw [T_ret (r := some (.int v)) hd rfl (by rw [ht]; exact if_pos hp)]
    simp [hp]
  · rw [T_stuck hd (by rw [ht]; exact if_neg hp) rfl rfl]
    simp [hp]
theorem T_rl {v : Int64} (hd : decode (mB μ) pc = .ok (.lreturn, 1)) (ht : mR μ = some .long) : T Ω d μ pc L [.long v] h Q = Q (some (.long v)) h :=
  T_ret hd rfl (by rw [ht]; rfl)
theorem T_rv (hd : decode (mB μ) pc = .ok (.return_, 1)) (ht : mR μ = none) : T Ω d μ pc L [] h Q = Q none h :=
  T_ret hd rfl (by rw [ht]; rfl)
theorem T_ra {v : Value} {t : FieldType} (hd : decode (mB μ) pc = .ok (.areturn, 1)) (ht : mR μ = some t) (hv : isR v = true) (ho : (∃ c, t = .object c) ∨ ∃ c, t = .array c) : T Ω d μ pc L [v] h Q = Q (some v) h := by
  refine T_ret hd rfl ?_
  rw [ht]
  rcases ho with ⟨c, rfl⟩ | ⟨c, rfl⟩ <;> exact if_pos hv
/-- switches -/
def swf (lo : Int) : List Nat → Nat → Int32 → Nat
  | [], df, _ => df
  | t :: r, df, x => if x.toInt = lo then t else swf (lo + 1) r df x
theorem swf_out {lo : Int} {ts : List Nat} {df : Nat} {x : Int32} (hx : x.toInt < lo ∨ lo + ts.length ≤ x.toInt) : swf lo ts df x = df := by
  induction ts generalizing lo with
  | nil => rfl
  | cons t r ih =>
    simp only [List.length_cons] at hx
    rw [swf, if_neg (by omega)]
    exact ih (by omega)
theorem swf_in {lo : Int} {ts : List Nat} {df : Nat} {x : Int32} {t : Nat} (h0 : lo ≤ x.toInt) (ht : ts[(x.toInt - lo).toNat]? = some t) : swf lo ts df x = t := by
  induction ts generalizing lo with
  | nil => simp at ht
  | cons u r ih =>
    rw [swf]
    by_cases e : x.toInt = lo
    · rw [if_pos e]
      rw [e, Int.sub_self] at ht
      simpa using ht
    · rw [if_neg e]
      refine ih (by omega) ?_
      rw [show (x.toInt - lo).toNat = (x.toInt - (lo + 1)).toNat + 1 by omega] at ht
      simpa using ht
theorem T_tsw {x : Int32} {df lo hi : Int} {offs : Array Int} {len dt : Nat} {ts : List Nat} (hd : decode (mB μ) pc = .ok (.tableswitch df lo hi offs, len)) (hdf : (pc : Int) + df = (dt : Int)) (hts : offs.toList.map (fun o => (pc : Int) + o) = ts.map (fun t : Nat => (t : Int))) (hhi : hi = lo + ts.length - 1) : T Ω d μ pc L (.int x :: st) h Q = T Ω d μ (swf lo ts dt x) L st h Q := by
  refine T_stp hd rfl rfl rfl ?_ mm
  simp only [stp, p1i]
  by_cases hx : x.toInt < lo ∨ hi < x.toInt
  · rw [if_pos hx, swf_out (by omega)]
    unfold jmp
    rw [hdf, if_pos (Int.natCast_nonneg dt)]
    rfl
  · rw [if_neg hx]
    have hl : offs.toList.length = ts.length := by simpa using congrArg List.length hts
    have hk : (x.toInt - lo).toNat < ts.length := by omega
    obtain ⟨t, ht⟩ : ∃ t, ts[(x.toInt - lo).toNat]? = some t := ⟨_, List.getElem?_eq_getElem hk⟩
    obtain ⟨o, ho⟩ : ∃ o, offs.toList[(x.toInt - lo).toNat]? = some o := ⟨_, List.getElem?_eq_getElem (by omega)⟩
    have hto : (pc : Int) + o = (t : Int) := by
      have e := congrArg (fun l => l[(x.toInt - lo).toNat]?) hts
      simp only [List.getElem?_map, ht, ho, Option.map_some] at e
      exact Option.some.inj e
    rw [swf_in (by omega) ht]
    rw [Array.getElem?_toList] at ho
    rw [ho]
    show jmp pc o L st h = _
    unfold jmp
    rw [hto, if_pos (Int.natCast_nonneg t)]
    rfl
theorem T_lsw {x : Int32} {df : Int} {ps : Array (Int × Int)} {len t : Nat} (hd : decode (mB μ) pc = .ok (.lookupswitch df ps, len)) (hp : (ps.toList.zip (ps.toList.drop 1)).all (fun (a, next) => a.1 < next.1) = true) (ht : (pc : Int) + Op.lookupswitch.offset ps.toList df x.toInt = (t : Int)) : T Ω d μ pc L (.int x :: st) h Q = T Ω d μ t L st h Q := by
  refine T_stp hd rfl rfl rfl ?_ mm
  simp only [stp, p1i]
  rw [if_pos hp]
  unfold jmp
  rw [ht, if_pos (Int.natCast_nonneg t)]
  rfl
end TI
