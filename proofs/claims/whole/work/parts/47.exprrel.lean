/-! ===== PURE: expressions: what is held to be the same on both sides ===== -/
def cvar (k : Nat) : Int32 := (-1) - nI k
def cval (i : Nat) : Int32 := (-9) - nI i
theorem cval_ne : ∀ i, i < 200 → ¬ cval i = -209 := by decide +kernel
theorem cvar_ne : ∀ k, k < 8 → ¬ cvar k = -209 := by decide +kernel
theorem cval_lo : ∀ i, i < 200 → cval i < 0 ∧ ¬ (-9) < cval i ∧ ¬ cval i ≤ -209 ∧ (-9) - cval i = nI i := by decide +kernel
theorem cvar_lo : ∀ k, k < 8 → cvar k < 0 ∧ (-9) < cvar k ∧ (-1) - cvar k = nI k := by decide +kernel
theorem num_lo {v : Int32} (h : ¬ v < 0) : (-9) < v ∧ ¬ v = -209 := by
  obtain ⟨j, hj, rfl⟩ := nI_of h
  refine ⟨?_, fun e => ?_⟩
  · rw [Int32.lt_iff_toInt_lt, nI_toInt hj, show (-9 : Int32).toInt = -9 by decide]
    omega
  · have := congrArg Int32.toInt e
    rw [nI_toInt hj, show (-209 : Int32).toInt = -209 by decide] at this
    omega
theorem cval_inj {i j : Nat} (hi : i < 200) (hj : j < 200) (h : cval i = cval j) : i = j := by
  have h1 := (cval_lo i hi).2.2.2
  rw [h, (cval_lo j hj).2.2.2] at h1
  exact ((nI_eq (by omega) (by omega)).mp h1).symm
theorem cval_cvar {i k : Nat} (hi : i < 200) (hk : k < 8) : ¬ cval i = cvar k := fun h => (cval_lo i hi).2.1 (by rw [h]; exact (cvar_lo k hk).2.1)
/-- an operand: the class's int, the reference's sort and value -/
def VR (v s x : Int32) : Prop := (¬ v < 0 ∧ s = 1 ∧ x = v) ∨ (∃ k, k < 8 ∧ v = cvar k ∧ s = 2 ∧ x = nI k) ∨ (∃ i, i < 200 ∧ v = cval i ∧ s = 3 ∧ x = nI i)
def VR0 (v s x : Int32) : Prop := VR v s x ∨ (v = 0 ∧ s = 0)
theorem VR.ne {v s x : Int32} (h : VR v s x) : ¬ v = -209 := by
  rcases h with ⟨h, -, -⟩ | ⟨k, hk, rfl, -, -⟩ | ⟨i, hi, rfl, -, -⟩
  · exact (num_lo h).2
  · exact cvar_ne k hk
  · exact cval_ne i hi
/-- a sign, and the reference's code of it -/
def SG (s k : Int32) : Prop := (s = 43 ∧ k = 0) ∨ (s = 45 ∧ k = 1) ∨ (s = 42 ∧ k = 2) ∨ (s = 60 ∧ k = 3) ∨ (s = 61 ∧ k = 4) ∨ (s = 1 ∧ k = 5) ∨ (s = 2 ∧ k = 6) ∨ (s = 3 ∧ k = 7)
def OpR (c m : Mem) (q i : Nat) : Prop :=
  SG (gI c 3 (200 * q + i) 1) (gI m 111 0 i) ∧ gI c 3 (200 * q + i) 2 = kd (gI c 3 (200 * q + i) 1) ∧ VR0 (gI c 3 (200 * q + i) 3) (gI m 112 0 (2 * i)) (gI m 113 0 (2 * i)) ∧ VR0 (gI c 3 (200 * q + i) 4) (gI m 112 0 (2 * i + 1)) (gI m 113 0 (2 * i + 1)) ∧
  gI c 3 (200 * q + i) 5 = gI m 114 0 i ∧ (gI c 3 (200 * q + i) 5 = -1 ∨ ∃ v, v < 8 ∧ gI c 3 (200 * q + i) 5 = nI v ∧ ¬ gI c 3 (200 * q + i) 1 = 2) ∧ gI c 3 (200 * q + i) 6 = gI m 115 0 i
/-- operation j uses the value of i -/
def uses (c : Mem) (q j i : Nat) : Prop := gI c 3 (200 * q + j) 3 = cval i ∨ gI c 3 (200 * q + j) 4 = cval i
def RefOk (c : Mem) (q j : Nat) : Prop := ∀ i, i < 200 → uses c q j i → i < j ∧ gI c 3 (200 * q + i) 6 = gI c 3 (200 * q + j) 6 ∧ gI c 3 (200 * q + i) 5 = -1 ∧ ¬ gI c 3 (200 * q + i) 1 = 2
def OpsR (c m : Mem) (q cnt : Nat) : Prop := ∀ i, i < cnt → OpR c m q i ∧ RefOk c q i
def NumC (c : Mem) : Prop := ∀ o, o < 400 → gI c 3 o 0 = nI (o % 200)
/-- nothing but an expression's things has changed in the class -/
def AgC (q cnt B : Nat) (c c' : Mem) : Prop :=
  (∀ k i j, k ≠ 5 → ¬ (k = 7 ∧ (j = 4 ∨ j = 5 ∨ j = 6)) → ¬ (k = 4 ∧ i = q ∧ j = 2) → ¬ (k = 3 ∧ 200 * q + cnt ≤ i ∧ i < 200 * q + 200 ∧ j ≠ 0) → ¬ (k = 0 ∧ i = 175 * q + (B - 1) ∧ j = 1) → gI c' k i j = gI c k i j) ∧ c'.2 = c.2
/-- nothing but an expression's things has changed in the reference (blocks apart) -/
def AgM (cnt : Nat) (m m' : Mem) : Prop :=
  (∀ k i j, ¬ (k = 10 ∧ (3 ≤ j ∧ j ≤ 10)) → ¬ (k = 10 ∧ (j = 16 ∨ j = 22 ∨ j = 24)) → ¬ (k = 119 ∨ k = 120 ∨ k = 121) → ¬ ((k = 111 ∨ k = 114 ∨ k = 115) ∧ cnt ≤ j) → ¬ ((k = 112 ∨ k = 113) ∧ 2 * cnt ≤ j) → gI m' k i j = gI m k i j) ∧ gI m' 10 0 7 = gI m 10 0 7 ∧ m'.2 = m.2
theorem AgC.rf {q cnt B : Nat} {c : Mem} : AgC q cnt B c c := ⟨fun _ _ _ _ _ _ _ _ => rfl, rfl⟩
theorem AgC.tr {q cnt cnt' B : Nat} {a b c : Mem} (h1 : AgC q cnt B a b) (h2 : AgC q cnt' B b c) (hc : cnt ≤ cnt') : AgC q cnt B a c :=
  ⟨fun k i j g1 g2 g3 g4 g5 => (h2.1 k i j g1 g2 g3 (fun z => g4 ⟨z.1, by omega, z.2.2⟩) g5).trans (h1.1 k i j g1 g2 g3 g4 g5), h2.2.trans h1.2⟩
theorem AgM.rf {cnt : Nat} {m : Mem} : AgM cnt m m := ⟨fun _ _ _ _ _ _ _ _ => rfl, rfl, rfl⟩
theorem AgM.tr {cnt cnt' : Nat} {a b c : Mem} (h1 : AgM cnt a b) (h2 : AgM cnt' b c) (hc : cnt ≤ cnt') : AgM cnt a c :=
  ⟨fun k i j g1 g2 g3 g4 g5 => (h2.1 k i j g1 g2 g3 (fun z => g4 ⟨z.1, by omega⟩) (fun z => g5 ⟨z.1, by omega⟩)).trans (h1.1 k i j g1 g2 g3 g4 g5), h2.2.1.trans h1.2.1, h2.2.2.trans h1.2.2⟩
theorem AgC.upd {q cnt B k i j : Nat} {c : Mem} {v : Int32} (h : k = 5 ∨ (k = 7 ∧ (j = 4 ∨ j = 5 ∨ j = 6))) : AgC q cnt B c (sI c k i j v) :=
  ⟨fun a b d g1 g2 g3 g4 g5 => gn_I (fun z => by rcases h with h | h; exact g1 (z.1.trans h); exact g2 ⟨z.1.trans h.1, by rw [z.2.2]; exact h.2⟩), rfl⟩
theorem AgM.upd {cnt j : Nat} {m : Mem} {v : Int32} (h : 3 ≤ j ∧ j ≤ 10 ∧ j ≠ 7) : AgM cnt m (sI m 10 0 j v) :=
  ⟨fun a b d g1 g2 g3 g4 g5 => gn_I (fun z => g1 ⟨z.1, by rw [z.2.2]; omega⟩), gn_I (fun z => h.2.2 z.2.2.symm), rfl⟩
/-- the block that is open has all operations from its first one on -/
def ManyR (c : Mem) (q cnt B : Nat) : Prop := ∃ f, f ≤ cnt ∧ gI c 0 (175 * q + (B - 1)) 0 = nI f ∧ gI c 0 (175 * q + (B - 1)) 1 = nI (cnt - f)
/-- no fault as yet, on both sides -/
def NF (c m : Mem) : Prop := gI c 7 0 5 = 0 ∧ gI c 7 0 6 = -1 ∧ gI m 10 0 4 = -1
/-- class and reference within an expression: place p, cnt operations, br brackets open, B blocks; w: how the reference has the blocks once it has begun the one that is open -/
def ER (T : Nat → Nat) (len q n : Nat) (c m w : Mem) (p cnt br B : Nat) : Prop :=
  (TapeC c T len ∧ TapeM m T len) ∧ (gI c 5 0 1 = nI p ∧ gI m 10 0 5 = nI p ∧ p ≤ len) ∧ gI m 10 0 3 = 0 ∧ (gI c 7 0 4 = nI br ∧ gI m 10 0 6 = nI br ∧ br ≤ 20 ∧ NF c m) ∧ gR c 7 0 2 = some q ∧ (gI c 4 q 2 = nI cnt ∧ gI m 10 0 10 = nI cnt ∧ cnt ≤ 200) ∧
  (gI c 4 q 3 = nI B ∧ 1 ≤ B ∧ B ≤ 175 ∧ gI w 10 0 22 = nI (B - 1)) ∧ NBx n m w ∧ OpsR c m q cnt ∧ NumC c ∧ ManyR c q cnt B
section ERS
variable {T : Nat → Nat} {len q n : Nat} {c m w : Mem} {p cnt br B : Nat}
theorem ER.pos {p' : Nat} (h : ER T len q n c m w p cnt br B) (hp : p' ≤ len) : ER T len q n (sI c 5 0 1 (nI p')) (sI m 10 0 5 (nI p')) w p' cnt br B := by
  obtain ⟨⟨h1, h1'⟩, h2, h3, h4, h5, h6, h7, h8, h9, h10⟩ := h
  exact ⟨⟨h1, h1'⟩, ⟨gs_I _ _ _ _ _, gs_I _ _ _ _ _, hp⟩, h3, h4, h5, h6, h7, h8.upd nbS5, h9, h10⟩
theorem ER.brk {br' : Nat} (h : ER T len q n c m w p cnt br B) (hp : br' ≤ 20) : ER T len q n (sI c 7 0 4 (nI br')) (sI m 10 0 6 (nI br')) w p cnt br' B := by
  obtain ⟨⟨h1, h1'⟩, h2, h3, h4, h5, h6, h7, h8, h9, h10⟩ := h
  exact ⟨⟨h1, h1'⟩, h2, h3, ⟨gs_I _ _ _ _ _, gs_I _ _ _ _ _, hp, h4.2.2.2⟩, h5, h6, h7, h8.upd nbS6, h9, h10⟩
theorem ER.opS {v : Int32} (h : ER T len q n c m w p cnt br B) : ER T len q n c (sI m 10 0 8 v) w p cnt br B := by
  obtain ⟨⟨h1, h1'⟩, h2, h3, h4, h5, h6, h7, h8, h9, h10⟩ := h
  exact ⟨⟨h1, h1'⟩, h2, h3, h4, h5, h6, h7, h8.upd nbS8, h9, h10⟩
theorem ER.opV {v : Int32} (h : ER T len q n c m w p cnt br B) : ER T len q n c (sI m 10 0 9 v) w p cnt br B := by
  obtain ⟨⟨h1, h1'⟩, h2, h3, h4, h5, h6, h7, h8, h9, h10⟩ := h
  exact ⟨⟨h1, h1'⟩, h2, h3, h4, h5, h6, h7, h8.upd nbS9, h9, h10⟩
end ERS
/-- a fault: which, and where; the class has it, and so has the reference -/
def FL (T : Nat → Nat) (len : Nat) (c m m0 w : Mem) : Prop :=
  (∃ f, f < 4 ∧ 1 ≤ f ∧ gI c 7 0 5 = nI f ∧ gI m 10 0 3 = nI f) ∧ (∃ z, z ≤ len ∧ gI c 7 0 6 = nI z ∧ gI m 10 0 4 = nI z) ∧ TapeM m T len ∧ (∃ z, z ≤ len ∧ gI m 10 0 5 = nI z) ∧ (AgB m0 m ∨ AgB w m)
/-- what the operations are that an expression made: all of the block, giving nothing, no writes, and used, but the last -/
def NewOk (c : Mem) (q cnt cnt' B : Nat) (v : Int32) : Prop := ∀ i, cnt ≤ i → i < cnt' → gI c 3 (200 * q + i) 6 = nI (B - 1) ∧ gI c 3 (200 * q + i) 5 = -1 ∧ ¬ gI c 3 (200 * q + i) 1 = 2 ∧ (v = cval i ∨ ∃ j, i < j ∧ j < cnt' ∧ uses c q j i)
def LastV (cnt cnt' : Nat) (v : Int32) : Prop := (cnt' = cnt ∧ ∀ i, i < 200 → ¬ v = cval i) ∨ (cnt < cnt' ∧ v = cval (cnt' - 1))
/-- the blocks as they were, or as w has them -/
def BW (m0 w m : Mem) : Prop := AgB m0 m ∨ AgB w m
theorem AgB.rf {m : Mem} : AgB m m := ⟨⟨rfl, rfl, rfl, rfl⟩, fun _ _ _ _ => rfl⟩
theorem AgB.tr {a b c : Mem} (h1 : AgB a b) (h2 : AgB b c) : AgB a c := ⟨⟨h1.1.1.trans h2.1.1, h1.1.2.1.trans h2.1.2.1, h1.1.2.2.1.trans h2.1.2.2.1, h1.1.2.2.2.trans h2.1.2.2.2⟩, fun k j g1 g2 => (h1.2 k j g1 g2).trans (h2.2 k j g1 g2)⟩
theorem AgB.upd {m : Mem} {t : Nat} {v : Int32} (ht : nbS t) : AgB m (sI m 10 0 t v) := ⟨⟨(gn_I (fun z => ht.1 z.2.2.symm)).symm, (gn_I (fun z => ht.2.1 z.2.2.symm)).symm, (gn_I (fun z => ht.2.2.1 z.2.2.symm)).symm, (gn_I (fun z => ht.2.2.2 z.2.2.symm)).symm⟩, fun k j g1 g2 => (gn_I (by omega)).symm⟩
theorem BW.rf {m w : Mem} : BW m w m := Or.inl AgB.rf
theorem BW.tr {m0 w m1 m2 : Mem} (h1 : BW m0 w m1) (h2 : BW m1 w m2) : BW m0 w m2 := h2.elim (fun a => h1.elim (fun b => Or.inl (b.tr a)) (fun b => Or.inr (b.tr a))) Or.inr
theorem BW.upd {m0 m w : Mem} {t : Nat} {v : Int32} (h : BW m0 w m) (ht : nbS t) : BW m0 w (sI m 10 0 t v) := h.elim (fun a => Or.inl (a.tr (AgB.upd ht))) (fun a => Or.inr (a.tr (AgB.upd ht)))
/-- how an expression ends: with a value on both sides, or with the same fault (the operations from cnt0 on are its own, those from cnt on are new) -/
def EQ (T : Nat → Nat) (len q n : Nat) (c m w : Mem) (p cnt0 cnt br B : Nat) (v : Int32) (c' m' : Mem) : Prop :=
  (∃ p' cnt', ER T len q n c' m' w p' cnt' br B ∧ p < p' ∧ cnt ≤ cnt' ∧ VR v (gI m' 10 0 8) (gI m' 10 0 9) ∧ LastV cnt0 cnt' v ∧ NewOk c' q cnt0 cnt' B v ∧ AgC q cnt B c c' ∧ AgM cnt m m' ∧ BW m w m' ∧ (cnt0 < cnt' → AgB w m')) ∨
  (v = -209 ∧ FL T len c' m' m w ∧ AgC q cnt B c c' ∧ AgM cnt m m')
/-- an expression on both sides -/
def EXP (T : Nat → Nat) (len q n b0 : Nat) (rC : Mem → Option (Int32 × Mem)) (rM : Mem → Option Mem) : Prop :=
  ∀ (c m w : Mem) (p cnt br B : Nat), ER T len q n c m w p cnt br B → b0 ≤ br → ∃ v c' m', rC c = some (v, c') ∧ rM m = some m' ∧ EQ T len q n c m w p cnt cnt br B v c' m'
/-- the reference's expression with a fault behind it: it looks for the next byte, no more -/
def FEX (T : Nat → Nat) (len : Nat) (rM : Mem → Option Mem) : Prop := ∀ (m : Mem) (p : Nat), ¬ gI m 10 0 3 ≤ 0 → TapeM m T len → gI m 10 0 5 = nI p → p ≤ len → rM m = some (sI m 10 0 5 (nI (skip T len p)))
