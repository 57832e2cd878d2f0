/-! ===== PURE: the operations of a program, statement by statement ===== -/
def RangeR (c : Mem) (q cnt b : Nat) : Prop := ∃ f g, gI c 0 (175 * q + b) 0 = nI f ∧ gI c 0 (175 * q + b) 1 = nI g ∧ f + g ≤ cnt ∧ ∀ i, i < cnt → (gI c 3 (200 * q + i) 6 = nI b ↔ f ≤ i ∧ i < f + g)
def UsedR (c : Mem) (q cnt B i : Nat) : Prop := gI c 3 (200 * q + i) 5 = -1 → ¬ gI c 3 (200 * q + i) 1 = 2 → (∃ j, i < j ∧ j < cnt ∧ uses c q j i) ∨ (∃ b, b < B ∧ gI c 3 (200 * q + i) 6 = nI b ∧ gI c 0 (175 * q + b) 2 = 1 ∧ gI c 0 (175 * q + b) 3 = cval i)
def ValB (c : Mem) (q cnt b : Nat) (v : Int32) : Prop := ∀ i, i < 200 → v = cval i → i < cnt ∧ gI c 3 (200 * q + i) 6 = nI b ∧ gI c 3 (200 * q + i) 5 = -1 ∧ ¬ gI c 3 (200 * q + i) 1 = 2
/-- the operations, with those of X not used as yet -/
def OPS (c m : Mem) (q cnt B : Nat) (op : Bool) (X : Nat → Prop) : Prop :=
  OpsR c m q cnt ∧ NumC c ∧ (∀ i, i < cnt → ∃ b, b < B ∧ gI c 3 (200 * q + i) 6 = nI b) ∧ (∀ b, b < B → RangeR c q cnt b) ∧ (∀ i, i < cnt → X i ∨ UsedR c q cnt B i) ∧ (∀ b, b < B → gI c 0 (175 * q + b) 2 = 1 → ValB c q cnt b (gI c 0 (175 * q + b) 3)) ∧ (op = true → 1 ≤ B ∧ ManyR c q cnt B ∧ gI c 0 (175 * q + (B - 1)) 2 = 0) ∧ B ≤ 175 ∧ cnt ≤ 200
section OPSS
variable {T : Nat → Nat} {len q n : Nat} {c m w c' m' : Mem} {p cnt br B : Nat} {X : Nat → Prop}
theorem AgC.blk {b j : Nat} (h : AgC q cnt B c c') (hj : j ≠ 1) : gI c' 0 (175 * q + b) j = gI c 0 (175 * q + b) j := h.1 0 _ j (by decide) (by omega) (by omega) (by omega) (by omega)
theorem AgC.blk1 {b : Nat} (h : AgC q cnt B c c') (hb : b ≠ B - 1) : gI c' 0 (175 * q + b) 1 = gI c 0 (175 * q + b) 1 := h.1 0 _ 1 (by decide) (by omega) (by omega) (by omega) (by omega)
theorem UsedR.ag {cnt' i : Nat} (h : UsedR c q cnt B i) (ha : AgC q cnt B c c') (hi : i < cnt) (hc : cnt ≤ cnt') : UsedR c' q cnt' B i := by
  intro a1 a2
  rw [ha.op hi] at a1 a2
  rcases h a1 a2 with ⟨j, j1, j2, j3⟩ | ⟨b, b1, b2, b3, b4⟩
  · refine Or.inl ⟨j, j1, by omega, ?_⟩
    unfold uses
    rw [ha.op j2, ha.op j2]
    exact j3
  · refine Or.inr ⟨b, b1, ?_, ?_, ?_⟩
    · rw [ha.op hi]; exact b2
    · rw [ha.blk (by decide)]; exact b3
    · rw [ha.blk (by decide)]; exact b4
theorem ValB.ag {cnt' b : Nat} {v : Int32} (h : ValB c q cnt b v) (ha : AgC q cnt B c c') (hc : cnt ≤ cnt') : ValB c' q cnt' b v := by
  intro i hi e
  obtain ⟨a1, a2, a3, a4⟩ := h i hi e
  rw [ha.op a1, ha.op a1, ha.op a1]
  exact ⟨by omega, a2, a3, a4⟩
/-- new operations of the block that is open -/
theorem OPS.grow {cnt' : Nat} {X' : Nat → Prop} (h : OPS c m q cnt B true X) (hc : cnt ≤ cnt') (h200 : cnt' ≤ 200) (ha : AgC q cnt B c c') (ho : OpsR c' m' q cnt') (hn : NumC c') (hm : ManyR c' q cnt' B) (hb : ∀ i, cnt ≤ i → i < cnt' → gI c' 3 (200 * q + i) 6 = nI (B - 1)) (hX : ∀ i, i < cnt → X i → X' i ∨ UsedR c' q cnt' B i) (hN : ∀ i, cnt ≤ i → i < cnt' → X' i ∨ UsedR c' q cnt' B i) : OPS c' m' q cnt' B true X' := by
  obtain ⟨h1, h2, h3, h4, h5, h6, h7, h8, h9⟩ := h
  obtain ⟨k1, ⟨f, f1, f2, f3⟩, k3⟩ := h7 rfl
  obtain ⟨f', g1, g2, g3⟩ := hm
  have ef : f' = f := by
    rw [ha.blk (by decide), f2] at g2
    exact ((nI_eq (by omega) (by omega)).mp g2).symm
  subst ef
  refine ⟨ho, hn, ?_, ?_, ?_, ?_, fun _ => ⟨k1, ⟨f', g1, g2, g3⟩, by rw [ha.blk (by decide)]; exact k3⟩, h8, h200⟩
  · intro i hi
    rcases Nat.lt_or_ge i cnt with z | z
    · obtain ⟨b, b1, b2⟩ := h3 i z
      exact ⟨b, b1, by rw [ha.op z]; exact b2⟩
    · exact ⟨B - 1, by omega, hb i z hi⟩
  · intro b hbB
    by_cases zb : b = B - 1
    · subst zb
      refine ⟨f', cnt' - f', g2, g3, by omega, fun i hi => ?_⟩
      obtain ⟨fa, ga, r1, r2, r3, r4⟩ := h4 (B - 1) hbB
      have e1 : fa = f' := by rw [f2] at r1; exact ((nI_eq (by omega) (by omega)).mp r1).symm
      have e2 : ga = cnt - f' := by rw [f3] at r2; exact ((nI_eq (by omega) (by omega)).mp r2).symm
      subst e1 e2
      rcases Nat.lt_or_ge i cnt with z | z
      · rw [ha.op z, r4 i z]
        omega
      · rw [hb i z hi]
        exact ⟨fun _ => ⟨by omega, by omega⟩, fun _ => rfl⟩
    · obtain ⟨fa, ga, r1, r2, r3, r4⟩ := h4 b hbB
      refine ⟨fa, ga, by rw [ha.blk (by decide)]; exact r1, by rw [ha.blk1 zb]; exact r2, by omega, fun i hi => ?_⟩
      rcases Nat.lt_or_ge i cnt with z | z
      · rw [ha.op z]; exact r4 i z
      · rw [hb i z hi]
        refine ⟨fun e => ?_, fun e => by omega⟩
        have := (nI_eq (by omega) (by omega)).mp e
        omega
  · intro i hi
    rcases Nat.lt_or_ge i cnt with z | z
    · rcases h5 i z with y | y
      · exact hX i z y
      · exact Or.inr (y.ag ha z hc)
    · exact hN i z hi
  · intro b hbB e
    rw [ha.blk (by decide)] at e ⊢
    exact (h6 b hbB e).ag ha hc
/-- behind an expression: its value isn't used as yet -/
theorem OPS.expr {cnt' p' : Nat} {v : Int32} (h : OPS c m q cnt B true X) (he : ER T len q n c' m' w p' cnt' br B) (hc : cnt ≤ cnt') (hN : NewOk c' q cnt cnt' B v) (ha : AgC q cnt B c c') : OPS c' m' q cnt' B true (fun i => X i ∨ v = cval i) := by
  obtain ⟨-, -, -, -, -, ⟨-, -, e6⟩, -, -, e9, e10, e11⟩ := he
  refine h.grow hc e6 ha e9 e10 e11 (fun i x y => (hN i x y).1) (fun i _ x => Or.inl (Or.inl x)) (fun i x y => ?_)
  rcases (hN i x y).2.2.2 with z | ⟨j, j1, j2, j3⟩
  · exact Or.inl (Or.inr z)
  · exact Or.inr (fun _ _ => Or.inl ⟨j, j1, j2, j3⟩)
/-- behind one more operation: what it uses is used -/
theorem OPS.add {s l r : Int32} {p' : Nat} (h : OPS c m q cnt B true X) (he : ER T len q n c' m' w p' (cnt + 1) br B) (ha : AgC q cnt B c c') (e1 : gI c' 3 (200 * q + cnt) 1 = s) (e3 : gI c' 3 (200 * q + cnt) 3 = l) (e4 : gI c' 3 (200 * q + cnt) 4 = r) (e6 : gI c' 3 (200 * q + cnt) 6 = nI (B - 1)) : OPS c' m' q (cnt + 1) B true (fun i => (X i ∧ ¬ l = cval i ∧ ¬ r = cval i) ∨ (i = cnt ∧ ¬ s = 2)) := by
  obtain ⟨-, -, -, -, -, ⟨-, -, a6⟩, -, -, a9, a10, a11⟩ := he
  refine h.grow (by omega) a6 ha a9 a10 a11 (fun i x y => by rw [show i = cnt by omega]; exact e6) (fun i x y => ?_) (fun i x y => ?_)
  · by_cases z : l = cval i ∨ r = cval i
    · refine Or.inr (fun _ _ => Or.inl ⟨cnt, x, by omega, ?_⟩)
      unfold uses
      rw [e3, e4]
      exact z
    · exact Or.inl (Or.inl ⟨y, fun k => z (Or.inl k), fun k => z (Or.inr k)⟩)
  · have : i = cnt := by omega
    subst this
    by_cases z : s = 2
    · exact Or.inr (fun _ k => absurd (e1.trans z) k)
    · exact Or.inl (Or.inr ⟨rfl, z⟩)
theorem OPS.weak {op : Bool} {X' : Nat → Prop} (h : OPS c m q cnt B op X) (hx : ∀ i, i < cnt → X i → X' i) : OPS c m q cnt B op X' := by
  obtain ⟨h1, h2, h3, h4, h5, h6⟩ := h
  exact ⟨h1, h2, h3, h4, fun i hi => (h5 i hi).imp (hx i hi) id, h6⟩
/-- the last operation gives a variable its value -/
theorem OPS.give {cnt0 k : Nat} {m2 : Mem} (hq : q < 2) (h : OPS c m q (cnt + 1) B true X) (hk : k < 8) (hX : ∀ i, i < cnt + 1 → X i → i = cnt) (hb : gI c 3 (200 * q + cnt) 6 = nI (B - 1)) (hs : ¬ gI c 3 (200 * q + cnt) 1 = 2) (hm2 : m2 = sI m 114 0 cnt (nI k)) : OPS (sI c 3 (200 * q + cnt) 5 (nI k)) m2 q (cnt + 1) B true (fun _ => False) := by
  subst hm2
  obtain ⟨h1, h2, h3, h4, h5, h6, h7, h8, h9⟩ := h
  have o3 : ∀ i j, ¬ (i = cnt ∧ j = 5) → gI (sI c 3 (200 * q + cnt) 5 (nI k)) 3 (200 * q + i) j = gI c 3 (200 * q + i) j := fun i j z => gn_I (by omega)
  have nv : gI (sI c 3 (200 * q + cnt) 5 (nI k)) 3 (200 * q + cnt) 5 = nI k := gs_I _ _ _ _ _
  have us : ∀ j i, uses (sI c 3 (200 * q + cnt) 5 (nI k)) q j i ↔ uses c q j i := fun j i => by
    unfold uses
    rw [o3 j 3 (by omega), o3 j 4 (by omega)]
  have bl : ∀ b j, gI (sI c 3 (200 * q + cnt) 5 (nI k)) 0 (175 * q + b) j = gI c 0 (175 * q + b) j := fun b j => gn_I (by omega)
  have notref : ∀ j, j < cnt + 1 → ∀ i, i < 200 → uses c q j i → i ≠ cnt := fun j hj i hi hu => by
    have := ((h1 j hj).2 i hi hu).1
    omega
  refine ⟨?_, ?_, ?_, ?_, ?_, ?_, ?_, h8, h9⟩
  · intro i hi
    obtain ⟨⟨r1, r2, r3, r4, r5, r6, r7⟩, rr⟩ := h1 i hi
    refine ⟨?_, ?_⟩
    · unfold OpR
      rw [o3 i 1 (by omega), o3 i 2 (by omega), o3 i 3 (by omega), o3 i 4 (by omega), o3 i 6 (by omega)]
      refine ⟨r1, r2, r3, r4, ?_, ?_, r7⟩
      · by_cases z : i = cnt
        · subst z; rw [nv, gs_I]
        · rw [o3 i 5 (by omega), gn_I (by omega)]; exact r5
      · by_cases z : i = cnt
        · subst z; exact Or.inr ⟨k, hk, nv, hs⟩
        · rw [o3 i 5 (by omega)]; exact r6
    · intro z hz hu
      rw [us] at hu
      have hne := notref i hi z hz hu
      obtain ⟨a1, a2, a3, a4⟩ := rr z hz hu
      rw [o3 z 6 (by omega), o3 z 5 (by omega), o3 z 1 (by omega), o3 i 6 (by omega)]
      exact ⟨a1, a2, a3, a4⟩
  · intro o ho
    rw [gn_I (by omega)]
    exact h2 o ho
  · intro i hi
    rw [o3 i 6 (by omega)]
    exact h3 i hi
  · intro b hb'
    obtain ⟨f, g, r1, r2, r3, r4⟩ := h4 b hb'
    refine ⟨f, g, by rw [bl]; exact r1, by rw [bl]; exact r2, r3, fun i hi => ?_⟩
    rw [o3 i 6 (by omega)]
    exact r4 i hi
  · intro i hi
    right
    by_cases z : i = cnt
    · subst z
      intro a
      rw [nv] at a
      exact absurd a (nI_nm (by omega))
    · rcases h5 i hi with y | y
      · exact absurd (hX i hi y) z
      · intro a1 a2
        rw [o3 i 5 (by omega)] at a1
        rw [o3 i 1 (by omega)] at a2
        rcases y a1 a2 with ⟨j, j1, j2, j3⟩ | ⟨b, b1, b2, b3, b4⟩
        · exact Or.inl ⟨j, j1, j2, (us j i).mpr j3⟩
        · refine Or.inr ⟨b, b1, ?_, ?_, ?_⟩
          · rw [o3 i 6 (by omega)]; exact b2
          · rw [bl]; exact b3
          · rw [bl]; exact b4
  · intro b hb' e
    rw [bl] at e ⊢
    intro i hi ev
    obtain ⟨a1, a2, a3, a4⟩ := h6 b hb' e i hi ev
    have zi : i ≠ cnt := fun y => by
      subst y
      rw [hb] at a2
      have e2 := (nI_eq (by omega) (by omega)).mp a2
      have e3 := (h7 rfl).2.2
      rw [show B - 1 = b by omega, e] at e3
      exact absurd e3 (by decide)
    rw [o3 i 6 (by omega), o3 i 5 (by omega), o3 i 1 (by omega)]
    exact ⟨a1, a2, a3, a4⟩
  · intro _
    obtain ⟨k1, ⟨f, f1, f2, f3⟩, k3⟩ := h7 rfl
    exact ⟨k1, ⟨f, f1, by rw [bl]; exact f2, by rw [bl]; exact f3⟩, by rw [bl]; exact k3⟩
end OPSS
