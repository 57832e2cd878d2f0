/-! ===== PURE: laying: who comes behind whom ===== -/
/-- only what laying writes has changed -/
def FrL (c0 c : Mem) : Prop := (∀ k i j, ¬ (k = 3 ∧ 7 ≤ j) → ¬ (k = 0 ∧ j = 6) → k ≠ 25 → k ≠ 26 → ¬ (k = 1 ∧ j = 5) → gI c k i j = gI c0 k i j) ∧ (∀ k i j, k ≠ 27 → gR c k i j = gR c0 k i j) ∧ gL c = gL c0
def FrLM (m0 m : Mem) : Prop := (∀ k i j, ¬ (139 ≤ k ∧ k ≤ 143) → k ≠ 150 → gI m k i j = gI m0 k i j) ∧ m.2 = m0.2
theorem FrL.rf {c : Mem} : FrL c c := ⟨fun _ _ _ _ _ _ _ _ => rfl, fun _ _ _ _ => rfl, rfl⟩
theorem FrL.tr {a b c : Mem} (h1 : FrL a b) (h2 : FrL b c) : FrL a c := ⟨fun k i j x1 x2 x3 x4 x5 => (h2.1 k i j x1 x2 x3 x4 x5).trans (h1.1 k i j x1 x2 x3 x4 x5), fun k i j x => (h2.2.1 k i j x).trans (h1.2.1 k i j x), h2.2.2.trans h1.2.2⟩
theorem FrLM.rf {m : Mem} : FrLM m m := ⟨fun _ _ _ _ _ => rfl, rfl⟩
theorem FrLM.tr {a b c : Mem} (h1 : FrLM a b) (h2 : FrLM b c) : FrLM a c := ⟨fun k i j x1 x2 => (h2.1 k i j x1 x2).trans (h1.1 k i j x1 x2), h2.2.trans h1.2⟩
theorem FrL.upd {c : Mem} {k i j : Nat} {v : Int32} (h : (k = 3 ∧ 7 ≤ j) ∨ (k = 0 ∧ j = 6) ∨ k = 25 ∨ k = 26 ∨ (k = 1 ∧ j = 5)) : FrL c (sI c k i j v) := ⟨fun a b d x1 x2 x3 x4 x5 => gn_I (fun z => by omega), fun _ _ _ _ => rfl, rfl⟩
theorem FrL.updR {c : Mem} {i j : Nat} {v : Option Nat} : FrL c (sR c 27 i j v) := ⟨fun _ _ _ _ _ _ _ _ => rfl, fun a b d x => by rw [gR_sR, if_neg (fun z => x z.1)], rfl⟩
theorem FrLM.upd {m : Mem} {k i j : Nat} {v : Int32} (h : (139 ≤ k ∧ k ≤ 143) ∨ k = 150) : FrLM m (sI m k i j v) := ⟨fun a b d x1 x2 => gn_I (fun z => by omega), rfl⟩
theorem PRg.ag {c c' : Mem} {q cnt B : Nat} {a1 a2 a3 a4 a5 a6 a7 a8 a9 a10 b1 b2 b3 b4 b5 b6 b7 b8 b9 b10 : Nat → Int32} (h : PRg c q cnt B a1 a2 a3 a4 a5 a6 a7 a8 a9 a10) (fc : FrL c c') (e1 : ∀ i, i < cnt → b1 i = a1 i ∧ b2 i = a2 i ∧ b3 i = a3 i) (e2 : ∀ i, i < 2 * cnt → b4 i = a4 i ∧ b5 i = a5 i) (e3 : ∀ i, i < B → b6 i = a6 i ∧ b7 i = a7 i ∧ b8 i = a8 i ∧ b9 i = a9 i ∧ b10 i = a10 i) : PRg c' q cnt B b1 b2 b3 b4 b5 b6 b7 b8 b9 b10 := by
  obtain ⟨h1, h2, h3⟩ := h
  have c3 : ∀ i j, j < 7 → gI c' 3 i j = gI c 3 i j := fun i j hj => fc.1 3 i j (by omega) (by omega) (by decide) (by decide) (by omega)
  have c0 : ∀ i j, j ≠ 6 → gI c' 0 i j = gI c 0 i j := fun i j hj => fc.1 0 i j (by omega) (by omega) (by decide) (by decide) (by omega)
  have us : ∀ j i, uses c' q j i ↔ uses c q j i := fun j i => by
    unfold uses
    rw [c3 _ 3 (by decide), c3 _ 4 (by decide)]
  refine ⟨fun i hi => ?_, fun b hb => ?_, fun o ho => by rw [c3 _ 0 (by decide)]; exact h3 o ho⟩
  · obtain ⟨v1, v2, v3, v4, v5, v6, v7, v8, v9, v10⟩ := h1 i hi
    obtain ⟨w1, w2, w3⟩ := e1 i hi
    obtain ⟨w4, w5⟩ := e2 (2 * i) (by omega)
    obtain ⟨w6, w7⟩ := e2 (2 * i + 1) (by omega)
    rw [w1, w2, w3, w4, w5, w6, w7, c3 _ 1 (by decide), c3 _ 2 (by decide), c3 _ 3 (by decide), c3 _ 4 (by decide), c3 _ 5 (by decide), c3 _ 6 (by decide)]
    refine ⟨v1, v2, v3, v4, v5, v6, v7, ?_, ?_, v10⟩
    · intro z hz hu
      rw [us] at hu
      rw [c3 _ 6 (by decide), c3 _ 6 (by decide), c3 _ 5 (by decide), c3 _ 1 (by decide)]
      exact v8 z hz hu
    · intro u1 u2
      rw [c3 _ 5 (by decide)] at u1
      rw [c3 _ 1 (by decide)] at u2
      rcases v9 u1 u2 with ⟨j, j1, j2, j3⟩ | ⟨b, x1, x2, x3, x4⟩
      · exact Or.inl ⟨j, j1, j2, (us j i).mpr j3⟩
      · exact Or.inr ⟨b, x1, by rw [c3 _ 6 (by decide)]; exact x2, by rw [c0 _ 2 (by decide)]; exact x3, by rw [c0 _ 3 (by decide)]; exact x4⟩
  · obtain ⟨v1, v2, v3, v4, v5, v6⟩ := h2 b hb
    obtain ⟨w6, w7, w8, w9, w10⟩ := e3 b hb
    have sdc : ∀ s, s < 2 → sd c' q b s = sd c q b s := fun s hs => c0 _ _ (by omega)
    rw [w6, w7, w8, w9, w10, c0 _ 2 (by decide), c0 _ 3 (by decide), sdc 0 (by decide), sdc 1 (by decide)]
    refine ⟨?_, v2, v3, fun z => ⟨(v4 z).1, ?_⟩, v5, v6⟩
    · obtain ⟨f, g, r1, r2, r3, r4⟩ := v1
      refine ⟨f, g, by rw [c0 _ 0 (by decide)]; exact r1, by rw [c0 _ 1 (by decide)]; exact r2, r3, fun i hi => ?_⟩
      rw [c3 _ 6 (by decide)]
      exact r4 i hi
    · intro i hi e
      rw [c3 _ 6 (by decide), c3 _ 5 (by decide), c3 _ 1 (by decide)]
      exact (v4 z).2 i hi e
theorem PR.ag {c c' m m' : Mem} {q cnt B : Nat} (h : PR c m q cnt B) (fc : FrL c c') (fm : FrLM m m') : PR c' m' q cnt B := by
  obtain ⟨⟨h1, h2, h3, h4, h5, h6⟩, h7⟩ := h
  exact ⟨⟨(fc.1 4 q 2 (by omega) (by omega) (by decide) (by decide) (by omega)).trans h1, (fc.1 4 q 3 (by omega) (by omega) (by decide) (by decide) (by omega)).trans h2, (fm.1 10 0 25 (by decide) (by decide)).trans h3, (fm.1 10 0 31 (by decide) (by decide)).trans h4, h5, h6⟩, h7.ag fc (fun i _ => ⟨fm.1 126 0 i (by decide) (by decide), fm.1 129 0 i (by decide) (by decide), fm.1 130 0 i (by decide) (by decide)⟩) (fun i _ => ⟨fm.1 127 0 i (by decide) (by decide), fm.1 128 0 i (by decide) (by decide)⟩) (fun i _ => ⟨fm.1 132 0 i (by decide) (by decide), fm.1 133 0 i (by decide) (by decide), fm.1 134 0 i (by decide) (by decide), fm.1 135 0 i (by decide) (by decide), fm.1 136 0 i (by decide) (by decide)⟩)⟩
/-- operation i takes the variable that v says -/
def usev (c : Mem) (q i : Nat) (v : Int32) : Bool := decide (¬ v = -1 ∧ (gI c 3 (200 * q + i) 3 = (-1) - v ∨ gI c 3 (200 * q + i) 4 = (-1) - v))
/-- operation i comes behind operation j -/
def bh (c : Mem) (q i j : Nat) : Bool := decide (gI c 3 (200 * q + i) 3 = cval j ∨ gI c 3 (200 * q + i) 4 = cval j) || usev c q i (gI c 3 (200 * q + j) 5) || decide (¬ gI c 3 (200 * q + i) 5 = -1 ∧ gI c 3 (200 * q + i) 5 = gI c 3 (200 * q + j) 5) || usev c q j (gI c 3 (200 * q + i) 5) || decide (gI c 3 (200 * q + i) 1 = 2 ∧ gI c 3 (200 * q + j) 2 = 2) || decide (gI c 3 (200 * q + j) 1 = 2 ∧ gI c 3 (200 * q + i) 2 = 2)
def b1 (b : Bool) : Int32 := if b = true then 1 else 0
theorem b1_0 {b : Bool} : (b1 b = 0) = (b = false) := by cases b <;> decide
theorem bh_ag {c c' : Mem} {q i j : Nat} (fc : FrL c c') : bh c' q i j = bh c q i j := by
  have c3 : ∀ i j, j < 7 → gI c' 3 i j = gI c 3 i j := fun i j hj => fc.1 3 i j (by omega) (by omega) (by decide) (by decide) (by omega)
  unfold bh usev
  rw [c3 _ 3 (by decide), c3 _ 4 (by decide), c3 _ 3 (by decide), c3 _ 4 (by decide), c3 _ 5 (by decide), c3 _ 5 (by decide), c3 _ 1 (by decide), c3 _ 1 (by decide), c3 _ 2 (by decide), c3 _ 2 (by decide)]
theorem r_uses {n o : Nat} {v : Int32} {c : Mem} : Op_uses n o v c = some (b1 (decide (gI c 3 o 3 = v ∨ gI c 3 o 4 = v))) := by
  rw [Op_uses]
  by_cases h1 : gI c 3 o 3 = v
  · rw [if_pos h1, decide_eq_true (Or.inl h1)]; rfl
  · rw [if_neg h1]
    by_cases h2 : gI c 3 o 4 = v
    · rw [if_pos h2, decide_eq_true (Or.inr h2)]; rfl
    · rw [if_neg h2, decide_eq_false (fun z => z.elim h1 h2)]; rfl
theorem r_usesGiven {n q i j : Nat} {c : Mem} : Op_usesGiven n (200 * q + i) (200 * q + j) c = some (b1 (usev c q i (gI c 3 (200 * q + j) 5))) := by
  rw [Op_usesGiven, Od_ofVariable, bd_s, r_uses, bd_s]
  unfold usev
  by_cases h : gI c 3 (200 * q + j) 5 = -1
  · rw [if_pos h, decide_eq_false (fun z => z.1 h)]; rfl
  · rw [if_neg h]
    simp only [b1_0]
    by_cases h2 : gI c 3 (200 * q + i) 3 = -1 - gI c 3 (200 * q + j) 5 ∨ gI c 3 (200 * q + i) 4 = -1 - gI c 3 (200 * q + j) 5
    · rw [decide_eq_true h2, decide_eq_true ⟨h, h2⟩, if_neg (by decide)]; rfl
    · rw [decide_eq_false h2, decide_eq_false (fun z => h2 z.2), if_pos rfl]; rfl
theorem r_cb {n q i j : Nat} {c : Mem} (hj : gI c 3 (200 * q + j) 0 = nI j) : Op_comesBehind n (200 * q + i) (200 * q + j) c = some (b1 (bh c q i j)) := by
  have e9 : (-9 : Int32) - nI j = cval j := rfl
  rw [Op_comesBehind, hj, Od_ofValue, bd_s, e9, r_uses, bd_s, Op_touchesGiven, r_usesGiven, bd_s, r_usesGiven, lt9]
  simp only [b1_0]
  unfold bh
  by_cases h1 : gI c 3 (200 * q + i) 3 = cval j ∨ gI c 3 (200 * q + i) 4 = cval j
  · rw [decide_eq_true h1, if_neg (by decide)]; rfl
  · rw [decide_eq_false h1, if_pos rfl]
    by_cases h2 : usev c q i (gI c 3 (200 * q + j) 5) = true
    · rw [h2, if_neg (by decide), bd_s, if_neg (by decide)]; rfl
    · have h2' : usev c q i (gI c 3 (200 * q + j) 5) = false := by
        cases h : usev c q i (gI c 3 (200 * q + j) 5) with
        | true => exact absurd h h2
        | false => rfl
      rw [h2', if_pos rfl]
      have e3 : (if gI c 3 (200 * q + i) 5 = -1 then some (0 : Int32) else if gI c 3 (200 * q + i) 5 = gI c 3 (200 * q + j) 5 then some 1 else some 0) = some (b1 (decide (¬ gI c 3 (200 * q + i) 5 = -1 ∧ gI c 3 (200 * q + i) 5 = gI c 3 (200 * q + j) 5))) := by
        by_cases a : gI c 3 (200 * q + i) 5 = -1
        · rw [if_pos a, decide_eq_false (fun z => z.1 a)]; rfl
        · rw [if_neg a]
          by_cases b : gI c 3 (200 * q + i) 5 = gI c 3 (200 * q + j) 5
          · rw [if_pos b, decide_eq_true ⟨a, b⟩]; rfl
          · rw [if_neg b, decide_eq_false (fun z => b z.2)]; rfl
      rw [e3, bd_s]
      simp only [b1_0]
      by_cases h3 : ¬ gI c 3 (200 * q + i) 5 = -1 ∧ gI c 3 (200 * q + i) 5 = gI c 3 (200 * q + j) 5
      · rw [decide_eq_true h3, if_neg (by decide)]; rfl
      · rw [decide_eq_false h3, if_pos rfl, bd_s]
        simp only [b1_0]
        by_cases h4 : usev c q j (gI c 3 (200 * q + i) 5) = true
        · rw [h4, if_neg (by decide)]; rfl
        · have h4' : usev c q j (gI c 3 (200 * q + i) 5) = false := by
            cases h : usev c q j (gI c 3 (200 * q + i) 5) with
            | true => exact absurd h h4
            | false => rfl
          rw [h4', if_pos rfl]
          by_cases h5 : gI c 3 (200 * q + i) 1 = 2 ∧ gI c 3 (200 * q + j) 2 = 2
          · rw [if_pos h5.1, if_pos h5.2, decide_eq_true h5]; rfl
          · rw [decide_eq_false h5]
            have e6 : (if gI c 3 (200 * q + j) 1 = 2 then if gI c 3 (200 * q + i) 2 = 2 then some (1 : Int32) else some 0 else some 0) = some (b1 (decide (gI c 3 (200 * q + j) 1 = 2 ∧ gI c 3 (200 * q + i) 2 = 2))) := by
              by_cases a : gI c 3 (200 * q + j) 1 = 2
              · rw [if_pos a]
                by_cases b : gI c 3 (200 * q + i) 2 = 2
                · rw [if_pos b, decide_eq_true ⟨a, b⟩]; rfl
                · rw [if_neg b, decide_eq_false (fun z => b z.2)]; rfl
              · rw [if_neg a, decide_eq_false (fun z => a z.1)]; rfl
            rw [e6]
            by_cases a : gI c 3 (200 * q + i) 1 = 2
            · rw [if_pos a, if_neg (fun b => h5 ⟨a, b⟩)]; rfl
            · rw [if_neg a]; rfl
