/-! ===== PURE: the reference's needBlock, seen ahead ===== -/
theorem sI_comm {g : Mem} {k i j k' i' j' : Nat} {v w : Int32} (h : ¬ (k = k' ∧ i = i' ∧ j = j')) : sI (sI g k i j v) k' i' j' w = sI (sI g k' i' j' w) k i j v := by
  have e : (fun a b c => if a = k' ∧ b = i' ∧ c = j' then w else (sI g k i j v).1 a b c) = fun a b c => if a = k ∧ b = i ∧ c = j then v else (sI g k' i' j' w).1 a b c := by
    funext a b c
    show (if a = k' ∧ b = i' ∧ c = j' then w else if a = k ∧ b = i ∧ c = j then v else g.1 a b c) = if a = k ∧ b = i ∧ c = j then v else if a = k' ∧ b = i' ∧ c = j' then w else g.1 a b c
    by_cases h1 : a = k' ∧ b = i' ∧ c = j'
    · by_cases h2 : a = k ∧ b = i ∧ c = j
      · exact absurd ⟨h2.1.symm.trans h1.1, h2.2.1.symm.trans h1.2.1, h2.2.2.symm.trans h1.2.2⟩ h
      · rw [if_pos h1, if_neg h2, if_pos h1]
    · by_cases h2 : a = k ∧ b = i ∧ c = j
      · rw [if_neg h1, if_pos h2, if_pos h2]
      · rw [if_neg h1, if_neg h2, if_neg h2, if_neg h1]
  show ((fun a b c => if a = k' ∧ b = i' ∧ c = j' then w else (sI g k i j v).1 a b c), _) = ((fun a b c => if a = k ∧ b = i ∧ c = j then v else (sI g k' i' j' w).1 a b c), _)
  rw [e]
  rfl
/-- a slot of the reference's object that needBlock neither reads nor writes -/
def nbS (t : Nat) : Prop := t ≠ 16 ∧ t ≠ 22 ∧ t ≠ 24 ∧ t ≠ 49
theorem nb_lead {n t : Nat} {a2 v : Int32} (ht : nbS t) : ∀ (k : Nat) (x : Int32) (g : Mem), M_lead_L2 n a2 k x (sI g 10 0 t v) = (M_lead_L2 n a2 k x g).map (fun z => sI z 10 0 t v) := by
  intro k
  induction k with
  | zero => intro x g; rfl
  | succ k ih =>
    intro x g
    have e1 : gI (sI g 10 0 t v) 10 0 24 = gI g 10 0 24 := gn_I (fun z => ht.2.2.1 z.2.2.symm)
    have e2 : ∀ j, gI (sI g 10 0 t v) 123 0 j = gI g 123 0 j := fun j => rfl
    rw [M_lead_L2, M_lead_L2, e1]
    by_cases h1 : gI g 10 0 24 ≤ x
    · rw [if_pos h1, if_pos h1]; rfl
    · rw [if_neg h1, if_neg h1]
      cases hx : ix x 1600 with
      | none => rfl
      | some j =>
        rw [bd_s, bd_s, bd_s, bd_s, e2]
        by_cases h2 : gI g 123 0 j - gI g 123 0 j / 2 * 2 = 0
        · rw [if_pos h2, if_pos h2]
          cases hy : ix (gI g 123 0 j / 2) 800 with
          | none => rfl
          | some j8 =>
            rw [bd_s, bd_s, lt9, lt9, sI_comm (by omega)]
            exact ih _ _
        · rw [if_neg h2, if_neg h2]
          cases hy : ix (gI g 123 0 j / 2) 800 with
          | none => rfl
          | some j8 =>
            rw [bd_s, bd_s, lt9, lt9, sI_comm (by omega)]
            exact ih _ _
theorem nb_leadF {n t : Nat} {a1 a2 v : Int32} {g : Mem} (ht : nbS t) : M_lead n a1 a2 (sI g 10 0 t v) = (M_lead n a1 a2 g).map (fun z => sI z 10 0 t v) := by
  rw [M_lead, M_lead, nb_lead ht]
  cases hx : M_lead_L2 n a2 n a1 g with
  | none => rfl
  | some r =>
    show some (sI (sI r 10 0 t v) 10 0 24 a1) = some (sI (sI r 10 0 24 a1) 10 0 t v)
    rw [sI_comm (fun z => ht.2.2.1 z.2.2)]
theorem nb_comm {n t : Nat} {v : Int32} {g : Mem} (ht : nbS t) : M_needBlock n (sI g 10 0 t v) = (M_needBlock n g).map (fun z => sI z 10 0 t v) := by
  have e1 : ∀ (g : Mem), gI (sI g 10 0 t v) 10 0 22 = gI g 10 0 22 := fun g => gn_I (fun z => ht.2.1 z.2.2.symm)
  have e2 : ∀ (g : Mem), gI (sI g 10 0 t v) 10 0 16 = gI g 10 0 16 := fun g => gn_I (fun z => ht.1 z.2.2.symm)
  have e3 : ∀ (g : Mem), gI (sI g 10 0 t v) 10 0 49 = gI g 10 0 49 := fun g => gn_I (fun z => ht.2.2.2 z.2.2.symm)
  rw [M_needBlock, M_needBlock, e1]
  by_cases h : gI g 10 0 22 = -1
  · rw [if_pos h, if_pos h]
    simp only [lt9]
    rw [e2, sI_comm (g := g) (fun z => ht.2.1 z.2.2), e2, sI_comm (g := sI g 10 0 22 (gI g 10 0 16)) (fun z => ht.1 z.2.2), e1]
    generalize hG : sI (sI g 10 0 22 (gI g 10 0 16)) 10 0 16 (gI (sI g 10 0 22 (gI g 10 0 16)) 10 0 16 + 1) = G
    cases hx : ix (gI G 10 0 22) 800 with
    | none => rfl
    | some j =>
      rw [bd_s, bd_s, sI_comm (g := G) (by omega), e1]
      have q1 : gI (sI G 119 0 j (-1)) 10 0 22 = gI G 10 0 22 := rfl
      rw [q1, hx, bd_s, bd_s, sI_comm (g := sI G 119 0 j (-1)) (by omega), e1]
      have q2 : gI (sI (sI G 119 0 j (-1)) 120 0 j (-1)) 10 0 22 = gI G 10 0 22 := rfl
      rw [q2, hx, bd_s, bd_s, sI_comm (g := sI (sI G 119 0 j (-1)) 120 0 j (-1)) (by omega), e1, e3, nb_leadF ht]
      cases hz : M_lead n (gI (sI (sI (sI G 119 0 j (-1)) 120 0 j (-1)) 121 0 j 0) 10 0 49) (gI (sI (sI (sI G 119 0 j (-1)) 120 0 j (-1)) 121 0 j 0) 10 0 22) (sI (sI (sI G 119 0 j (-1)) 120 0 j (-1)) 121 0 j 0) with
      | none => rfl
      | some r => rfl
  · rw [if_neg h, if_neg h]; rfl
/-- the two memories say the same of blocks and ways -/
def AgB (w m : Mem) : Prop := (gI w 10 0 16 = gI m 10 0 16 ∧ gI w 10 0 22 = gI m 10 0 22 ∧ gI w 10 0 24 = gI m 10 0 24 ∧ gI w 10 0 49 = gI m 10 0 49) ∧ (∀ k j, 117 ≤ k → k ≤ 123 → gI w k 0 j = gI m k 0 j)
/-- needBlock changes nothing else -/
def OthB (m m1 : Mem) : Prop := (∀ k i j, (k ≠ 119 ∧ k ≠ 120 ∧ k ≠ 121) → ¬ (k = 10 ∧ (j = 16 ∨ j = 22 ∨ j = 24)) → gI m1 k i j = gI m k i j) ∧ m1.2 = m.2
/-- needBlock, done now, would leave the blocks as w has them -/
def NBx (n : Nat) (m w : Mem) : Prop := ∃ m1, M_needBlock n m = some m1 ∧ AgB w m1 ∧ OthB m m1 ∧ ¬ gI m1 10 0 22 = -1
theorem NBx.upd {n t : Nat} {m w : Mem} {v : Int32} (h : NBx n m w) (ht : nbS t) : NBx n (sI m 10 0 t v) w := by
  obtain ⟨m1, h1, h2, h3, h4⟩ := h
  refine ⟨sI m1 10 0 t v, by rw [nb_comm ht, h1]; rfl, ⟨⟨?_, ?_, ?_, ?_⟩, ?_⟩, ⟨?_, ?_⟩, ?_⟩
  · rw [gn_I (fun z => ht.1 z.2.2.symm)]; exact h2.1.1
  · rw [gn_I (fun z => ht.2.1 z.2.2.symm)]; exact h2.1.2.1
  · rw [gn_I (fun z => ht.2.2.1 z.2.2.symm)]; exact h2.1.2.2.1
  · rw [gn_I (fun z => ht.2.2.2 z.2.2.symm)]; exact h2.1.2.2.2
  · intro k j g1 g2
    rw [gn_I (by omega)]
    exact h2.2 k j g1 g2
  · intro k i j g1 g2
    by_cases z : k = 10 ∧ i = 0 ∧ j = t
    · obtain ⟨rfl, rfl, rfl⟩ := z
      rw [gs_I, gs_I]
    · rw [gn_I z, gn_I z]
      exact h3.1 k i j g1 g2
  · exact h3.2
  · rw [gn_I (fun z => ht.2.1 z.2.2.symm)]
    exact h4
theorem NBx.self {n : Nat} {m w : Mem} (h : ¬ gI m 10 0 22 = -1) (ha : AgB w m) : NBx n m w := by
  refine ⟨m, ?_, ha, ⟨fun _ _ _ _ _ => rfl, rfl⟩, h⟩
  rw [M_needBlock, if_neg h]
theorem nbS5 : nbS 5 := by unfold nbS; decide
theorem nbS6 : nbS 6 := by unfold nbS; decide
theorem nbS7 : nbS 7 := by unfold nbS; decide
theorem nbS8 : nbS 8 := by unfold nbS; decide
theorem nbS9 : nbS 9 := by unfold nbS; decide
theorem nbS3 : nbS 3 := by unfold nbS; decide
theorem nbS4 : nbS 4 := by unfold nbS; decide
