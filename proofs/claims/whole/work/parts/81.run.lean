/-! ===== PURE: the machine runs ===== -/
theorem ix_15 (z : Int32) : ∃ j, j < 16 ∧ ix (z &&& 15) 16 = some j := by
  have e : z &&& 15 = nI (z.toBitVec.toNat &&& 15) := by
    apply Int32.toBitVec.inj
    rw [Int32.toBitVec_and]
    apply BitVec.eq_of_toNat_eq
    rw [BitVec.toNat_and, nI, Int32.toBitVec_ofNat', BitVec.toNat_ofNat]
    have : z.toBitVec.toNat &&& 15 ≤ 15 := Nat.and_le_right
    have e15 : ((15 : Int32).toBitVec).toNat = 15 := by decide
    rw [e15]
    omega
  have h : z.toBitVec.toNat &&& 15 < 16 := Nat.lt_of_le_of_lt Nat.and_le_right (by decide)
  exact ⟨_, h, by rw [e]; exact ix_nI h (by decide)⟩
/-- within a block: those up to x are done -/
def PSt (c m c' m' : Mem) (q f x : Nat) : Prop := (∀ k i j, k ≠ 28 → k ≠ 29 → k ≠ 30 → gI c' k i j = gI c k i j) ∧ c'.2 = c.2 ∧ (∀ k i j, k ≠ 144 → k ≠ 145 → k ≠ 146 → gI m' k i j = gI m k i j) ∧ m'.2 = m.2 ∧ (∀ v, v < 8 → gI c' 28 0 v = gI m' 144 0 v) ∧ (∀ i, i < 16 → gI c' 29 0 i = gI m' 145 0 i) ∧ ∀ i, f ≤ i → i < x → ¬ gI c 3 (200 * q + i) 1 = 2 → gI c' 30 0 i = gI m' 146 0 i
section RN
variable {n q cnt B b f g : Nat} {c m : Mem} {lat mn : Nat → Nat}
theorem t_take {v s z : Int32} {c' m' : Mem} (hv : VR0 v s z) (h1 : ∀ v, v < 8 → gI c' 28 0 v = gI m' 144 0 v) (h2 : ∀ i, i < 200 → v = cval i → gI c' 30 0 i = gI m' 146 0 i) : ∃ r, Mc_taken n v c' = some r ∧ M_look n s z m' = some r := by
  rw [Mc_taken, Od_isNumber, M_look]
  rcases hv with (⟨a, rfl, rfl⟩ | ⟨k, k1, rfl, rfl, rfl⟩ | ⟨i, i1, rfl, rfl, rfl⟩) | ⟨rfl, rfl⟩
  · rw [if_neg a, bd_s, if_neg (show ¬ (1 : Int32) = 0 by decide), if_pos rfl]
    exact ⟨_, rfl, rfl⟩
  · rw [if_pos (cvar_lo k k1).1, bd_s, if_pos rfl, Od_isValue, if_pos (cvar_lo k k1).2.1, bd_s, if_pos rfl, Od_variableOf, (cvar_lo k k1).2.2, bd_s, ix_nI (N := 8) k1 (by decide), bd_s, if_neg (by decide), if_pos rfl, bd_s]
    exact ⟨_, rfl, by rw [h1 k k1]⟩
  · rw [if_pos (cval_lo i i1).1, bd_s, if_pos rfl, od_val1 i1, bd_s, if_neg (show ¬ (1 : Int32) = 0 by decide), Od_operationOf, (cval_lo i i1).2.2.2, bd_s, ix_nI (N := 200) i1 (by decide), bd_s, if_neg (by decide), if_neg (by decide), if_pos rfl, bd_s]
    exact ⟨_, rfl, by rw [h2 i i1 rfl]⟩
  · rw [if_neg (by decide), bd_s, if_neg (show ¬ (1 : Int32) = 0 by decide), if_neg (by decide), if_neg (by decide), if_neg (by decide)]
    exact ⟨_, rfl, rfl⟩
/-- one operation -/
theorem o_step {x : Nat} {c' m' : Mem} (hq : q < 2) (hP : PR c m q cnt B) (hG : RG c q cnt b f g) (hx : f ≤ x ∧ x < f + g) (h : PSt c m c' m' q f x) :
    ∃ v c1 m2, Mc_outcome n (200 * q + x) c' = some (v, c1) ∧ M_doOperation n (nI x) m' = some m2 ∧ ((gI c 3 (200 * q + x) 5 = -1 ∧ PSt c m (sI c1 30 0 x v) m2 q f (x + 1)) ∨ ∃ w, w < 8 ∧ gI c 3 (200 * q + x) 5 = nI w ∧ PSt c m (sI (sI c1 30 0 x v) 28 0 w v) m2 q f (x + 1)) ∧ (∀ k i j, k ≠ 28 → k ≠ 29 → k ≠ 30 → gI c1 k i j = gI c k i j) ∧ c1.2 = c.2 := by
  have hcnt := hP.1.2.2.2.2.1
  have hfg := hG.2.2.1
  obtain ⟨f1, f2, f3, f4, f5, f6, f7⟩ := h
  obtain ⟨v1, v2, v3, v4, v5, v6, v7, v8, -⟩ := hP.2.1 x (by omega)
  have b6 := (hG.2.2.2 x (by omega)).mpr hx
  have sg : gI c' 3 (200 * q + x) 1 = gI c 3 (200 * q + x) 1 := f1 3 _ _ (by decide) (by decide) (by decide)
  have tk : ∀ i, i < 200 → uses c q x i → gI c' 30 0 i = gI m' 146 0 i := fun i hi hu => by
    obtain ⟨w1, w2, w3, w4⟩ := v8 i hi hu
    have := (hG.2.2.2 i (by omega)).mp (w2.trans b6)
    exact f7 i this.1 w1 w4
  obtain ⟨l, l1, l2⟩ := t_take (n := n) (c' := c') (m' := m') v3 f5 (fun i hi hv => tk i hi (Or.inl hv))
  obtain ⟨r, r1, r2⟩ := t_take (n := n) (c' := c') (m' := m') v4 f5 (fun i hi hv => tk i hi (Or.inr hv))
  have i2 : ix ((2 : Int32) * nI x) 400 = some (2 * x) := ix2 (by omega)
  have i21 : ix ((2 : Int32) * nI x + 1) 400 = some (2 * x + 1) := ix21 (by omega)
  have ix0 : ix (nI x) 200 = some x := ix_nI (by omega) (by decide)
  have m127 : ∀ j, gI m' 127 0 j = gI m 127 0 j := fun j => f3 127 0 j (by decide) (by decide) (by decide)
  have m128 : ∀ j, gI m' 128 0 j = gI m 128 0 j := fun j => f3 128 0 j (by decide) (by decide) (by decide)
  have m126 : gI m' 126 0 x = gI m 126 0 x := f3 126 0 x (by decide) (by decide) (by decide)
  have m129 : gI m' 129 0 x = gI m 129 0 x := f3 129 0 x (by decide) (by decide) (by decide)
  have c3 : gI c' 3 (200 * q + x) 3 = gI c 3 (200 * q + x) 3 := f1 3 _ _ (by decide) (by decide) (by decide)
  have c4 : gI c' 3 (200 * q + x) 4 = gI c 3 (200 * q + x) 4 := f1 3 _ _ (by decide) (by decide) (by decide)
  -- what is given to a variable
  have give : ∀ (val : Int32) (c1 m1 : Mem), (∀ k i j, k ≠ 28 → k ≠ 29 → k ≠ 30 → gI c1 k i j = gI c k i j) → c1.2 = c.2 → (∀ k i j, k ≠ 144 → k ≠ 145 → k ≠ 146 → gI m1 k i j = gI m k i j) → m1.2 = m.2 → (∀ v, v < 8 → gI c1 28 0 v = gI m1 144 0 v) → (∀ i, i < 16 → gI c1 29 0 i = gI m1 145 0 i) → (∀ i, f ≤ i → i < x → ¬ gI c 3 (200 * q + i) 1 = 2 → gI c1 30 0 i = gI m1 146 0 i) → (gI c 3 (200 * q + x) 1 = 2 ∨ gI m1 146 0 x = val) → ∃ m2, (ix (nI x) 200).bind (fun j31 => if gI m1 129 0 j31 < 0 then some m1 else (ix (nI x) 200).bind fun j32 => (ix (nI x) 200).bind fun j33 => (ix (gI m1 129 0 j32) 8).bind fun j34 => lt9 (sI m1 144 0 j34 (gI m1 146 0 j33)) fun g35 => some g35) = some m2 ∧ ((gI c 3 (200 * q + x) 5 = -1 ∧ PSt c m (sI c1 30 0 x val) m2 q f (x + 1)) ∨ ∃ w, w < 8 ∧ gI c 3 (200 * q + x) 5 = nI w ∧ PSt c m (sI (sI c1 30 0 x val) 28 0 w val) m2 q f (x + 1)) := by
    intro val c1 m1 g1 g2 g3 g4 g5 g6 g7 g8
    have e129 : gI m1 129 0 x = gI c 3 (200 * q + x) 5 := (g3 129 0 x (by decide) (by decide) (by decide)).trans v5.symm
    simp only [ix0, bd_s, lt9]
    rw [e129]
    rcases v6 with v6 | ⟨w, w1, w2, w3⟩
    · rw [v6, if_pos (by decide)]
      refine ⟨m1, rfl, Or.inl ⟨rfl, fun k i j h1 h2 h3 => (gn_I (by omega)).trans (g1 k i j h1 h2 h3), g2, g3, g4, fun v hv => (gn_I (by omega)).trans (g5 v hv), fun i hi => (gn_I (by omega)).trans (g6 i hi), fun i h1 h2 h3 => ?_⟩⟩
      by_cases y : i = x
      · subst y
        rw [gs_I]
        rcases g8 with g8 | g8
        · exact absurd g8 h3
        · exact g8.symm
      · rw [gn_I (by omega)]
        exact g7 i h1 (by omega) h3
    · have wn : (nI w < 0) = False := q_ltm (by omega)
      have val8 : gI m1 146 0 x = val := g8.resolve_left w3
      rw [w2]
      simp only [wn, if_false]
      rw [ix_nI (N := 8) w1 (by decide), bd_s, val8]
      refine ⟨_, rfl, Or.inr ⟨w, w1, rfl, fun k i j h1 h2 h3 => (gn_I (by omega)).trans ((gn_I (by omega)).trans (g1 k i j h1 h2 h3)), g2, fun k i j h1 h2 h3 => (gn_I (by omega)).trans (g3 k i j h1 h2 h3), g4, fun v hv => ?_, fun i hi => (gn_I (by omega)).trans ((gn_I (by omega)).trans ((g6 i hi).trans (gn_I (by omega)).symm)), fun i h1 h2 h3 => ?_⟩⟩
      · by_cases y : v = w
        · subst y
          rw [gs_I, gs_I]
        · rw [gn_I (by omega), gn_I (by omega), gn_I (by omega)]
          exact g5 v hv
      · rw [gn_I (by omega)]
        by_cases y : i = x
        · subst y
          rw [gs_I, gn_I (by omega), val8]
        · rw [gn_I (by omega), gn_I (by omega)]
          exact g7 i h1 (by omega) h3
  -- where the result alone is written
  have res : ∀ val : Int32, ∃ m2, (ix (nI x) 200).bind (fun j31 => if gI (sI m' 146 0 x val) 129 0 j31 < 0 then some (sI m' 146 0 x val) else (ix (nI x) 200).bind fun j32 => (ix (nI x) 200).bind fun j33 => (ix (gI (sI m' 146 0 x val) 129 0 j32) 8).bind fun j34 => lt9 (sI (sI m' 146 0 x val) 144 0 j34 (gI (sI m' 146 0 x val) 146 0 j33)) fun g35 => some g35) = some m2 ∧ ((gI c 3 (200 * q + x) 5 = -1 ∧ PSt c m (sI c' 30 0 x val) m2 q f (x + 1)) ∨ ∃ w, w < 8 ∧ gI c 3 (200 * q + x) 5 = nI w ∧ PSt c m (sI (sI c' 30 0 x val) 28 0 w val) m2 q f (x + 1)) := fun val => give val c' (sI m' 146 0 x val) f1 f2 (fun k i j h1 h2 h3 => (gn_I (by omega)).trans (f3 k i j h1 h2 h3)) f4 (fun v hv => (f5 v hv).trans (gn_I (by omega)).symm) (fun i hi => (f6 i hi).trans (gn_I (by omega)).symm) (fun i h1 h2 h3 => (f7 i h1 h2 h3).trans (gn_I (by omega)).symm) (Or.inr (gs_I _ _ _ _ _))
  obtain ⟨j, j1, j2⟩ := ix_15 l
  rw [Mc_outcome, M_doOperation, c3, c4, l1, r1, bd_s, bd_s, sg]
  simp only [i2, i21, ix0, bd_s, lt9, m127, m128, l2, r2, m126]
  simp only [ix0, bd_s, lt9] at res give
  rcases v1 with ⟨s1, s2⟩ | ⟨s1, s2⟩ | ⟨s1, s2⟩ | ⟨s1, s2⟩ | ⟨s1, s2⟩ | ⟨s1, s2⟩ | ⟨s1, s2⟩ | ⟨s1, s2⟩
  · obtain ⟨m2, e1, e2⟩ := res (l + r)
    rw [s1, s2, if_neg (by decide), if_neg (by decide), if_neg (by decide), if_pos rfl, if_pos rfl]
    exact ⟨_, _, m2, rfl, e1, e2, f1, f2⟩
  · obtain ⟨m2, e1, e2⟩ := res (l - r)
    rw [s1, s2, if_neg (by decide), if_neg (by decide), if_neg (by decide), if_neg (by decide), if_pos rfl, if_neg (by decide), if_pos rfl]
    exact ⟨_, _, m2, rfl, e1, e2, f1, f2⟩
  · obtain ⟨m2, e1, e2⟩ := res (l * r)
    rw [s1, s2, if_neg (by decide), if_neg (by decide), if_pos rfl, if_neg (by decide), if_neg (by decide), if_pos rfl]
    exact ⟨_, _, m2, rfl, e1, e2, f1, f2⟩
  · by_cases y : r ≤ l
    · obtain ⟨m2, e1, e2⟩ := res 0
      rw [s1, s2, if_neg (by decide), if_neg (by decide), if_neg (by decide), if_neg (by decide), if_neg (by decide), if_pos rfl, if_pos y, if_neg (by decide), if_neg (by decide), if_neg (by decide), if_pos rfl, if_pos y]
      exact ⟨_, _, m2, rfl, e1, e2, f1, f2⟩
    · obtain ⟨m2, e1, e2⟩ := res 1
      rw [s1, s2, if_neg (by decide), if_neg (by decide), if_neg (by decide), if_neg (by decide), if_neg (by decide), if_pos rfl, if_neg y, if_neg (by decide), if_neg (by decide), if_neg (by decide), if_pos rfl, if_neg y]
      exact ⟨_, _, m2, rfl, e1, e2, f1, f2⟩
  · by_cases y : l = r
    · obtain ⟨m2, e1, e2⟩ := res 1
      rw [s1, s2, if_neg (by decide), if_neg (by decide), if_neg (by decide), if_neg (by decide), if_neg (by decide), if_neg (by decide), if_pos rfl, if_pos y, if_neg (by decide), if_neg (by decide), if_neg (by decide), if_neg (by decide), if_pos rfl, if_pos y]
      exact ⟨_, _, m2, rfl, e1, e2, f1, f2⟩
    · obtain ⟨m2, e1, e2⟩ := res 0
      rw [s1, s2, if_neg (by decide), if_neg (by decide), if_neg (by decide), if_neg (by decide), if_neg (by decide), if_neg (by decide), if_pos rfl, if_neg y, if_neg (by decide), if_neg (by decide), if_neg (by decide), if_neg (by decide), if_pos rfl, if_neg y]
      exact ⟨_, _, m2, rfl, e1, e2, f1, f2⟩
  · obtain ⟨m2, e1, e2⟩ := res (gI m' 145 0 j)
    rw [s1, s2, if_pos rfl, j2, bd_s, if_neg (by decide), if_neg (by decide), if_neg (by decide), if_neg (by decide), if_neg (by decide), if_pos rfl, bd_s, f6 j j1]
    exact ⟨_, _, m2, rfl, e1, e2, f1, f2⟩
  · obtain ⟨m2, e1, e2⟩ := give r (sI c' 29 0 j r) (sI m' 145 0 j r) (fun k i j h1 h2 h3 => (gn_I (by omega)).trans (f1 k i j h1 h2 h3)) f2 (fun k i j h1 h2 h3 => (gn_I (by omega)).trans (f3 k i j h1 h2 h3)) f4 (fun v hv => (gn_I (by omega)).trans ((f5 v hv).trans (gn_I (by omega)).symm)) (fun i hi => by
      by_cases y : i = j
      · subst y
        rw [gs_I, gs_I]
      · rw [gn_I (by omega), gn_I (by omega)]
        exact f6 i hi) (fun i h1 h2 h3 => (gn_I (by omega)).trans ((f7 i h1 h2 h3).trans (gn_I (by omega)).symm)) (Or.inl s1)
    rw [s1, s2, if_neg (by decide), if_pos rfl, j2, bd_s, if_neg (by decide), if_neg (by decide), if_neg (by decide), if_neg (by decide), if_neg (by decide), if_neg (by decide), if_pos rfl, bd_s]
    exact ⟨_, _, m2, rfl, e1, e2, fun k i j h1 h2 h3 => (gn_I (by omega)).trans (f1 k i j h1 h2 h3), f2⟩
  · obtain ⟨m2, e1, e2⟩ := res l
    rw [s1, s2, if_neg (by decide), if_neg (by decide), if_neg (by decide), if_neg (by decide), if_neg (by decide), if_neg (by decide), if_neg (by decide), if_neg (by decide), if_neg (by decide), if_neg (by decide), if_neg (by decide), if_neg (by decide), if_neg (by decide), if_neg (by decide)]
    exact ⟨_, _, m2, rfl, e1, e2, f1, f2⟩
end RN
