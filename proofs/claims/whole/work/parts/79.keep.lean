/-! ===== PURE: the program is kept, laid, begun ===== -/
/-- only what keeping writes has changed -/
def FrK2 (m m' : Mem) : Prop := (∀ a i j, ¬ (126 ≤ a ∧ a ≤ 136) → gI m' a i j = gI m a i j) ∧ m'.2 = m.2
theorem FrK2.tr {a b c : Mem} (h1 : FrK2 a b) (h2 : FrK2 b c) : FrK2 a c := ⟨fun x i j h => (h2.1 x i j h).trans (h1.1 x i j h), h2.2.trans h1.2⟩
section KP
variable {n q cnt B : Nat} {c m m0 : Mem} {lat mn : Nat → Nat}
theorem k_18 (h25 : gI m0 10 0 25 = nI cnt) (hcnt : cnt ≤ 200) : ∀ (k x : Nat) (m : Mem), FrK2 m0 m → x ≤ cnt → (∀ i, i < x → gI m 126 0 i = gI m0 111 0 i ∧ gI m 129 0 i = gI m0 114 0 i ∧ gI m 130 0 i = gI m0 115 0 i) → cnt - x < k →
    ∃ m2, M_keepProgram_L18 n k (nI x) m = some m2 ∧ FrK2 m0 m2 ∧ ∀ i, i < cnt → gI m2 126 0 i = gI m0 111 0 i ∧ gI m2 129 0 i = gI m0 114 0 i ∧ gI m2 130 0 i = gI m0 115 0 i := by
  intro k
  induction k with
  | zero => intro x m a1 a2 a3 a4; omega
  | succ k ih =>
    intro x m a1 a2 a3 a4
    have q1 : (nI cnt ≤ nI x) = (cnt ≤ x) := q_le (by omega) (by omega)
    rw [M_keepProgram_L18, a1.1 10 0 25 (by omega), h25]
    simp only [q1]
    by_cases z : cnt ≤ x
    · have : x = cnt := by omega
      subst this
      rw [if_pos z]
      exact ⟨m, rfl, a1, a3⟩
    · have ix0 : ix (nI x) 200 = some x := ix_nI (by omega) (by decide)
      rw [if_neg z]
      simp only [ix0, bd_s, lt9]
      rw [show nI x + 1 = nI (x + 1) from nI_1 _]
      have e111 : gI m 111 0 x = gI m0 111 0 x := a1.1 111 0 x (by omega)
      have e114 : gI (sI m 126 0 x (gI m 111 0 x)) 114 0 x = gI m0 114 0 x := (gn_I (by omega)).trans (a1.1 114 0 x (by omega))
      have e115 : gI (sI (sI m 126 0 x (gI m 111 0 x)) 129 0 x (gI (sI m 126 0 x (gI m 111 0 x)) 114 0 x)) 115 0 x = gI m0 115 0 x := (gn_I (by omega)).trans ((gn_I (by omega)).trans (a1.1 115 0 x (by omega)))
      rw [e115, e114, e111]
      refine ih (x + 1) _ (a1.tr ⟨fun a i j h => ?_, rfl⟩) (by omega) (fun i hi => ?_) (by omega)
      · rw [gn_I (by omega), gn_I (by omega), gn_I (by omega)]
      · by_cases y : i = x
        · subst y
          rw [gn_I (by omega), gn_I (by omega), gs_I, gn_I (by omega), gs_I, gs_I]
          exact ⟨rfl, rfl, rfl⟩
        · rw [gn_I (by omega), gn_I (by omega), gn_I (by omega), gn_I (by omega), gn_I (by omega), gn_I (by omega), gn_I (by omega), gn_I (by omega), gn_I (by omega)]
          exact a3 i (by omega)
theorem k_70 (h25 : gI m0 10 0 25 = nI cnt) (hcnt : cnt ≤ 200) : ∀ (k x : Nat) (m : Mem), FrK2 m0 m → (∀ i, gI m 126 0 i = gI m0 126 0 i ∧ gI m 129 0 i = gI m0 129 0 i ∧ gI m 130 0 i = gI m0 130 0 i) → x ≤ 2 * cnt → (∀ i, i < x → gI m 127 0 i = gI m0 112 0 i ∧ gI m 128 0 i = gI m0 113 0 i) → 2 * cnt - x < k →
    ∃ m2, M_keepProgram_L70 n k (nI x) m = some m2 ∧ FrK2 m0 m2 ∧ (∀ i, gI m2 126 0 i = gI m0 126 0 i ∧ gI m2 129 0 i = gI m0 129 0 i ∧ gI m2 130 0 i = gI m0 130 0 i) ∧ ∀ i, i < 2 * cnt → gI m2 127 0 i = gI m0 112 0 i ∧ gI m2 128 0 i = gI m0 113 0 i := by
  intro k
  induction k with
  | zero => intro x m a1 a0 a2 a3 a4; omega
  | succ k ih =>
    intro x m a1 a0 a2 a3 a4
    have q1 : (nI (2 * cnt) ≤ nI x) = (2 * cnt ≤ x) := q_le (by omega) (by omega)
    rw [M_keepProgram_L70, a1.1 10 0 25 (by omega), h25, show (2 : Int32) * nI cnt = nI (2 * cnt) from pk_mul 2 cnt]
    simp only [q1]
    by_cases z : 2 * cnt ≤ x
    · have : x = 2 * cnt := by omega
      subst this
      rw [if_pos z]
      exact ⟨m, rfl, a1, a0, a3⟩
    · have ix0 : ix (nI x) 400 = some x := ix_nI (by omega) (by decide)
      rw [if_neg z]
      simp only [ix0, bd_s, lt9]
      rw [show nI x + 1 = nI (x + 1) from nI_1 _]
      have e112 : gI m 112 0 x = gI m0 112 0 x := a1.1 112 0 x (by omega)
      have e113 : gI (sI m 127 0 x (gI m 112 0 x)) 113 0 x = gI m0 113 0 x := (gn_I (by omega)).trans (a1.1 113 0 x (by omega))
      rw [e113, e112]
      refine ih (x + 1) _ (a1.tr ⟨fun a i j h => ?_, rfl⟩) (fun i => ?_) (by omega) (fun i hi => ?_) (by omega)
      · rw [gn_I (by omega), gn_I (by omega)]
      · rw [gn_I (by omega), gn_I (by omega), gn_I (by omega), gn_I (by omega), gn_I (by omega), gn_I (by omega)]
        exact a0 i
      · by_cases y : i = x
        · subst y
          rw [gn_I (by omega), gs_I, gs_I]
          exact ⟨rfl, rfl⟩
        · rw [gn_I (by omega), gn_I (by omega), gn_I (by omega), gn_I (by omega)]
          exact a3 i (by omega)
theorem k_112 (h31 : gI m0 10 0 31 = nI B) (hB : B ≤ 175) (h121 : ∀ b, b < B → gI m0 121 0 b = 0 ∨ gI m0 121 0 b = 1) : ∀ (k x : Nat) (m : Mem), FrK2 m0 m → (∀ i, gI m 126 0 i = gI m0 126 0 i ∧ gI m 129 0 i = gI m0 129 0 i ∧ gI m 130 0 i = gI m0 130 0 i ∧ gI m 127 0 i = gI m0 127 0 i ∧ gI m 128 0 i = gI m0 128 0 i) → x ≤ B → (∀ b, b < x → gI m 132 0 b = gI m0 117 0 b ∧ gI m 133 0 b = gI m0 118 0 b ∧ gI m 134 0 b = gI m0 119 0 b ∧ gI m 135 0 b = gI m0 120 0 b ∧ gI m 136 0 b = gI m0 121 0 b) → B - x < k →
    ∃ m2, M_keepProgram_L112 n k (nI x) m = some m2 ∧ FrK2 m0 m2 ∧ (∀ i, gI m2 126 0 i = gI m0 126 0 i ∧ gI m2 129 0 i = gI m0 129 0 i ∧ gI m2 130 0 i = gI m0 130 0 i ∧ gI m2 127 0 i = gI m0 127 0 i ∧ gI m2 128 0 i = gI m0 128 0 i) ∧ ∀ b, b < B → gI m2 132 0 b = gI m0 117 0 b ∧ gI m2 133 0 b = gI m0 118 0 b ∧ gI m2 134 0 b = gI m0 119 0 b ∧ gI m2 135 0 b = gI m0 120 0 b ∧ gI m2 136 0 b = gI m0 121 0 b := by
  intro k
  induction k with
  | zero => intro x m a1 a0 a2 a3 a4; omega
  | succ k ih =>
    intro x m a1 a0 a2 a3 a4
    have q1 : (nI B ≤ nI x) = (B ≤ x) := q_le (by omega) (by omega)
    rw [M_keepProgram_L112, a1.1 10 0 31 (by omega), h31]
    simp only [q1]
    by_cases z : B ≤ x
    · have : x = B := by omega
      subst this
      rw [if_pos z]
      exact ⟨m, rfl, a1, a0, a3⟩
    · have ix0 : ix (nI x) 800 = some x := ix_nI (by omega) (by decide)
      rw [if_neg z]
      simp only [ix0, bd_s, lt9]
      rw [show nI x + 1 = nI (x + 1) from nI_1 _]
      have new : ∀ a, ¬ (126 ≤ a ∧ a ≤ 136) → ∀ v1 v2 v3 v4 : Int32, gI m a 0 x = gI m0 a 0 x ∧ gI (sI m 136 0 x v1) a 0 x = gI m0 a 0 x ∧ gI (sI (sI m 136 0 x v1) 132 0 x v2) a 0 x = gI m0 a 0 x ∧ gI (sI (sI (sI m 136 0 x v1) 132 0 x v2) 133 0 x v3) a 0 x = gI m0 a 0 x ∧ gI (sI (sI (sI (sI m 136 0 x v1) 132 0 x v2) 133 0 x v3) 134 0 x v4) a 0 x = gI m0 a 0 x := fun a ha v1 v2 v3 v4 => by
        have := a1.1 a 0 x ha
        refine ⟨this, ?_, ?_, ?_, ?_⟩
        · rw [gn_I (by omega)]; exact this
        · rw [gn_I (by omega), gn_I (by omega)]; exact this
        · rw [gn_I (by omega), gn_I (by omega), gn_I (by omega)]; exact this
        · rw [gn_I (by omega), gn_I (by omega), gn_I (by omega), gn_I (by omega)]; exact this
      rw [(new 121 (by omega) 0 0 0 0).1, if_pos (h121 x (by omega)), (new 117 (by omega) _ 0 0 0).2.1, (new 118 (by omega) _ _ 0 0).2.2.1, (new 119 (by omega) _ _ _ 0).2.2.2.1, (new 120 (by omega) _ _ _ _).2.2.2.2]
      refine ih (x + 1) _ (a1.tr ⟨fun a i j h => ?_, rfl⟩) (fun i => ?_) (by omega) (fun b hb => ?_) (by omega)
      · rw [gn_I (by omega), gn_I (by omega), gn_I (by omega), gn_I (by omega), gn_I (by omega)]
      · have k5 : ∀ a, a < 132 → ∀ v1 v2 v3 v4 v5 : Int32, gI (sI (sI (sI (sI (sI m 136 0 x v1) 132 0 x v2) 133 0 x v3) 134 0 x v4) 135 0 x v5) a 0 i = gI m a 0 i := fun a ha v1 v2 v3 v4 v5 => by
          rw [gn_I (by omega), gn_I (by omega), gn_I (by omega), gn_I (by omega), gn_I (by omega)]
        rw [k5 126 (by decide), k5 129 (by decide), k5 130 (by decide), k5 127 (by decide), k5 128 (by decide)]
        exact a0 i
      · by_cases y : b = x
        · subst y
          refine ⟨?_, ?_, ?_, ?_, ?_⟩
          · rw [gn_I (by omega), gn_I (by omega), gn_I (by omega), gs_I]
          · rw [gn_I (by omega), gn_I (by omega), gs_I]
          · rw [gn_I (by omega), gs_I]
          · exact gs_I _ _ _ _ _
          · rw [gn_I (by omega), gn_I (by omega), gn_I (by omega), gn_I (by omega), gs_I]
        · have k6 : ∀ a, ∀ v1 v2 v3 v4 v5 : Int32, gI (sI (sI (sI (sI (sI m 136 0 x v1) 132 0 x v2) 133 0 x v3) 134 0 x v4) 135 0 x v5) a 0 b = gI m a 0 b := fun a v1 v2 v3 v4 v5 => by
            rw [gn_I (by omega), gn_I (by omega), gn_I (by omega), gn_I (by omega), gn_I (by omega)]
          rw [k6, k6, k6, k6, k6]
          exact a3 b (by omega)
/-- keeping, before laying -/
theorem m_keep (hn : 2000 ≤ n) (hP : PRn c m q cnt B) : ∃ m2, M_keepProgram n m = (M_lay n m2).bind (fun g46 => some g46) ∧ PR c m2 q cnt B ∧ (∀ a i j, ¬ (126 ≤ a ∧ a ≤ 136) → ¬ (a = 10 ∧ (j = 25 ∨ j = 31)) → gI m2 a i j = gI m a i j) ∧ m2.2 = m.2 := by
  obtain ⟨⟨p1, p2, p3, p4, p5, p6⟩, r1, r2, r3⟩ := hP
  have e10 : gI (sI m 10 0 25 (gI m 10 0 10)) 10 0 16 = gI m 10 0 16 := gn_I (by omega)
  generalize hm0 : sI (sI m 10 0 25 (gI m 10 0 10)) 10 0 31 (gI m 10 0 16) = m0
  have h25 : gI m0 10 0 25 = nI cnt := by rw [← hm0, gn_I (by omega), gs_I]; exact p3
  have h31 : gI m0 10 0 31 = nI B := by rw [← hm0, gs_I]; exact p4
  have f0 : ∀ a i j, ¬ (a = 10 ∧ (j = 25 ∨ j = 31)) → gI m0 a i j = gI m a i j := fun a i j h => by
    rw [← hm0, gn_I (by omega), gn_I (by omega)]
  have fr0 : m0.2 = m.2 := by rw [← hm0]; rfl
  obtain ⟨m1, a1, a2, a3⟩ := k_18 (n := n) h25 p5 n 0 m0 ⟨fun _ _ _ _ => rfl, rfl⟩ (Nat.zero_le _) (fun i hi => by omega) (by omega)
  obtain ⟨m2, b1', b2, b3, b4⟩ := k_70 (n := n) (m0 := m1) (by rw [a2.1 10 0 25 (by omega)]; exact h25) p5 n 0 m1 ⟨fun _ _ _ _ => rfl, rfl⟩ (fun _ => ⟨rfl, rfl, rfl⟩) (Nat.zero_le _) (fun i hi => by omega) (by omega)
  have m20 : ∀ a i j, ¬ (126 ≤ a ∧ a ≤ 136) → gI m2 a i j = gI m0 a i j := fun a i j h => (b2.1 a i j h).trans (a2.1 a i j h)
  obtain ⟨m3, d1, d2, d3, d4⟩ := k_112 (n := n) (m0 := m2) (by rw [m20 10 0 31 (by omega)]; exact h31) p6 (fun b hb => by
    obtain ⟨-, w2, w3, -⟩ := r2 b hb
    rw [m20 121 0 b (by omega), f0 121 0 b (by omega), ← w3]
    exact w2) n 0 m2 ⟨fun _ _ _ _ => rfl, rfl⟩ (fun _ => ⟨rfl, rfl, rfl, rfl, rfl⟩) (Nat.zero_le _) (fun b hb => by omega) (by omega)
  rw [nI_0] at a1 b1' d1
  have m30 : ∀ a i j, ¬ (126 ≤ a ∧ a ≤ 136) → ¬ (a = 10 ∧ (j = 25 ∨ j = 31)) → gI m3 a i j = gI m a i j := fun a i j h h' => (d2.1 a i j h).trans ((m20 a i j h).trans (f0 a i j h'))
  refine ⟨m3, ?_, ⟨⟨p1, p2, ?_, ?_, p5, p6⟩, fun i hi => ?_, fun b hb => ?_, r3⟩, m30, ?_⟩
  · rw [M_keepProgram]
    simp only [lt9]
    rw [e10, hm0, a1, bd_s, b1', bd_s, d1, bd_s]
  · rw [d2.1 10 0 25 (by omega), m20 10 0 25 (by omega)]; exact h25
  · rw [d2.1 10 0 31 (by omega), m20 10 0 31 (by omega)]; exact h31
  · obtain ⟨x1, x2, x3, x4, x5⟩ := d3 i
    obtain ⟨y1, y2, y3⟩ := b3 i
    obtain ⟨z1, z2, z3⟩ := a3 i hi
    have v0 : ∀ j, j < 2 * cnt → gI m3 127 0 j = gI m 112 0 j ∧ gI m3 128 0 j = gI m 113 0 j := fun j hj => by
      obtain ⟨u1, u2⟩ := b4 j hj
      rw [(d3 j).2.2.2.1, (d3 j).2.2.2.2, u1, u2, a2.1 112 0 j (by omega), a2.1 113 0 j (by omega), f0 112 0 j (by omega), f0 113 0 j (by omega)]
      exact ⟨rfl, rfl⟩
    rw [x1, y1, z1, x2, y2, z2, x3, y3, z3, f0 111 0 i (by omega), f0 114 0 i (by omega), f0 115 0 i (by omega), (v0 (2 * i) (by omega)).1, (v0 (2 * i) (by omega)).2, (v0 (2 * i + 1) (by omega)).1, (v0 (2 * i + 1) (by omega)).2]
    exact r1 i hi
  · obtain ⟨x1, x2, x3, x4, x5⟩ := d4 b hb
    have nw : ∀ a, 117 ≤ a → a ≤ 121 → gI m2 a 0 b = gI m a 0 b := fun a h1 h2 => (m20 a 0 b (by omega)).trans (f0 a 0 b (by omega))
    rw [x1, x2, x3, x4, x5, nw 117 (by decide) (by decide), nw 118 (by decide) (by decide), nw 119 (by decide) (by decide), nw 120 (by decide) (by decide), nw 121 (by decide) (by decide)]
    exact r2 b hb
  · exact d2.2.trans (b2.2.trans (a2.2.trans fr0))
end KP
