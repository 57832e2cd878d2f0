/-! ===== PURE: laying: latencies, ranges, the state before ===== -/
def kn (s : Int32) : Nat := if s = 1 then 2 else if s = 2 then 2 else if s = 3 then 3 else if s = 42 then 1 else 0
theorem kd_kn (s : Int32) : kd s = nI (kn s) := by
  unfold kd kn
  split
  · rfl
  · split
    · rfl
    · split
      · rfl
      · split <;> rfl
theorem kn_lt (s : Int32) : kn s < 4 := by
  unfold kn
  split
  · decide
  · split
    · decide
    · split
      · decide
      · split <;> decide
/-- the supply: how many units of each kind, how long operations take -/
def LatR (c m : Mem) (lat mn : Nat → Nat) : Prop := (∀ k, k < 4 → gI c 24 0 k = nI (lat k) ∧ gI m 138 0 k = nI (lat k) ∧ 1 ≤ lat k ∧ lat k ≤ 4) ∧ (∀ k, k < 3 → gI c 23 0 k = nI (mn k) ∧ gI m 137 0 k = nI (mn k) ∧ 1 ≤ mn k ∧ mn k ≤ 4) ∧ lat 3 = 1
theorem LatR.ag {c m c' m' : Mem} {lat mn : Nat → Nat} (h : LatR c m lat mn) (fc : FrL c c') (fm : FrLM m m') : LatR c' m' lat mn := by
  obtain ⟨h1, h2, h3⟩ := h
  refine ⟨fun k hk => ?_, fun k hk => ?_, h3⟩
  · rw [fc.1 24 0 k (by omega) (by omega) (by decide) (by decide) (by omega), fm.1 138 0 k (by omega) (by omega)]
    exact h1 k hk
  · rw [fc.1 23 0 k (by omega) (by omega) (by decide) (by decide) (by omega), fm.1 137 0 k (by omega) (by omega)]
    exact h2 k hk
/-- the latency of operation i -/
def lt_ (c : Mem) (q : Nat) (lat : Nat → Nat) (i : Nat) : Nat := lat (kn (gI c 3 (200 * q + i) 1))
section LP
variable {n q cnt B b f g : Nat} {c m : Mem} {lat mn : Nat → Nat}
theorem m_latOf {i : Nat} (hP : PR c m q cnt B) (hL : LatR c m lat mn) (hi : i < cnt) : M_latencyOf n (nI i) m = some (nI (lt_ c q lat i)) := by
  have hcnt := hP.1.2.2.2.2.1
  obtain ⟨i1, -⟩ := hP.2.1 i hi
  rw [M_latencyOf, ix_nI (N := 200) (by omega) (by decide), bd_s, m_kd i1, bd_s, kd_kn, ix_nI (N := 4) (kn_lt _) (by decide), bd_s, (hL.1 _ (kn_lt _)).2.1]
  rfl
theorem m_endOf {i : Nat} (hP : PR c m q cnt B) (hL : LatR c m lat mn) (hi : i < cnt) : M_endOf n (nI i) m = some (gI m 140 0 i + nI (lt_ c q lat i)) := by
  have hcnt := hP.1.2.2.2.2.1
  rw [M_endOf, ix_nI (N := 200) (by omega) (by decide), bd_s, m_latOf hP hL hi, bd_s]
/-- block b has the operations from f on, g of them -/
def RG (c : Mem) (q cnt b f g : Nat) : Prop := gI c 0 (175 * q + b) 0 = nI f ∧ gI c 0 (175 * q + b) 1 = nI g ∧ f + g ≤ cnt ∧ ∀ i, i < cnt → (gI c 3 (200 * q + i) 6 = nI b ↔ f ≤ i ∧ i < f + g)
theorem RG.ag {c' : Mem} (h : RG c q cnt b f g) (fc : FrL c c') : RG c' q cnt b f g := by
  obtain ⟨h1, h2, h3, h4⟩ := h
  refine ⟨(fc.1 0 _ 0 (by omega) (by omega) (by decide) (by decide) (by omega)).trans h1, (fc.1 0 _ 1 (by omega) (by omega) (by decide) (by decide) (by omega)).trans h2, h3, fun i hi => ?_⟩
  rw [fc.1 3 _ 6 (by omega) (by omega) (by decide) (by decide) (by omega)]
  exact h4 i hi
theorem PR.blk {i : Nat} (hP : PR c m q cnt B) (hG : RG c q cnt b f g) (hi : i < cnt) : (gI m 130 0 i = nI b) = (f ≤ i ∧ i < f + g) := by
  obtain ⟨-, -, -, -, -, -, v7, -⟩ := hP.2.1 i hi
  rw [← v7]
  exact propext (hG.2.2.2 i hi)
theorem m_firstL (hP : PR c m q cnt B) (hG : RG c q cnt b f g) : ∀ (k x : Nat), x ≤ cnt → (g = 0 ∨ x ≤ f) → cnt - x < k → M_first_L2 n (nI b) m k (nI x) = some (if g = 0 then .inr () else .inl (nI f)) := by
  have hcnt := hP.1.2.2.2.2.1
  have h25 := hP.1.2.2.1
  intro k
  induction k with
  | zero => intro x a1 a2 a3; omega
  | succ k ih =>
    intro x a1 a2 a3
    have e1 : (nI cnt ≤ nI x) = (cnt ≤ x) := q_le (by omega) (by omega)
    have hfg := hG.2.2.1
    rw [M_first_L2, h25]
    simp only [e1]
    by_cases z : cnt ≤ x
    · rw [if_pos z, if_pos (by omega)]
    · rw [if_neg z, ix_nI (N := 200) (by omega) (by decide), bd_s]
      simp only [hP.blk hG (show x < cnt by omega)]
      by_cases y : f ≤ x ∧ x < f + g
      · rw [if_pos y, if_neg (by omega), show x = f by omega]
      · rw [if_neg y, show nI x + 1 = nI (x + 1) from nI_1 _]
        exact ih (x + 1) (by omega) (by omega) (by omega)
theorem m_first (hn : 800 ≤ n) (hP : PR c m q cnt B) (hG : RG c q cnt b f g) : M_first n (nI b) m = some (if g = 0 then -1 else nI f) := by
  have hcnt := hP.1.2.2.2.2.1
  have := m_firstL (n := n) hP hG n 0 (Nat.zero_le _) (by omega) (by omega)
  rw [nI_0] at this
  rw [M_first, this, bd_s]
  by_cases z : g = 0
  · rw [if_pos z, if_pos z]
  · rw [if_neg z, if_neg z]
theorem m_behindL (hP : PR c m q cnt B) (hG : RG c q cnt b f g) : ∀ (k x a : Nat), x ≤ cnt → (a = if f < x ∧ 0 < g then min x (f + g) else 0) → cnt - x < k → M_behindAll_L4 n (nI b) m k (nI a) (nI x) = some (nI (if g = 0 then 0 else f + g)) := by
  have hcnt := hP.1.2.2.2.2.1
  have h25 := hP.1.2.2.1
  intro k
  induction k with
  | zero => intro x a a1 a2 a3; omega
  | succ k ih =>
    intro x a a1 a2 a3
    have e1 : (nI cnt ≤ nI x) = (cnt ≤ x) := q_le (by omega) (by omega)
    have hfg := hG.2.2.1
    rw [M_behindAll_L4, h25]
    simp only [e1]
    by_cases z : cnt ≤ x
    · rw [if_pos z, a2]
      congr 2
      split <;> split <;> omega
    · rw [if_neg z, ix_nI (N := 200) (by omega) (by decide), bd_s]
      simp only [hP.blk hG (show x < cnt by omega)]
      by_cases y : f ≤ x ∧ x < f + g
      · rw [if_pos y, show nI x + 1 = nI (x + 1) from nI_1 _]
        refine ih (x + 1) (x + 1) (by omega) ?_ (by omega)
        rw [if_pos (by omega)]
        omega
      · rw [if_neg y, show nI x + 1 = nI (x + 1) from nI_1 _]
        refine ih (x + 1) a (by omega) ?_ (by omega)
        rw [a2]
        split <;> split <;> omega
theorem m_behind (hn : 800 ≤ n) (hP : PR c m q cnt B) (hG : RG c q cnt b f g) : M_behindAll n (nI b) m = some (nI (if g = 0 then 0 else f + g)) := by
  have hcnt := hP.1.2.2.2.2.1
  have := m_behindL (n := n) hP hG n 0 0 (Nat.zero_le _) (by rw [if_neg (by omega)]) (by omega)
  rw [nI_0] at this
  rw [M_behindAll, this, bd_s]
/-- prepare: the operations -/
theorem r_prepL (hq : q < 2) (hcnt : cnt ≤ 200) (hK : ∀ i, i < cnt → gI c 3 (200 * q + i) 2 = kd (gI c 3 (200 * q + i) 1)) (hL : ∀ k, k < 4 → gI c 24 0 k = nI (lat k)) (hG : RG c q cnt b f g) : ∀ (k x : Nat) (c' : Mem), FrL c c' → f ≤ x → x ≤ f + g → f + g - x < k →
    ∃ c2, Ly_prepare_L5 n (175 * q + b) q k (nI x) c' = some c2 ∧ (∀ i, x ≤ i → i < f + g → gI c2 3 (200 * q + i) 7 = nI (lt_ c q lat i) ∧ gI c2 3 (200 * q + i) 9 = -1 ∧ gI c2 3 (200 * q + i) 11 = -1 ∧ gI c2 3 (200 * q + i) 12 = 0 ∧ gI c2 3 (200 * q + i) 13 = 0 ∧ gI c2 3 (200 * q + i) 14 = -1) ∧ (∀ a i j, ¬ (a = 3 ∧ 200 * q + x ≤ i ∧ i < 200 * q + (f + g) ∧ 7 ≤ j) → gI c2 a i j = gI c' a i j) ∧ c2.2 = c'.2 := by
  intro k
  induction k with
  | zero => intro x c' a0 a1 a2 a3; omega
  | succ k ih =>
    intro x c' a0 a1 a2 a3
    have hfg := hG.2.2.1
    have hG' := hG.ag a0
    have e1 : (nI (f + g) ≤ nI x) = (f + g ≤ x) := q_le (by omega) (by omega)
    rw [Ly_prepare_L5, hG'.1, hG'.2.1, nI_add]
    simp only [e1]
    by_cases z : f + g ≤ x
    · rw [if_pos z]
      exact ⟨c', rfl, fun i h1 h2 => by omega, fun _ _ _ _ => rfl, rfl⟩
    · have k2 : gI c' 3 (200 * q + x) 2 = nI (kn (gI c 3 (200 * q + x) 1)) := by
        rw [a0.1 3 _ 2 (by omega) (by omega) (by decide) (by decide) (by omega), hK x (by omega), kd_kn]
      have l2 : gI c' 24 0 (kn (gI c 3 (200 * q + x) 1)) = nI (lt_ c q lat x) := by
        rw [a0.1 24 0 _ (by omega) (by omega) (by decide) (by decide) (by omega), hL _ (kn_lt _)]
        rfl
      rw [if_neg z, ix_nI (N := 200) (by omega) (by decide), bd_s, k2, ix_nI (N := 4) (kn_lt _) (by decide), bd_s]
      simp only [lt9]
      rw [l2, show nI x + 1 = nI (x + 1) from nI_1 _]
      generalize hc2 : sI (sI (sI (sI (sI (sI c' 3 (200 * q + x) 7 (nI (lt_ c q lat x))) 3 (200 * q + x) 9 (-1)) 3 (200 * q + x) 11 (-1)) 3 (200 * q + x) 12 0) 3 (200 * q + x) 13 0) 3 (200 * q + x) 14 (-1) = c2
      have fr : FrL c c2 := by
        rw [← hc2]
        exact (((((a0.tr (FrL.upd (by omega))).tr (FrL.upd (by omega))).tr (FrL.upd (by omega))).tr (FrL.upd (by omega))).tr (FrL.upd (by omega))).tr (FrL.upd (by omega))
      obtain ⟨c3, b1, b2, b3, b4⟩ := ih (x + 1) c2 fr (by omega) (by omega) (by omega)
      refine ⟨c3, b1, fun i h1 h2 => ?_, fun a i j h => ?_, b4.trans (by rw [← hc2]; rfl)⟩
      · by_cases y : i = x
        · subst y
          rw [b3 3 _ 7 (by omega), b3 3 _ 9 (by omega), b3 3 _ 11 (by omega), b3 3 _ 12 (by omega), b3 3 _ 13 (by omega), b3 3 _ 14 (by omega), ← hc2]
          refine ⟨?_, ?_, ?_, ?_, ?_, gs_I _ _ _ _ _⟩
          · rw [gn_I (by omega), gn_I (by omega), gn_I (by omega), gn_I (by omega), gn_I (by omega), gs_I]
          · rw [gn_I (by omega), gn_I (by omega), gn_I (by omega), gn_I (by omega), gs_I]
          · rw [gn_I (by omega), gn_I (by omega), gn_I (by omega), gs_I]
          · rw [gn_I (by omega), gn_I (by omega), gs_I]
          · rw [gn_I (by omega), gs_I]
        · exact b2 i (by omega) h2
      · rw [b3 a i j (by omega), ← hc2, gn_I (by omega), gn_I (by omega), gn_I (by omega), gn_I (by omega), gn_I (by omega), gn_I (by omega)]
theorem r_prepU : ∀ (k x : Nat) (c' : Mem), x ≤ 12 → 12 - x < k →
    ∃ c2, Ly_prepare_L79 n k (nI x) c' = some c2 ∧ (∀ i, x ≤ i → i < 12 → gI c2 25 0 i = 0) ∧ (∀ a i j, ¬ (a = 25 ∧ i = 0 ∧ x ≤ j ∧ j < 12) → gI c2 a i j = gI c' a i j) ∧ c2.2 = c'.2 := by
  intro k
  induction k with
  | zero => intro x c' a2 a3; omega
  | succ k ih =>
    intro x c' a2 a3
    have e1 : ((12 : Int32) ≤ nI x) = (12 ≤ x) := q_le (a := 12) (by decide) (by omega)
    rw [Ly_prepare_L79]
    simp only [e1]
    by_cases z : 12 ≤ x
    · rw [if_pos z]
      exact ⟨c', rfl, fun i h1 h2 => by omega, fun _ _ _ _ => rfl, rfl⟩
    · rw [if_neg z, ix_nI (N := 12) (by omega) (by decide), bd_s]
      simp only [lt9]
      rw [show nI x + 1 = nI (x + 1) from nI_1 _]
      obtain ⟨c3, b1, b2, b3, b4⟩ := ih (x + 1) (sI c' 25 0 x 0) (by omega) (by omega)
      refine ⟨c3, b1, fun i h1 h2 => ?_, fun a i j h => ?_, b4⟩
      · by_cases y : i = x
        · subst y
          rw [b3 25 0 i (by omega), gs_I]
        · exact b2 i (by omega) h2
      · rw [b3 a i j (by omega), gn_I (by omega)]
theorem r_prepH : ∀ (k x : Nat) (c' : Mem), x ≤ 200 → 200 - x < k →
    ∃ c2, Ly_prepare_L100 n k (nI x) c' = some c2 ∧ (∀ i, x ≤ i → i < 200 → gI c2 26 0 i = -1) ∧ (∀ a i j, ¬ (a = 26 ∧ i = 0 ∧ x ≤ j ∧ j < 200) → gI c2 a i j = gI c' a i j) ∧ c2.2 = c'.2 := by
  intro k
  induction k with
  | zero => intro x c' a2 a3; omega
  | succ k ih =>
    intro x c' a2 a3
    have e1 : ((200 : Int32) ≤ nI x) = (200 ≤ x) := q_le (a := 200) (by decide) (by omega)
    rw [Ly_prepare_L100]
    simp only [e1]
    by_cases z : 200 ≤ x
    · rw [if_pos z]
      exact ⟨c', rfl, fun i h1 h2 => by omega, fun _ _ _ _ => rfl, rfl⟩
    · rw [if_neg z, ix_nI (N := 200) (by omega) (by decide), bd_s]
      simp only [lt9]
      rw [show nI x + 1 = nI (x + 1) from nI_1 _]
      obtain ⟨c3, b1, b2, b3, b4⟩ := ih (x + 1) (sI c' 26 0 x (-1)) (by omega) (by omega)
      refine ⟨c3, b1, fun i h1 h2 => ?_, fun a i j h => ?_, b4⟩
      · by_cases y : i = x
        · subst y
          rw [b3 26 0 i (by omega), gs_I]
        · exact b2 i (by omega) h2
      · rw [b3 a i j (by omega), gn_I (by omega)]
/-- behind prepare -/
def PREP (c c2 : Mem) (q f g : Nat) (lat : Nat → Nat) : Prop := (∀ i, f ≤ i → i < f + g → gI c2 3 (200 * q + i) 7 = nI (lt_ c q lat i) ∧ gI c2 3 (200 * q + i) 9 = -1 ∧ gI c2 3 (200 * q + i) 11 = -1 ∧ gI c2 3 (200 * q + i) 12 = 0 ∧ gI c2 3 (200 * q + i) 13 = 0 ∧ gI c2 3 (200 * q + i) 14 = -1) ∧ (∀ i, i < 12 → gI c2 25 0 i = 0) ∧ (∀ i, i < 200 → gI c2 26 0 i = -1) ∧ (∀ a i j, ¬ (a = 3 ∧ 200 * q + f ≤ i ∧ i < 200 * q + (f + g) ∧ 7 ≤ j) → a ≠ 25 → a ≠ 26 → gI c2 a i j = gI c a i j) ∧ c2.2 = c.2
theorem r_prepare (hn : 800 ≤ n) (hq : q < 2) (hP : PR c m q cnt B) (hL : LatR c m lat mn) (hG : RG c q cnt b f g) : ∃ c2, Ly_prepare n q (175 * q + b) c = some c2 ∧ PREP c c2 q f g lat := by
  have hcnt := hP.1.2.2.2.2.1
  have hfg := hG.2.2.1
  obtain ⟨c1, a1, a2, a3, a4⟩ := r_prepL (n := n) hq hcnt (fun i hi => (hP.2.1 i hi).2.1) (fun k hk => (hL.1 k hk).1) hG n f c FrL.rf (Nat.le_refl _) (by omega) (by omega)
  obtain ⟨c2, b1, b2, b3, b4⟩ := r_prepU (n := n) n 0 c1 (by omega) (by omega)
  obtain ⟨c3, d1, d2, d3, d4⟩ := r_prepH (n := n) n 0 c2 (by omega) (by omega)
  rw [nI_0] at b1 d1
  rw [Ly_prepare, hG.1, a1, bd_s, b1, bd_s, d1, bd_s]
  refine ⟨c3, rfl, fun i h1 h2 => ?_, fun i hi => ?_, fun i hi => d2 i (by omega) hi, fun a i j h1 h2 h3 => ?_, d4.trans (b4.trans a4)⟩
  · have e : ∀ j, gI c3 3 (200 * q + i) j = gI c1 3 (200 * q + i) j := fun j => (d3 3 _ j (by omega)).trans (b3 3 _ j (by omega))
    rw [e, e, e, e, e, e]
    exact a2 i h1 h2
  · rw [d3 25 0 i (by omega)]; exact b2 i (by omega) hi
  · rw [d3 a i j (by omega), b3 a i j (by omega)]; exact a3 a i j h1
end LP
