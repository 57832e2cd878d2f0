/-! ===== PURE: laying: registers, the reference ===== -/
theorem p2_lt {s x : Nat} (hs : s < 2 ^ 20) (hx : x < 2 ^ 20) : (p2 x < nI s) = ¬ (s < x) := by
  have := p2_ge hs hx
  refine propext ⟨fun w v => ?_, fun w => ?_⟩
  · exact absurd (this.mpr v) (Int32.not_le.mpr w)
  · exact Int32.not_le.mp (fun v => w (this.mp v))
theorem pm_ad1 {s : Nat} : pm s + 1 = nI s := by
  cases s with
  | zero => rfl
  | succ s => rw [pm_s]; exact nI_1 _
/-- only registers and what is held have changed in the reference -/
def FrR (m m' : Mem) : Prop := (∀ a i j, a ≠ 142 → a ≠ 150 → gI m' a i j = gI m a i j) ∧ m'.2 = m.2
theorem FrR.tr {a b c : Mem} (h1 : FrR a b) (h2 : FrR b c) : FrR a c := ⟨fun x i j h h' => (h2.1 x i j h h').trans (h1.1 x i j h h'), h2.2.trans h1.2⟩
theorem FrR.fl {m m' : Mem} (h : FrR m m') : FrLM m m' := ⟨fun k i j x1 x2 => h.1 k i j (by omega) x2, h.2⟩
/-- what the binding of registers is over -/
def EG (c m : Mem) (q cnt n : Nat) (en H : Nat → Nat) : Prop := cnt ≤ 200 ∧ gI m 10 0 25 = nI cnt ∧ (∀ o, o < cnt → en o < 2 ^ 20 ∧ H o < 2 ^ 20 ∧ (∀ m', FrR m m' → M_endOf n (nI o) m' = some (nI (en o)) ∧ M_heldTo n (nI o) m' = some (p2 (H o))) ∧ gI c 3 (200 * q + o) 5 = gI m 129 0 o ∧ (gI m 129 0 o = -1 ∨ ∃ v, v < 8 ∧ gI m 129 0 o = nI v) ∧ (gI m 129 0 o = -1 → (H o ≠ 0 ↔ ¬ gI c 3 (200 * q + o) 1 = 2)))
def Sm (c m : Mem) (q cnt o : Nat) : Nat → Prop := fun j => (j < cnt ∧ fl c q j = true) ∧ gI m 130 0 j = gI m 130 0 o
def RM (c m0 m : Mem) (q cnt : Nat) (en H : Nat → Nat) (P : Nat → Bool) (rg : Nat → Nat) : Prop := FrR m0 m ∧ (∀ o, o < cnt → gI m 150 0 o = p2 (H o) ∧ (P o = true → gI m 142 0 o = nI (rg o) ∧ rg o < cq P 0 cnt ∧ fl c q o = true ∧ RS (Sm c m0 q cnt o) en H rg o) ∧ (P o = false → gI m 142 0 o = -1)) ∧ ∀ j o, j < cnt → o < cnt → P j = true → fl c q o = true → P o = false → bef en j o
section LM
variable {n q cnt : Nat} {c m0 m : Mem} {en H rg : Nat → Nat} {P : Nat → Bool}
theorem m_heldAll (hE : EG c m0 q cnt n en H) : ∀ (k x : Nat) (m : Mem), FrR m0 m → x ≤ cnt → (∀ o, o < x → gI m 150 0 o = p2 (H o) ∧ gI m 142 0 o = -1) → cnt - x < k →
    ∃ m2, M_bindRegisters_L2 n k (nI x) m = some m2 ∧ FrR m0 m2 ∧ ∀ o, o < cnt → gI m2 150 0 o = p2 (H o) ∧ gI m2 142 0 o = -1 := by
  obtain ⟨e1, e2, e3⟩ := hE
  intro k
  induction k with
  | zero => intro x m a1 a2 a3 a4; omega
  | succ k ih =>
    intro x m a1 a2 a3 a4
    have q1 : (nI cnt ≤ nI x) = (cnt ≤ x) := q_le (by omega) (by omega)
    rw [M_bindRegisters_L2, a1.1 10 0 25 (by decide) (by decide), e2]
    simp only [q1]
    by_cases z : cnt ≤ x
    · have : x = cnt := by omega
      subst this
      rw [if_pos z]
      exact ⟨m, rfl, a1, a3⟩
    · have ix0 : ix (nI x) 200 = some x := ix_nI (by omega) (by decide)
      have f1 : FrR m0 (sI m 142 0 x (-1)) := a1.tr ⟨fun a i j h1 h2 => gn_I (by omega), rfl⟩
      have f2 : FrR m0 (sI (sI m 142 0 x (-1)) 150 0 x (p2 (H x))) := f1.tr ⟨fun a i j h1 h2 => gn_I (by omega), rfl⟩
      rw [if_neg z]
      simp only [ix0, bd_s, lt9]
      rw [((e3 x (by omega)).2.2.1 _ f1).2, bd_s, show nI x + 1 = nI (x + 1) from nI_1 _]
      refine ih (x + 1) _ f2 (by omega) (fun o ho => ?_) (by omega)
      by_cases y : o = x
      · subst y
        rw [gs_I, gn_I (by omega), gs_I]
        exact ⟨rfl, rfl⟩
      · rw [gn_I (by omega), gn_I (by omega), gn_I (by omega), gn_I (by omega)]
        exact a3 o (by omega)
theorem m_holds (hE : EG c m0 q cnt n en H) (hF : FrR m0 m) {o : Nat} (ho : o < cnt) (h150 : gI m 150 0 o = p2 (H o)) : M_holds n (nI o) m = some (b1 (fl c q o)) := by
  obtain ⟨e1, e2, e3⟩ := hE
  obtain ⟨v1, v2, v3, v4, v5, v6⟩ := e3 o ho
  have ix0 : ix (nI o) 200 = some o := ix_nI (by omega) (by decide)
  rw [M_holds]
  simp only [ix0, bd_s]
  rw [hF.1 129 0 o (by decide) (by decide), h150]
  have q1 := p2_m2 v2
  simp only [q1]
  unfold fl
  rw [v4]
  rcases v5 with v5 | ⟨v, v7, v5⟩
  · rw [v5, if_neg (by decide)]
    have := v6 v5
    by_cases z : H o = 0
    · rw [if_pos z, decide_eq_false (fun w => this.mpr w.2 z)]; rfl
    · rw [if_neg z, decide_eq_true ⟨rfl, this.mp z⟩]; rfl
  · have q2 : (0 ≤ nI v) := by
      have : (nI 0 ≤ nI v) = (0 ≤ v) := q_le (by decide) (by omega)
      rw [nI_0] at this
      rw [this]
      exact Nat.zero_le _
    rw [v5, if_pos q2, decide_eq_false (fun w => nI_nm (by omega) w.1)]
    rfl
theorem m_countL (hE : EG c m0 q cnt n en H) (hF : FrR m0 m) (h150 : ∀ o, o < cnt → gI m 150 0 o = p2 (H o)) : ∀ (k x : Nat), x ≤ cnt → cnt - x < k → M_bindRegisters_L38 n m k (nI (cq (fl c q) 0 x)) (nI x) = some (nI (cq (fl c q) 0 cnt)) := by
  have hE' := hE
  obtain ⟨e1, e2, e3⟩ := hE
  intro k
  induction k with
  | zero => intro x a1 a2; omega
  | succ k ih =>
    intro x a1 a2
    have q1 : (nI cnt ≤ nI x) = (cnt ≤ x) := q_le (by omega) (by omega)
    rw [M_bindRegisters_L38, hF.1 10 0 25 (by decide) (by decide), e2]
    simp only [q1]
    by_cases z : cnt ≤ x
    · have : x = cnt := by omega
      subst this
      rw [if_pos z]
    · rw [if_neg z, m_holds hE' hF (by omega) (h150 x (by omega)), bd_s, show nI x + 1 = nI (x + 1) from nI_1 _]
      have := ih (x + 1) (by omega) (by omega)
      cases y : fl c q x with
      | false =>
        rw [if_pos (show b1 false = 0 from rfl)]
        rw [cq, y, if_neg (fun w => absurd w.2 (by decide))] at this
        exact this
      | true =>
        rw [if_neg (show ¬ b1 true = 0 by decide), show nI (cq (fl c q) 0 x) + 1 = nI (cq (fl c q) 0 x + 1) from nI_1 _]
        rw [cq, y, if_pos ⟨Nat.zero_le _, rfl⟩] at this
        exact this
theorem m_isBefore (hE : EG c m0 q cnt n en H) (hF : FrR m0 m) {i j : Nat} (hi : i < cnt) (hj : j < cnt) : ∃ v : Bool, M_isBefore n (nI i) (nI j) m = some (b1 v) ∧ (v = true ↔ bef en i j) := by
  obtain ⟨e1, e2, e3⟩ := hE
  obtain ⟨v1, -, v3, -⟩ := e3 i hi
  obtain ⟨w1, -, w3, -⟩ := e3 j hj
  have q1 : (nI (en i) < nI (en j)) = (en i < en j) := q_lt (by omega) (by omega)
  have q2 : (nI (en i) = nI (en j)) = (en i = en j) := q_eq (by omega) (by omega)
  have q3 : (nI j ≤ nI i) = (j ≤ i) := q_le (by omega) (by omega)
  rw [M_isBefore]
  simp only [(v3 m hF).1, (w3 m hF).1, bd_s, q1, q2, q3]
  by_cases y1 : en i < en j
  · rw [if_pos y1]
    exact ⟨true, rfl, fun _ => Or.inl y1, fun _ => rfl⟩
  · rw [if_neg y1]
    by_cases y2 : en i = en j
    · rw [if_pos y2]
      by_cases y3 : j ≤ i
      · rw [if_pos y3]
        exact ⟨false, rfl, fun w => absurd w (by decide), fun w => by unfold bef at w; omega⟩
      · rw [if_neg y3]
        exact ⟨true, rfl, fun _ => Or.inr ⟨y2, by omega⟩, fun _ => rfl⟩
    · rw [if_neg y2]
      exact ⟨false, rfl, fun w => absurd w (by decide), fun w => by unfold bef at w; omega⟩
/-- the first one below x that waits -/
def lst (F0 P : Nat → Bool) (en : Nat → Nat) (x s : Nat) : Prop := (s = 0 ∧ ∀ j, j < x → F0 j = true → P j = true) ∨ ∃ j0, s = j0 + 1 ∧ j0 < x ∧ F0 j0 = true ∧ P j0 = false ∧ ∀ j, j < x → F0 j = true → P j = false → j = j0 ∨ bef en j0 j
theorem m_nextL (hE : EG c m0 q cnt n en H) (hR : RM c m0 m q cnt en H P rg) : ∀ (k x s : Nat), x ≤ cnt → lst (fl c q) P en x s → cnt - x < k → ∃ s', M_bindRegisters_L76 n m k (pm s) (nI x) = some (pm s') ∧ lst (fl c q) P en cnt s' := by
  have hE' := hE
  obtain ⟨e1, e2, e3⟩ := hE
  obtain ⟨hF, R1, R2⟩ := hR
  intro k
  induction k with
  | zero => intro x s a1 a2 a3; omega
  | succ k ih =>
    intro x s a1 a2 a3
    have q1 : (nI cnt ≤ nI x) = (cnt ≤ x) := q_le (by omega) (by omega)
    rw [M_bindRegisters_L76, hF.1 10 0 25 (by decide) (by decide), e2]
    simp only [q1]
    by_cases z : cnt ≤ x
    · have : x = cnt := by omega
      subst this
      rw [if_pos z]
      exact ⟨s, rfl, a2⟩
    · obtain ⟨r1, r2, r3⟩ := R1 x (by omega)
      have hs30 : s < 2 ^ 30 := by
        rcases a2 with a2 | ⟨j0, w, w1, -⟩ <;> omega
      rw [if_neg z, m_holds hE' hF (by omega) r1, bd_s]
      simp only [lt9]
      rw [show nI x + 1 = nI (x + 1) from nI_1 _, ix_nI (N := 200) (by omega) (by decide), bd_s, if_pos True.intro, if_neg (show ¬ (1 : Int32) = 0 by decide)]
      have keep : (fl c q x = true → P x = false → ∃ j0, s = j0 + 1 ∧ bef en j0 x) → lst (fl c q) P en (x + 1) s := fun h => by
        rcases a2 with ⟨a2, a4⟩ | ⟨j0, w, w1, w2, w3, w4⟩
        · refine Or.inl ⟨a2, fun j hj hf => ?_⟩
          by_cases jx : j = x
          · subst jx
            cases e : P j with
            | true => rfl
            | false =>
              obtain ⟨j0, v, -⟩ := h hf e
              omega
          · exact a4 j (by omega) hf
        · refine Or.inr ⟨j0, w, by omega, w2, w3, fun j hj hf hp => ?_⟩
          by_cases jx : j = x
          · subst jx
            obtain ⟨j0', v1, v2⟩ := h hf hp
            have : j0' = j0 := by omega
            subst this
            exact Or.inr v2
          · exact w4 j (by omega) hf hp
      cases y : fl c q x with
      | false =>
        rw [if_pos (show b1 false = 0 from rfl)]
        exact ih (x + 1) s (by omega) (keep (fun v => by rw [y] at v; exact absurd v (by decide))) (by omega)
      | true =>
        rw [if_neg (show ¬ b1 true = 0 by decide)]
        cases y2 : P x with
        | true =>
          have q0 : (0 : Int32) ≤ gI m 142 0 x := by
            obtain ⟨u1, u2, -⟩ := r2 y2
            have := cq_le P 0 cnt
            have h0 : (nI 0 ≤ nI (rg x)) = (0 ≤ rg x) := q_le (by decide) (by omega)
            rw [u1]
            rw [nI_0] at h0
            rw [h0]
            exact Nat.zero_le _
          rw [if_pos q0]
          exact ih (x + 1) s (by omega) (keep (fun _ v => by rw [y2] at v; exact absurd v (by decide))) (by omega)
        | false =>
          rw [r3 y2, if_neg (show ¬ (0 : Int32) ≤ -1 by decide)]
          have take : (s = 0 ∨ ∃ j0, s = j0 + 1 ∧ bef en x j0) → lst (fl c q) P en (x + 1) (x + 1) := fun h => by
            refine Or.inr ⟨x, rfl, by omega, y, y2, fun j hj hf hp => ?_⟩
            by_cases jx : j = x
            · exact Or.inl jx
            · right
              rcases a2 with ⟨a2, a4⟩ | ⟨j0, w, w1, w2, w3, w4⟩
              · have := a4 j (by omega) hf
                rw [hp] at this
                exact absurd this (by decide)
              · rcases h with h | ⟨j0', h, hb⟩
                · omega
                · have : j0' = j0 := by omega
                  subst this
                  rcases w4 j (by omega) hf hp with v | v
                  · rw [v]; exact hb
                  · exact bef_tr hb v
          by_cases y3 : s = 0
          · rw [if_pos ((pm_neg hs30).mpr y3), ← pm_s]
            exact ih (x + 1) (x + 1) (by omega) (take (Or.inl y3)) (by omega)
          · rw [if_neg (fun w => y3 ((pm_neg hs30).mp w))]
            rcases a2 with ⟨a2, a4⟩ | ⟨j0, w, w1, w2, w3, w4⟩
            · exact absurd a2 y3
            · obtain ⟨v, v1, v2⟩ := m_isBefore (n := n) (m := m) (i := x) (j := j0) hE' hF (by omega) (by omega)
              rw [show pm s = nI j0 from by rw [w, pm_s], v1, bd_s, show nI j0 = pm s from by rw [w, pm_s]]
              cases hv : v with
              | false =>
                rw [if_pos (show b1 false = 0 from rfl)]
                refine ih (x + 1) s (by omega) (keep (fun _ _ => ⟨j0, w, bef_tri (fun v' => ?_) (by omega)⟩)) (by omega)
                rw [v2.mpr v'] at hv
                exact absurd hv (by decide)
              | true =>
                rw [if_neg (show ¬ b1 true = 0 by decide), ← pm_s]
                exact ih (x + 1) (x + 1) (by omega) (take (Or.inr ⟨j0, w, v2.mp hv⟩)) (by omega)
theorem m_meet (hE : EG c m0 q cnt n en H) (hF : FrR m0 m) {i j : Nat} (hi : i < cnt) (hj : j < cnt) (h1 : gI m 150 0 i = p2 (H i)) (h2 : gI m 150 0 j = p2 (H j)) : ∃ v : Bool, M_meet n (nI i) (nI j) m = some (b1 v) ∧ (v = true ↔ en i < H j ∧ en j < H i) := by
  obtain ⟨e1, e2, e3⟩ := hE
  obtain ⟨v1, v0, v3, -⟩ := e3 i hi
  obtain ⟨w1, w0, w3, -⟩ := e3 j hj
  have ixi : ix (nI i) 200 = some i := ix_nI (by omega) (by decide)
  have ixj : ix (nI j) 200 = some j := ix_nI (by omega) (by decide)
  have q1 := p2_lt (s := en i) (x := H j) v1 w0
  have q2 := p2_lt (s := en j) (x := H i) w1 v0
  rw [M_meet]
  simp only [(v3 m hF).1, (w3 m hF).1, bd_s, ixi, ixj, h1, h2, q1, q2]
  by_cases y1 : en i < H j
  · rw [if_neg (fun w => w y1)]
    by_cases y2 : en j < H i
    · rw [if_neg (fun w => w y2)]
      exact ⟨true, rfl, fun _ => ⟨y1, y2⟩, fun _ => rfl⟩
    · rw [if_pos y2]
      exact ⟨false, rfl, fun w => absurd w (by decide), fun w => absurd w.2 y2⟩
  · rw [if_pos y1]
    exact ⟨false, rfl, fun w => absurd w (by decide), fun w => absurd w.1 y1⟩
theorem m_takenL (hE : EG c m0 q cnt n en H) (hR : RM c m0 m q cnt en H P rg) {i s : Nat} (hi : i < cnt) (hs : s < 300) : ∀ (k x : Nat) (w : Bool), x ≤ cnt → cnt - x < k → ∃ v : Bool, M_bindOne_L37 n (nI i) m (if en i < H i then 0 else 1) (pm s) k (b1 w) (nI x) = some (b1 v) ∧ (v = true ↔ w = true ∨ ∃ j, x ≤ j ∧ j < cnt ∧ j ≠ i ∧ en i < H i ∧ gI m0 130 0 j = gI m0 130 0 i ∧ P j = true ∧ rg j = s ∧ en i < H j ∧ en j < H i) := by
  have hE' := hE
  obtain ⟨e1, e2, e3⟩ := hE
  obtain ⟨hF, R1, R2⟩ := hR
  have ixi : ix (nI i) 200 = some i := ix_nI (by omega) (by decide)
  intro k
  induction k with
  | zero => intro x w a1 a2; omega
  | succ k ih =>
    intro x w a1 a2
    have q1 : (nI cnt ≤ nI x) = (cnt ≤ x) := q_le (by omega) (by omega)
    rw [M_bindOne_L37, hF.1 10 0 25 (by decide) (by decide), e2]
    simp only [q1]
    by_cases z : cnt ≤ x
    · rw [if_pos z]
      exact ⟨w, rfl, fun v => Or.inl v, fun v => by
        rcases v with v | ⟨j, j1, j2, -⟩
        · exact v
        · omega⟩
    · rw [if_neg z, show nI x + 1 = nI (x + 1) from nI_1 _]
      cases w with
      | true =>
        rw [if_neg (show ¬ b1 true = 0 by decide)]
        obtain ⟨v, v1, v2⟩ := ih (x + 1) true (by omega) (by omega)
        have vt := v2.mpr (Or.inl rfl)
        exact ⟨v, v1, fun _ => Or.inl rfl, fun _ => vt⟩
      | false =>
        rw [if_pos (show b1 false = 0 from rfl)]
        -- x is not one of those
        have no : ¬ (x ≠ i ∧ en i < H i ∧ gI m0 130 0 x = gI m0 130 0 i ∧ P x = true ∧ rg x = s ∧ en i < H x ∧ en x < H i) → ∃ v : Bool, M_bindOne_L37 n (nI i) m (if en i < H i then 0 else 1) (pm s) k 0 (nI (x + 1)) = some (b1 v) ∧ (v = true ↔ false = true ∨ ∃ j, x ≤ j ∧ j < cnt ∧ j ≠ i ∧ en i < H i ∧ gI m0 130 0 j = gI m0 130 0 i ∧ P j = true ∧ rg j = s ∧ en i < H j ∧ en j < H i) := fun h => by
          obtain ⟨v, v1, v2⟩ := ih (x + 1) false (by omega) (by omega)
          refine ⟨v, v1, v2.trans ⟨?_, ?_⟩⟩
          · rintro (u | ⟨j, j1, j2⟩)
            · exact Or.inl u
            · exact Or.inr ⟨j, by omega, j2⟩
          · rintro (u | ⟨j, j1, j2, j3⟩)
            · exact Or.inl u
            · have : j ≠ x := fun u => by subst u; exact h j3
              exact Or.inr ⟨j, by omega, j2, j3⟩
        have q2 : (nI x = nI i) = (x = i) := q_eq (by omega) (by omega)
        simp only [q2]
        by_cases y1 : x = i
        · rw [if_pos y1]
          exact no (fun u => u.1 y1)
        · rw [if_neg y1]
          by_cases y2 : en i < H i
          · rw [if_pos y2] at no ⊢
            rw [if_pos (show (0 : Int32) = 0 from rfl), ix_nI (N := 200) (by omega) (by decide), bd_s, ixi, bd_s, hF.1 130 0 x (by decide) (by decide), hF.1 130 0 i (by decide) (by decide)]
            by_cases y3 : gI m0 130 0 x = gI m0 130 0 i
            · rw [if_pos y3, bd_s, pm_ad1]
              obtain ⟨r1, r2, r3⟩ := R1 x (by omega)
              cases y4 : P x with
              | false =>
                rw [r3 y4, if_neg (fun u => nI_nm (by omega) u.symm)]
                exact no (fun u => by rw [y4] at u; exact absurd u.2.2.2.1 (by decide))
              | true =>
                obtain ⟨u1, u2, -⟩ := r2 y4
                have := cq_le P 0 cnt
                have q3 : (nI (rg x) = nI s) = (rg x = s) := q_eq (by omega) (by omega)
                rw [u1]
                simp only [q3]
                by_cases y5 : rg x = s
                · rw [if_pos y5]
                  obtain ⟨v, v1, v2⟩ := m_meet (n := n) (m := m) (i := i) (j := x) hE' hF hi (by omega) (R1 i hi).1 r1
                  rw [v1, bd_s]
                  cases hv : v with
                  | false =>
                    rw [if_pos (show b1 false = 0 from rfl)]
                    refine no (fun u => ?_)
                    rw [v2.mpr u.2.2.2.2.2] at hv
                    exact absurd hv (by decide)
                  | true =>
                    rw [if_neg (show ¬ b1 true = 0 by decide)]
                    obtain ⟨v', v1', v2'⟩ := ih (x + 1) true (by omega) (by omega)
                    rw [if_pos y2] at v1'
                    have vt := v2'.mpr (Or.inl rfl)
                    exact ⟨v', v1', fun _ => Or.inr ⟨x, Nat.le_refl _, by omega, y1, y2, y3, y4, y5, v2.mp hv⟩, fun _ => vt⟩
                · rw [if_neg y5]
                  exact no (fun u => y5 u.2.2.2.2.1)
            · rw [if_neg y3]
              exact no (fun u => y3 u.2.2.1)
          · rw [if_neg y2] at no ⊢
            rw [if_neg (show ¬ (1 : Int32) = 0 by decide)]
            exact no (fun u => y2 u.2.1)
theorem m_bindL (hn : 2000 ≤ n) (hE : EG c m0 q cnt n en H) (hR : RM c m0 m q cnt en H P rg) {i kb : Nat} (hi : i < cnt) (hP : P i = false) (hf : fl c q i = true) (hmin : ∀ j, j < cnt → fl c q j = true → bef en j i → P j = true) (hkb : kb < 250) (hkb2 : ∀ j, j < cnt → P j = true → rg j < kb) : ∀ (k s : Nat), s ≤ kb → (∀ r, r < s → clash (Sm c m0 q cnt i) en H rg i r) → kb - s + 1 < k →
    ∃ r, M_bindOne_L25 n (nI i) m (if en i < H i then 0 else 1) k (pm s) 1 = some (nI r) ∧ r ≤ kb ∧ (∀ r', r' < r → clash (Sm c m0 q cnt i) en H rg i r') ∧ ¬ clash (Sm c m0 q cnt i) en H rg i r := by
  have hE' := hE
  obtain ⟨e1, e2, e3⟩ := hE
  intro k
  induction k with
  | zero => intro s a1 a2 a3; omega
  | succ k ih =>
    intro s a1 a2 a3
    obtain ⟨v, v1, v2⟩ := m_takenL (n := n) (s := s) hE' hR hi (by omega) n 0 false (Nat.zero_le _) (by omega)
    have vc : v = true ↔ clash (Sm c m0 q cnt i) en H rg i s := by
      rw [v2]
      constructor
      · rintro (u | ⟨j, j0, j1, j2, j3, j4, j5, j6, j7, j8⟩)
        · exact absurd u (by decide)
        · exact ⟨j3, j, ⟨⟨j1, ((hR.2.1 j j1).2.1 j5).2.2.1⟩, j4⟩, hR.2.2 j i j1 hi j5 hf hP, j6, j7⟩
      · rintro ⟨u1, j, ⟨⟨j1, j2⟩, j3⟩, j4, j5, j6⟩
        have jx : j ≠ i := fun w => by rw [w] at j4; exact bef_irr j4
        exact Or.inr ⟨j, Nat.zero_le _, j1, jx, u1, j3, hmin j j1 j2 j4, j5, j6, by unfold bef at j4; omega⟩
    rw [M_bindOne_L25, if_neg (show ¬ (1 : Int32) = 0 by decide)]
    have v1' : M_bindOne_L37 n (nI i) m (if en i < H i then 0 else 1) (pm s) n 0 0 = some (b1 v) := v1
    rw [v1', bd_s, pm_ad1]
    cases hv : v with
    | false =>
      have ns : ¬ clash (Sm c m0 q cnt i) en H rg i s := fun w => by rw [vc.mpr w] at hv; exact absurd hv (by decide)
      obtain ⟨k, rfl⟩ : ∃ y, k = y + 1 := ⟨k - 1, by omega⟩
      rw [M_bindOne_L25, if_pos (show b1 false = 0 from rfl)]
      exact ⟨s, rfl, a1, a2, ns⟩
    | true =>
      have cs := vc.mp hv
      have : s ≠ kb := fun w => by
        obtain ⟨-, j, ⟨⟨j1, j2⟩, -⟩, j4, j5, -⟩ := cs
        have := hkb2 j j1 (hmin j j1 j2 j4)
        omega
      rw [← pm_s]
      exact ih (s + 1) (by omega) (fun r hr => by
        by_cases w : r = s
        · rw [w]; exact cs
        · exact a2 r (by omega)) (by omega)
theorem m_bindOne (hn : 2000 ≤ n) (hE : EG c m0 q cnt n en H) (hR : RM c m0 m q cnt en H P rg) {i : Nat} (hi : i < cnt) (hP : P i = false) (hf : fl c q i = true) (hmin : ∀ j, j < cnt → fl c q j = true → P j = false → j = i ∨ bef en i j) : ∃ r m2, M_bindOne n (nI i) m = some m2 ∧ RM c m0 m2 q cnt en H (fun j => P j || decide (j = i)) (upN rg i r) := by
  have hE' := hE
  have hR' := hR
  obtain ⟨e1, e2, e3⟩ := hE
  obtain ⟨hF, R1, R2⟩ := hR
  have hmin' : ∀ j, j < cnt → fl c q j = true → bef en j i → P j = true := fun j j1 j2 j3 => by
    cases e : P j with
    | true => rfl
    | false =>
      rcases hmin j j1 j2 e with w | w
      · rw [w] at j3; exact absurd j3 bef_irr
      · exact absurd w (bef_as j3)
  have kb1 := cq_le P 0 cnt
  obtain ⟨r, r1, r2, r3, r4⟩ := m_bindL (n := n) (kb := cq P 0 cnt) hn hE' hR' hi hP hf hmin' (by omega) (fun j j1 jp => ((R1 j j1).2.1 jp).2.1) n 0 (Nat.zero_le _) (fun r hr => by omega) (by omega)
  obtain ⟨v1, v0, v3, -⟩ := e3 i hi
  have ixi : ix (nI i) 200 = some i := ix_nI (by omega) (by decide)
  have q1 := p2_ge v1 v0
  refine ⟨r, sI m 142 0 i (nI r), ?_, hF.tr ⟨fun a i j h1 h2 => gn_I (by omega), rfl⟩, fun o ho => ?_, fun j o j1 o1 jp of_ op => ?_⟩
  · rw [M_bindOne, (v3 m hF).1, bd_s, ixi, bd_s]
    simp only [lt9]
    rw [(R1 i hi).1]
    simp only [q1, bd_s]
    by_cases y : en i < H i
    · rw [if_pos y] at r1 ⊢
      rw [show (-1 : Int32) = pm 0 from rfl, r1, bd_s]
    · rw [if_neg y] at r1 ⊢
      rw [show (-1 : Int32) = pm 0 from rfl, r1, bd_s]
  · have kb' : cq (fun j => P j || decide (j = i)) 0 cnt = cq P 0 cnt + 1 := cq_dn (o := i) (fun j hj => by rw [decide_eq_false hj, Bool.or_false]) (by rw [decide_eq_true rfl, Bool.or_true]) hP (Nat.zero_le _) _ hi
    obtain ⟨w1, w2, w3⟩ := R1 o ho
    refine ⟨(gn_I (by omega)).trans w1, ?_⟩
    dsimp only
    by_cases oi : o = i
    · subst oi
      rw [gs_I, upN_s, decide_eq_true rfl, Bool.or_true]
      refine ⟨fun _ => ⟨rfl, by omega, hf, ?_⟩, fun w => absurd w (by decide)⟩
      have e : ∀ r', clash (Sm c m0 q cnt o) en H rg o r' ↔ clash (Sm c m0 q cnt o) en H (upN rg o r) o r' := fun r' => clash_cg (fun j _ => Iff.rfl) (fun j _ hb => by
        have jx : j ≠ o := fun w => by rw [w] at hb; exact bef_irr hb
        rw [upN_n jx])
      unfold RS
      rw [upN_s]
      exact ⟨fun r' hr' => (e r').mp (r3 r' hr'), fun w => r4 ((e _).mpr w)⟩
    · rw [decide_eq_false oi, Bool.or_false, gn_I (by omega), upN_n oi]
      refine ⟨fun op => ?_, w3⟩
      obtain ⟨u1, u2, u3, u4⟩ := w2 op
      refine ⟨u1, by omega, u3, ?_⟩
      have e : ∀ r', clash (Sm c m0 q cnt o) en H rg o r' ↔ clash (Sm c m0 q cnt o) en H (upN rg i r) o r' := fun r' => clash_cg (fun j _ => Iff.rfl) (fun j _ hb => by
        have jx : j ≠ i := fun w => by
          rw [w] at hb
          exact bef_as hb (R2 o i ho hi op hf hP)
        rw [upN_n jx])
      unfold RS
      rw [upN_n oi]
      exact ⟨fun r' hr' => (e r').mp (u4.1 r' hr'), fun w => u4.2 ((e _).mpr w)⟩
  · dsimp only at jp op
    have oi : o ≠ i := fun w => by
      rw [w, decide_eq_true rfl, Bool.or_true] at op
      exact absurd op (by decide)
    rw [decide_eq_false oi, Bool.or_false] at op
    by_cases ji : j = i
    · rw [ji]
      rcases hmin o o1 of_ op with w | w
      · exact absurd w oi
      · exact w
    · rw [decide_eq_false ji, Bool.or_false] at jp
      exact R2 j o j1 o1 jp of_ op
theorem m_bindAll (hn : 2000 ≤ n) (hE : EG c m0 q cnt n en H) : ∀ (k : Nat) (P : Nat → Bool) (rg : Nat → Nat) (m : Mem), RM c m0 m q cnt en H P rg → cq (fun j => fl c q j && !P j) 0 cnt < k →
    ∃ P2 rg2 m2, M_bindRegisters_L68 n k (nI (cq (fun j => fl c q j && !P j) 0 cnt)) m = some m2 ∧ RM c m0 m2 q cnt en H P2 rg2 ∧ ∀ j, j < cnt → fl c q j = true → P2 j = true := by
  intro k
  induction k with
  | zero => intro P rg m a1 a2; omega
  | succ k ih =>
    intro P rg m a1 a2
    have e1 := hE.1
    have cl := cq_le (fun j => fl c q j && !P j) 0 cnt
    have q3 : (nI (cq (fun j => fl c q j && !P j) 0 cnt) ≤ 0) = (cq (fun j => fl c q j && !P j) 0 cnt ≤ 0) := by
      have := q_le (a := cq (fun j => fl c q j && !P j) 0 cnt) (b := 0) (by omega) (by decide)
      rw [nI_0] at this
      exact this
    rw [M_bindRegisters_L68]
    simp only [q3]
    by_cases z : cq (fun j => fl c q j && !P j) 0 cnt ≤ 0
    · rw [if_pos z]
      refine ⟨P, rg, m, rfl, a1, fun j j1 j2 => ?_⟩
      have := (cq_0 cnt).mp (Nat.le_zero.mp z) j (Nat.zero_le _) j1
      rw [j2, Bool.true_and] at this
      cases e : P j with
      | true => rfl
      | false => rw [e] at this; exact absurd this (by decide)
    · rw [if_neg z]
      obtain ⟨s, s1, s2⟩ := m_nextL (n := n) hE a1 n 0 0 (Nat.zero_le _) (Or.inl ⟨rfl, fun j hj => by omega⟩) (by omega)
      have s1' : M_bindRegisters_L76 n m n (-1) 0 = some (pm s) := s1
      rw [s1', bd_s]
      rcases s2 with ⟨u1, u2⟩ | ⟨j0, u1, u2, u3, u4, u5⟩
      · exfalso
        refine z (Nat.le_of_eq ((cq_0 cnt).mpr (fun x _ hx => ?_)))
        cases e : fl c q x with
        | false => rfl
        | true => rw [u2 x hx e]; rfl
      · obtain ⟨r, m2, r1, r2⟩ := m_bindOne (n := n) hn hE a1 u2 u4 u3 u5
        have dn : cq (fun j => fl c q j && !P j) 0 cnt = cq (fun j => fl c q j && !(P j || decide (j = j0))) 0 cnt + 1 := cq_dn (o := j0) (fun j hj => by rw [decide_eq_false hj, Bool.or_false]) (by rw [u3, u4]; rfl) (by rw [decide_eq_true rfl, Bool.or_true, Bool.not_true, Bool.and_false]) (Nat.zero_le _) _ u2
        rw [u1, pm_s, r1, bd_s, dn, pk_m1]
        exact ih _ _ m2 r2 (by omega)
theorem m_registers (hn : 2000 ≤ n) (hE : EG c m0 q cnt n en H) : ∃ rg m2, M_bindRegisters n m0 = some m2 ∧ FrR m0 m2 ∧ ∀ o, o < cnt → (fl c q o = true → gI m2 142 0 o = nI (rg o) ∧ rg o < 200 ∧ RS (Sm c m0 q cnt o) en H rg o) ∧ (fl c q o = false → gI m2 142 0 o = -1) := by
  have e1 := hE.1
  obtain ⟨m1, a1, a2, a3⟩ := m_heldAll hE n 0 m0 ⟨fun _ _ _ _ _ => rfl, rfl⟩ (Nat.zero_le _) (fun o ho => by omega) (by omega)
  have b1' := m_countL hE a2 (fun o ho => (a3 o ho).1) n 0 (Nat.zero_le _) (by omega)
  have R0 : RM c m0 m1 q cnt en H (fun _ => false) (fun _ => 0) := ⟨a2, fun o ho => ⟨(a3 o ho).1, fun w => absurd (show false = true from w) (by decide), fun _ => (a3 o ho).2⟩, fun j o _ _ jp => absurd (show false = true from jp) (by decide)⟩
  have ce : cq (fun j => fl c q j && !(fun _ => false) j) 0 cnt = cq (fl c q) 0 cnt := cq_cg _ (fun x _ _ => by rw [Bool.not_false, Bool.and_true])
  have cl := cq_le (fl c q) 0 cnt
  obtain ⟨P2, rg2, m2, d1, d2, d3⟩ := m_bindAll (n := n) hn hE n _ _ m1 R0 (by rw [ce]; omega)
  rw [ce] at d1
  rw [nI_0] at a1
  have b2 : M_bindRegisters_L38 n m1 n 0 0 = some (nI (cq (fl c q) 0 cnt)) := b1'
  refine ⟨rg2, m2, by rw [M_bindRegisters, a1, bd_s, b2, bd_s, d1, bd_s], d2.1, fun o ho => ?_⟩
  obtain ⟨w1, w2, w3⟩ := d2.2.1 o ho
  refine ⟨fun hf => ?_, fun hf => w3 (bool_f (fun v => ?_))⟩
  · obtain ⟨u1, u2, u3, u4⟩ := w2 (d3 o ho hf)
    have := cq_le P2 0 cnt
    exact ⟨u1, by omega, u4⟩
  · have := (w2 v).2.2.1
    rw [hf] at this
    exact absurd this (by decide)
end LM
