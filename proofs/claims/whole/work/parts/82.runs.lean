/-! ===== PURE: blocks are done until it is enough ===== -/
/-- while the machine runs -/
def RUN (c0 m0 c m : Mem) (B : Nat) : Prop := (∀ k i j, k ≠ 28 → k ≠ 29 → k ≠ 30 → ¬ (k = 2 ∧ j = 4) → gI c k i j = gI c0 k i j) ∧ c.2 = c0.2 ∧ (∀ k i j, k ≠ 144 → k ≠ 145 → k ≠ 146 → ¬ (k = 10 ∧ j = 47) → gI m k i j = gI m0 k i j) ∧ m.2 = m0.2 ∧ (∀ v, v < 8 → gI c 28 0 v = gI m 144 0 v) ∧ (∀ i, i < 16 → gI c 29 0 i = gI m 145 0 i) ∧ gI c 2 0 4 = gI m 10 0 47 ∧ (gI c 2 0 4 = -1 ∨ ∃ k, k < B ∧ gI c 2 0 4 = nI k)
section RS
variable {n q cnt B b f g : Nat} {c m : Mem} {lat mn : Nat → Nat}
theorem m_skip {m' : Mem} (hcnt : cnt ≤ 200) (h25 : gI m' 10 0 25 = nI cnt) (h : ∀ i, i < f → i < cnt → ¬ gI m' 130 0 i = gI m' 10 0 47) (hf : f ≤ cnt) : ∀ (d x k : Nat), x + d = f → cnt - x < k → ∃ k', cnt - f < k' ∧ M_run_L43 n k (nI x) m' = M_run_L43 n k' (nI f) m' := by
  intro d
  induction d with
  | zero => intro x k a1 a2; exact ⟨k, by omega, by rw [show x = f by omega]⟩
  | succ d ih =>
    intro x k a1 a2
    obtain ⟨k, rfl⟩ : ∃ y, k = y + 1 := ⟨k - 1, by omega⟩
    have q1 : (nI cnt ≤ nI x) = (cnt ≤ x) := q_le (by omega) (by omega)
    rw [M_run_L43, h25]
    simp only [q1]
    rw [if_neg (by omega), ix_nI (N := 200) (by omega) (by decide), bd_s, if_neg (h x (by omega) (by omega)), show nI x + 1 = nI (x + 1) from nI_1 _]
    exact ih (x + 1) k (by omega) (by omega)
theorem m_skip2 {m' : Mem} (hcnt : cnt ≤ 200) (h25 : gI m' 10 0 25 = nI cnt) (h : ∀ i, f ≤ i → i < cnt → ¬ gI m' 130 0 i = gI m' 10 0 47) : ∀ (k x : Nat), f ≤ x → x ≤ cnt → cnt - x < k → M_run_L43 n k (nI x) m' = some m' := by
  intro k
  induction k with
  | zero => intro x a1 a2 a3; omega
  | succ k ih =>
    intro x a1 a2 a3
    have q1 : (nI cnt ≤ nI x) = (cnt ≤ x) := q_le (by omega) (by omega)
    rw [M_run_L43, h25]
    simp only [q1]
    by_cases z : cnt ≤ x
    · rw [if_pos z]
    · rw [if_neg z, ix_nI (N := 200) (by omega) (by decide), bd_s, if_neg (h x a1 (by omega)), show nI x + 1 = nI (x + 1) from nI_1 _]
      exact ih (x + 1) (by omega) (by omega) (by omega)
theorem perfL (hq : q < 2) (hP : PR c m q cnt B) (hG : RG c q cnt b f g) (hr : gR c 2 0 3 = some q) (hnow : gI m 10 0 47 = nI b) : ∀ (d x k km : Nat) (c' m' : Mem), f ≤ x → x + d = f + g → d < k → cnt - x < km → PSt c m c' m' q f x →
    ∃ c2 m2, Mc_perform_L5 n (175 * q + b) k (nI x) c' = some c2 ∧ M_run_L43 n km (nI x) m' = some m2 ∧ PSt c m c2 m2 q f (f + g) := by
  have hcnt := hP.1.2.2.2.2.1
  have hfg := hG.2.2.1
  intro d
  induction d with
  | zero =>
    intro x k km c' m' a1 a2 a3 a4 a5
    have : x = f + g := by omega
    subst this
    obtain ⟨k, rfl⟩ : ∃ y, k = y + 1 := ⟨k - 1, by omega⟩
    obtain ⟨f1, f2, f3, f4, f5, f6, f7⟩ := a5
    have q1 : (nI (f + g) ≤ nI (f + g)) = (f + g ≤ f + g) := q_le (by omega) (by omega)
    have e0 : gI c' 0 (175 * q + b) 0 + gI c' 0 (175 * q + b) 1 = nI (f + g) := by
      rw [f1 0 _ 0 (by decide) (by decide) (by decide), f1 0 _ 1 (by decide) (by decide) (by decide), hG.1, hG.2.1, nI_add]
    rw [Mc_perform_L5, e0]
    simp only [q1]
    rw [if_pos (Nat.le_refl _)]
    have sk := m_skip2 (n := n) (f := f + g) (m' := m') hcnt ((f3 10 0 25 (by decide) (by decide) (by decide)).trans hP.1.2.2.1) (fun i h1 h2 => by
      rw [f3 130 0 i (by decide) (by decide) (by decide), f3 10 0 47 (by decide) (by decide) (by decide), hnow, hP.blk hG h2]
      omega) km (f + g) (Nat.le_refl _) (by omega) a4
    exact ⟨c', m', rfl, sk, f1, f2, f3, f4, f5, f6, f7⟩
  | succ d ih =>
    intro x k km c' m' a1 a2 a3 a4 a5
    obtain ⟨k, rfl⟩ : ∃ y, k = y + 1 := ⟨k - 1, by omega⟩
    obtain ⟨km, rfl⟩ : ∃ y, km = y + 1 := ⟨km - 1, by omega⟩
    obtain ⟨v, c1, m2, o1, o2, o3, o4, o5⟩ := o_step (n := n) hq hP hG (x := x) ⟨a1, by omega⟩ a5
    obtain ⟨f1, f2, f3, f4, f5, f6, f7⟩ := a5
    have q1 : (nI (f + g) ≤ nI x) = (f + g ≤ x) := q_le (by omega) (by omega)
    have q2 : (nI cnt ≤ nI x) = (cnt ≤ x) := q_le (by omega) (by omega)
    have e0 : gI c' 0 (175 * q + b) 0 + gI c' 0 (175 * q + b) 1 = nI (f + g) := by
      rw [f1 0 _ 0 (by decide) (by decide) (by decide), f1 0 _ 1 (by decide) (by decide) (by decide), hG.1, hG.2.1, nI_add]
    have er : gR c' 2 0 3 = some q := by
      rw [← hr]
      unfold gR
      rw [f2]
    have ix0 : ix (nI x) 200 = some x := ix_nI (by omega) (by decide)
    have eb : gI m' 130 0 x = gI m' 10 0 47 := by
      rw [f3 130 0 x (by decide) (by decide) (by decide), f3 10 0 47 (by decide) (by decide) (by decide), hnow]
      exact (hP.blk hG (by omega)).mpr ⟨a1, by omega⟩
    rw [Mc_perform_L5, M_run_L43, e0, (f3 10 0 25 (by decide) (by decide) (by decide)).trans hP.1.2.2.1]
    simp only [q1, q2]
    rw [if_neg (by omega), if_neg (by omega), er, bd_s, if_pos hq]
    simp only [ix0, bd_s]
    rw [o1, if_pos eb, o2, bd_s, bd_s]
    simp only [lt9]
    have e5 : gI (sI c1 30 0 x v) 3 (200 * q + x) 5 = gI c 3 (200 * q + x) 5 := o4 3 _ 5 (by decide) (by decide) (by decide)
    rw [e5, gs_I, show nI x + 1 = nI (x + 1) from nI_1 _]
    rcases o3 with ⟨u1, u2⟩ | ⟨w, w1, u1, u2⟩
    · rw [u1, if_pos rfl]
      exact ih (x + 1) k km _ _ (by omega) (by omega) (by omega) (by omega) u2
    · rw [u1, if_neg (nI_nm (by omega)), ix_nI (N := 8) w1 (by decide), bd_s]
      exact ih (x + 1) k km _ _ (by omega) (by omega) (by omega) (by omega) u2
/-- a block is done -/
theorem perform {c0 m0 : Mem} (hn : 6000 ≤ n) (hq : q < 2) (hP0 : PROG c0 m0 q cnt B lat mn) (hr0 : gR c0 2 0 3 = some q) (h : RUN c0 m0 c m B) (hb : b < B) (hnow : gI c 2 0 4 = nI b) :
    ∃ c2 m1 m2, Mc_perform n (175 * q + b) c = some c2 ∧ M_run_L43 n n 0 m = some m1 ∧ (∀ (k : Nat) (a1 x6 : Int32), gI m 10 0 0 = 0 → ¬ a1 ≤ x6 → M_run_L22 n a1 (k + 1) x6 m = M_run_L22 n a1 k (x6 + gI m 143 0 b) m2) ∧ RUN c0 m0 c2 m2 B := by
  obtain ⟨r1, r2, r3, r4, r5, r6, r7, r8⟩ := h
  have hB := hP0.1.1.2.2.2.2.2
  have hP : PR c m q cnt B := (hP0.kp ⟨fun i j _ => r1 3 _ j (by decide) (by decide) (by decide) (by omega), fun b j _ => r1 0 _ j (by decide) (by decide) (by decide) (by omega), fun j => r1 4 _ j (by decide) (by decide) (by decide) (by omega), fun i => ⟨r1 23 _ i (by decide) (by decide) (by decide) (by omega), r1 24 _ i (by decide) (by decide) (by decide) (by omega)⟩, hP0.1.2.2.2.ag (fun o => r1 3 o 0 (by decide) (by decide) (by decide) (by omega))⟩ ⟨fun k i j h1 h2 => r3 k i j (by omega) (by omega) (by omega) (by omega), r3 10 0 25 (by decide) (by decide) (by decide) (by omega), r3 10 0 31 (by decide) (by decide) (by decide) (by omega)⟩).1
  have hcnt := hP.1.2.2.2.2.1
  obtain ⟨⟨f, g, g1, g2, g3, g4⟩, w2, w3, w4, w5, w6⟩ := hP.2.2.1 b hb
  have hG : RG c q cnt b f g := ⟨g1, g2, g3, g4⟩
  have er : gR c 2 0 3 = some q := by
    rw [← hr0]
    unfold gR
    rw [r2]
  have mnow : gI m 10 0 47 = nI b := r7.symm.trans hnow
  have p0 : PSt c m c m q f f := ⟨fun _ _ _ _ _ _ => rfl, rfl, fun _ _ _ _ _ _ => rfl, rfl, r5, r6, fun i h1 h2 => by omega⟩
  obtain ⟨k', y1, y2⟩ := m_skip (n := n) (f := f) (m' := m) hcnt hP.1.2.2.1 (fun i h1 h2 => by
    rw [mnow, hP.blk hG h2]
    omega) (by omega) f 0 n (by omega) (by omega)
  obtain ⟨c1, m1, z1, z2, z3⟩ := perfL (n := n) hq hP hG er mnow g f n k' c m (Nat.le_refl _) rfl (by omega) y1 p0
  rw [← y2, nI_0] at z2
  obtain ⟨f1, f2, f3, f4, f5, f6, f7⟩ := z3
  have c0_ : ∀ j, gI c1 0 (175 * q + b) j = gI c 0 (175 * q + b) j := fun j => f1 0 _ j (by decide) (by decide) (by decide)
  have mb : ∀ a, 126 ≤ a → a ≤ 143 → gI m1 a 0 b = gI m a 0 b := fun a h1 h2 => f3 a 0 b (by omega) (by omega) (by omega)
  have m47 : gI m1 10 0 47 = nI b := (f3 10 0 47 (by decide) (by decide) (by decide)).trans mnow
  have ixb : ix (nI b) 800 = some b := ix_nI (by omega) (by decide)
  -- where it goes on
  have go : ∀ (so : Bool) (v : Int32), v = (if so = true then gI c 0 (175 * q + b) 4 else gI c 0 (175 * q + b) 5) → RUN c0 m0 (sI c1 2 0 4 v) (sI m1 10 0 47 v) B := fun so v hv => by
    refine ⟨fun k i j h1 h2 h3 h4 => (gn_I (by omega)).trans ((f1 k i j h1 h2 h3).trans (r1 k i j h1 h2 h3 h4)), f2.trans r2, fun k i j h1 h2 h3 h4 => (gn_I (by omega)).trans ((f3 k i j h1 h2 h3).trans (r3 k i j h1 h2 h3 h4)), f4.trans r4, fun v hv => (gn_I (by omega)).trans ((f5 v hv).trans (gn_I (by omega)).symm), fun i hi => (gn_I (by omega)).trans ((f6 i hi).trans (gn_I (by omega)).symm), ?_, ?_⟩
    · rw [gs_I, gs_I]
    · rw [gs_I, hv]
      cases so with
      | true =>
        rw [if_pos rfl]
        exact w5.2.elim (fun e => Or.inl (w5.1.trans e)) (fun ⟨k, k1, k2⟩ => Or.inr ⟨k, k1, w5.1.trans k2⟩)
      | false =>
        rw [if_neg (by decide)]
        exact w6.2.elim (fun e => Or.inl (w6.1.trans e)) (fun ⟨k, k1, k2⟩ => Or.inr ⟨k, k1, w6.1.trans k2⟩)
  have m134 : gI m1 134 0 b = gI c 0 (175 * q + b) 4 := (mb 134 (by decide) (by decide)).trans w5.1.symm
  have m135 : gI m1 135 0 b = gI c 0 (175 * q + b) 5 := (mb 135 (by decide) (by decide)).trans w6.1.symm
  have start : ∀ (k : Nat) (a1 x6 : Int32), gI m 10 0 0 = 0 → ¬ a1 ≤ x6 → M_run_L22 n a1 (k + 1) x6 m = (if gI c 0 (175 * q + b) 2 = 0 then M_run_L22 n a1 k (x6 + gI m 143 0 b) (sI m1 10 0 47 (gI c 0 (175 * q + b) 4)) else (M_look n (gI m 132 0 b) (gI m 133 0 b) m1).bind fun z20 => if z20 = 0 then M_run_L22 n a1 k (x6 + gI m 143 0 b) (sI m1 10 0 47 (gI c 0 (175 * q + b) 5)) else M_run_L22 n a1 k (x6 + gI m 143 0 b) (sI m1 10 0 47 (gI c 0 (175 * q + b) 4))) := by
    intro k a1 x6 h0 h1
    have nb : (nI b < 0) = False := q_ltm (by omega)
    rw [M_run_L22, if_pos h0, mnow]
    simp only [nb, if_false]
    rw [if_neg h1, z2, bd_s, m47]
    simp only [ixb, bd_s, lt9]
    rw [mb 136 (by decide) (by decide), mb 143 (by decide) (by decide), mb 132 (by decide) (by decide), mb 133 (by decide) (by decide), m134, m135, ← w3, if_neg (show ¬ (1 : Int32) = 0 by decide)]
    simp only [if_true]
  rw [Mc_perform, hG.1, z1, bd_s]
  simp only [lt9]
  rw [c0_, c0_, c0_, c0_]
  rcases w2 with w2 | w2
  · rw [w2, if_pos rfl, if_neg (show ¬ (1 : Int32) = 0 by decide)]
    refine ⟨_, m1, sI m1 10 0 47 (gI c 0 (175 * q + b) 4), rfl, z2, fun k a1 x6 h0 h1 => ?_, go true _ rfl⟩
    rw [start k a1 x6 h0 h1, w2, if_pos rfl]
  · obtain ⟨u1, u2⟩ := w4 w2
    obtain ⟨r, t1, t2⟩ := t_take (n := n) (c' := c1) (m' := m1) (Or.inl u1) f5 (fun i hi hv => by
      obtain ⟨x1, x2, x3, x4⟩ := u2 i hi hv
      have := (g4 i x1).mp x2
      exact f7 i this.1 this.2 x4)
    rw [w2, if_neg (show ¬ (1 : Int32) = 0 by decide), t1, bd_s]
    by_cases y : r = 0
    · rw [if_pos y, if_pos True.intro]
      refine ⟨_, m1, sI m1 10 0 47 (gI c 0 (175 * q + b) 5), rfl, z2, fun k a1 x6 h0 h1 => ?_, go false _ rfl⟩
      rw [start k a1 x6 h0 h1, w2, if_neg (show ¬ (1 : Int32) = 0 by decide), t2, bd_s, if_pos y]
    · rw [if_neg y, if_neg (show ¬ (1 : Int32) = 0 by decide)]
      refine ⟨_, m1, sI m1 10 0 47 (gI c 0 (175 * q + b) 4), rfl, z2, fun k a1 x6 h0 h1 => ?_, go true _ rfl⟩
      rw [start k a1 x6 h0 h1, w2, if_neg (show ¬ (1 : Int32) = 0 by decide), t2, bd_s, if_neg y]
theorem advL {c0 m0 : Mem} {N : Nat} (hn : 6000 ≤ n) (hN : N ≤ 5000) (hq : q < 2) (hP0 : PROG c0 m0 q cnt B lat mn) (hr0 : gR c0 2 0 3 = some q) (h0 : gI m0 10 0 0 = 0) : ∀ (k d i : Nat) (c m : Mem), RUN c0 m0 c m B → i ≤ d → d ≤ 6000 → N - d < k →
    ∃ d' c2 m2, Mc_advance_L4 n (nI N) k (nI d) (nI i) c = some (nI d', c2) ∧ M_run_L22 n (nI N) k (nI d) m = some (nI d', m2) ∧ RUN c0 m0 c2 m2 B := by
  have hB := hP0.1.1.2.2.2.2.2
  intro k
  induction k with
  | zero => intro d i c m a1 a2 a3 a4; omega
  | succ k ih =>
    intro d i c m a1 a2 a3 a4
    have hR := a1
    obtain ⟨r1, r2, r3, r4, r5, r6, r7, r8⟩ := a1
    have t0 : gI m 10 0 0 = 0 := (r3 10 0 0 (by decide) (by decide) (by decide) (by omega)).trans h0
    have q1 : (nI N ≤ nI i) = (N ≤ i) := q_le (by omega) (by omega)
    have q2 : (nI N ≤ nI d) = (N ≤ d) := q_le (by omega) (by omega)
    by_cases z : N ≤ d
    · have e1 : Mc_advance_L4 n (nI N) (k + 1) (nI d) (nI i) c = some (nI d, c) := by
        rw [Mc_advance_L4]
        simp only [q1, q2]
        rw [if_pos z, ite_self]
      have e2 : M_run_L22 n (nI N) (k + 1) (nI d) m = some (nI d, m) := by
        rw [M_run_L22, if_pos t0]
        simp only [q2]
        rw [if_pos z, ite_self]
      exact ⟨d, c, m, e1, e2, hR⟩
    · rcases r8 with r8 | ⟨b, hb, r8⟩
      · have e1 : Mc_advance_L4 n (nI N) (k + 1) (nI d) (nI i) c = some (nI d, c) := by
          rw [Mc_advance_L4]
          simp only [q1, q2]
          rw [if_neg (by omega), if_neg z, if_pos r8]
        have e2 : M_run_L22 n (nI N) (k + 1) (nI d) m = some (nI d, m) := by
          rw [M_run_L22, if_pos t0, ← r7, r8, if_pos (by decide)]
        exact ⟨d, c, m, e1, e2, hR⟩
      · obtain ⟨c2, m1, m2, p1, p2, p3, p4⟩ := perform (n := n) hn hq hP0 hr0 hR hb r8
        obtain ⟨y1, cy, y2, y3, y4⟩ := hP0.2.2.1 b hb
        have er : gR c 2 0 3 = some q := by
          rw [← hr0]
          unfold gR
          rw [r2]
        have s6 : gI c2 0 (175 * q + b) 6 = nI cy := (p4.1 0 _ 6 (by decide) (by decide) (by decide) (by omega)).trans y2
        have s143 : gI m 143 0 b = nI cy := (r3 143 0 b (by decide) (by decide) (by decide) (by omega)).trans (y1.trans y2)
        have e1 : Mc_advance_L4 n (nI N) (k + 1) (nI d) (nI i) c = Mc_advance_L4 n (nI N) k (nI (d + cy)) (nI (i + 1)) c2 := by
          rw [Mc_advance_L4]
          simp only [q1, q2]
          rw [if_neg (by omega), if_neg z, if_neg (by rw [r8]; exact nI_nm (by omega)), er, bd_s, if_pos hq, r8, ix_nI (N := 175) (by omega) (by decide), bd_s, p1, bd_s, s6, nI_add, show nI i + 1 = nI (i + 1) from nI_1 _]
        rw [e1, p3 k (nI N) (nI d) t0 (fun w => z (q2.mp w)), s143, nI_add]
        exact ih (d + cy) (i + 1) c2 m2 p4 (by omega) (by omega) (by omega)
end RS
