/-! ===== PURE: laying: a block's cycles ===== -/
theorem MX.uq {r r' : Nat} {bg l : Nat → Nat} {S : Nat → Prop} (h : MX r bg l S) (h' : MX r' bg l S) : r = r' := by
  have e1 := (h.2 r').mpr ((h'.2 r').mp (Nat.le_refl _))
  have e2 := (h'.2 r).mpr ((h.2 r).mp (Nat.le_refl _))
  omega
theorem MX.ext {E f x : Nat} {bg l : Nat → Nat} (h : MX E bg l (fun y => f ≤ y ∧ y < x)) (h0 : bg x ≠ 0) (hb : bg x - 1 + l x < 2 ^ 20) (hf : f ≤ x) : MX (max E (bg x - 1 + l x)) bg l (fun y => f ≤ y ∧ y < x + 1) := by
  refine ⟨by have := h.1; omega, fun y => ⟨fun hy z hz h1 => ?_, fun hy => ?_⟩⟩
  · by_cases w : z = x
    · subst w; omega
    · exact (h.2 y).mp (by omega) z ⟨hz.1, by omega⟩ h1
  · have e1 := (h.2 y).mpr (fun z hz h1 => hy z ⟨hz.1, by omega⟩ h1)
    have e2 := hy x ⟨hf, by omega⟩ h0
    omega
theorem cq_all (f : Nat) : ∀ g, cq (fun _ => decide ((0 : Nat) = 0)) f (f + g) = g := by
  intro g
  induction g with
  | zero => exact cq_none _ _ _ (Nat.le_refl _)
  | succ g ih =>
    show cq _ f ((f + g) + 1) = g + 1
    rw [cq, ih, if_pos ⟨by omega, rfl⟩]
theorem cq_ex {P : Nat → Bool} {lo : Nat} : ∀ h, cq P lo h ≠ 0 → ∃ o, lo ≤ o ∧ o < h ∧ P o = true ∧ ∀ x, lo ≤ x → x < o → P x = false := by
  intro h
  induction h with
  | zero => intro e; exact absurd rfl e
  | succ h ih =>
    intro e
    by_cases z : cq P lo h = 0
    · unfold cq at e
      by_cases y : lo ≤ h ∧ P h = true
      · exact ⟨h, y.1, by omega, y.2, (cq_0 h).mp z⟩
      · rw [z, if_neg y] at e
        exact absurd rfl e
    · obtain ⟨o, o1, o2, o3, o4⟩ := ih z
      exact ⟨o, o1, by omega, o3, o4⟩
/-- what laying a block writes -/
def FrBl (c c' : Mem) (q b f e : Nat) : Prop := (∀ a i j, ¬ (a = 3 ∧ 200 * q + f ≤ i ∧ i < 200 * q + e ∧ 7 ≤ j) → ¬ (a = 0 ∧ i = 175 * q + b ∧ j = 6) → a ≠ 25 → a ≠ 26 → ¬ (a = 1 ∧ j = 5) → gI c' a i j = gI c a i j) ∧ (∀ k i j, k ≠ 27 → gR c' k i j = gR c k i j) ∧ gL c' = gL c
def FrBlM (m m' : Mem) (b f e : Nat) : Prop := (∀ a i j, ¬ ((a = 139 ∨ a = 140 ∨ a = 141) ∧ i = 0 ∧ f ≤ j ∧ j < e) → ¬ (a = 143 ∧ i = 0 ∧ j = b) → gI m' a i j = gI m a i j) ∧ m'.2 = m.2
theorem FrBl.tr {c c' c'' : Mem} {q b f e : Nat} (h1 : FrBl c c' q b f e) (h2 : FrBl c' c'' q b f e) : FrBl c c'' q b f e := ⟨fun a i j x1 x2 x3 x4 x5 => (h2.1 a i j x1 x2 x3 x4 x5).trans (h1.1 a i j x1 x2 x3 x4 x5), fun k i j x => (h2.2.1 k i j x).trans (h1.2.1 k i j x), h2.2.2.trans h1.2.2⟩
theorem FrBlM.tr {c c' c'' : Mem} {b f e : Nat} (h1 : FrBlM c c' b f e) (h2 : FrBlM c' c'' b f e) : FrBlM c c'' b f e := ⟨fun a i j x1 x2 => (h2.1 a i j x1 x2).trans (h1.1 a i j x1 x2), h2.2.trans h1.2⟩
theorem FrBl.fl {c c' : Mem} {q b f e : Nat} (h : FrBl c c' q b f e) : FrL c c' := ⟨fun k i j x1 x2 x3 x4 x5 => h.1 k i j (by omega) (by omega) (by omega) (by omega) (by omega), h.2.1, h.2.2⟩
theorem FrBlM.fl {c c' : Mem} {b f e : Nat} (h : FrBlM c c' b f e) : FrLM c c' := ⟨fun k i j x1 x2 => h.1 k i j (by omega) (by omega), h.2⟩
theorem FrB.bl {c c' : Mem} {q b f e : Nat} (h : FrB c c' q b f e) : FrBl c c' q b f e := ⟨fun a i j x1 x2 x3 x4 x5 => h.1 a i j (by omega) x2 x3 x5, fun k i j _ => by unfold gR; rw [h.2], by unfold gL; rw [h.2]⟩
theorem FrBM.bl {c c' : Mem} {b f e : Nat} (h : FrBM c c' f e) : FrBlM c c' b f e := ⟨fun a i j x1 x2 => h.1 a i j (by omega), h.2⟩
/-- a block that is laid -/
def LB (c m : Mem) (q b f g : Nat) (L st : Nat → Nat) (cy : Nat) : Prop := (gI c 0 (175 * q + b) 6 = nI cy ∧ gI m 143 0 b = nI cy ∧ 1 ≤ cy ∧ cy ≤ 804) ∧ ∀ o, f ≤ o → o < f + g → gI c 3 (200 * q + o) 9 = nI (st o) ∧ gI m 140 0 o = nI (st o) ∧ st o + L o ≤ cy ∧ gI c 3 (200 * q + o) 7 = nI (L o) ∧ 1 ≤ L o ∧ gI m 139 0 o = gI c 3 (200 * q + o) 8 ∧ gI m 141 0 o = gI c 3 (200 * q + o) 10 ∧ ∃ u, u < 300 ∧ gI c 3 (200 * q + o) 10 = nI u
section LO
variable {n q cnt B b f g : Nat} {c m : Mem} {lat mn K h : Nat → Nat} {D : Nat → Nat → Bool}
theorem beg_all {r : Nat → Nat} {c0 m0 : Mem} (hn : 2000 ≤ n) (hq : q < 2) (hE0 : EV c0 m0 q cnt B b f g lat mn K D) (hR : RK h c0 q f g r) (hh : ∀ o, f ≤ o → o < f + g → gI m0 139 0 o = nI (h o) ∧ h o < 2000) : ∀ (k t left : Nat) (bg un : Nat → Nat) (c m : Mem), FrB c0 c q b f (f + g) → FrBM m0 m f (f + g) → SC c q b f g lat K D bg un t left → BG m f g bg un t → (∀ o, f ≤ o → o < f + g → bg o ≤ t) → 801 - t < k →
    ∃ bg' un' t' c2 m2, Ly_beginAll_L10 n (175 * q + b) q k (nI (g - left)) (nI t) c = some c2 ∧ M_layBlock_L131 n (nI b) k (nI left) (nI t) m = some m2 ∧ SC c2 q b f g lat K D bg' un' t' 0 ∧ BG m2 f g bg' un' t' ∧ FrB c0 c2 q b f (f + g) ∧ FrBM m0 m2 f (f + g) := by
  obtain ⟨e1, e2, e3⟩ := hE0.size
  intro k
  induction k with
  | zero => intro t left bg un c m a1 a2 a3 a4 a5 a6; omega
  | succ k ih =>
    intro t left bg un c m a1 a2 a3 a4 a5 a6
    have hE := hE0.ag a1.fl a2.fl
    have lg := a3.2.2.2.2.1
    have t4 := a3.2.2.2.2.2.2
    have q1 : ((800 : Int32) ≤ nI t) = (800 ≤ t) := q_le (a := 800) (by decide) (by omega)
    have q2 : (nI g ≤ nI (g - left)) = (g ≤ g - left) := q_le (by omega) (by omega)
    have q3 : (nI left ≤ 0) = (left ≤ 0) := by
      have := q_le (a := left) (b := 0) (by omega) (by decide)
      rw [nI_0] at this
      exact this
    rw [Ly_beginAll_L10, M_layBlock_L131, hE.2.2.1.2.1]
    simp only [q1, q2, q3]
    by_cases z : left = 0
    · subst z
      rw [if_pos (Nat.le_refl 0), if_pos (show g ≤ g - 0 by omega), ite_self]
      exact ⟨bg, un, t, c, m, rfl, rfl, a3, a4, a1, a2⟩
    · rw [if_neg (by omega), if_neg (by omega), if_neg (by omega)]
      simp only [lt9]
      have f5 : FrB c0 (sI c 1 0 5 0) q b f (f + g) := ⟨fun a i j x1 x2 x3 x4 => (gn_I (by omega)).trans (a1.1 a i j x1 x2 x3 x4), a1.2⟩
      have s5 : SC (sI c 1 0 5 0) q b f g lat K D bg un t left := a3
      have v5 : MV (sI c 1 0 5 0) f g K bg un t 0 left := ⟨gs_I _ _ _ _ _, fun u => ⟨fun hu => by omega, fun ⟨x, x1, x2, x3, _⟩ => by have := a5 x x1 x2; omega⟩, by omega⟩
      obtain ⟨bg2, un2, left2, mv2, c2, p1, p2, p3, p4, p5, p6, p7⟩ := pass (n := n) (by omega) hq hE0 hR hh n 0 left 0 bg un (sI c 1 0 5 0) m f5 a2 s5 v5 a4 (fun x hx => by omega) (Nat.zero_le _) (by omega)
      obtain ⟨m2, g1, g2, g3⟩ := p2 n (by omega)
      rw [nI_0] at p1
      rw [p1, bd_s, g1, bd_s]
      dsimp only
      rw [show nI t + 1 = nI (t + 1) from nI_1 _]
      have hE2 := hE0.ag p5.fl g2.fl
      have t1 : t + 1 ≤ 4 * (g - left2) := by
        by_cases y : left2 = 0
        · omega
        · obtain ⟨-, -, -, s4, s5, s6, s7⟩ := p3
          by_cases w : ∃ x, f ≤ x ∧ x < f + g ∧ bg2 x ≠ 0 ∧ t < bg2 x - 1 + lat (K x)
          · obtain ⟨x, x1, x2, x3, x4⟩ := w
            have := s6 x x1 x2 x3
            omega
          · exfalso
            have all : ∀ x, f ≤ x → x < f + g → bg2 x ≠ 0 → bg2 x - 1 + lat (K x) ≤ t := fun x x1 x2 x3 => Nat.le_of_not_lt (fun v => w ⟨x, x1, x2, x3, v⟩)
            obtain ⟨o, o1, o2, o3, o4⟩ := cq_ex (P := fun x => decide (bg2 x = 0)) (lo := f) (f + g) (by omega)
            have o3' : bg2 o = 0 := of_decide_eq_true o3
            have rd : rdy f lat K D bg2 t o := fun x x1 x2 _ => by
              have := of_decide_eq_false (o4 x x1 x2)
              exact ⟨this, all x x1 (by omega) this⟩
            have k4 := hE2.lt4 o
            by_cases k3 : K o = 3
            · refine p6 o o1 o2 mv2 ⟨o3', rd, ?_⟩
              rw [k3]
              exact p4.fu (by omega) hE2.2.1.2.2 (fun o h1 h2 => (g3.2 o h1 h2).2.1)
            · exact p6 o o1 o2 0 ⟨o3', rd, Or.inr ⟨0, rfl, by omega, Or.inr (hE2.2.1.2.1 (K o) (by omega)).2.2.1, fun x x1 x2 x3 _ _ => all x x1 x2 x3, fun v hv => by omega⟩⟩
      have s6 : SC c2 q b f g lat K D bg2 un2 (t + 1) left2 := by
        obtain ⟨s1, s2, s3, s4, s5, s6, s7⟩ := p3
        refine ⟨fun o o1 o2 => ?_, s2, s3, s4, s5, s6, t1⟩
        obtain ⟨u1, u2, u3⟩ := s1 o o1 o2
        exact ⟨u1, by omega, u3⟩
      exact ih (t + 1) left2 bg2 un2 c2 m2 p5 g2 s6 ⟨by have := g3.1; omega, fun o o1 o2 => ⟨(g3.2 o o1 o2).1, by have := (g3.2 o o1 o2).2.1; omega, (g3.2 o o1 o2).2.2⟩⟩ (fun o o1 o2 => (g3.2 o o1 o2).2.1) (by omega)
theorem m_lenL {bg un : Nat → Nat} {t : Nat} (hE : EV c m q cnt B b f g lat mn K D) (hb : b < 175) (ht : t ≤ 900) (hB : BG m f g bg un t) (h0 : ∀ o, f ≤ o → o < f + g → bg o ≠ 0) : ∀ (k x E : Nat) (m' : Mem), FrBlM m m' b f f → MX E bg (fun x => lat (K x)) (fun y => f ≤ y ∧ y < x) → gI m' 143 0 b = nI (max 1 E) → f ≤ x → x ≤ f + g → f + g - x < k →
    ∃ m2 E', M_layBlock_L168 n (nI b) (nI f) (nI (f + g)) k (nI x) m' = some m2 ∧ FrBlM m m2 b f f ∧ MX E' bg (fun x => lat (K x)) (fun y => f ≤ y ∧ y < f + g) ∧ gI m2 143 0 b = nI (max 1 E') := by
  obtain ⟨e1, e2, e3⟩ := hE.size
  have t20 := hB.1
  intro k
  induction k with
  | zero => intro x E m' a1 a2 a3 a4 a5 a6; omega
  | succ k ih =>
    intro x E m' a1 a2 a3 a4 a5 a6
    have hE' := hE.ag FrL.rf a1.fl
    have hB' : BG m' f g bg un t := ⟨t20, fun o o1 o2 => by
      rw [a1.1 140 0 o (by omega) (by omega), a1.1 141 0 o (by omega) (by omega)]
      exact hB.2 o o1 o2⟩
    have q1 : (nI (f + g) ≤ nI x) = (f + g ≤ x) := q_le (by omega) (by omega)
    have f0 : (nI f < 0) = False := q_ltm (by omega)
    rw [M_layBlock_L168]
    simp only [q1, f0, if_false]
    by_cases z : f + g ≤ x
    · rw [if_pos z]
      have : x = f + g := by omega
      subst this
      exact ⟨m', E, rfl, a1, a2, a3⟩
    · have b0 := h0 x a4 (by omega)
      have bt := (hB.2 x a4 (by omega)).2.1
      have l4 := hE.lat4 x
      have lE := a2.1
      rw [if_neg z, hE'.mend hB' a4 (by omega) b0, bd_s, ix_nI (N := 800) (show b < 800 by omega) (by decide), bd_s, a3]
      have q2 : (nI (bg x - 1 + lat (K x)) ≤ nI (max 1 E)) = (bg x - 1 + lat (K x) ≤ max 1 E) := q_le (by omega) (by omega)
      simp only [q2, lt9, bd_s]
      rw [show nI x + 1 = nI (x + 1) from nI_1 _]
      have ex := a2.ext b0 (by omega) a4
      by_cases y : bg x - 1 + lat (K x) ≤ max 1 E
      · rw [if_pos y, a3]
        refine ih (x + 1) (max E (bg x - 1 + lat (K x))) _ (a1.tr ⟨fun a i j x1 x2 => gn_I (by omega), rfl⟩) ex ?_ (by omega) (by omega) (by omega)
        rw [gs_I]
        congr 1
        omega
      · rw [if_neg y]
        refine ih (x + 1) (max E (bg x - 1 + lat (K x))) _ (a1.tr ⟨fun a i j x1 x2 => gn_I (by omega), rfl⟩) ex ?_ (by omega) (by omega) (by omega)
        rw [gs_I]
        congr 1
        omega
theorem lay_block (hn : 2000 ≤ n) (hq : q < 2) (hb : b < 175) (hP : PR c m q cnt B) (hL : LatR c m lat mn) (hG : RG c q cnt b f g) :
    ∃ c1 c2 c3 c4 m2 st cy, Ly_prepare n q (175 * q + b) c = some c1 ∧ Ly_measureHeights n q (175 * q + b) c1 = some c2 ∧ Ly_rank n q (175 * q + b) c2 = some c3 ∧ Ly_beginAll n q (175 * q + b) c3 = some c4 ∧ M_layBlock n (nI b) m = some m2 ∧ LB c4 m2 q b f g (lt_ c q lat) st cy ∧ (∀ o, f ≤ o → o < f + g → gI c4 3 (200 * q + o) 11 = -1 ∧ gI c4 3 (200 * q + o) 14 = -1) ∧ (∀ i, i < 200 → gI c4 26 0 i = -1) ∧ FrBl c c4 q b f (f + g) ∧ FrBlM m m2 b f (f + g) := by
  have hcnt := hP.1.2.2.2.2.1
  have hfg := hG.2.2.1
  obtain ⟨c1, a1, P1, P2, P3, P4, P5⟩ := r_prepare (n := n) (by omega) hq hP hL hG
  have fl1 : FrBl c c1 q b f (f + g) := ⟨fun a i j x1 x2 x3 x4 x5 => P4 a i j (by omega) x3 x4, fun k i j _ => by unfold gR; rw [P5], by unfold gL; rw [P5]⟩
  have hG1 := hG.ag fl1.fl
  have z12 : ∀ j, f ≤ j → j < f + g → gI c1 3 (200 * q + j) 12 = nI (cq (fun i => bh c q j i) (f + g) j) ∧ gI c1 3 (200 * q + j) 7 = nI (lt_ c q lat j) := fun j j1 j2 => by
    obtain ⟨u1, u2, u3, u4, u5, u6⟩ := P1 j j1 j2
    rw [u4, cq_none _ j (f + g) (by omega)]
    exact ⟨rfl, u1⟩
  obtain ⟨c2, mh, b1', b2, b3, b4, b5, b6, b7⟩ := h_out (n := n) (by omega) hq hP hL hG hG1 n (f + g) c1 m fl1.fl FrLM.rf (by omega) (Nat.le_refl _) (fun j h1 h2 => by omega) (fun j h1 h2 => by omega) z12 (by omega)
  have mh1 : Ly_measureHeights n q (175 * q + b) c1 = some c2 := by
    rw [Ly_measureHeights, hG1.1, hG1.2.1, nI_add, pm_sub, b1', bd_s]
  have fl2 : FrBl c c2 q b f (f + g) := fl1.tr ⟨fun a i j x1 x2 x3 x4 x5 => b6.1 a i j (by omega), fun k i j _ => by unfold gR; rw [b6.2], by unfold gL; rw [b6.2]⟩
  have hG2 := hG.ag fl2.fl
  obtain ⟨h, hh⟩ : ∃ h : Nat → Nat, ∀ o, f ≤ o → o < f + g → gI c2 3 (200 * q + o) 8 = nI (h o) ∧ h o < 2000 := by
    have : ∀ o, ∃ v : Nat, f ≤ o → o < f + g → gI c2 3 (200 * q + o) 8 = nI v ∧ v < 2000 := fun o => by
      by_cases z : f ≤ o ∧ o < f + g
      · obtain ⟨-, v, v1, v2⟩ := b3 o z.1 z.2
        exact ⟨v, fun _ _ => ⟨v2, by omega⟩⟩
      · exact ⟨0, fun w1 w2 => absurd ⟨w1, w2⟩ z⟩
    exact ⟨fun o => (this o).choose, fun o => (this o).choose_spec⟩
  obtain ⟨c3, r, d1, d2, d3⟩ := r_rankL (n := n) (c := c2) (h := h) (b := b) (by omega) hq ⟨hG2.1, hG2.2.1, by omega⟩ hh n 0 c2 (fun _ => 0) ⟨rfl, fun _ _ _ _ => rfl, rfl⟩ (Nat.zero_le _) ⟨fun x hx => by omega, fun x y h1 h2 => by omega, fun o h1 h2 => by omega⟩ (by omega)
  rw [nI_0] at d1
  have rk1 : Ly_rank n q (175 * q + b) c2 = some c3 := by rw [Ly_rank, d1, bd_s]
  have i3 : ∀ a i j, gI c3 a i j = gI c2 a i j := fun a i j => d2.i a i j
  have fl3 : FrBl c c3 q b f (f + g) := fl2.tr ⟨fun a i j _ _ _ _ _ => i3 a i j, d2.2.1, d2.2.2⟩
  -- the state before the first cycle
  have fl5 : FrBl c (sI c3 0 (175 * q + b) 6 1) q b f (f + g) := fl3.tr ⟨fun a i j x1 x2 x3 x4 x5 => gn_I (by omega), fun _ _ _ _ => rfl, rfl⟩
  have g5 : ∀ a i j, a ≠ 0 → gI (sI c3 0 (175 * q + b) 6 1) a i j = gI c2 a i j := fun a i j ha => (gn_I (by omega)).trans (i3 a i j)
  have c2p : ∀ a i j, ¬ (a = 3 ∧ (j = 8 ∨ j = 12)) → gI c2 a i j = gI c1 a i j := fun a i j ha => b6.1 a i j (by omega)
  have f11 : ∀ o, f ≤ o → o < f + g → gI (sI c3 0 (175 * q + b) 6 1) 3 (200 * q + o) 11 = -1 ∧ gI (sI c3 0 (175 * q + b) 6 1) 3 (200 * q + o) 14 = -1 := fun o h1 h2 => by
    obtain ⟨u1, u2, u3, u4, u5, u6⟩ := P1 o h1 h2
    rw [g5 3 _ _ (by decide), g5 3 _ _ (by decide), c2p 3 _ 11 (by omega), c2p 3 _ 14 (by omega)]
    exact ⟨u3, u6⟩
  have f26 : ∀ i, i < 200 → gI (sI c3 0 (175 * q + b) 6 1) 26 0 i = -1 := fun i hi => by
    rw [g5 26 _ _ (by decide), c2p 26 _ _ (by omega)]
    exact P3 i hi
  refine ⟨c1, c2, c3, ?_⟩
  rw [Ly_beginAll]
  simp only [lt9]
  rw [M_layBlock, m_first (by omega) hP hG, m_behind (by omega) hP hG, bd_s, bd_s]
  simp only [lt9]
  by_cases z : g = 0
  · subst z
    have hG5 := hG.ag fl5.fl
    have hL10 : Ly_beginAll_L10 n (175 * q + b) q n 0 0 (sI c3 0 (175 * q + b) 6 1) = some (sI c3 0 (175 * q + b) 6 1) := by
      obtain ⟨k, hk⟩ : ∃ k, n = k + 1 := ⟨n - 1, by omega⟩
      rw [hk, Ly_beginAll_L10, if_neg (by decide), hG5.2.1, if_pos (show nI 0 ≤ 0 by decide)]
    rw [if_pos rfl, if_pos rfl, hL10, bd_s]
    have h17 : M_layBlock_L17 n (-1) (nI 0) n (nI 0 - 1) m = some m := by
      obtain ⟨k, hk⟩ : ∃ k, n = k + 1 := ⟨n - 1, by omega⟩
      rw [hk, M_layBlock_L17, if_neg (show ¬ nI 0 - 1 < (-1 : Int32) by decide), if_pos (by decide)]
    have h131 : M_layBlock_L131 n (nI b) n 0 0 m = some m := by
      obtain ⟨k, hk⟩ : ∃ k, n = k + 1 := ⟨n - 1, by omega⟩
      rw [hk, M_layBlock_L131, if_pos (by decide)]
    have h168 : M_layBlock_L168 n (nI b) (-1) (nI 0) n (-1) (sI m 143 0 b 1) = some (sI m 143 0 b 1) := by
      obtain ⟨k, hk⟩ : ∃ k, n = k + 1 := ⟨n - 1, by omega⟩
      rw [hk, M_layBlock_L168, if_neg (show ¬ nI 0 ≤ (-1 : Int32) by decide), if_pos (by decide)]
    rw [h17, bd_s, if_neg (show ¬ (0 : Int32) ≤ -1 by decide), h131, bd_s, ix_nI (N := 800) (show b < 800 by omega) (by decide), bd_s, h168, bd_s]
    exact ⟨_, _, fun _ => 0, 1, a1, mh1, rk1, rfl, rfl, ⟨⟨gs_I _ _ _ _ _, gs_I _ _ _ _ _, by decide, by decide⟩, fun o h1 h2 => by omega⟩, f11, f26, fl5, ⟨fun a i j x1 x2 => gn_I (by omega), rfl⟩⟩
  · have g0 : 0 < g := by omega
    have hP5 := hP.ag fl5.fl b7.fl
    have hL5 := hL.ag fl5.fl b7.fl
    have hG5 := hG.ag fl5.fl
    have hE5 : EV (sI c3 0 (175 * q + b) 6 1) mh q cnt B b f g lat mn (fun i => kn (gI c 3 (200 * q + i) 1)) (bh c q) := ⟨hP5, hL5, hG5, g0, fun i j => bh_ag fl5.fl, fun i => by rw [fl5.1 3 _ 1 (by omega) (by omega) (by decide) (by decide) (by omega)]⟩
    have hR5 : RK h (sI c3 0 (175 * q + b) 6 1) q f g r := d3
    have s5 : SC (sI c3 0 (175 * q + b) 6 1) q b f g lat (fun i => kn (gI c 3 (200 * q + i) 1)) (bh c q) (fun _ => 0) (fun _ => 0) 0 g := by
      refine ⟨fun o h1 h2 => ?_, fun k u hk hu => ⟨0, ?_, by decide, fun y => ⟨fun _ x _ hx => absurd rfl hx, fun _ => Nat.zero_le _⟩⟩, ⟨0, gs_I _ _ _ _ _, by decide, fun y => ⟨fun _ x _ hx => absurd rfl hx, fun _ => Nat.zero_le _⟩⟩, (cq_all f g).symm, Nat.le_refl _, fun x _ _ hx => absurd rfl hx, Nat.zero_le _⟩
      · obtain ⟨u1, u2, u3, u4, u5, u6⟩ := P1 o h1 h2
        refine ⟨?_, Nat.zero_le _, fun hx => absurd rfl hx, ?_, ?_, 0, ?_, by decide, fun y => ⟨fun _ x _ hx => absurd rfl hx, fun _ => Nat.zero_le _⟩⟩
        · rw [g5 3 _ _ (by decide), c2p 3 _ 9 (by omega)]; exact u2
        · rw [g5 3 _ _ (by decide), c2p 3 _ 7 (by omega)]; exact u1
        · rw [g5 3 _ _ (by decide), b5 o h1 h2]
          congr 1
          refine cq_cg _ (fun x x1 x2 => ?_)
          rw [decide_eq_true rfl, Bool.and_true]
        · rw [g5 3 _ _ (by decide), c2p 3 _ 13 (by omega)]; exact u5
      · rw [g5 25 _ _ (by decide), c2p 25 _ _ (by omega)]; exact P2 _ (by omega)
    have hbg : BG mh f g (fun _ => 0) (fun _ => 0) 0 := ⟨by decide, fun o h1 h2 => ⟨b4 o h1 h2, Nat.zero_le _, fun hx => absurd rfl hx⟩⟩
    have hh5 : ∀ o, f ≤ o → o < f + g → gI mh 139 0 o = nI (h o) ∧ h o < 2000 := fun o h1 h2 => by
      rw [(b3 o h1 h2).1]
      exact hh o h1 h2
    obtain ⟨bg, un, t, c4, m4, p1, p2, p3, p4, p5, p6⟩ := beg_all (n := n) hn hq hE5 hR5 hh5 n 0 g (fun _ => 0) (fun _ => 0) (sI c3 0 (175 * q + b) 6 1) mh FrB.rf ⟨fun _ _ _ _ => rfl, rfl⟩ s5 hbg (fun o _ _ => Nat.zero_le _) (by omega)
    rw [nI_0, show nI (g - g) = 0 from by rw [Nat.sub_self]; rfl] at p1
    rw [nI_0] at p2
    have all0 : ∀ o, f ≤ o → o < f + g → bg o ≠ 0 := fun o h1 h2 => of_decide_eq_false ((cq_0 (P := fun x => decide (bg x = 0)) (lo := f) (f + g)).mp p3.2.2.2.1.symm o h1 h2)
    have tb : t ≤ 900 := by have := p3.2.2.2.2.2.2; omega
    have hE4 := hE5.ag p5.fl p6.fl
    have hE6 := hE4.ag FrL.rf (FrLM.upd (m := m4) (k := 143) (i := 0) (j := b) (v := 1) (by omega))
    have hB6 : BG (sI m4 143 0 b 1) f g bg un t := p4
    obtain ⟨m5, E, q1, q2, q3, q4⟩ := m_lenL (n := n) hE6 hb tb hB6 all0 n f 0 (sI m4 143 0 b 1) ⟨fun _ _ _ _ _ => rfl, rfl⟩ ⟨by decide, fun y => ⟨fun _ x hx => by omega, fun _ => Nat.zero_le _⟩⟩ (gs_I _ _ _ _ _) (Nat.le_refl _) (by omega) (by omega)
    rw [if_neg z, if_neg z, pm_sub, b2 g0, bd_s, if_pos (show (0 : Int32) ≤ nI f from by
      have : (nI 0 ≤ nI f) = (0 ≤ f) := q_le (by decide) (by omega)
      rw [nI_0] at this
      rw [this]
      exact Nat.zero_le _), pk_sub (by omega), show f + g - f = g by omega, p2, bd_s, p1, bd_s, ix_nI (N := 800) (show b < 800 by omega) (by decide), bd_s, q1, bd_s]
    obtain ⟨S1, S2, ⟨E2, S3, S4⟩, S5⟩ := p3
    have EE : E = E2 := q3.uq S4
    subst EE
    have Eb : E ≤ 800 := (q3.2 800).mpr (fun x hx h1 => by
      have := S5.2.2.1 x hx.1 hx.2 h1
      dsimp only at this ⊢
      omega)
    refine ⟨c4, m5, fun o => bg o - 1, max 1 E, a1, mh1, rk1, rfl, rfl, ⟨⟨S3, q4, by omega, by omega⟩, fun o h1 h2 => ?_⟩, fun o h1 h2 => ?_, fun i hi => ?_, fl5.tr p5.bl, ?_⟩
    · obtain ⟨s, hs⟩ : ∃ s, bg o = s + 1 := ⟨bg o - 1, by have := all0 o h1 h2; omega⟩
      obtain ⟨u1, u2, u3, u4, u5⟩ := S1 o h1 h2
      obtain ⟨w1, w2, w3⟩ := p4.2 o h1 h2
      have l4 := hE4.lat4 o
      have le := (q3.2 E).mp (Nat.le_refl _) o ⟨h1, h2⟩ (all0 o h1 h2)
      have m5m : ∀ a j, a ≠ 143 → gI m5 a 0 j = gI m4 a 0 j := fun a j ha => (q2.1 a 0 j (by omega) (by omega)).trans (gn_I (by omega))
      refine ⟨?_, ?_, ?_, u4, l4.1, ?_, ?_, un o, (u3 (all0 o h1 h2)).2, (u3 (all0 o h1 h2)).1⟩
      · rw [u1, hs, pm_s]; dsimp only; rw [hs]; rfl
      · rw [m5m 140 _ (by decide), w1, hs, pm_s]; dsimp only; rw [hs]; rfl
      · show bg o - 1 + lat (kn (gI c 3 (200 * q + o) 1)) ≤ max 1 E
        dsimp only at le
        omega
      · rw [m5m 139 _ (by decide), p6.1 139 0 o (by omega), (b3 o h1 h2).1, p5.1 3 _ 8 (by omega) (by omega) (by decide) (by omega), g5 3 _ 8 (by decide)]
      · rw [m5m 141 _ (by decide), (w3 (all0 o h1 h2)).1, (u3 (all0 o h1 h2)).1]
    · rw [p5.1 3 _ 11 (by omega) (by omega) (by decide) (by omega), p5.1 3 _ 14 (by omega) (by omega) (by decide) (by omega)]
      exact f11 o h1 h2
    · rw [p5.1 26 _ _ (by omega) (by omega) (by decide) (by omega)]
      exact f26 i hi
    · refine ⟨fun a i j x1 x2 => ?_, ?_⟩
      · rw [q2.1 a i j (by omega) x2, gn_I (by omega), p6.1 a i j (by omega), b7.1 a i j (by omega)]
      · exact q2.2.trans (p6.2.trans b7.2)
end LO
