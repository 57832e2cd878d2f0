/-! ===== PURE: each call, by both sides: those that may throw ===== -/
theorem out_ne {a : Int32} {N : Nat} (hN : N < 2 ^ 31) (h : a < 0 ∨ ¬ a ≤ nI N) (k : Nat) (hk : k ≤ N) : ¬ a = nI k := by
  intro e
  subst e
  rcases h with h | h
  · exact nI_pos (by omega) h
  · exact h (by rw [q_le (by omega) (by omega)]; exact hk)
theorem lt1 {a : Int32} (h : ¬ a < 1) : ¬ a < 0 := fun w => h (by
  rw [Int32.lt_iff_toInt_lt] at w ⊢
  have e0 : (0 : Int32).toInt = 0 := by decide
  have e1 : (1 : Int32).toInt = 1 := by decide
  omega)
theorem rng2 {a : Int32} {N : Nat} (h0 : ¬ a < 0) (h1 : a < nI N) (hN : N < 2 ^ 31) : ∃ k, k < N ∧ a = nI k := by
  obtain ⟨k, k1, rfl⟩ := rng h0 (Int32.le_of_lt h1) hN
  rw [q_lt (by omega) hN] at h1
  exact ⟨k, h1, rfl⟩
section CL2
variable {n q cnt B : Nat} {c m : Mem} {lat mn : Nat → Nat} {T : Nat → Nat} {len : Nat}
/-- units, where it is allowed -/
theorem u_ok {k x y : Nat} (hn : 6000 ≤ n) (hk : k < 3) (hx : 1 ≤ x ∧ x ≤ 4) (hy : 1 ≤ y ∧ y ≤ 4) (hI : INV c m T len q cnt B lat mn) : ∃ g2 g4 g6 m10, Ly_supply n (nI k) (nI x) (nI y) c = some g2 ∧ gR g2 9 0 4 = some q ∧ Ly_lay n q g2 = some g4 ∧ gR g4 9 0 4 = some q ∧ Mc_begin n q g4 = some g6 ∧ M_lay n (sI (sI m 137 0 k (nI x)) 138 0 k (nI y)) = some m10 ∧ gI m10 10 0 0 = gI m 10 0 0 ∧ INVL g6 m10 := by
  obtain ⟨⟨t1, t2, t3⟩, h2, hP, hF, hS, hV, hC⟩ := hI
  have hs : Ly_supply n (nI k) (nI x) (nI y) c = some (sI (sI c 23 0 k (nI x)) 24 0 k (nI y)) := by
    rw [Ly_supply, ix_nI (N := 3) hk (by decide), bd_s]
    simp only [lt9]
    rw [ix_nI (N := 4) (show k < 4 by omega) (by decide), bd_s]
  have fc : ∀ a i j, a ≠ 23 → a ≠ 24 → gI (sI (sI c 23 0 k (nI x)) 24 0 k (nI y)) a i j = gI c a i j := fun a i j g1 g2 => by rw [gn_I (by omega), gn_I (by omega)]
  have fm : ∀ a i j, a ≠ 137 → a ≠ 138 → gI (sI (sI m 137 0 k (nI x)) 138 0 k (nI y)) a i j = gI m a i j := fun a i j g1 g2 => by rw [gn_I (by omega), gn_I (by omega)]
  obtain ⟨p1, ⟨l1, l2, l3⟩, p3⟩ := hP
  have pr : PR (sI (sI c 23 0 k (nI x)) 24 0 k (nI y)) (sI (sI m 137 0 k (nI x)) 138 0 k (nI y)) q cnt B := by
    obtain ⟨⟨w1, w2, w3, w4, w5, w6⟩, w7⟩ := p1
    refine ⟨⟨w1, w2, (fm 10 0 25 (by decide) (by decide)).trans w3, (fm 10 0 31 (by decide) (by decide)).trans w4, w5, w6⟩, ?_⟩
    have := w7.ag (FrL.rf (c := c)) (fun i _ => ⟨fm 126 0 i (by decide) (by decide), fm 129 0 i (by decide) (by decide), fm 130 0 i (by decide) (by decide)⟩) (fun i _ => ⟨fm 127 0 i (by decide) (by decide), fm 128 0 i (by decide) (by decide)⟩) (fun i _ => ⟨fm 132 0 i (by decide) (by decide), fm 133 0 i (by decide) (by decide), fm 134 0 i (by decide) (by decide), fm 135 0 i (by decide) (by decide), fm 136 0 i (by decide) (by decide)⟩)
    exact this
  have lr : LatR (sI (sI c 23 0 k (nI x)) 24 0 k (nI y)) (sI (sI m 137 0 k (nI x)) 138 0 k (nI y)) (upN lat k y) (upN mn k x) := by
    refine ⟨fun i hi => ?_, fun i hi => ?_, by rw [upN_n (by omega)]; exact l3⟩
    · by_cases e : i = k
      · subst e
        rw [gs_I, gs_I, upN_s]
        exact ⟨rfl, rfl, hy⟩
      · rw [gn_I (by omega), gn_I (by omega), gn_I (by omega), gn_I (by omega), upN_n e]
        exact l1 i hi
    · by_cases e : i = k
      · subst e
        rw [gn_I (by omega), gs_I, gn_I (by omega), gs_I, upN_s]
        exact ⟨rfl, rfl, hx⟩
      · rw [gn_I (by omega), gn_I (by omega), gn_I (by omega), gn_I (by omega), upN_n e]
        exact l2 i hi
  obtain ⟨c1, c2, m2, e1, e2, e3, e4, e5, e6, e7⟩ := relay (n := n) (by omega) h2.1 pr lr
  have r4 : gR c1 9 0 4 = some q := by
    obtain ⟨c8', m8, y1, y2, y3, y4, y5⟩ := lay_all (n := n) (by omega) h2.1 pr lr
    have : c8' = c1 := Option.some.inj (y1.symm.trans e1)
    subst this
    rw [y3.2.1 9 0 4 (by decide)]
    exact h2.2.1
  have gC : ∀ a i j, (a = 6 ∨ a = 7 ∨ a = 20 ∨ a = 28 ∨ a = 29) → gI c2 a i j = gI c a i j := fun a i j ha => (e6.1 a i j (by omega) (by omega) (by omega) (by omega) (by omega) (by omega)).trans (fc a i j (by omega) (by omega))
  have gM : ∀ a i j, ¬ (137 ≤ a ∧ a ≤ 143) → a ≠ 150 → ¬ (a = 10 ∧ j = 47) → gI m2 a i j = gI m a i j := fun a i j h1 h2 h3 => (e7 a i j (by omega) h2 h3).trans (fm a i j (by omega) (by omega))
  refine ⟨_, c1, c2, m2, hs, h2.2.1, e1, r4, e2, e3, gM 10 0 0 (by omega) (by omega) (by omega), T, len, q, cnt, B, _, _, ⟨t1, ⟨(gC 6 0 1 (by omega)).trans t2.1, fun j hj => (gC 20 0 j (by omega)).trans (t2.2 j hj)⟩, ⟨(gM 10 0 2 (by omega) (by omega) (by omega)).trans t3.1, fun j hj => (gM 101 0 j (by omega) (by omega) (by omega)).trans (t3.2 j hj)⟩⟩, ⟨h2.1, (e6.2 9 0 4 (by decide) (by decide)).trans h2.2.1, (e6.2 9 0 5 (by decide) (by decide)).trans h2.2.2⟩, e4, ⟨?_, ?_⟩, e5, fun v hv => ?_, fun i hi => ?_⟩
  · rw [gC 7 0 5 (by omega), gM 10 0 3 (by omega) (by omega) (by omega)]; exact hF.1
  · rw [gC 7 0 6 (by omega), gM 10 0 4 (by omega) (by omega) (by omega)]; exact hF.2
  · rw [gC 28 0 v (by omega), gM 144 0 v (by omega) (by omega) (by omega)]; exact hV v hv
  · rw [gC 29 0 i (by omega), gM 145 0 i (by omega) (by omega) (by omega)]; exact hC i hi
theorem i_units (hn : 6000 ≤ n) (a1 a2 a3 : Int32) (h : INVL c m) : (∃ c' m', K_units n a1 a2 a3 c = some c' ∧ M_units n a1 a2 a3 m = some m' ∧ gI m' 10 0 0 = 0 ∧ INVL c' m') ∨ (K_units_T n a1 a2 a3 c = some sIAE ∧ ∃ m', M_units n a1 a2 a3 m = some m' ∧ gI m' 10 0 0 = 1 ∧ INVL c m') := by
  obtain ⟨T, len, q, cnt, B, lat, mn, hI⟩ := h
  rw [K_units, K_units_T, M_units, Ly_allows]
  simp only [lt9]
  have thr : gI (sI m 10 0 0 1) 10 0 0 = 1 ∧ INVL c (sI m 10 0 0 1) := ⟨gs_I _ _ _ _ _, T, len, q, cnt, B, lat, mn, hI.thr 1⟩
  rw [show gI (sI m 10 0 0 1) 10 0 0 = 1 from gs_I _ _ _ _ _, show gI (sI m 10 0 0 0) 10 0 0 = 0 from gs_I _ _ _ _ _]
  simp only [show ¬ (1 : Int32) = 0 by decide, if_false, if_true]
  by_cases y1 : a1 < 0
  · rw [if_pos y1, if_pos y1]
    exact Or.inr ⟨rfl, _, rfl, thr⟩
  · rw [if_neg y1, if_neg y1]
    by_cases y2 : (2 : Int32) < a1
    · rw [if_pos y2, if_pos y2]
      exact Or.inr ⟨rfl, _, rfl, thr⟩
    · rw [if_neg y2, if_neg y2]
      by_cases y3 : a2 < 1
      · rw [if_pos y3, if_pos y3]
        exact Or.inr ⟨rfl, _, rfl, thr⟩
      · rw [if_neg y3, if_neg y3]
        by_cases y4 : (4 : Int32) < a2
        · rw [if_pos y4, if_pos y4]
          exact Or.inr ⟨rfl, _, rfl, thr⟩
        · rw [if_neg y4, if_neg y4]
          by_cases y5 : a3 < 1
          · rw [if_pos y5, if_pos y5]
            exact Or.inr ⟨rfl, _, rfl, thr⟩
          · rw [if_neg y5, if_neg y5]
            obtain ⟨k, k1, rfl⟩ := rng (N := 2) y1 (Int32.not_lt.mp y2) (by decide)
            obtain ⟨x, x1, rfl⟩ := rng (N := 4) (lt1 y3) (Int32.not_lt.mp y4) (by decide)
            have x0 : 1 ≤ x := by
              have : (nI x < nI 1) = (x < 1) := q_lt (by omega) (by decide)
              have y3' : ¬ nI x < nI 1 := y3
              rw [this] at y3'
              omega
            have ok : ∀ y, 1 ≤ y → y ≤ 4 → a3 = nI y → (∃ c' m', (Ly_supply n (nI k) (nI x) a3 c).bind (fun g2 => (gR g2 9 0 4).bind fun p3 => if p3 < 2 then (Ly_lay n p3 g2).bind fun g4 => (gR g4 9 0 4).bind fun p5 => if p5 < 2 then (Mc_begin n p5 g4).bind fun g6 => some g6 else none else none) = some c' ∧ (ix (nI k) 3).bind (fun j6 => (ix (nI k) 4).bind fun j8 => (M_lay n (sI (sI (sI m 10 0 0 0) 137 0 j6 (nI x)) 138 0 j8 a3)).bind fun g10 => some g10) = some m' ∧ gI m' 10 0 0 = 0 ∧ INVL c' m') := by
              intro y h1 h2 e
              subst e
              obtain ⟨g2, g4, g6, m10, e1, e2, e3, e4, e5, e6, e7, e8⟩ := u_ok (n := n) (k := k) (x := x) (y := y) hn (by omega) ⟨x0, x1⟩ ⟨h1, h2⟩ (hI.thr 0)
              refine ⟨g6, m10, ?_, ?_, e7.trans (gs_I _ _ _ _ _), e8⟩
              · rw [e1, bd_s, e2, bd_s, if_pos hI.2.1.1, e3, bd_s, e4, bd_s, if_pos hI.2.1.1, e5, bd_s]
              · rw [ix_nI (N := 3) (by omega) (by decide), bd_s, ix_nI (N := 4) (by omega) (by decide), bd_s, e6, bd_s]
            by_cases y6 : nI k = 0
            · rw [if_pos y6]
              by_cases y7 : (1 : Int32) < a3
              · rw [if_pos y7, bd_s, if_pos rfl, bd_s, if_pos rfl]
                right
                by_cases y8 : (4 : Int32) < a3
                · rw [if_pos y8]
                  exact ⟨rfl, _, rfl, thr⟩
                · rw [if_neg y8, if_pos y6, if_neg (fun w => by rw [w] at y7; exact absurd y7 (by decide))]
                  exact ⟨rfl, _, rfl, thr⟩
              · obtain ⟨y, z1, rfl⟩ := rng (N := 1) (lt1 y5) (Int32.not_lt.mp y7) (by decide)
                have y0 : 1 ≤ y := by
                  have : (nI y < nI 1) = (y < 1) := q_lt (by omega) (by decide)
                  have y5' : ¬ nI y < nI 1 := y5
                  rw [this] at y5'
                  omega
                have e1 : y = 1 := by omega
                subst e1
                rw [if_neg y7, bd_s, if_neg (show ¬ (1 : Int32) = 0 by decide), if_neg (show ¬ (4 : Int32) < nI 1 by decide), if_pos y6, if_pos (show nI 1 = 1 from rfl)]
                exact Or.inl (ok 1 (by decide) (by decide) rfl)
            · rw [if_neg y6]
              by_cases y8 : (4 : Int32) < a3
              · rw [if_pos y8, bd_s, if_pos rfl, bd_s, if_pos rfl, if_pos y8]
                exact Or.inr ⟨rfl, _, rfl, thr⟩
              · obtain ⟨y, z1, e⟩ := rng (N := 4) (lt1 y5) (Int32.not_lt.mp y8) (by decide)
                have y0 : 1 ≤ y := by
                  have : (nI y < nI 1) = (y < 1) := q_lt (by omega) (by decide)
                  have y5' : ¬ nI y < nI 1 := by rw [← e]; exact y5
                  rw [this] at y5'
                  omega
                rw [if_neg y8, bd_s, if_neg (show ¬ (1 : Int32) = 0 by decide), if_neg y8, if_neg y6]
                exact Or.inl (ok y y0 z1 e)
/-- set, get, poke, peek -/
theorem i_get (a1 : Int32) (h : INVL c m) : (∃ r m', K_get n a1 c = some r ∧ M_get n a1 m = some (r, m') ∧ gI m' 10 0 0 = 0 ∧ INVL c m') ∨ (K_get_T n a1 c = some sIOB ∧ ∃ b m', M_get n a1 m = some (b, m') ∧ gI m' 10 0 0 = 1 ∧ INVL c m') := by
  obtain ⟨T, len, q, cnt, B, lat, mn, hI⟩ := h
  rw [K_get, K_get_T, M_get]
  simp only [lt9]
  rw [show gI (sI m 10 0 0 1) 10 0 0 = 1 from gs_I _ _ _ _ _, show gI (sI m 10 0 0 0) 10 0 0 = 0 from gs_I _ _ _ _ _, if_neg (show ¬ (1 : Int32) ≤ 0 by decide), if_pos (show (0 : Int32) ≤ 0 by decide)]
  have thr : gI (sI m 10 0 0 1) 10 0 0 = 1 ∧ INVL c (sI m 10 0 0 1) := ⟨gs_I _ _ _ _ _, T, len, q, cnt, B, lat, mn, hI.thr 1⟩
  by_cases y1 : a1 < 0
  · rw [if_pos y1, if_pos y1, if_pos y1]
    exact Or.inr ⟨rfl, _, _, rfl, thr⟩
  · rw [if_neg y1, if_neg y1, if_neg y1]
    by_cases y2 : a1 < 8
    · obtain ⟨k, k1, rfl⟩ := rng2 (N := 8) y1 y2 (by decide)
      have q7 : (nI k ≤ 7) = (k ≤ 7) := q_le (b := 7) (by omega) (by decide)
      rw [if_pos y2, if_pos y2, if_pos (q7.mpr (by omega)), ix_nI (N := 8) k1 (by decide), bd_s, bd_s, show gI (sI m 10 0 0 0) 144 0 k = gI m 144 0 k from gn_I (by omega), ← hI.2.2.2.2.2.1 k k1]
      exact Or.inl ⟨_, _, rfl, rfl, gs_I _ _ _ _ _, T, len, q, cnt, B, lat, mn, hI.thr 0⟩
    · have y3 : ¬ a1 ≤ 7 := fun w => by
        obtain ⟨k, k1, rfl⟩ := rng (N := 7) y1 w (by decide)
        have : (nI k < nI 8) = (k < 8) := q_lt (by omega) (by decide)
        exact y2 (this.mpr (by omega))
      rw [if_neg y2, if_neg y2, if_neg y3]
      exact Or.inr ⟨rfl, _, _, rfl, thr⟩
theorem i_peek (a1 : Int32) (h : INVL c m) : (∃ r m', K_peek n a1 c = some r ∧ M_peek n a1 m = some (r, m') ∧ gI m' 10 0 0 = 0 ∧ INVL c m') ∨ (K_peek_T n a1 c = some sIOB ∧ ∃ b m', M_peek n a1 m = some (b, m') ∧ gI m' 10 0 0 = 1 ∧ INVL c m') := by
  obtain ⟨T, len, q, cnt, B, lat, mn, hI⟩ := h
  rw [K_peek, K_peek_T, M_peek]
  simp only [lt9]
  rw [show gI (sI m 10 0 0 1) 10 0 0 = 1 from gs_I _ _ _ _ _, show gI (sI m 10 0 0 0) 10 0 0 = 0 from gs_I _ _ _ _ _, if_neg (show ¬ (1 : Int32) ≤ 0 by decide), if_pos (show (0 : Int32) ≤ 0 by decide)]
  have thr : gI (sI m 10 0 0 1) 10 0 0 = 1 ∧ INVL c (sI m 10 0 0 1) := ⟨gs_I _ _ _ _ _, T, len, q, cnt, B, lat, mn, hI.thr 1⟩
  by_cases y1 : a1 < 0
  · rw [if_pos y1, if_pos y1, if_pos y1]
    exact Or.inr ⟨rfl, _, _, rfl, thr⟩
  · rw [if_neg y1, if_neg y1, if_neg y1]
    by_cases y2 : a1 < 16
    · obtain ⟨k, k1, rfl⟩ := rng2 (N := 16) y1 y2 (by decide)
      have q7 : (nI k ≤ 15) = (k ≤ 15) := q_le (b := 15) (by omega) (by decide)
      rw [if_pos y2, if_pos y2, if_pos (q7.mpr (by omega)), ix_nI (N := 16) k1 (by decide), bd_s, bd_s, show gI (sI m 10 0 0 0) 145 0 k = gI m 145 0 k from gn_I (by omega), ← hI.2.2.2.2.2.2 k k1]
      exact Or.inl ⟨_, _, rfl, rfl, gs_I _ _ _ _ _, T, len, q, cnt, B, lat, mn, hI.thr 0⟩
    · have y3 : ¬ a1 ≤ 15 := fun w => by
        obtain ⟨k, k1, rfl⟩ := rng (N := 15) y1 w (by decide)
        have : (nI k < nI 16) = (k < 16) := q_lt (by omega) (by decide)
        exact y2 (this.mpr (by omega))
      rw [if_neg y2, if_neg y2, if_neg y3]
      exact Or.inr ⟨rfl, _, _, rfl, thr⟩
theorem i_set (a1 a2 : Int32) (h : INVL c m) : (∃ r c' m', K_set n a1 a2 c = some (r, c') ∧ M_set n a1 a2 m = some (r, m') ∧ gI m' 10 0 0 = 0 ∧ INVL c' m') ∨ (K_get_T n a1 c = some sIOB ∧ ∃ b m', M_set n a1 a2 m = some (b, m') ∧ gI m' 10 0 0 = 1 ∧ INVL c m') := by
  obtain ⟨T, len, q, cnt, B, lat, mn, hI⟩ := h
  rw [K_set, K_get, K_get_T, M_set]
  simp only [lt9]
  rw [show gI (sI m 10 0 0 1) 10 0 0 = 1 from gs_I _ _ _ _ _, show gI (sI m 10 0 0 0) 10 0 0 = 0 from gs_I _ _ _ _ _, if_neg (show ¬ (1 : Int32) ≤ 0 by decide), if_pos (show (0 : Int32) ≤ 0 by decide)]
  have thr : gI (sI m 10 0 0 1) 10 0 0 = 1 ∧ INVL c (sI m 10 0 0 1) := ⟨gs_I _ _ _ _ _, T, len, q, cnt, B, lat, mn, hI.thr 1⟩
  by_cases y1 : a1 < 0
  · rw [if_pos y1, if_pos y1, if_pos y1]
    exact Or.inr ⟨rfl, _, _, rfl, thr⟩
  · rw [if_neg y1, if_neg y1, if_neg y1]
    by_cases y2 : a1 < 8
    · obtain ⟨k, k1, rfl⟩ := rng2 (N := 8) y1 y2 (by decide)
      have q7 : (nI k ≤ 7) = (k ≤ 7) := q_le (b := 7) (by omega) (by decide)
      have ix8 : ix (nI k) 8 = some k := ix_nI k1 (by decide)
      rw [if_pos y2, if_pos y2, if_pos (q7.mpr (by omega))]
      simp only [ix8, bd_s]
      rw [show gI (sI m 10 0 0 0) 144 0 k = gI m 144 0 k from gn_I (by omega), ← hI.2.2.2.2.2.1 k k1]
      obtain ⟨⟨t1, t2, t3⟩, h2, hP, hF, hS, hV, hC⟩ := hI.thr 0
      refine Or.inl ⟨_, _, _, rfl, rfl, (gn_I (by omega)).trans (gs_I _ _ _ _ _), T, len, q, cnt, B, lat, mn, ⟨t1, t2, (gn_I (by omega)).trans t3.1, fun j hj => (gn_I (by omega)).trans (t3.2 j hj)⟩, h2, hP.kp ⟨fun _ _ _ => rfl, fun _ _ _ => rfl, fun _ => rfl, fun _ => ⟨rfl, rfl⟩, hP.1.2.2.2⟩ ⟨fun a i j h1 h2 => gn_I (by omega), gn_I (by omega), gn_I (by omega)⟩, ⟨hF.1.trans (gn_I (by omega)).symm, hF.2.trans (gn_I (by omega)).symm⟩, ⟨hS.1, hS.2.1.trans (gn_I (by omega)).symm, hS.2.2.1, hS.2.2.2⟩, fun v hv => ?_, fun i hi => (hC i hi).trans (gn_I (by omega)).symm⟩
      by_cases e : v = k
      · subst e
        rw [gs_I, gs_I]
      · rw [gn_I (by omega), show gI (sI (sI m 10 0 0 0) 144 0 k a2) 144 0 v = gI (sI m 10 0 0 0) 144 0 v from gn_I (by omega)]
        exact hV v hv
    · have y3 : ¬ a1 ≤ 7 := fun w => by
        obtain ⟨k, k1, rfl⟩ := rng (N := 7) y1 w (by decide)
        have : (nI k < nI 8) = (k < 8) := q_lt (by omega) (by decide)
        exact y2 (this.mpr (by omega))
      rw [if_neg y2, if_neg y2, if_neg y3]
      exact Or.inr ⟨rfl, _, _, rfl, thr⟩
theorem i_poke (a1 a2 : Int32) (h : INVL c m) : (∃ r c' m', K_poke n a1 a2 c = some (r, c') ∧ M_poke n a1 a2 m = some (r, m') ∧ gI m' 10 0 0 = 0 ∧ INVL c' m') ∨ (K_peek_T n a1 c = some sIOB ∧ ∃ b m', M_poke n a1 a2 m = some (b, m') ∧ gI m' 10 0 0 = 1 ∧ INVL c m') := by
  obtain ⟨T, len, q, cnt, B, lat, mn, hI⟩ := h
  rw [K_poke, K_peek, K_peek_T, M_poke]
  simp only [lt9]
  rw [show gI (sI m 10 0 0 1) 10 0 0 = 1 from gs_I _ _ _ _ _, show gI (sI m 10 0 0 0) 10 0 0 = 0 from gs_I _ _ _ _ _, if_neg (show ¬ (1 : Int32) ≤ 0 by decide), if_pos (show (0 : Int32) ≤ 0 by decide)]
  have thr : gI (sI m 10 0 0 1) 10 0 0 = 1 ∧ INVL c (sI m 10 0 0 1) := ⟨gs_I _ _ _ _ _, T, len, q, cnt, B, lat, mn, hI.thr 1⟩
  by_cases y1 : a1 < 0
  · rw [if_pos y1, if_pos y1, if_pos y1]
    exact Or.inr ⟨rfl, _, _, rfl, thr⟩
  · rw [if_neg y1, if_neg y1, if_neg y1]
    by_cases y2 : a1 < 16
    · obtain ⟨k, k1, rfl⟩ := rng2 (N := 16) y1 y2 (by decide)
      have q7 : (nI k ≤ 15) = (k ≤ 15) := q_le (b := 15) (by omega) (by decide)
      have ix8 : ix (nI k) 16 = some k := ix_nI k1 (by decide)
      rw [if_pos y2, if_pos y2, if_pos (q7.mpr (by omega))]
      simp only [ix8, bd_s]
      rw [show gI (sI m 10 0 0 0) 145 0 k = gI m 145 0 k from gn_I (by omega), ← hI.2.2.2.2.2.2 k k1]
      obtain ⟨⟨t1, t2, t3⟩, h2, hP, hF, hS, hV, hC⟩ := hI.thr 0
      refine Or.inl ⟨_, _, _, rfl, rfl, (gn_I (by omega)).trans (gs_I _ _ _ _ _), T, len, q, cnt, B, lat, mn, ⟨t1, t2, (gn_I (by omega)).trans t3.1, fun j hj => (gn_I (by omega)).trans (t3.2 j hj)⟩, h2, hP.kp ⟨fun _ _ _ => rfl, fun _ _ _ => rfl, fun _ => rfl, fun _ => ⟨rfl, rfl⟩, hP.1.2.2.2⟩ ⟨fun a i j h1 h2 => gn_I (by omega), gn_I (by omega), gn_I (by omega)⟩, ⟨hF.1.trans (gn_I (by omega)).symm, hF.2.trans (gn_I (by omega)).symm⟩, ⟨hS.1, hS.2.1.trans (gn_I (by omega)).symm, hS.2.2.1, hS.2.2.2⟩, fun v hv => (hV v hv).trans (gn_I (by omega)).symm, fun i hi => ?_⟩
      by_cases e : i = k
      · subst e
        rw [gs_I, gs_I]
      · rw [gn_I (by omega), show gI (sI (sI m 10 0 0 0) 145 0 k a2) 145 0 i = gI (sI m 10 0 0 0) 145 0 i from gn_I (by omega)]
        exact hC i hi
    · have y3 : ¬ a1 ≤ 15 := fun w => by
        obtain ⟨k, k1, rfl⟩ := rng (N := 15) y1 w (by decide)
        have : (nI k < nI 16) = (k < 16) := q_lt (by omega) (by decide)
        exact y2 (this.mpr (by omega))
      rw [if_neg y2, if_neg y2, if_neg y3]
      exact Or.inr ⟨rfl, _, _, rfl, thr⟩
/-- run -/
theorem i_run (hn : 6000 ≤ n) (a1 : Int32) (h : INVL c m) : (∃ r c' m', K_run n a1 c = some (r, c') ∧ M_run n a1 m = some (r, m') ∧ gI m' 10 0 0 = 0 ∧ INVL c' m') ∨ (K_run_T n a1 c = some sIAE ∧ ∃ b m', M_run n a1 m = some (b, m') ∧ gI m' 10 0 0 = 1 ∧ INVL c m') := by
  obtain ⟨T, len, q, cnt, B, lat, mn, hI⟩ := h
  rw [K_run, K_run_T, M_run]
  simp only [lt9]
  have thr : ∃ b m', ((M_run_L22 n a1 n 0 (sI m 10 0 0 1)).bind fun r26 => some (r26.1, sL r26.2 10 0 (gL r26.2 10 0 + r26.1.toInt64))) = some (b, m') ∧ gI m' 10 0 0 = 1 ∧ INVL c m' := by
    have e : M_run_L22 n a1 n 0 (sI m 10 0 0 1) = some (0, sI m 10 0 0 1) := by
      obtain ⟨k, hk⟩ : ∃ k, n = k + 1 := ⟨n - 1, by omega⟩
      rw [hk, M_run_L22, if_neg (by rw [gs_I]; decide)]
    rw [e, bd_s]
    dsimp only
    obtain ⟨t1, h2, hP, hF, hS, hV, hC⟩ := hI.thr 1
    have e64 : ∀ v : Int64, v + (0 : Int32).toInt64 = v := fun v => by
      rw [show (0 : Int32).toInt64 = (0 : Int64) from rfl]
      exact Int64.add_zero v
    refine ⟨_, _, rfl, show gI (sI m 10 0 0 1) 10 0 0 = 1 from gs_I _ _ _ _ _, T, len, q, cnt, B, lat, mn, t1, h2, hP.kp ⟨fun _ _ _ => rfl, fun _ _ _ => rfl, fun _ => rfl, fun _ => ⟨rfl, rfl⟩, hP.1.2.2.2⟩ ⟨fun _ _ _ _ _ => rfl, rfl, rfl⟩, hF, ⟨hS.1, hS.2.1, hS.2.2.1, ?_⟩, hV, hC⟩
    rw [hS.2.2.2, gL_sL, if_pos ⟨rfl, rfl⟩, e64]
  by_cases y1 : a1 < 0
  · rw [if_pos y1, if_pos y1, if_pos y1]
    exact Or.inr ⟨rfl, thr⟩
  · rw [if_neg y1, if_neg y1, if_neg y1]
    by_cases y2 : a1 ≤ 5000
    · obtain ⟨N, k1, rfl⟩ := rng (N := 5000) y1 y2 (by decide)
      rw [if_pos y2, if_pos y2, if_pos y2]
      left
      obtain ⟨⟨t1, t2, t3⟩, h2, hP, hF, hS, hV, hC⟩ := hI.thr 0
      have R0 : RUN c (sI m 10 0 0 0) c (sI m 10 0 0 0) B := ⟨fun _ _ _ _ _ _ _ => rfl, rfl, fun _ _ _ _ _ _ _ => rfl, rfl, hV, hC, hS.2.1, hS.2.2.1⟩
      obtain ⟨d, c2, m2, e1, e2, r1, r2, r3, r4, r5, r6, r7, r8⟩ := advL (n := n) hn k1 h2.1 hP hS.1 (gs_I _ _ _ _ _) n 0 0 c (sI m 10 0 0 0) R0 (Nat.le_refl _) (by omega) (by omega)
      rw [nI_0] at e1 e2
      rw [Mc_advance, e1, bd_s, e2, bd_s]
      simp only [lt9, bd_s]
      have rr : ∀ k i j, gR (sL c2 2 0 (gL c2 2 0 + (nI d).toInt64)) k i j = gR c k i j := fun k i j => by
        show gR c2 k i j = gR c k i j
        unfold gR
        rw [r2]
      refine ⟨_, _, _, rfl, rfl, (r3 10 0 0 (by decide) (by decide) (by decide) (by omega)).trans (gs_I _ _ _ _ _), T, len, q, cnt, B, lat, mn, ⟨t1, ⟨(r1 6 0 1 (by decide) (by decide) (by decide) (by omega)).trans t2.1, fun j hj => (r1 20 0 j (by decide) (by decide) (by decide) (by omega)).trans (t2.2 j hj)⟩, ⟨(r3 10 0 2 (by decide) (by decide) (by decide) (by omega)).trans t3.1, fun j hj => (r3 101 0 j (by decide) (by decide) (by decide) (by omega)).trans (t3.2 j hj)⟩⟩, ⟨h2.1, (rr 9 0 4).trans h2.2.1, (rr 9 0 5).trans h2.2.2⟩, hP.kp ⟨fun i j _ => r1 3 _ j (by decide) (by decide) (by decide) (by omega), fun b j _ => r1 0 _ j (by decide) (by decide) (by decide) (by omega), fun j => r1 4 _ j (by decide) (by decide) (by decide) (by omega), fun i => ⟨r1 23 _ i (by decide) (by decide) (by decide) (by omega), r1 24 _ i (by decide) (by decide) (by decide) (by omega)⟩, hP.1.2.2.2.ag (fun o => r1 3 o 0 (by decide) (by decide) (by decide) (by omega))⟩ ⟨fun k i j h1 h2 => r3 k i j (by omega) (by omega) (by omega) (by omega), r3 10 0 25 (by decide) (by decide) (by decide) (by omega), r3 10 0 31 (by decide) (by decide) (by decide) (by omega)⟩, ⟨?_, ?_⟩, ⟨(rr 2 0 3).trans hS.1, r7, r8, ?_⟩, r5, r6⟩
      · have := (r1 7 0 5 (by decide) (by decide) (by decide) (by omega)).trans (hF.1.trans (r3 10 0 3 (by decide) (by decide) (by decide) (by omega)).symm)
        exact this
      · have := (r1 7 0 6 (by decide) (by decide) (by decide) (by omega)).trans (hF.2.trans (r3 10 0 4 (by decide) (by decide) (by decide) (by omega)).symm)
        exact this
      · rw [gL_sL, if_pos ⟨rfl, rfl⟩, gL_sL, if_pos ⟨rfl, rfl⟩]
        have e3 : gL c2 2 0 = gL c 2 0 := by unfold gL; rw [r2]
        have e4 : gL m2 10 0 = gL (sI m 10 0 0 0) 10 0 := by unfold gL; rw [r4]
        rw [e3, e4, hS.2.2.2]
    · rw [if_neg y2, if_neg y2, if_neg y2]
      exact Or.inr ⟨rfl, thr⟩
end CL2
