/-! ===== PURE: what is told ===== -/
theorem imax_m1 {x : Nat} (hx : x < 2 ^ 20) : imax (pm x) (-1) = pm x := by
  unfold imax
  have e : ¬ pm x < -1 := by
    cases x with
    | zero => decide
    | succ x =>
      rw [pm_s]
      intro w
      rw [Int32.lt_iff_toInt_lt, nI_toInt (by omega), m1_toInt] at w
      omega
  rw [if_neg e]
section CL3
variable {n q cnt B : Nat} {c m : Mem} {lat mn : Nat → Nat} {T : Nat → Nat} {len : Nat}
theorem t_all (hP : PROG c m q cnt B lat mn) : ∀ (k x : Nat) (a : Int32), x ≤ B → B - x < k → ∃ r, Pg_allCycles_L4 n c q k a (nI x) = some r ∧ M_told_L35 n m k a (nI x) = some r := by
  have hB := hP.1.1.2.2.2.2.2
  intro k
  induction k with
  | zero => intro x a h1 h2; omega
  | succ k ih =>
    intro x a h1 h2
    have q1 : (nI B ≤ nI x) = (B ≤ x) := q_le (by omega) (by omega)
    rw [Pg_allCycles_L4, M_told_L35, hP.1.1.2.1, hP.1.1.2.2.2.1]
    simp only [q1]
    by_cases z : B ≤ x
    · rw [if_pos z, if_pos z]
      exact ⟨a, rfl, rfl⟩
    · rw [if_neg z, if_neg z, ix_nI (N := 175) (by omega) (by decide), bd_s, ix_nI (N := 800) (show x < 800 by omega) (by decide), bd_s, (hP.2.2.1 x (by omega)).1, show nI x + 1 = nI (x + 1) from nI_1 _]
      exact ih (x + 1) _ (by omega) (by omega)
theorem t_reg (hP : PROG c m q cnt B lat mn) : ∀ (k x a : Nat), a < 1000 → x ≤ cnt → cnt - x < k → ∃ r, r < 1000 ∧ Pg_usedRegisters_L4 n c q k (pm a) (nI x) = some (pm r) ∧ M_told_L63 n 2 m k (nI a) (nI x) = some (nI r) := by
  have hcnt := hP.1.1.2.2.2.2.1
  intro k
  induction k with
  | zero => intro x a h0 h1 h2; omega
  | succ k ih =>
    intro x a h0 h1 h2
    have q1 : (nI cnt ≤ nI x) = (cnt ≤ x) := q_le (by omega) (by omega)
    rw [Pg_usedRegisters_L4, M_told_L63, hP.1.1.1, hP.1.1.2.2.1]
    simp only [q1]
    by_cases z : cnt ≤ x
    · rw [if_pos z, if_pos z]
      exact ⟨a, h0, rfl, rfl⟩
    · have ix0 : ix (nI x) 200 = some x := ix_nI (by omega) (by decide)
      obtain ⟨-, -, -, y4, -, y6⟩ := hP.2.2.2 x (by omega)
      rw [if_neg z, if_neg z]
      simp only [lt9, ix0, bd_s]
      rw [if_pos True.intro, y4, show nI x + 1 = nI (x + 1) from nI_1 _]
      rcases y6 with y6 | ⟨r, r1, y6⟩
      · rw [y6, imax_m1 (by omega), if_pos (show (-1 : Int32) + 1 ≤ nI a from by
          have : (nI 0 ≤ nI a) = (0 ≤ a) := q_le (by decide) (by omega)
          rw [show (-1 : Int32) + 1 = nI 0 from rfl, this]
          exact Nat.zero_le _)]
        exact ih (x + 1) a h0 (by omega) (by omega)
      · have q3 : (nI (r + 1) ≤ nI a) = (r + 1 ≤ a) := q_le (by omega) (by omega)
        rw [y6, imax_pm (by omega) (by omega), show nI r + 1 = nI (r + 1) from nI_1 _]
        simp only [q3]
        by_cases w : r + 1 ≤ a
        · rw [if_pos w, Nat.max_eq_left w]
          exact ih (x + 1) a h0 (by omega) (by omega)
        · rw [if_neg w, Nat.max_eq_right (by omega)]
          exact ih (x + 1) (r + 1) (by omega) (by omega) (by omega)
theorem t_unit {kk : Nat} (hkk : kk < 4) (hP : PROG c m q cnt B lat mn) : ∀ (k x a : Nat), a < 1000 → x ≤ cnt → cnt - x < k → ∃ r, r < 1000 ∧ Pg_usedUnits_L4 n (nI kk) c q k (pm a) (nI x) = some (pm r) ∧ M_told_L63 n (nI (kk + 3)) m k (nI a) (nI x) = some (nI r) := by
  have hcnt := hP.1.1.2.2.2.2.1
  intro k
  induction k with
  | zero => intro x a h0 h1 h2; omega
  | succ k ih =>
    intro x a h0 h1 h2
    have q1 : (nI cnt ≤ nI x) = (cnt ≤ x) := q_le (by omega) (by omega)
    have q2 : (nI (kk + 3) = 2) = False := by
      rw [show (nI (kk + 3) = (2 : Int32)) = (kk + 3 = 2) from q_eq (b := 2) (by omega) (by decide)]
      exact propext ⟨fun w => by omega, fun w => w.elim⟩
    have e3 : nI (kk + 3) - 3 = nI kk := by
      rw [show (3 : Int32) = nI 3 from rfl, pk_sub (by omega)]
      congr 1
    rw [Pg_usedUnits_L4, M_told_L63, hP.1.1.1, hP.1.1.2.2.1]
    simp only [q1, q2, if_false]
    by_cases z : cnt ≤ x
    · rw [if_pos z, if_pos z]
      exact ⟨a, h0, rfl, rfl⟩
    · have ix0 : ix (nI x) 200 = some x := ix_nI (by omega) (by decide)
      obtain ⟨-, -, y3, -, ⟨u, u1, u2⟩, -⟩ := hP.2.2.2 x (by omega)
      obtain ⟨v1, v2, -⟩ := hP.1.2.1 x (by omega)
      have kn4 := kn_lt (gI c 3 (200 * q + x) 1)
      have q4 : (nI (kn (gI c 3 (200 * q + x) 1)) = nI kk) = (kn (gI c 3 (200 * q + x) 1) = kk) := q_eq (by omega) (by omega)
      rw [if_neg z, if_neg z]
      simp only [lt9, ix0, bd_s]
      rw [m_kd v1, bd_s, v2, kd_kn, e3, y3, u2, show nI x + 1 = nI (x + 1) from nI_1 _]
      simp only [q4]
      by_cases w : kn (gI c 3 (200 * q + x) 1) = kk
      · have q3 : (nI (u + 1) ≤ nI a) = (u + 1 ≤ a) := q_le (by omega) (by omega)
        rw [if_pos w, if_pos w, imax_pm (by omega) (by omega), show nI u + 1 = nI (u + 1) from nI_1 _]
        simp only [q3]
        by_cases w2 : u + 1 ≤ a
        · rw [if_pos w2, Nat.max_eq_left w2]
          exact ih (x + 1) a h0 (by omega) (by omega)
        · rw [if_neg w2, Nat.max_eq_right (by omega)]
          exact ih (x + 1) (u + 1) (by omega) (by omega) (by omega)
      · rw [if_neg w, if_neg w, if_pos (show (0 : Int32) ≤ nI a from by
          have : (nI 0 ≤ nI a) = (0 ≤ a) := q_le (by decide) (by omega)
          rw [nI_0] at this
          rw [this]
          exact Nat.zero_le _)]
        exact ih (x + 1) a h0 (by omega) (by omega)
theorem t_none {a1 : Int32} (ha : a1 = 0 ∨ a1 = 1) (hP : PROG c m q cnt B lat mn) : ∀ (k x : Nat), x ≤ cnt → cnt - x < k → M_told_L63 n a1 m k 0 (nI x) = some 0 := by
  have hcnt := hP.1.1.2.2.2.2.1
  intro k
  induction k with
  | zero => intro x h1 h2; omega
  | succ k ih =>
    intro x h1 h2
    have q1 : (nI cnt ≤ nI x) = (cnt ≤ x) := q_le (by omega) (by omega)
    rw [M_told_L63, hP.1.1.2.2.1]
    simp only [q1]
    by_cases z : cnt ≤ x
    · rw [if_pos z]
    · have ix0 : ix (nI x) 200 = some x := ix_nI (by omega) (by decide)
      obtain ⟨v1, v2, -⟩ := hP.1.2.1 x (by omega)
      have kn4 := kn_lt (gI c 3 (200 * q + x) 1)
      rw [if_neg z]
      simp only [lt9, ix0, bd_s]
      rw [if_neg (show ¬ a1 = 2 from fun w => by rcases ha with e | e <;> (rw [e] at w; exact absurd w (by decide))), m_kd v1, bd_s, kd_kn, if_neg (show ¬ nI (kn (gI c 3 (200 * q + x) 1)) = a1 - 3 from fun w => by
        have : nI (kn (gI c 3 (200 * q + x) 1)) < 0 := by rcases ha with e | e <;> (rw [e] at w; rw [w]; decide)
        exact nI_pos (by omega) this), if_pos (show (0 : Int32) ≤ 0 by decide), show nI x + 1 = nI (x + 1) from nI_1 _]
      exact ih (x + 1) (by omega) (by omega)
theorem i_told (hn : 6000 ≤ n) (a1 : Int32) (h : INVL c m) : (∃ r m', K_told n a1 c = some r ∧ M_told n a1 m = some (r, m') ∧ gI m' 10 0 0 = 0 ∧ INVL c m') ∨ (K_told_T n a1 c = some sIAE ∧ ∃ b m', M_told n a1 m = some (b, m') ∧ gI m' 10 0 0 = 1 ∧ INVL c m') := by
  obtain ⟨T, len, q, cnt, B, lat, mn, hI⟩ := h
  have hcnt := hI.2.2.1.1.1.2.2.2.2.1
  have hB := hI.2.2.1.1.1.2.2.2.2.2
  have thr : gI (sI m 10 0 0 1) 10 0 0 = 1 ∧ INVL c (sI m 10 0 0 1) := ⟨gs_I _ _ _ _ _, T, len, q, cnt, B, lat, mn, hI.thr 1⟩
  have nrm : gI (sI m 10 0 0 0) 10 0 0 = 0 ∧ INVL c (sI m 10 0 0 0) := ⟨gs_I _ _ _ _ _, T, len, q, cnt, B, lat, mn, hI.thr 0⟩
  have hP := (hI.thr 0).2.2.1
  have hq := hI.2.1.1
  have h4 := hI.2.1.2.1
  rw [M_told]
  simp only [lt9]
  rw [show gI (sI m 10 0 0 1) 10 0 0 = 1 from gs_I _ _ _ _ _, show gI (sI m 10 0 0 0) 10 0 0 = 0 from gs_I _ _ _ _ _, if_neg (show ¬ (1 : Int32) ≤ 0 by decide), if_pos (show (0 : Int32) ≤ 0 by decide)]
  by_cases ok : ¬ a1 < 0 ∧ a1 ≤ 6
  · left
    obtain ⟨k, k1, rfl⟩ := rng (N := 6) ok.1 ok.2 (by decide)
    obtain ⟨r, r1, r2⟩ := t_all (n := n) hP n 0 0 (Nat.zero_le _) (by omega)
    rw [nI_0] at r1 r2
    rw [if_neg ok.1, if_pos ok.2, r2, bd_s, K_told]
    have l31 : gI (sI m 10 0 0 0) 10 0 31 = nI B := hP.1.1.2.2.2.1
    rw [h4]
    simp only [bd_s, hq, if_true]
    rcases (show k = 0 ∨ k = 1 ∨ k = 2 ∨ k = 3 ∨ k = 4 ∨ k = 5 ∨ k = 6 by omega) with rfl | rfl | rfl | rfl | rfl | rfl | rfl
    · have := t_none (n := n) (a1 := nI 0) (Or.inl rfl) hP n 0 (Nat.zero_le _) (by omega)
      rw [nI_0] at this ⊢
      rw [this, bd_s, if_pos rfl, if_pos rfl, l31, hP.1.1.2.1]
      exact ⟨_, _, rfl, rfl, nrm⟩
    · have := t_none (n := n) (a1 := nI 1) (Or.inr rfl) hP n 0 (Nat.zero_le _) (by omega)
      rw [nI_0] at this
      rw [this, bd_s, if_neg (by decide), if_pos (show nI 1 = 1 from rfl), if_neg (by decide), if_pos (show nI 1 = 1 from rfl), Pg_allCycles, r1]
      exact ⟨_, _, rfl, rfl, nrm⟩
    · obtain ⟨s, s0, s1, s2⟩ := t_reg (n := n) hP n 0 0 (by decide) (Nat.zero_le _) (by omega)
      have s1' : Pg_usedRegisters_L4 n c q n (-1) 0 = some (pm s) := s1
      have s2' : M_told_L63 n (nI 2) (sI m 10 0 0 0) n 0 0 = some (nI s) := s2
      rw [s2', bd_s, if_neg (by decide), if_neg (by decide), if_pos (show nI 2 = 2 from rfl), if_neg (by decide), if_neg (by decide), Pg_usedRegisters, s1', bd_s, bd_s, pm_ad1]
      exact ⟨_, _, rfl, rfl, nrm⟩
    · obtain ⟨s, s0, s1, s2⟩ := t_unit (n := n) (kk := 0) (by decide) hP n 0 0 (by decide) (Nat.zero_le _) (by omega)
      have s1' : Pg_usedUnits_L4 n (nI 3 - 3) c q n (-1) 0 = some (pm s) := s1
      have s2' : M_told_L63 n (nI 3) (sI m 10 0 0 0) n 0 0 = some (nI s) := s2
      rw [s2', bd_s, if_neg (by decide), if_neg (by decide), if_neg (by decide), if_pos (show nI 3 = 3 from rfl), if_neg (by decide), if_neg (by decide), Pg_usedUnits, s1', bd_s, bd_s, pm_ad1]
      exact ⟨_, _, rfl, rfl, nrm⟩
    · obtain ⟨s, s0, s1, s2⟩ := t_unit (n := n) (kk := 1) (by decide) hP n 0 0 (by decide) (Nat.zero_le _) (by omega)
      have s1' : Pg_usedUnits_L4 n (nI 4 - 3) c q n (-1) 0 = some (pm s) := s1
      have s2' : M_told_L63 n (nI 4) (sI m 10 0 0 0) n 0 0 = some (nI s) := s2
      rw [s2', bd_s, if_neg (by decide), if_neg (by decide), if_neg (by decide), if_neg (by decide), if_pos (show nI 4 = 4 from rfl), if_neg (by decide), if_neg (by decide), Pg_usedUnits, s1', bd_s, bd_s, pm_ad1]
      exact ⟨_, _, rfl, rfl, nrm⟩
    · obtain ⟨s, s0, s1, s2⟩ := t_unit (n := n) (kk := 2) (by decide) hP n 0 0 (by decide) (Nat.zero_le _) (by omega)
      have s1' : Pg_usedUnits_L4 n (nI 5 - 3) c q n (-1) 0 = some (pm s) := s1
      have s2' : M_told_L63 n (nI 5) (sI m 10 0 0 0) n 0 0 = some (nI s) := s2
      rw [s2', bd_s, if_neg (by decide), if_neg (by decide), if_neg (by decide), if_neg (by decide), if_neg (by decide), if_pos (show nI 5 = 5 from rfl), if_neg (by decide), if_neg (by decide), Pg_usedUnits, s1', bd_s, bd_s, pm_ad1]
      exact ⟨_, _, rfl, rfl, nrm⟩
    · obtain ⟨s, s0, s1, s2⟩ := t_unit (n := n) (kk := 3) (by decide) hP n 0 0 (by decide) (Nat.zero_le _) (by omega)
      have s1' : Pg_usedUnits_L4 n (nI 6 - 3) c q n (-1) 0 = some (pm s) := s1
      have s2' : M_told_L63 n (nI 6) (sI m 10 0 0 0) n 0 0 = some (nI s) := s2
      rw [s2', bd_s, if_neg (by decide), if_neg (by decide), if_neg (by decide), if_neg (by decide), if_neg (by decide), if_neg (by decide), if_pos (show nI 6 = 6 from rfl), if_neg (by decide), if_neg (by decide), Pg_usedUnits, s1', bd_s, bd_s, pm_ad1]
      exact ⟨_, _, rfl, rfl, nrm⟩
  · right
    have ne := out_ne (a := a1) (N := 6) (by decide) (by
      by_cases y : a1 < 0
      · exact Or.inl y
      · exact Or.inr (fun w => ok ⟨y, w⟩))
    rw [K_told_T, if_neg (show ¬ a1 = 0 from ne 0 (by decide)), if_neg (show ¬ a1 = 1 from ne 1 (by decide)), if_neg (show ¬ a1 = 2 from ne 2 (by decide)), if_neg (show ¬ a1 = 3 from ne 3 (by decide)), if_neg (show ¬ a1 = 4 from ne 4 (by decide)), if_neg (show ¬ a1 = 5 from ne 5 (by decide)), if_neg (show ¬ a1 = 6 from ne 6 (by decide))]
    refine ⟨rfl, ?_⟩
    by_cases y : a1 < 0
    · rw [if_pos y]
      exact ⟨_, _, rfl, thr⟩
    · rw [if_neg y, if_neg (fun w => ok ⟨y, w⟩)]
      exact ⟨_, _, rfl, thr⟩
theorem i_block (hn : 6000 ≤ n) (a1 a2 : Int32) (h : INVL c m) : (∃ r m', K_block n a1 a2 c = some r ∧ M_block n a1 a2 m = some (r, m') ∧ gI m' 10 0 0 = 0 ∧ INVL c m') ∨ (K_block_T n a1 a2 c = some sIOB ∧ ∃ b m', M_block n a1 a2 m = some (b, m') ∧ gI m' 10 0 0 = 1 ∧ INVL c m') ∨ (K_block_T n a1 a2 c = some sIAE ∧ ∃ b m', M_block n a1 a2 m = some (b, m') ∧ gI m' 10 0 0 = 2 ∧ INVL c m') := by
  obtain ⟨T, len, q, cnt, B, lat, mn, hI⟩ := h
  have hcnt := hI.2.2.1.1.1.2.2.2.2.1
  have hB := hI.2.2.1.1.1.2.2.2.2.2
  have thr : ∀ v : Int32, gI (sI m 10 0 0 v) 10 0 0 = v ∧ INVL c (sI m 10 0 0 v) := fun v => ⟨gs_I _ _ _ _ _, T, len, q, cnt, B, lat, mn, hI.thr v⟩
  have hP := (hI.thr 0).2.2.1
  have hq := hI.2.1.1
  have h4 := hI.2.1.2.1
  have b31 : gI m 10 0 31 = nI B := hI.2.2.1.1.1.2.2.2.1
  have c43 : gI c 4 q 3 = nI B := hP.1.1.2.1
  rw [M_block, K_block, K_block_T, h4]
  simp only [lt9, bd_s, hq, if_true]
  rw [show gI (sI m 10 0 0 1) 10 0 0 = 1 from gs_I _ _ _ _ _, show gI (sI m 10 0 0 0) 10 0 0 = 0 from gs_I _ _ _ _ _, show gI (sI m 10 0 0 2) 10 0 0 = 2 from gs_I _ _ _ _ _, if_neg (show ¬ (1 : Int32) ≤ 0 by decide), if_pos (show (0 : Int32) ≤ 0 by decide), if_neg (show ¬ (2 : Int32) ≤ 0 by decide), b31, c43]
  by_cases y1 : a1 < 0
  · rw [if_pos y1, if_pos y1, if_pos y1]
    exact Or.inr (Or.inl ⟨rfl, _, _, rfl, thr 1⟩)
  · rw [if_neg y1, if_neg y1, if_neg y1]
    by_cases y2 : a1 < nI B
    · obtain ⟨b, hb, rfl⟩ := rng2 (N := B) y1 y2 (by omega)
      obtain ⟨⟨f, g, g1, g2, g3, g4⟩, w2, w3, w4, w5, w6⟩ := hP.1.2.2.1 b hb
      have hG : RG c q cnt b f g := ⟨g1, g2, g3, g4⟩
      obtain ⟨l1, -⟩ := hP.2.2.1 b hb
      have ix175 : ix (nI b) 175 = some b := ix_nI (by omega) (by decide)
      have ix800 : ix (nI b) 800 = some b := ix_nI (by omega) (by decide)
      have mf := m_first (n := n) (by omega) hP.1 hG
      have mb := m_behind (n := n) (by omega) hP.1 hG
      rw [if_pos y2, if_pos y2, if_pos y2]
      simp only [ix175, ix800, bd_s, mf, mb]
      by_cases ok : ¬ a2 < 0 ∧ a2 ≤ 4
      · left
        obtain ⟨k, k1, rfl⟩ := rng (N := 4) ok.1 ok.2 (by decide)
        rw [if_neg ok.1, if_pos ok.2]
        rcases (show k = 0 ∨ k = 1 ∨ k = 2 ∨ k = 3 ∨ k = 4 by omega) with rfl | rfl | rfl | rfl | rfl
        · rw [if_pos (show nI 0 = 0 from rfl), if_pos (show nI 0 = 0 from rfl), l1]
          exact ⟨_, _, rfl, rfl, thr 0⟩
        · rw [if_neg (show ¬ nI 1 = 0 by decide), if_pos (show nI 1 = 1 from rfl), if_neg (show ¬ nI 1 = 0 by decide), if_pos (show nI 1 = 1 from rfl), g1, g2]
          have qg : (nI g = 0) = (g = 0) := q_eq (b := 0) (by omega) (by decide)
          simp only [qg]
          by_cases z : g = 0
          · rw [if_pos z, if_pos z]
            exact ⟨_, _, rfl, rfl, thr 0⟩
          · rw [if_neg z, if_neg z]
            exact ⟨_, _, rfl, rfl, thr 0⟩
        · rw [if_neg (show ¬ nI 2 = 0 by decide), if_neg (show ¬ nI 2 = 1 by decide), if_pos (show nI 2 = 2 from rfl), if_neg (show ¬ nI 2 = 0 by decide), if_neg (show ¬ nI 2 = 1 by decide), if_pos (show nI 2 = 2 from rfl), g2]
          by_cases z : g = 0
          · subst z
            rw [if_pos rfl, if_neg (show ¬ (0 : Int32) ≤ -1 by decide)]
            exact ⟨_, _, rfl, rfl, thr 0⟩
          · have z0 : (0 : Int32) ≤ nI f := by
              have : (nI 0 ≤ nI f) = (0 ≤ f) := q_le (by decide) (by omega)
              rw [nI_0] at this
              rw [this]
              exact Nat.zero_le _
            rw [if_neg z, if_pos z0, if_neg z, pk_sub (by omega), show f + g - f = g by omega]
            exact ⟨_, _, rfl, rfl, thr 0⟩
        · rw [if_neg (show ¬ nI 3 = 0 by decide), if_neg (show ¬ nI 3 = 1 by decide), if_neg (show ¬ nI 3 = 2 by decide), if_pos (show nI 3 = 3 from rfl), if_neg (show ¬ nI 3 = 0 by decide), if_neg (show ¬ nI 3 = 1 by decide), if_neg (show ¬ nI 3 = 2 by decide), if_pos (show nI 3 = 3 from rfl), ← w5.1]
          exact ⟨_, _, rfl, rfl, thr 0⟩
        · rw [if_neg (show ¬ nI 4 = 0 by decide), if_neg (show ¬ nI 4 = 1 by decide), if_neg (show ¬ nI 4 = 2 by decide), if_neg (show ¬ nI 4 = 3 by decide), if_neg (show ¬ nI 4 = 0 by decide), if_neg (show ¬ nI 4 = 1 by decide), if_neg (show ¬ nI 4 = 2 by decide), if_neg (show ¬ nI 4 = 3 by decide), if_pos (show nI 4 = 4 from rfl), ← w6.1]
          exact ⟨_, _, rfl, rfl, thr 0⟩
      · have ne := out_ne (a := a2) (N := 4) (by decide) (by
          by_cases y : a2 < 0
          · exact Or.inl y
          · exact Or.inr (fun w => ok ⟨y, w⟩))
        right; right
        rw [if_neg (show ¬ a2 = 0 from ne 0 (by decide)), if_neg (show ¬ a2 = 1 from ne 1 (by decide)), if_neg (show ¬ a2 = 2 from ne 2 (by decide)), if_neg (show ¬ a2 = 3 from ne 3 (by decide)), if_neg (show ¬ a2 = 4 from ne 4 (by decide))]
        refine ⟨rfl, ?_⟩
        by_cases y : a2 < 0
        · rw [if_pos y]
          exact ⟨_, _, rfl, thr 2⟩
        · rw [if_neg y, if_neg (fun w => ok ⟨y, w⟩)]
          exact ⟨_, _, rfl, thr 2⟩
    · rw [if_neg y2, if_neg y2, if_neg y2]
      exact Or.inr (Or.inl ⟨rfl, _, _, rfl, thr 1⟩)
theorem i_operation (hn : 6000 ≤ n) (a1 a2 : Int32) (h : INVL c m) : (∃ r m', K_operation n a1 a2 c = some r ∧ M_operation n a1 a2 m = some (r, m') ∧ gI m' 10 0 0 = 0 ∧ INVL c m') ∨ (K_operation_T n a1 a2 c = some sIOB ∧ ∃ b m', M_operation n a1 a2 m = some (b, m') ∧ gI m' 10 0 0 = 1 ∧ INVL c m') ∨ (K_operation_T n a1 a2 c = some sIAE ∧ ∃ b m', M_operation n a1 a2 m = some (b, m') ∧ gI m' 10 0 0 = 2 ∧ INVL c m') := by
  obtain ⟨T, len, q, cnt, B, lat, mn, hI⟩ := h
  have hcnt := hI.2.2.1.1.1.2.2.2.2.1
  have thr : ∀ v : Int32, gI (sI m 10 0 0 v) 10 0 0 = v ∧ INVL c (sI m 10 0 0 v) := fun v => ⟨gs_I _ _ _ _ _, T, len, q, cnt, B, lat, mn, hI.thr v⟩
  have hP := (hI.thr 0).2.2.1
  have hq := hI.2.1.1
  have h4 := hI.2.1.2.1
  have b25 : gI m 10 0 25 = nI cnt := hI.2.2.1.1.1.2.2.1
  have c42 : gI c 4 q 2 = nI cnt := hP.1.1.1
  rw [M_operation, K_operation, K_operation_T, h4]
  simp only [lt9, bd_s, hq, if_true]
  rw [show gI (sI m 10 0 0 1) 10 0 0 = 1 from gs_I _ _ _ _ _, show gI (sI m 10 0 0 0) 10 0 0 = 0 from gs_I _ _ _ _ _, show gI (sI m 10 0 0 2) 10 0 0 = 2 from gs_I _ _ _ _ _, if_neg (show ¬ (1 : Int32) ≤ 0 by decide), if_pos (show (0 : Int32) ≤ 0 by decide), if_neg (show ¬ (2 : Int32) ≤ 0 by decide), b25, c42]
  by_cases y1 : a1 < 0
  · rw [if_pos y1, if_pos y1, if_pos y1]
    exact Or.inr (Or.inl ⟨rfl, _, _, rfl, thr 1⟩)
  · rw [if_neg y1, if_neg y1, if_neg y1]
    by_cases y2 : a1 < nI cnt
    · obtain ⟨i, hi, rfl⟩ := rng2 (N := cnt) y1 y2 (by omega)
      obtain ⟨v1, v2, -, -, -, -, v7, -⟩ := hP.1.2.1 i hi
      obtain ⟨z1, z2, z3, z4, -⟩ := hP.2.2.2 i hi
      have ix0 : ix (nI i) 200 = some i := ix_nI (by omega) (by decide)
      rw [if_pos y2, if_pos y2, if_pos y2]
      simp only [ix0, bd_s]
      by_cases ok : ¬ a2 < 0 ∧ a2 ≤ 5
      · left
        obtain ⟨k, k1, rfl⟩ := rng (N := 5) ok.1 ok.2 (by decide)
        rw [if_neg ok.1, if_pos ok.2]
        rcases (show k = 0 ∨ k = 1 ∨ k = 2 ∨ k = 3 ∨ k = 4 ∨ k = 5 by omega) with rfl | rfl | rfl | rfl | rfl | rfl
        · rw [if_pos (show nI 0 = 0 from rfl), if_pos (show nI 0 = 0 from rfl), m_kd v1, bd_s, v2]
          exact ⟨_, _, rfl, rfl, thr 0⟩
        · rw [if_neg (show ¬ nI 1 = 0 by decide), if_pos (show nI 1 = 1 from rfl), if_neg (show ¬ nI 1 = 0 by decide), if_pos (show nI 1 = 1 from rfl), ← v7]
          exact ⟨_, _, rfl, rfl, thr 0⟩
        · rw [if_neg (show ¬ nI 2 = 0 by decide), if_neg (show ¬ nI 2 = 1 by decide), if_pos (show nI 2 = 2 from rfl), if_neg (show ¬ nI 2 = 0 by decide), if_neg (show ¬ nI 2 = 1 by decide), if_pos (show nI 2 = 2 from rfl), z2]
          exact ⟨_, _, rfl, rfl, thr 0⟩
        · rw [if_neg (show ¬ nI 3 = 0 by decide), if_neg (show ¬ nI 3 = 1 by decide), if_neg (show ¬ nI 3 = 2 by decide), if_pos (show nI 3 = 3 from rfl), if_neg (show ¬ nI 3 = 0 by decide), if_neg (show ¬ nI 3 = 1 by decide), if_neg (show ¬ nI 3 = 2 by decide), if_pos (show nI 3 = 3 from rfl), z1]
          exact ⟨_, _, rfl, rfl, thr 0⟩
        · rw [if_neg (show ¬ nI 4 = 0 by decide), if_neg (show ¬ nI 4 = 1 by decide), if_neg (show ¬ nI 4 = 2 by decide), if_neg (show ¬ nI 4 = 3 by decide), if_pos (show nI 4 = 4 from rfl), if_neg (show ¬ nI 4 = 0 by decide), if_neg (show ¬ nI 4 = 1 by decide), if_neg (show ¬ nI 4 = 2 by decide), if_neg (show ¬ nI 4 = 3 by decide), if_pos (show nI 4 = 4 from rfl), z3]
          exact ⟨_, _, rfl, rfl, thr 0⟩
        · rw [if_neg (show ¬ nI 5 = 0 by decide), if_neg (show ¬ nI 5 = 1 by decide), if_neg (show ¬ nI 5 = 2 by decide), if_neg (show ¬ nI 5 = 3 by decide), if_neg (show ¬ nI 5 = 4 by decide), if_neg (show ¬ nI 5 = 0 by decide), if_neg (show ¬ nI 5 = 1 by decide), if_neg (show ¬ nI 5 = 2 by decide), if_neg (show ¬ nI 5 = 3 by decide), if_neg (show ¬ nI 5 = 4 by decide), if_pos (show nI 5 = 5 from rfl), z4]
          exact ⟨_, _, rfl, rfl, thr 0⟩
      · have ne := out_ne (a := a2) (N := 5) (by decide) (by
          by_cases y : a2 < 0
          · exact Or.inl y
          · exact Or.inr (fun w => ok ⟨y, w⟩))
        right; right
        rw [if_neg (show ¬ a2 = 0 from ne 0 (by decide)), if_neg (show ¬ a2 = 1 from ne 1 (by decide)), if_neg (show ¬ a2 = 2 from ne 2 (by decide)), if_neg (show ¬ a2 = 3 from ne 3 (by decide)), if_neg (show ¬ a2 = 4 from ne 4 (by decide)), if_neg (show ¬ a2 = 5 from ne 5 (by decide))]
        refine ⟨rfl, ?_⟩
        by_cases y : a2 < 0
        · rw [if_pos y]
          exact ⟨_, _, rfl, thr 2⟩
        · rw [if_neg y, if_neg (fun w => ok ⟨y, w⟩)]
          exact ⟨_, _, rfl, thr 2⟩
    · rw [if_neg y2, if_neg y2, if_neg y2]
      exact Or.inr (Or.inl ⟨rfl, _, _, rfl, thr 1⟩)
end CL3
