/-! ===== PURE: each call, by both sides ===== -/
theorem rng {a : Int32} {N : Nat} (h0 : ¬ a < 0) (h1 : a ≤ nI N) (hN : N < 2 ^ 31) : ∃ k, k ≤ N ∧ a = nI k := by
  have e0 : 0 ≤ a.toInt := by
    have := Int32.not_lt.mp h0
    rw [Int32.le_iff_toInt_le] at this
    exact this
  have e1 : a.toInt ≤ N := by
    rw [Int32.le_iff_toInt_le, nI_toInt hN] at h1
    exact h1
  refine ⟨a.toInt.toNat, by omega, ?_⟩
  apply Int32.toInt_inj.mp
  rw [nI_toInt (by omega)]
  omega
theorem byt255 (z : Int64) : ∃ b, b < 256 ∧ z.toInt32 &&& 255 = nI b ∧ (z &&& 255).toInt32 = nI b := by
  have e : ∀ y : Int32, y &&& 255 = nI (y.toBitVec.toNat &&& 255) := fun y => by
    apply Int32.toBitVec.inj
    rw [Int32.toBitVec_and]
    apply BitVec.eq_of_toNat_eq
    rw [BitVec.toNat_and, nI, Int32.toBitVec_ofNat', BitVec.toNat_ofNat]
    have : y.toBitVec.toNat &&& 255 ≤ 255 := Nat.and_le_right
    have e15 : ((255 : Int32).toBitVec).toNat = 255 := by decide
    rw [e15]
    omega
  refine ⟨z.toInt32.toBitVec.toNat &&& 255, Nat.lt_of_le_of_lt Nat.and_le_right (by decide), e _, ?_⟩
  rw [Int64.toInt32_and]
  exact e _
def INVL (c m : Mem) : Prop := ∃ T len q cnt B lat mn, INV c m T len q cnt B lat mn
theorem INV.thr {c m : Mem} {T : Nat → Nat} {len q cnt B : Nat} {lat mn : Nat → Nat} (h : INV c m T len q cnt B lat mn) (v : Int32) : INV c (sI m 10 0 0 v) T len q cnt B lat mn := by
  obtain ⟨⟨t1, t2, t3⟩, h2, hP, hF, hS, hV, hC⟩ := h
  refine ⟨⟨t1, t2, (gn_I (by omega)).trans t3.1, t3.2⟩, h2, hP.kp ⟨fun _ _ _ => rfl, fun _ _ _ => rfl, fun _ => rfl, fun _ => ⟨rfl, rfl⟩, hP.1.2.2.2⟩ ⟨fun k i j h1 h2 => gn_I (by omega), gn_I (by omega), gn_I (by omega)⟩, ⟨hF.1.trans (gn_I (by omega)).symm, hF.2.trans (gn_I (by omega)).symm⟩, ⟨hS.1, hS.2.1.trans (gn_I (by omega)).symm, hS.2.2.1, hS.2.2.2⟩, hV, hC⟩
section CL
variable {n : Nat} {c m : Mem}
theorem f_c {k len : Nat} {a2 : Int64} (hk : k ≤ 8) (hl : len + k ≤ 700) (vb : Nat → Nat) (hv : ∀ x, ((a2 >>> (((8 : Int32) * nI x).toInt64 &&& 63)).toInt32) &&& (255 : Int32) = nI (vb x)) : ∀ (d x : Nat) (c' : Mem), gI c' 6 0 1 = nI len → x ≤ k → k - x < d →
    ∃ c2, Tp_append_L17 n (nI k) a2 d (nI x) c' = some c2 ∧ (∀ i, x ≤ i → i < k → gI c2 20 0 (len + i) = nI (vb i)) ∧ (∀ a i j, ¬ (a = 20 ∧ i = 0 ∧ len + x ≤ j ∧ j < len + k) → gI c2 a i j = gI c' a i j) ∧ c2.2 = c'.2 := by
  intro d
  induction d with
  | zero => intro x c' a1 a2' a3; omega
  | succ d ih =>
    intro x c' a1 a2' a3
    have q1 : (nI k ≤ nI x) = (k ≤ x) := q_le (by omega) (by omega)
    rw [Tp_append_L17]
    simp only [q1]
    by_cases z : k ≤ x
    · rw [if_pos z]
      exact ⟨c', rfl, fun i h1 h2 => by omega, fun _ _ _ _ => rfl, rfl⟩
    · rw [if_neg z, a1, nI_add, ix_nI (N := 700) (by omega) (by decide), bd_s]
      simp only [lt9]
      rw [hv x, show nI x + 1 = nI (x + 1) from nI_1 _]
      obtain ⟨c2, b1', b2, b3, b4⟩ := ih (x + 1) (sI c' 20 0 (len + x) (nI (vb x))) a1 (by omega) (by omega)
      refine ⟨c2, b1', fun i h1 h2 => ?_, fun a i j h => ?_, b4⟩
      · by_cases y : i = x
        · subst y
          rw [b3 20 0 (len + i) (by omega), gs_I]
        · exact b2 i (by omega) h2
      · rw [b3 a i j (by omega), gn_I (by omega)]
theorem f_m {k len : Nat} {a2 : Int64} (hk : k ≤ 8) (hl : len + k ≤ 700) (vb : Nat → Nat) (hv : ∀ x, ((a2 >>> (((8 : Int32) * nI x).toInt64 &&& 63)) &&& (255 : Int64)).toInt32 = nI (vb x)) : ∀ (d x : Nat) (m' : Mem), gI m' 10 0 2 = nI (len + x) → x ≤ k → k - x < d →
    ∃ m2, M_feed_L46 n (nI k) a2 d (nI x) m' = some m2 ∧ gI m2 10 0 2 = nI (len + k) ∧ (∀ i, x ≤ i → i < k → gI m2 101 0 (len + i) = nI (vb i)) ∧ (∀ a i j, ¬ (a = 101 ∧ i = 0 ∧ len + x ≤ j ∧ j < len + k) → ¬ (a = 10 ∧ i = 0 ∧ j = 2) → gI m2 a i j = gI m' a i j) ∧ m2.2 = m'.2 := by
  intro d
  induction d with
  | zero => intro x m' a1 a2' a3; omega
  | succ d ih =>
    intro x m' a1 a2' a3
    have q1 : (nI k ≤ nI x) = (k ≤ x) := q_le (by omega) (by omega)
    rw [M_feed_L46]
    simp only [q1]
    by_cases z : k ≤ x
    · rw [if_pos z]
      have : x = k := by omega
      subst this
      exact ⟨m', rfl, a1, fun i h1 h2 => by omega, fun _ _ _ _ _ => rfl, rfl⟩
    · rw [if_neg z, a1, ix_nI (N := 700) (by omega) (by decide), bd_s]
      simp only [lt9]
      have e2 : gI (sI m' 101 0 (len + x) ((a2 >>> (((8 : Int32) * nI x).toInt64 &&& 63)) &&& (255 : Int64)).toInt32) 10 0 2 = nI (len + x) := (gn_I (by omega)).trans a1
      rw [e2, hv x, show nI x + 1 = nI (x + 1) from nI_1 _, show nI (len + x) + 1 = nI (len + (x + 1)) from nI_1 _]
      obtain ⟨m2, b1', b2, b3, b4, b5⟩ := ih (x + 1) (sI (sI m' 101 0 (len + x) (nI (vb x))) 10 0 2 (nI (len + (x + 1)))) (gs_I _ _ _ _ _) (by omega) (by omega)
      refine ⟨m2, b1', b2, fun i h1 h2 => ?_, fun a i j h h' => ?_, b5⟩
      · by_cases y : i = x
        · subst y
          rw [b4 101 0 (len + i) (by omega) (by omega), gn_I (by omega), gs_I]
        · exact b3 i (by omega) h2
      · rw [b4 a i j (by omega) h', gn_I (by omega), gn_I (by omega)]
/-- feed -/
theorem i_feed (hn : 6000 ≤ n) (a1 : Int32) (a2 : Int64) (h : INVL c m) : (∃ r c' m', K_feed n a1 a2 c = some (r, c') ∧ M_feed n a1 a2 m = some (r, m') ∧ gI m' 10 0 0 = 0 ∧ INVL c' m') ∨ (K_feed_T n a1 a2 c = some sIAE ∧ ∃ b m', M_feed n a1 a2 m = some (b, m') ∧ gI m' 10 0 0 = 1 ∧ INVL c m') := by
  obtain ⟨T, len, q, cnt, B, lat, mn, hI⟩ := h
  rw [K_feed, K_feed_T, M_feed]
  simp only [lt9]
  have thr : (∃ b m', (if gI (sI m 10 0 0 1) 10 0 0 ≤ 0 then (if gI (sI m 10 0 0 1) 10 0 2 + a1 ≤ 700 then (M_feed_L46 n a1 a2 n 0 (sI m 10 0 0 1)).bind fun r11 => some (gI r11 10 0 2, r11) else some (-1, sI m 10 0 0 1)) else some (0, sI m 10 0 0 1)) = some (b, m') ∧ gI m' 10 0 0 = 1 ∧ INVL c m') := by
    rw [gs_I, if_neg (by decide)]
    exact ⟨_, _, rfl, gs_I _ _ _ _ _, T, len, q, cnt, B, lat, mn, hI.thr 1⟩
  by_cases y1 : a1 < 1
  · rw [if_pos y1, if_pos y1, if_pos y1]
    exact Or.inr ⟨rfl, thr⟩
  · rw [if_neg y1, if_neg y1, if_neg y1]
    by_cases y2 : a1 ≤ 8
    · rw [if_pos y2, if_pos y2, if_pos y2]
      left
      have n0 : ¬ a1 < 0 := fun w => y1 (by rw [Int32.lt_iff_toInt_lt] at w ⊢; have e0 : (0 : Int32).toInt = 0 := by decide
                                            have e1 : (1 : Int32).toInt = 1 := by decide
                                            omega)
      obtain ⟨k, k1, rfl⟩ := rng (N := 8) n0 y2 (by decide)
      have hI' := hI.thr 0
      obtain ⟨⟨⟨tl, tb⟩, t2, t3⟩, h2, hP, hF, hS, hV, hC⟩ := hI'
      have q7 : (nI (len + k) ≤ 700) = (len + k ≤ 700) := q_le (b := 700) (by omega) (by decide)
      obtain ⟨vb, hvb⟩ := Classical.axiomOfChoice (fun x : Nat => byt255 (a2 >>> (((8 : Int32) * nI x).toInt64 &&& 63)))
      rw [Tp_append, t2.1, t3.1, gs_I, if_pos (show (0 : Int32) ≤ 0 by decide), nI_add]
      simp only [q7]
      by_cases y3 : len + k ≤ 700
      · rw [if_pos y3, if_pos y3]
        obtain ⟨c2, b1', b2, b3, b4⟩ := f_c (n := n) (a2 := a2) k1 y3 vb (fun x => (hvb x).2.1) n 0 c t2.1 (Nat.zero_le _) (by omega)
        obtain ⟨m2, d1, d2, d3, d4, d5⟩ := f_m (n := n) (a2 := a2) k1 y3 vb (fun x => (hvb x).2.2) n 0 (sI m 10 0 0 0) t3.1 (Nat.zero_le _) (by omega)
        rw [nI_0] at b1' d1
        have l6 : gI c2 6 0 1 = nI len := (b3 6 0 1 (by omega)).trans t2.1
        rw [b1', bd_s, d1, bd_s]
        simp only [lt9]
        rw [l6, nI_add, bd_s]
        dsimp only
        rw [if_neg (show ¬ (1 : Int32) = 0 by decide), gs_I, d2]
        have cI : ∀ a i j, a ≠ 20 → a ≠ 6 → gI (sI c2 6 0 1 (nI (len + k))) a i j = gI c a i j := fun a i j g1 g2 => (gn_I (by omega)).trans (b3 a i j (by omega))
        have mI : ∀ a i j, a ≠ 101 → ¬ (a = 10 ∧ j = 2) → gI m2 a i j = gI (sI m 10 0 0 0) a i j := fun a i j g1 g2 => d4 a i j (by omega) (by omega)
        refine ⟨_, _, m2, rfl, rfl, (mI 10 0 0 (by decide) (by omega)).trans (gs_I _ _ _ _ _), fun j => if j < len then T j else vb (j - len), len + k, q, cnt, B, lat, mn, ⟨⟨y3, fun j hj => ?_⟩, ⟨gs_I _ _ _ _ _, fun j hj => ?_⟩, ⟨d2, fun j hj => ?_⟩⟩, ⟨h2.1, ?_, ?_⟩, hP.kp ⟨fun i j _ => cI 3 _ j (by decide) (by decide), fun b j _ => cI 0 _ j (by decide) (by decide), fun j => cI 4 _ j (by decide) (by decide), fun i => ⟨cI 23 _ i (by decide) (by decide), cI 24 _ i (by decide) (by decide)⟩, hP.1.2.2.2.ag (fun o => cI 3 o 0 (by decide) (by decide))⟩ ⟨fun a i j g1 g2 => mI a i j (by omega) (by omega), mI 10 0 25 (by decide) (by omega), mI 10 0 31 (by decide) (by omega)⟩, ⟨?_, ?_⟩, ⟨?_, ?_, ?_, ?_⟩, fun v hv => ?_, fun i hi => ?_⟩
        · dsimp only
          by_cases w : j < len
          · rw [if_pos w]; exact tb j w
          · rw [if_neg w]; exact (hvb _).1
        · dsimp only
          rw [gn_I (by omega)]
          by_cases w : j < len
          · rw [if_pos w, b3 20 0 j (by omega)]; exact t2.2 j w
          · rw [if_neg w]
            have := b2 (j - len) (by omega) (by omega)
            rw [show len + (j - len) = j by omega] at this
            exact this
        · dsimp only
          by_cases w : j < len
          · rw [if_pos w, d4 101 0 j (by omega) (by omega)]; exact t3.2 j w
          · rw [if_neg w]
            have := d3 (j - len) (by omega) (by omega)
            rw [show len + (j - len) = j by omega] at this
            exact this
        · have : gR (sI c2 6 0 1 (nI (len + k))) 9 0 4 = gR c 9 0 4 := by
            show gR c2 9 0 4 = gR c 9 0 4
            unfold gR
            rw [b4]
          rw [this]; exact h2.2.1
        · have : gR (sI c2 6 0 1 (nI (len + k))) 9 0 5 = gR c 9 0 5 := by
            show gR c2 9 0 5 = gR c 9 0 5
            unfold gR
            rw [b4]
          rw [this]; exact h2.2.2
        · rw [cI 7 0 5 (by decide) (by decide), mI 10 0 3 (by decide) (by omega)]; exact hF.1
        · rw [cI 7 0 6 (by decide) (by decide), mI 10 0 4 (by decide) (by omega)]; exact hF.2
        · have : gR (sI c2 6 0 1 (nI (len + k))) 2 0 3 = gR c 2 0 3 := by
            show gR c2 2 0 3 = gR c 2 0 3
            unfold gR
            rw [b4]
          rw [this]; exact hS.1
        · rw [cI 2 0 4 (by decide) (by decide), mI 10 0 47 (by decide) (by omega)]; exact hS.2.1
        · rw [cI 2 0 4 (by decide) (by decide)]; exact hS.2.2.1
        · have e1 : gL (sI c2 6 0 1 (nI (len + k))) 2 0 = gL c 2 0 := by
            show gL c2 2 0 = gL c 2 0
            unfold gL
            rw [b4]
          have e2 : gL m2 10 0 = gL (sI m 10 0 0 0) 10 0 := by
            unfold gL
            rw [d5]
          rw [e1, e2]; exact hS.2.2.2
        · rw [cI 28 0 v (by decide) (by decide), mI 144 0 v (by decide) (by omega)]; exact hV v hv
        · rw [cI 29 0 i (by decide) (by decide), mI 145 0 i (by decide) (by omega)]; exact hC i hi
      · rw [if_neg y3, if_neg y3, bd_s]
        dsimp only
        rw [if_pos rfl]
        exact ⟨_, _, _, rfl, rfl, gs_I _ _ _ _ _, T, len, q, cnt, B, lat, mn, ⟨⟨tl, tb⟩, t2, t3⟩, h2, hP, hF, hS, hV, hC⟩
    · rw [if_neg y2, if_neg y2, if_neg y2]
      exact Or.inr ⟨rfl, thr⟩
/-- wipe -/
theorem i_wipe (h : INVL c m) : ∃ r c' m', K_wipe n c = some (r, c') ∧ M_wipe n m = some (r, m') ∧ INVL c' m' := by
  obtain ⟨T, len, q, cnt, B, lat, mn, hI⟩ := h
  obtain ⟨⟨t1, t2, t3⟩, h2, hP, hF, hS, hV, hC⟩ := hI.thr 0
  rw [K_wipe, Tp_clear, M_wipe]
  simp only [lt9]
  rw [bd_s, t2.1, t3.1]
  refine ⟨_, _, _, rfl, rfl, T, 0, q, cnt, B, lat, mn, ⟨⟨by decide, fun j hj => by omega⟩, ⟨gs_I _ _ _ _ _, fun j hj => by omega⟩, ⟨gs_I _ _ _ _ _, fun j hj => by omega⟩⟩, h2, hP.kp ⟨fun _ _ _ => rfl, fun _ _ _ => rfl, fun _ => rfl, fun _ => ⟨rfl, rfl⟩, hP.1.2.2.2⟩ ⟨fun k i j h1 h2 => gn_I (by omega), gn_I (by omega), gn_I (by omega)⟩, ⟨hF.1.trans (gn_I (by omega)).symm, hF.2.trans (gn_I (by omega)).symm⟩, ⟨hS.1, hS.2.1.trans (gn_I (by omega)).symm, hS.2.2.1, hS.2.2.2⟩, hV, hC⟩
/-- fault, place, at, cycles -/
theorem i_fault (h : INVL c m) : ∃ r m', K_fault n c = some r ∧ M_fault n m = some (r, m') ∧ INVL c m' := by
  obtain ⟨T, len, q, cnt, B, lat, mn, hI⟩ := h
  have h' := hI.thr 0
  rw [K_fault, M_fault]
  simp only [lt9]
  exact ⟨_, _, rfl, by rw [h'.2.2.2.1.1], T, len, q, cnt, B, lat, mn, h'⟩
theorem i_place (h : INVL c m) : ∃ r m', K_place n c = some r ∧ M_place n m = some (r, m') ∧ INVL c m' := by
  obtain ⟨T, len, q, cnt, B, lat, mn, hI⟩ := h
  have h' := hI.thr 0
  rw [K_place, M_place]
  simp only [lt9]
  exact ⟨_, _, rfl, by rw [h'.2.2.2.1.2], T, len, q, cnt, B, lat, mn, h'⟩
theorem i_at (h : INVL c m) : ∃ r m', K_at n c = some r ∧ M_at n m = some (r, m') ∧ INVL c m' := by
  obtain ⟨T, len, q, cnt, B, lat, mn, hI⟩ := h
  have h' := hI.thr 0
  rw [K_at, M_at]
  simp only [lt9]
  exact ⟨_, _, rfl, by rw [h'.2.2.2.2.1.2.1], T, len, q, cnt, B, lat, mn, h'⟩
theorem i_cycles (h : INVL c m) : ∃ r m', K_cycles n c = some r ∧ M_cycles n m = some (r, m') ∧ INVL c m' := by
  obtain ⟨T, len, q, cnt, B, lat, mn, hI⟩ := h
  have h' := hI.thr 0
  rw [K_cycles, M_cycles]
  simp only [lt9]
  exact ⟨_, _, rfl, by rw [h'.2.2.2.2.1.2.2.2], T, len, q, cnt, B, lat, mn, h'⟩
/-- compile -/
theorem j_compile (hn : 6000 ≤ n) (h : INVL c m) : ∃ r c' m', K_compile n c = some (r, c') ∧ M_compile n m = some (r, m') ∧ INVL c' m' := by
  obtain ⟨T, len, q, cnt, B, lat, mn, hI⟩ := h
  obtain ⟨r, c', m', q', cnt', B', h1, h2, h3⟩ := i_compile (n := n) (by omega) hI
  exact ⟨r, c', m', h1, h2, T, len, q', cnt', B', lat, mn, h3⟩
/-- restart -/
theorem i_restart (h : INVL c m) : ∃ c' m', K_restart n c = some c' ∧ M_restart n m = some m' ∧ INVL c' m' := by
  obtain ⟨T, len, q, cnt, B, lat, mn, hI⟩ := h
  obtain ⟨⟨t1, t2, t3⟩, h2, hP, hF, hS, hV, hC⟩ := hI.thr 0
  obtain ⟨c2, m2, b1', b2, b3, b4, b5, b6, b7⟩ := begin_ (n := n) h2.1 hP
  rw [K_restart, M_restart, h2.2.1, bd_s, if_pos h2.1, b1', bd_s]
  simp only [lt9]
  rw [b2, bd_s]
  refine ⟨c2, m2, rfl, rfl, T, len, q, cnt, B, lat, mn, ⟨t1, ⟨(b5 6 0 1 (by omega)).trans t2.1, fun j hj => (b5 20 0 j (by omega)).trans (t2.2 j hj)⟩, ⟨(b7 10 0 2 (by omega)).trans t3.1, fun j hj => (b7 101 0 j (by omega)).trans (t3.2 j hj)⟩⟩, ⟨h2.1, (b6 9 0 4 (by decide)).trans h2.2.1, (b6 9 0 5 (by decide)).trans h2.2.2⟩, b3, ⟨?_, ?_⟩, b4, fun v hv => ?_, fun i hi => ?_⟩
  · rw [b5 7 0 5 (by omega), b7 10 0 3 (by omega)]; exact hF.1
  · rw [b5 7 0 6 (by omega), b7 10 0 4 (by omega)]; exact hF.2
  · rw [b5 28 0 v (by omega), b7 144 0 v (by omega)]; exact hV v hv
  · rw [b5 29 0 i (by omega), b7 145 0 i (by omega)]; exact hC i hi
end CL
