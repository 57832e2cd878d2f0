theorem i8 : ((8 : Int32).toInt64 &&& 63) = (8 : Int64) := by decide
theorem lN_bv {a : Nat} (h : a < 2 ^ 63) : (lN a).toBitVec.toNat = a := by
  show (BitVec.ofNat 64 a).toNat = a
  rw [BitVec.toNat_ofNat, Nat.mod_eq_of_lt (by omega)]
theorem lN_push {a b : Nat} (ha : a < 2 ^ 48) (hb : b < 256) : (lN a <<< (8 : Int64)) ||| lN b = lN (a * 256 + b) := by
  apply Int64.toBitVec_inj.mp
  rw [Int64.toBitVec_or, Int64.toBitVec_shiftLeft]
  apply BitVec.eq_of_toNat_eq
  rw [BitVec.toNat_or, lN_bv (by omega), lN_bv (by omega), show (Int64.toBitVec 8).smod 64 = 8#64 by decide]
  rw [show (lN a).toBitVec <<< 8#64 = (lN a).toBitVec <<< 8 from rfl, BitVec.toNat_shiftLeft, lN_bv (by omega)]
  rw [Nat.shiftLeft_eq, Nat.mod_eq_of_lt (by omega), show a * 2 ^ 8 = a <<< 8 by rw [Nat.shiftLeft_eq], ← Nat.shiftLeft_add_eq_or_of_lt (by omega), Nat.shiftLeft_eq]
/-- the first k bytes from a place on, as one number -/
def wv (T : Nat → Nat) (p : Nat) : Nat → Nat
| 0 => 0
| k + 1 => wv T p k * 256 + T (p + k)
/-- the word at a place: 1 if, 2 else, 3 while, 4 a variable, 5 m, 0 none of these -/
noncomputable def wd (T : Nat → Nat) (len p : Nat) : Nat :=
  if lets T len p = 1 then (if T p ≤ 104 then 4 else if T p = 109 then 5 else 0)
  else if lets T len p = 2 ∧ T p = 105 ∧ T (p + 1) = 102 then 1
  else if lets T len p = 4 ∧ T p = 101 ∧ T (p + 1) = 108 ∧ T (p + 2) = 115 ∧ T (p + 3) = 101 then 2
  else if lets T len p = 5 ∧ T p = 119 ∧ T (p + 1) = 104 ∧ T (p + 2) = 105 ∧ T (p + 3) = 108 ∧ T (p + 4) = 101 then 3
  else 0
theorem wv_lt {T : Nat → Nat} {p : Nat} : ∀ k, (∀ i, i < k → T (p + i) < 256) → wv T p k < 256 ^ k := by
  intro k
  induction k with
  | zero => intro _; rw [wv]; decide
  | succ k ih =>
    intro h
    have h1 := ih (fun i hi => h i (by omega))
    have h2 := h k (by omega)
    rw [wv, Nat.pow_succ]
    omega
theorem m_word {T : Nat → Nat} {len n p : Nat} {m : Mem} (hT : TapeT T len) (h1 : TapeM m T len) (h2 : gI m 10 0 5 = nI p) (h3 : p ≤ len) (hn : 800 ≤ n) : M_word n m = some (nI (wd T len (skip T len p)), sI m 10 0 5 (nI (skip T len p))) := by
  have hl := hT.1
  have hs := skip_le (T := T) h3
  rw [M_word, m_next hT h1 h2 h3 hn, bd_s]
  show ((M_wordSize n (gI (sI m 10 0 5 (nI (skip T len p))) 10 0 5) (sI m 10 0 5 (nI (skip T len p)))).bind _) = _
  rw [gs_I, m_letters hT (by exact h1) hs hn, bd_s]
  generalize hq : skip T len p = q at hs ⊢
  generalize hm' : sI m 10 0 5 (nI q) = m'
  have h1' : TapeM m' T len := by rw [← hm']; exact h1
  have h2' : gI m' 10 0 5 = nI q := by rw [← hm', gs_I]
  have hL := lets_le (T := T) hs
  have hLb : ∀ i, i < lets T len q → q + i < len ∧ 97 ≤ T (q + i) ∧ T (q + i) ≤ 122 := fun i hi => lets_is hi
  generalize hLd : lets T len q = L at hL hLb ⊢
  have loop : ∀ (k i : Nat), i ≤ L → i ≤ 6 → L - i < k → M_word_L19 n (byt T len q, m') (nI L) k (lN (wv T q i)) (nI i) = some (lN (wv T q (min L 6))) := by
    intro k
    induction k with
    | zero => intro i h1 h2 h3; omega
    | succ k ih =>
      intro i g1 g2 g3
      rw [M_word_L19]
      simp (disch := omega) only [lit, q_le]
      by_cases e1 : L ≤ i
      · rw [if_pos e1, show min L 6 = i by omega]
      · rw [if_neg e1]
        by_cases e2 : 6 ≤ i
        · rw [if_pos e2, show min L 6 = i by omega]
        · rw [if_neg e2, h2', nI_add, m_byteAt hT h1' (by omega), bd_s, byt_in (hLb i (by omega)).1, ← lit 8, i8, nI_l (by have := (hLb i (by omega)).2.2; omega)]
          have hw : wv T q i < 256 ^ i := wv_lt i (fun j hj => by have := (hLb j (by omega)).2.2; omega)
          have hw2 : (256 : Nat) ^ i ≤ 256 ^ 5 := Nat.pow_le_pow_right (by decide) (by omega)
          have hw3 : wv T q i < 2 ^ 48 := Nat.lt_of_lt_of_le hw (Nat.le_trans hw2 (by decide))
          rw [lN_push hw3 (by have := (hLb i (by omega)).2.2; omega), ← lit 1]
          show M_word_L19 n (byt T len q, m') (nI L) k (lN (wv T q (i + 1))) (nI i + 1) = _
          rw [nI_1]
          exact ih (i + 1) (by omega) (by omega) (by omega)
  have l0 : M_word_L19 n (byt T len q, m') (nI L) n 0 0 = some (lN (wv T q (min L 6))) := loop n 0 (by omega) (by omega) (by omega)
  rw [l0, bd_s]
  have hwl : wv T q (min L 6) < 2 ^ 48 := Nat.lt_of_lt_of_le (wv_lt (min L 6) (fun j hj => by have := (hLb j (by omega)).2.2; omega)) (Nat.le_trans (Nat.pow_le_pow_right (by decide) (Nat.min_le_right L 6)) (by decide))
  have cmp : ∀ v : Nat, v < 2 ^ 60 → (lg_cmp (lN (wv T q (min L 6))) (lN v) = nI 0) = (wv T q (min L 6) = v) := fun v hv => propext ((lg_cmp_eq _ _).trans (pk_lEQ (by omega) (by omega)))
  unfold wd
  rw [hLd]
  rw [show (26982 : Int64) = lN 26982 from rfl, show (1701606245 : Int64) = lN 1701606245 from rfl, show (512852847717 : Int64) = lN 512852847717 from rfl]
  have e1 : (nI L = (1 : Int32)) = (L = 1) := q_eq (b := 1) (by omega) (by decide)
  have e2 : (nI L = (2 : Int32)) = (L = 2) := q_eq (b := 2) (by omega) (by decide)
  have e4 : (nI L = (4 : Int32)) = (L = 4) := q_eq (b := 4) (by omega) (by decide)
  have e5 : (nI L = (5 : Int32)) = (L = 5) := q_eq (b := 5) (by omega) (by decide)
  have k1 : ((1 : Int32) = 0) = False := eq_false (by decide)
  have k0 : ((0 : Int32) = 0) = True := eq_true rfl
  have cmp' : ∀ v : Nat, v < 2 ^ 60 → (lg_cmp (lN (wv T q (min L 6))) (lN v) = 0) = (wv T q (min L 6) = v) := cmp
  simp only [lt9, e1, e2, e4, e5, cmp' 26982 (by decide), cmp' 1701606245 (by decide), cmp' 512852847717 (by decide), k1, k0, if_true, if_false]
  by_cases c1 : L = 1
  · rw [if_pos c1, if_pos c1]
    have hb := hLb 0 (by omega)
    rw [Nat.add_zero] at hb
    rw [byt_in hb.1]
    simp (disch := omega) only [lit, q_lt, q_eq]
    by_cases c2 : 104 < T q
    · rw [if_pos c2, if_neg (show ¬ T q ≤ 104 by omega)]
      by_cases c3 : T q = 109
      · rw [if_pos c3, if_pos c3]
      · rw [if_neg c3, if_neg c3]
    · rw [if_neg c2, if_pos (show T q ≤ 104 by omega)]
  · rw [if_neg c1, if_neg c1]
    by_cases c2 : L = 2
    · have a0 := hLb 0 (by omega)
      have a1 := hLb 1 (by omega)
      rw [Nat.add_zero] at a0
      have e : wv T q (min L 6) = T q * 256 + T (q + 1) := by rw [c2]; simp [wv]
      rw [e]
      by_cases c3 : T q = 105 ∧ T (q + 1) = 102
      · simp [c2, c3]
        rfl
      · have : ¬ (T q * 256 + T (q + 1) = 26982) := by omega
        simp [c2, c3, this]
        try rfl
    · by_cases c4 : L = 4
      · have a0 := hLb 0 (by omega)
        have a1 := hLb 1 (by omega)
        have a2 := hLb 2 (by omega)
        have a3 := hLb 3 (by omega)
        rw [Nat.add_zero] at a0
        have e : wv T q (min L 6) = ((T q * 256 + T (q + 1)) * 256 + T (q + 2)) * 256 + T (q + 3) := by rw [c4]; simp [wv]
        rw [e]
        by_cases c3 : T q = 101 ∧ T (q + 1) = 108 ∧ T (q + 2) = 115 ∧ T (q + 3) = 101
        · simp [c4, c3]
          rfl
        · have : ¬ (((T q * 256 + T (q + 1)) * 256 + T (q + 2)) * 256 + T (q + 3) = 1701606245) := by omega
          simp [c4, c3, this]
          try rfl
      · by_cases c5 : L = 5
        · have a0 := hLb 0 (by omega)
          have a1 := hLb 1 (by omega)
          have a2 := hLb 2 (by omega)
          have a3 := hLb 3 (by omega)
          have a4 := hLb 4 (by omega)
          rw [Nat.add_zero] at a0
          have e : wv T q (min L 6) = (((T q * 256 + T (q + 1)) * 256 + T (q + 2)) * 256 + T (q + 3)) * 256 + T (q + 4) := by rw [c5]; simp [wv]
          rw [e]
          by_cases c3 : T q = 119 ∧ T (q + 1) = 104 ∧ T (q + 2) = 105 ∧ T (q + 3) = 108 ∧ T (q + 4) = 101
          · simp [c5, c3]
            rfl
          · have : ¬ ((((T q * 256 + T (q + 1)) * 256 + T (q + 2)) * 256 + T (q + 3)) * 256 + T (q + 4) = 512852847717) := by omega
            simp [c5, c3, this]
            try rfl
        · simp [c2, c4, c5]
          rfl
