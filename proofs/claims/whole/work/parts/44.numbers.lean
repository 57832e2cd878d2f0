/-- the figures from a place on: where they end, and what they say -/
def nfg (T : Nat → Nat) (len : Nat) : Nat → Nat → Nat → Nat × Nat
| 0, p, v => (p, v)
| f + 1, p, v => if p < len ∧ 48 ≤ T p ∧ T p ≤ 57 then nfg T len f (p + 1) (10 * v + (T p - 48)) else (p, v)
def numR (T : Nat → Nat) (len p v : Nat) : Nat × Nat := nfg T len (len - p) p v
theorem numR_0 {T : Nat → Nat} {len p v : Nat} (h : ¬ isF T len p) : numR T len p v = (p, v) := by
  unfold numR
  cases hf : len - p with
  | zero => rfl
  | succ f => rw [nfg, if_neg (show ¬ (p < len ∧ 48 ≤ T p ∧ T p ≤ 57) from h)]
theorem numR_s {T : Nat → Nat} {len p v : Nat} (h : isF T len p) : numR T len p v = numR T len (p + 1) (10 * v + (T p - 48)) := by
  unfold numR
  have := h.1
  rw [show len - p = (len - (p + 1)) + 1 by omega, nfg, if_pos (show p < len ∧ 48 ≤ T p ∧ T p ≤ 57 from h)]
theorem numR_prop (T : Nat → Nat) (len : Nat) : ∀ (f p v : Nat), len - p ≤ f → p ≤ (numR T len p v).1 ∧ (p ≤ len → (numR T len p v).1 ≤ len) := by
  intro f
  induction f with
  | zero =>
    intro p v hp
    have h : ¬ isF T len p := fun q => by have := q.1; omega
    rw [numR_0 h]
    exact ⟨Nat.le_refl _, fun h => h⟩
  | succ f ih =>
    intro p v hp
    by_cases h : isF T len p
    · rw [numR_s h]
      have := h.1
      obtain ⟨a, b⟩ := ih (p + 1) (10 * v + (T p - 48)) (by omega)
      exact ⟨by omega, fun _ => b (by omega)⟩
    · rw [numR_0 h]
      exact ⟨Nat.le_refl _, fun h => h⟩
theorem numR_gt {T : Nat → Nat} {len p v : Nat} (h : isF T len p) : p < (numR T len p v).1 ∧ (numR T len p v).1 ≤ len := by
  rw [numR_s h]
  have := h.1
  have h2 := numR_prop T len _ (p + 1) (10 * v + (T p - 48)) (Nat.le_refl _)
  exact ⟨by omega, h2.2 (by omega)⟩
theorem lmin_N {a b : Nat} (ha : a < 2 ^ 63) (hb : b < 2 ^ 63) : lmin (lN a) (lN b) = lN (min a b) := by
  unfold lmin
  have e : (lN b < lN a) = (b < a) := propext (pk_lLT hb ha)
  simp only [e]
  by_cases h : b < a
  · rw [if_pos h, show min a b = b by omega]
  · rw [if_neg h, show min a b = a by omega]
theorem r_readNumber {T : Nat → Nat} {len n p : Nat} {c : Mem} (hT : TapeT T len) (h1 : TapeC c T len) (h2 : gI c 5 0 1 = nI p) (h3 : p ≤ len) (hn : 800 ≤ n) : Rd_readNumber n c = some (lN (min (numR T len p 0).2 2147483648), sI c 5 0 1 (nI (numR T len p 0).1)) := by
  have hl := hT.1
  have loop : ∀ (k q v : Nat) (c : Mem), TapeC c T len → gI c 5 0 1 = nI q → q ≤ len → len - q < k → Rd_readNumber_L2 n k (lN (min v 2147483648)) c = some (lN (min (numR T len q v).2 2147483648), sI c 5 0 1 (nI (numR T len q v).1)) := by
    intro k
    induction k with
    | zero => intro q v c h1 h2 h3 h4; omega
    | succ k ih =>
      intro q v c h1 h2 h3 h4
      rw [Rd_readNumber_L2, h1.1, h2]
      by_cases h : q < len
      · have e0 : ix (nI q) 700 = some q := ix_nI (by omega) (by decide)
        rw [if_neg (nI_ge h (by omega)), e0, bd_s, h1.2 q h, ← byt_in h, r_isF hT, bd_s, bd_s]
        by_cases h5 : isF T len q
        · rw [if_neg (fun z => zF_0.mp z h5), lt9, h1.2 q h, nI_l (by have := h5.2.2; omega)]
          have e : lmin (lN 10 * lN (min v 2147483648) + lN (T q) - lN 48) (lN 2147483648) = lN (min (10 * v + (T q - 48)) 2147483648) := by
            have := h5.2.1
            have := h5.2.2
            rw [lN_mul, lN_add, lN_sub (by omega), lmin_N (by omega) (by decide)]
            congr 1
            omega
          have e2 : lmin ((10 : Int64) * lN (min v 2147483648) + lN (T q) - (48 : Int64)) (2147483648 : Int64) = lN (min (10 * v + (T q - 48)) 2147483648) := e
          rw [e2]
          show Rd_readNumber_L2 n k _ (sI c 5 0 1 (nI q + 1)) = _
          rw [nI_1, ih (q + 1) _ (sI c 5 0 1 (nI (q + 1))) h1 (gs_I _ _ _ _ _) (by omega) (by omega), sI_sI, numR_s h5]
        · rw [if_pos (zF_0.mpr h5), numR_0 h5, sI_same h2]
      · rw [if_pos (nI_le (by omega) (by omega)), numR_0 (fun z => h z.1), sI_same h2]
  have l0 : Rd_readNumber_L2 n n (0 : Int64) c = _ := loop n p 0 c h1 h2 h3 (by omega)
  rw [Rd_readNumber, l0, bd_s]
theorem m_numLoop {T : Nat → Nat} {len n : Nat} (hT : TapeT T len) : ∀ (k q v : Nat) (c : Mem), TapeM c T len → gI c 10 0 5 = nI q → q ≤ len → len - q < k → M_number_L7 n k (lN (min v 9999999999)) c = some (lN (min (numR T len q v).2 9999999999), sI c 10 0 5 (nI (numR T len q v).1)) := by
  have hl := hT.1
  intro k
  induction k with
  | zero => intro q v c h1 h2 h3 h4; omega
  | succ k ih =>
    intro q v c h1 h2 h3 h4
    rw [M_number_L7, h2, m_byteAt hT h1 (by omega), bd_s, m_isF hT, bd_s, bd_s]
    by_cases h5 : isF T len q
    · have hb := h5.2.1
      have hb2 := h5.2.2
      have hq := h5.1
      rw [if_neg (fun z => zF_0.mp z h5), byt_in h5.1, nI_l (by omega)]
      simp only [lt9]
      have e : lN (min v 9999999999) * lN 10 + lN (T q) - lN 48 = lN (min v 9999999999 * 10 + T q - 48) := by
        rw [lN_mul, lN_add, lN_sub (by omega)]
      have e' : lN (min v 9999999999) * (10 : Int64) + lN (T q) - (48 : Int64) = lN (min v 9999999999 * 10 + T q - 48) := e
      rw [e']
      have e3 : (lg_cmp (lN (min v 9999999999 * 10 + T q - 48)) (9999999999 : Int64) ≤ 0) = (min v 9999999999 * 10 + T q - 48 ≤ 9999999999) := propext ((lg_cmp_le _ _).trans (pk_lLE (b := 9999999999) (by omega) (by decide)))
      simp only [e3]
      have fin : M_number_L7 n k (lN (min (10 * v + (T q - 48)) 9999999999)) (sI c 10 0 5 (nI q + 1)) = some (lN (min (numR T len q v).2 9999999999), sI c 10 0 5 (nI (numR T len q v).1)) := by
        rw [nI_1, ih (q + 1) _ (sI c 10 0 5 (nI (q + 1))) h1 (gs_I _ _ _ _ _) (by omega) (by omega), sI_sI, numR_s h5]
      by_cases h6 : min v 9999999999 * 10 + T q - 48 ≤ 9999999999
      · rw [if_pos h6, show min v 9999999999 * 10 + T q - 48 = min (10 * v + (T q - 48)) 9999999999 by omega]
        exact fin
      · rw [if_neg h6]
        have e5 : (9999999999 : Int64) = lN (min (10 * v + (T q - 48)) 9999999999) := by
          rw [show min (10 * v + (T q - 48)) 9999999999 = 9999999999 by omega]
          rfl
        rw [e5]
        exact fin
    · rw [if_pos (zF_0.mpr h5), numR_0 h5, sI_same h2]
theorem m_numL {T : Nat → Nat} {len n p : Nat} {m : Mem} (hT : TapeT T len) (h1 : TapeM m T len) (h2 : gI m 10 0 5 = nI p) (h3 : p ≤ len) (hn : 800 ≤ n) : M_number_L7 n n (0 : Int64) m = some (lN (min (numR T len p 0).2 9999999999), sI m 10 0 5 (nI (numR T len p 0).1)) :=
  m_numLoop hT n p 0 m h1 h2 h3 (by have := hT.1; omega)
theorem num_c {v w : Nat} (hw : w < 2 ^ 62) (hv : 2147483648 ≤ w) : (lg_cmp (lN (min v w)) (2147483647 : Int64) ≤ 0) = (v ≤ 2147483647) := by
  refine propext ((lg_cmp_le _ _).trans ((pk_lLE (b := 2147483647) (by omega) (by decide)).trans ?_))
  omega
theorem num_i {v w : Nat} (h : v ≤ 2147483647) (hv : 2147483648 ≤ w) : (lN (min v w)).toInt32 = nI v := by
  rw [lN_i, show min v w = v by omega]
