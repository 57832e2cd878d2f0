/-! ===== PURE: the tape on both sides ===== -/
theorem bd_s {α β : Type} (a : α) (f : α → Option β) : (some a).bind f = f a := rfl
theorem sI_same {g : Mem} {k i j : Nat} {v : Int32} (h : gI g k i j = v) : sI g k i j v = g := by
  have e : (fun a b c => if a = k ∧ b = i ∧ c = j then v else g.1 a b c) = g.1 := by
    funext a b c
    by_cases hz : a = k ∧ b = i ∧ c = j
    · rw [if_pos hz, ← h, hz.1, hz.2.1, hz.2.2]
      rfl
    · rw [if_neg hz]
  unfold sI
  rw [e]
theorem sI_sI (g : Mem) (k i j : Nat) (v w : Int32) : sI (sI g k i j v) k i j w = sI g k i j w := by
  have e : (fun a b c => if a = k ∧ b = i ∧ c = j then w else (sI g k i j v).1 a b c) = fun a b c => if a = k ∧ b = i ∧ c = j then w else g.1 a b c := by
    funext a b c
    by_cases hz : a = k ∧ b = i ∧ c = j
    · rw [if_pos hz, if_pos hz]
    · rw [if_neg hz, if_neg hz]
      show (if a = k ∧ b = i ∧ c = j then v else g.1 a b c) = _
      rw [if_neg hz]
  unfold sI at e ⊢
  rw [e]
theorem gs_I (g : Mem) (k i j : Nat) (v : Int32) : gI (sI g k i j v) k i j = v := by rw [gI_sI, if_pos ⟨rfl, rfl, rfl⟩]
theorem gn_I {g : Mem} {k i j a b c : Nat} {v : Int32} (h : ¬ (a = k ∧ b = i ∧ c = j)) : gI (sI g k i j v) a b c = gI g a b c := by rw [gI_sI, if_neg h]
theorem gs_R (g : Mem) (k i j : Nat) (v : Option Nat) : gR (sR g k i j v) k i j = v := by rw [gR_sR, if_pos ⟨rfl, rfl, rfl⟩]
def skp (T : Nat → Nat) (len : Nat) : Nat → Nat → Nat
| 0, p => p
| f + 1, p => if p < len then (if T p ≤ 32 then skp T len f (p + 1) else p) else p
/-- the place of the next byte that counts, or the end -/
def skip (T : Nat → Nat) (len p : Nat) : Nat := skp T len (len - p) p
theorem skip_end {T : Nat → Nat} {len p : Nat} (h : len ≤ p) : skip T len p = p := by
  unfold skip
  rw [show len - p = 0 by omega, skp]
theorem skip_stop {T : Nat → Nat} {len p : Nat} (h : p < len) (h2 : ¬ T p ≤ 32) : skip T len p = p := by
  unfold skip
  rw [show len - p = (len - p - 1) + 1 by omega, skp, if_pos h, if_neg h2]
theorem skip_go {T : Nat → Nat} {len p : Nat} (h : p < len) (h2 : T p ≤ 32) : skip T len p = skip T len (p + 1) := by
  unfold skip
  rw [show len - p = (len - (p + 1)) + 1 by omega, skp, if_pos h, if_pos h2]
theorem skip_prop (T : Nat → Nat) (len : Nat) : ∀ (f p : Nat), len - p ≤ f → p ≤ skip T len p ∧ (p ≤ len → skip T len p ≤ len) ∧ (skip T len p < len → 32 < T (skip T len p)) := by
  intro f
  induction f with
  | zero =>
    intro p hp
    rw [skip_end (by omega)]
    exact ⟨Nat.le_refl _, fun h => h, fun h => by omega⟩
  | succ f ih =>
    intro p hp
    by_cases h : p < len
    · by_cases h2 : T p ≤ 32
      · rw [skip_go h h2]
        obtain ⟨a, b, c⟩ := ih (p + 1) (by omega)
        exact ⟨by omega, fun _ => b (by omega), c⟩
      · rw [skip_stop h h2]
        exact ⟨Nat.le_refl _, fun h => h, fun _ => by omega⟩
    · rw [skip_end (by omega)]
      exact ⟨Nat.le_refl _, fun h => h, fun h => by omega⟩
theorem skip_ge (T : Nat → Nat) (len p : Nat) : p ≤ skip T len p := (skip_prop T len _ p (Nat.le_refl _)).1
theorem skip_le {T : Nat → Nat} {len p : Nat} (h : p ≤ len) : skip T len p ≤ len := (skip_prop T len _ p (Nat.le_refl _)).2.1 h
theorem skip_gt {T : Nat → Nat} {len p : Nat} (h : skip T len p < len) : 32 < T (skip T len p) := (skip_prop T len _ p (Nat.le_refl _)).2.2 h
theorem skip_idem {T : Nat → Nat} {len p : Nat} : skip T len (skip T len p) = skip T len p := by
  by_cases h : skip T len p < len
  · exact skip_stop h (by have := skip_gt h; omega)
  · exact skip_end (by omega)
/-- the byte at a place, -1 at the end -/
def byt (T : Nat → Nat) (len p : Nat) : Int32 := if p < len then nI (T p) else -1
def TapeC (c : Mem) (T : Nat → Nat) (len : Nat) : Prop := gI c 6 0 1 = nI len ∧ ∀ j, j < len → gI c 20 0 j = nI (T j)
def TapeM (m : Mem) (T : Nat → Nat) (len : Nat) : Prop := gI m 10 0 2 = nI len ∧ ∀ j, j < len → gI m 101 0 j = nI (T j)
def TapeT (T : Nat → Nat) (len : Nat) : Prop := len ≤ 700 ∧ ∀ j, j < len → T j < 256
theorem lit (k : Nat) : (OfNat.ofNat k : Int32) = nI k := rfl
theorem nlt_nI {a b : Nat} (h : a ≤ b) (hb : b < 2 ^ 31) : ¬ nI b < nI a := nI_nlt h hb
theorem look_loop {T : Nat → Nat} {len n : Nat} (hT : TapeT T len) : ∀ (k p : Nat) (c : Mem), TapeC c T len → gI c 5 0 1 = nI p → p ≤ len → len - p < k → Rd_look_L0 n k c = some (if skip T len p < len then .inl (sI c 5 0 1 (nI (skip T len p))) else .inr (sI c 5 0 1 (nI (skip T len p)))) := by
  intro k
  induction k with
  | zero => intro p c h1 h2 h3 h4; omega
  | succ k ih =>
    intro p c h1 h2 h3 h4
    have hl := hT.1
    rw [Rd_look_L0, h1.1, h2]
    by_cases h : p < len
    · rw [if_neg (nI_ge h (by omega)), ix_nI (N := 700) (by omega) (by decide), bd_s, h1.2 p h]
      by_cases h5 : T p ≤ 32
      · rw [lit 32, if_pos (nI_le (b := 32) h5 (by decide)), lt9]
        show Rd_look_L0 n k (sI c 5 0 1 (nI p + 1)) = _
        rw [nI_1, ih (p + 1) (sI c 5 0 1 (nI (p + 1))) h1 (gs_I _ _ _ _ _) (by omega) (by omega), sI_sI, skip_go h h5]
      · rw [lit 32, if_neg (nI_ge (a := 32) (b := T p) (by omega) (by have := hT.2 p h; omega)), skip_stop h h5, if_pos h, sI_same h2]
    · rw [if_pos (nI_le (by omega) (by omega)), skip_end (by omega), if_neg h, sI_same h2]
theorem r_look {T : Nat → Nat} {len n p : Nat} {c : Mem} (hT : TapeT T len) (h1 : TapeC c T len) (h2 : gI c 5 0 1 = nI p) (h3 : p ≤ len) (hn : 800 ≤ n) : Rd_look n c = some (byt T len (skip T len p), sI c 5 0 1 (nI (skip T len p))) := by
  have hl := hT.1
  rw [Rd_look, look_loop hT n p c h1 h2 h3 (by omega), bd_s]
  unfold byt
  by_cases h : skip T len p < len
  · rw [if_pos h, if_pos h]
    show ((ix (gI (sI c 5 0 1 (nI (skip T len p))) 5 0 1) 700).bind fun j7 => some (gI (sI c 5 0 1 (nI (skip T len p))) 20 0 j7, sI c 5 0 1 (nI (skip T len p)))) = _
    rw [gs_I, ix_nI (N := 700) (by omega) (by decide), bd_s]
    show some (gI c 20 0 (skip T len p), _) = _
    rw [h1.2 _ h]
  · rw [if_neg h, if_neg h]
theorem next_loop {T : Nat → Nat} {len n : Nat} (hT : TapeT T len) : ∀ (k p : Nat) (m : Mem), TapeM m T len → gI m 10 0 5 = nI p → p ≤ len → len - p < k → M_next_L0 n k m = some (sI m 10 0 5 (nI (skip T len p))) := by
  intro k
  induction k with
  | zero => intro p c h1 h2 h3 h4; omega
  | succ k ih =>
    intro p c h1 h2 h3 h4
    have hl := hT.1
    rw [M_next_L0, h1.1, h2]
    by_cases h : p < len
    · rw [if_neg (nI_ge h (by omega)), ix_nI (N := 700) (by omega) (by decide), bd_s, h1.2 p h]
      by_cases h5 : T p ≤ 32
      · rw [lit 32, if_neg (nI_nlt (b := T p) (a := 32) h5 (by decide)), lt9]
        show M_next_L0 n k (sI c 10 0 5 (nI p + 1)) = _
        rw [nI_1, ih (p + 1) (sI c 10 0 5 (nI (p + 1))) h1 (gs_I _ _ _ _ _) (by omega) (by omega), sI_sI, skip_go h h5]
      · rw [lit 32, if_pos (nI_lt (a := 32) (b := T p) (by omega) (by have := hT.2 p h; omega)), skip_stop h h5, sI_same h2]
    · rw [if_pos (nI_le (by omega) (by omega)), skip_end (by omega), sI_same h2]
theorem m_byteAt {T : Nat → Nat} {len n p : Nat} {m : Mem} (hT : TapeT T len) (h1 : TapeM m T len) (h3 : p < 2 ^ 31) : M_byteAt n (nI p) m = some (byt T len p) := by
  have hl := hT.1
  rw [M_byteAt, h1.1]
  unfold byt
  by_cases h : p < len
  · rw [if_neg (nI_ge h (by omega)), ix_nI (N := 700) (by omega) (by decide), bd_s, if_pos h, h1.2 p h]
  · rw [if_pos (nI_le (by omega) h3), if_neg h]
theorem m_next {T : Nat → Nat} {len n p : Nat} {m : Mem} (hT : TapeT T len) (h1 : TapeM m T len) (h2 : gI m 10 0 5 = nI p) (h3 : p ≤ len) (hn : 800 ≤ n) : M_next n m = some (byt T len (skip T len p), sI m 10 0 5 (nI (skip T len p))) := by
  have hl := hT.1
  have hs := skip_le (T := T) h3
  rw [M_next, next_loop hT n p m h1 h2 h3 (by omega), bd_s, gs_I, m_byteAt hT (by exact h1) (by omega), bd_s]
