/-! ===== PURE: letters, words, figures ===== -/
theorem q_lt {a b : Nat} (ha : a < 2 ^ 31) (hb : b < 2 ^ 31) : (nI a < nI b) = (a < b) := propext (nI_ltI ha hb)
theorem q_le {a b : Nat} (ha : a < 2 ^ 31) (hb : b < 2 ^ 31) : (nI a ≤ nI b) = (a ≤ b) := propext (nI_leI ha hb)
theorem q_eq {a b : Nat} (ha : a < 2 ^ 31) (hb : b < 2 ^ 31) : (nI a = nI b) = (a = b) := propext (nI_eq ha hb)
theorem m1_toInt : (-1 : Int32).toInt = -1 := by decide
theorem q_eqm {a : Nat} (ha : a < 2 ^ 31) : (nI a = (-1 : Int32)) = False := by
  refine propext ⟨fun h => ?_, fun h => h.elim⟩
  have := congrArg Int32.toInt h
  rw [nI_toInt ha, m1_toInt] at this
  omega
theorem q_ltm {a : Nat} (ha : a < 2 ^ 31) : (nI a < (0 : Int32)) = False := propext ⟨fun h => nI_pos ha h, fun h => h.elim⟩
/-- the byte at a place, as a number; 0 at the end -/
def bt (T : Nat → Nat) (len p : Nat) : Nat := if p < len then T p else 0
theorem byt_in {T : Nat → Nat} {len p : Nat} (h : p < len) : byt T len p = nI (T p) := by unfold byt; rw [if_pos h]
theorem byt_out {T : Nat → Nat} {len p : Nat} (h : ¬ p < len) : byt T len p = -1 := by unfold byt; rw [if_neg h]
/-- whether a letter stands at a place; whether a figure does -/
def isL (T : Nat → Nat) (len p : Nat) : Prop := p < len ∧ 97 ≤ T p ∧ T p ≤ 122
def isF (T : Nat → Nat) (len p : Nat) : Prop := p < len ∧ 48 ≤ T p ∧ T p ≤ 57
theorem z_dec (P : Prop) [Decidable P] : (if P then (1 : Int32) else 0) = 0 ↔ ¬ P := by
  by_cases h : P
  · rw [if_pos h]; exact ⟨fun q => absurd q (by decide), fun q => absurd h q⟩
  · rw [if_neg h]; exact ⟨fun _ => h, fun _ => rfl⟩
theorem r_isLetter {n b : Nat} (hb : b < 2 ^ 31) : Rd_isLetter n (nI b) = some (if 97 ≤ b ∧ b ≤ 122 then 1 else 0) := by
  rw [Rd_isLetter]
  simp (disch := omega) only [lit, q_lt]
  by_cases h1 : b < 97
  · rw [if_pos h1, if_neg (by omega)]
  · rw [if_neg h1]
    by_cases h2 : 122 < b
    · rw [if_pos h2, if_neg (by omega)]
    · rw [if_neg h2, if_pos (by omega)]
theorem m_isLetter {n b : Nat} (hb : b < 2 ^ 31) : M_isLetter n (nI b) = some (if 97 ≤ b ∧ b ≤ 122 then 1 else 0) := r_isLetter (n := n) hb
theorem r_isFigure {n b : Nat} (hb : b < 2 ^ 31) : Rd_isFigure n (nI b) = some (if 48 ≤ b ∧ b ≤ 57 then 1 else 0) := by
  rw [Rd_isFigure]
  simp (disch := omega) only [lit, q_lt]
  by_cases h1 : b < 48
  · rw [if_pos h1, if_neg (by omega)]
  · rw [if_neg h1]
    by_cases h2 : 57 < b
    · rw [if_pos h2, if_neg (by omega)]
    · rw [if_neg h2, if_pos (by omega)]
theorem m_isFigure {n b : Nat} (hb : b < 2 ^ 31) : M_isFigure n (nI b) = some (if 48 ≤ b ∧ b ≤ 57 then 1 else 0) := r_isFigure (n := n) hb
theorem m_isLetter1 {n : Nat} : M_isLetter n (-1) = some 0 := by rw [M_isLetter, if_pos (by decide)]
theorem m_isFigure1 {n : Nat} : M_isFigure n (-1) = some 0 := by rw [M_isFigure, if_pos (by decide)]
theorem r_isLetter1 {n : Nat} : Rd_isLetter n (-1) = some 0 := by rw [Rd_isLetter, if_pos (by decide)]
theorem r_isFigure1 {n : Nat} : Rd_isFigure n (-1) = some 0 := by rw [Rd_isFigure, if_pos (by decide)]
noncomputable def zL (T : Nat → Nat) (len p : Nat) : Int32 := if p < len ∧ 97 ≤ T p ∧ T p ≤ 122 then 1 else 0
noncomputable def zF (T : Nat → Nat) (len p : Nat) : Int32 := if p < len ∧ 48 ≤ T p ∧ T p ≤ 57 then 1 else 0
theorem zL_0 {T : Nat → Nat} {len p : Nat} : zL T len p = 0 ↔ ¬ isL T len p := z_dec _
theorem zF_0 {T : Nat → Nat} {len p : Nat} : zF T len p = 0 ↔ ¬ isF T len p := z_dec _
theorem zL_01 (T : Nat → Nat) (len p : Nat) : zL T len p = 0 ∨ zL T len p = 1 := by
  unfold zL
  by_cases h : p < len ∧ 97 ≤ T p ∧ T p ≤ 122
  · rw [if_pos h]; exact Or.inr rfl
  · rw [if_neg h]; exact Or.inl rfl
theorem zF_01 (T : Nat → Nat) (len p : Nat) : zF T len p = 0 ∨ zF T len p = 1 := by
  unfold zF
  by_cases h : p < len ∧ 48 ≤ T p ∧ T p ≤ 57
  · rw [if_pos h]; exact Or.inr rfl
  · rw [if_neg h]; exact Or.inl rfl
theorem m_isL {T : Nat → Nat} {len n p : Nat} (hT : TapeT T len) : M_isLetter n (byt T len p) = some (zL T len p) := by
  unfold zL
  by_cases h : p < len
  · rw [byt_in h, m_isLetter (by have := hT.2 p h; omega)]
    by_cases h2 : 97 ≤ T p ∧ T p ≤ 122
    · rw [if_pos h2, if_pos ⟨h, h2⟩]
    · rw [if_neg h2, if_neg (fun q => h2 q.2)]
  · rw [byt_out h, m_isLetter1, if_neg (fun q => h q.1)]
theorem m_isF {T : Nat → Nat} {len n p : Nat} (hT : TapeT T len) : M_isFigure n (byt T len p) = some (zF T len p) := by
  unfold zF
  by_cases h : p < len
  · rw [byt_in h, m_isFigure (by have := hT.2 p h; omega)]
    by_cases h2 : 48 ≤ T p ∧ T p ≤ 57
    · rw [if_pos h2, if_pos ⟨h, h2⟩]
    · rw [if_neg h2, if_neg (fun q => h2 q.2)]
  · rw [byt_out h, m_isFigure1, if_neg (fun q => h q.1)]
theorem r_isL {T : Nat → Nat} {len n p : Nat} (hT : TapeT T len) : Rd_isLetter n (byt T len p) = some (zL T len p) := m_isL (n := n) hT
theorem r_isF {T : Nat → Nat} {len n p : Nat} (hT : TapeT T len) : Rd_isFigure n (byt T len p) = some (zF T len p) := m_isF (n := n) hT
def nlet (T : Nat → Nat) (len : Nat) : Nat → Nat → Nat
| 0, _ => 0
| f + 1, p => if p < len ∧ 97 ≤ T p ∧ T p ≤ 122 then nlet T len f (p + 1) + 1 else 0
/-- how many letters stand from a place on -/
def lets (T : Nat → Nat) (len p : Nat) : Nat := nlet T len (len - p) p
theorem lets_0 {T : Nat → Nat} {len p : Nat} (h : ¬ isL T len p) : lets T len p = 0 := by
  unfold lets
  cases hf : len - p with
  | zero => rfl
  | succ f => rw [nlet, if_neg (show ¬ (p < len ∧ 97 ≤ T p ∧ T p ≤ 122) from h)]
theorem lets_s {T : Nat → Nat} {len p : Nat} (h : isL T len p) : lets T len p = lets T len (p + 1) + 1 := by
  unfold lets
  have := h.1
  rw [show len - p = (len - (p + 1)) + 1 by omega, nlet, if_pos (show p < len ∧ 97 ≤ T p ∧ T p ≤ 122 from h)]
theorem lets_prop (T : Nat → Nat) (len : Nat) : ∀ (f p : Nat), len - p ≤ f → (p ≤ len → p + lets T len p ≤ len) ∧ ∀ i, i < lets T len p → isL T len (p + i) := by
  intro f
  induction f with
  | zero =>
    intro p hp
    have h : ¬ isL T len p := fun q => by have := q.1; omega
    rw [lets_0 h]
    exact ⟨fun h => h, fun i hi => by omega⟩
  | succ f ih =>
    intro p hp
    by_cases h : isL T len p
    · rw [lets_s h]
      have := h.1
      obtain ⟨a, b⟩ := ih (p + 1) (by omega)
      refine ⟨fun _ => by have := a (by omega); omega, fun i hi => ?_⟩
      cases i with
      | zero => exact h
      | succ i => have := b i (by omega); rw [show p + 1 + i = p + (i + 1) by omega] at this; exact this
    · rw [lets_0 h]
      exact ⟨fun h => h, fun i hi => by omega⟩
theorem lets_le {T : Nat → Nat} {len p : Nat} (h : p ≤ len) : p + lets T len p ≤ len := (lets_prop T len _ p (Nat.le_refl _)).1 h
theorem lets_is {T : Nat → Nat} {len p i : Nat} (h : i < lets T len p) : isL T len (p + i) := (lets_prop T len _ p (Nat.le_refl _)).2 i h
theorem r_letters {T : Nat → Nat} {len n p : Nat} {c : Mem} (hT : TapeT T len) (h1 : TapeC c T len) (h2 : gI c 5 0 1 = nI p) (h3 : p ≤ len) (hn : 800 ≤ n) : Rd_lettersHere n c = some (nI (lets T len p)) := by
  have hl := hT.1
  have loop : ∀ (k q : Nat), q ≤ len → len - q < k → Rd_lettersHere_L5 n c k (nI q) = some (nI (q + lets T len q)) := by
    intro k
    induction k with
    | zero => intro q h3 h4; omega
    | succ k ih =>
      intro q h3 h4
      rw [Rd_lettersHere_L5, h1.1]
      by_cases h : q < len
      · rw [if_neg (nI_ge h (by omega)), ix_nI (N := 700) (by omega) (by decide), bd_s, h1.2 q h, ← byt_in h, r_isL hT, bd_s]
        by_cases h5 : isL T len q
        · rw [if_neg (fun z => zL_0.mp z h5), nI_1, ih (q + 1) (by omega) (by omega), lets_s h5, show q + 1 + lets T len (q + 1) = q + (lets T len (q + 1) + 1) by omega]
        · rw [if_pos (zL_0.mpr h5), lets_0 h5, Nat.add_zero]
      · rw [if_pos (nI_le (by omega) (by omega)), lets_0 (fun q => h q.1), Nat.add_zero]
  rw [Rd_lettersHere, h2, loop n p h3 (by omega), bd_s, pk_sub (by omega), show p + lets T len p - p = lets T len p by omega]
theorem m_letters {T : Nat → Nat} {len n p : Nat} {m : Mem} (hT : TapeT T len) (h1 : TapeM m T len) (h3 : p ≤ len) (hn : 800 ≤ n) : M_wordSize n (nI p) m = some (nI (lets T len p)) := by
  have hl := hT.1
  have loop : ∀ (k i : Nat), p + i ≤ len → len - (p + i) < k → M_wordSize_L2 n (nI p) m k (nI i) = some (nI (i + lets T len (p + i))) := by
    intro k
    induction k with
    | zero => intro q h3 h4; omega
    | succ k ih =>
      intro q h3 h4
      rw [M_wordSize_L2, nI_add, m_byteAt hT h1 (by omega), bd_s, m_isL hT, bd_s]
      by_cases h5 : isL T len (p + q)
      · have := h5.1
        rw [if_neg (fun z => zL_0.mp z h5), nI_1, ih (q + 1) (by omega) (by omega), lets_s h5, show p + (q + 1) = p + q + 1 by omega, show q + 1 + lets T len (p + q + 1) = q + (lets T len (p + q + 1) + 1) by omega]
      · rw [if_pos (zL_0.mpr h5), lets_0 h5, Nat.add_zero]
  have := loop n 0 (by omega) (by omega)
  rw [Nat.add_zero, Nat.zero_add, nI_0] at this
  rw [M_wordSize, this, bd_s]
theorem r_seesLetter {T : Nat → Nat} {len n p : Nat} {c : Mem} (hT : TapeT T len) (h1 : TapeC c T len) (h2 : gI c 5 0 1 = nI p) (h3 : p ≤ len) (hn : 800 ≤ n) : Rd_seesLetter n c = some (zL T len (skip T len p), sI c 5 0 1 (nI (skip T len p))) := by
  rw [Rd_seesLetter, r_look hT h1 h2 h3 hn, bd_s]
  show (Rd_isLetter n (byt T len (skip T len p))).bind _ = _
  rw [r_isL hT, bd_s, if_pos (zL_01 _ _ _)]
theorem r_seesFigure {T : Nat → Nat} {len n p : Nat} {c : Mem} (hT : TapeT T len) (h1 : TapeC c T len) (h2 : gI c 5 0 1 = nI p) (h3 : p ≤ len) (hn : 800 ≤ n) : Rd_seesFigure n c = some (zF T len (skip T len p), sI c 5 0 1 (nI (skip T len p))) := by
  rw [Rd_seesFigure, r_look hT h1 h2 h3 hn, bd_s]
  show (Rd_isFigure n (byt T len (skip T len p))).bind _ = _
  rw [r_isF hT, bd_s, if_pos (zF_01 _ _ _)]
