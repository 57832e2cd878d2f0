/-- which of the written texts: 0 if, 1 while, 2 m, 3 else; what a word at a place would have to be -/
def wof : Nat → Nat
| 0 => 1
| 1 => 3
| 2 => 5
| _ => 2
theorem r_seesWord {T : Nat → Nat} {len n p w : Nat} {c : Mem} (hT : TapeT T len) (h1 : TapeC c T len) (h2 : gI c 5 0 1 = nI p) (h3 : p ≤ len) (hn : 800 ≤ n) (hw : w < 4) : Rd_seesWord n w c = some (if wd T len (skip T len p) = wof w then 1 else 0, sI c 5 0 1 (nI (skip T len p))) := by
  classical
  have hl := hT.1
  have hs := skip_le (T := T) h3
  rw [Rd_seesWord, r_look hT h1 h2 h3 hn, bd_s]
  show ((Rd_lettersHere n (sI c 5 0 1 (nI (skip T len p)))).bind _) = _
  generalize hq : skip T len p = q at hs ⊢
  generalize hm' : sI c 5 0 1 (nI q) = m'
  have h1' : TapeC m' T len := by rw [← hm']; exact h1
  have h2' : gI m' 5 0 1 = nI q := by rw [← hm', gs_I]
  rw [r_letters hT h1' h2' hs hn, bd_s]
  have hL := lets_le (T := T) hs
  have hLb : ∀ i, i < lets T len q → q + i < len ∧ 97 ≤ T (q + i) ∧ T (q + i) ≤ 122 := fun i hi => lets_is hi
  have hwl : lenS.getD w 0 < 10 := by
    rcases (show w = 0 ∨ w = 1 ∨ w = 2 ∨ w = 3 by omega) with rfl | rfl | rfl | rfl <;> decide
  have loop : ∀ (k i : Nat), lets T len q = lenS.getD w 0 → i ≤ lenS.getD w 0 → lenS.getD w 0 - i < k → Rd_seesWord_L20 n w (byt T len q, m') k (nI i) = some (if ∀ j, i ≤ j → j < lenS.getD w 0 → nI (T (q + j)) = (bytS.getD w []).getD j 0 then .inr () else .inl ()) := by
    intro k
    induction k with
    | zero => intro i g0 g1 g2; omega
    | succ k ih =>
      intro i g0 g1 g2
      rw [Rd_seesWord_L20]
      have e0 : (nI (lenS.getD w 0) ≤ nI i) = (lenS.getD w 0 ≤ i) := q_le (by omega) (by omega)
      simp only [e0]
      by_cases e1 : lenS.getD w 0 ≤ i
      · rw [if_pos e1, if_pos (fun j a b => by omega)]
      · have hb := (hLb i (by omega)).1
        rw [if_neg e1, h2', nI_add, ix_nI (N := 700) (by omega) (by decide), bd_s, ix_nI (by omega) (by omega), bd_s]
        show (if gI m' 20 0 (q + i) = _ then _ else _) = _
        rw [h1'.2 _ hb]
        by_cases e2 : nI (T (q + i)) = (bytS.getD w []).getD i 0
        · rw [if_pos e2, nI_1, ih (i + 1) g0 (by omega) (by omega)]
          congr 1
          by_cases e3 : ∀ j, i + 1 ≤ j → j < lenS.getD w 0 → nI (T (q + j)) = (bytS.getD w []).getD j 0
          · rw [if_pos e3, if_pos]
            intro j a b
            rcases Nat.eq_or_lt_of_le a with z | z
            · subst z; exact e2
            · exact e3 j z b
          · rw [if_neg e3, if_neg (fun h => e3 (fun j a b => h j (by omega) b))]
        · rw [if_neg e2, if_neg (fun h => e2 (h i (Nat.le_refl _) (by omega)))]
  have hm : (lets T len q = lenS.getD w 0 ∧ ∀ j, 0 ≤ j → j < lenS.getD w 0 → nI (T (q + j)) = (bytS.getD w []).getD j 0) ↔ wd T len q = wof w := by
    have b : ∀ i, i < lets T len q → T (q + i) < 2 ^ 31 := fun i hi => by have := (hLb i hi).2.2; omega
    have lt : ∀ (i v : Nat), i < lets T len q → v < 2 ^ 31 → (nI (T (q + i)) = nI v ↔ T (q + i) = v) := fun i v hi hv => nI_eq (b i hi) hv
    have g0 : ∀ i, i < lets T len q → 97 ≤ T (q + i) := fun i hi => (hLb i hi).2.1
    unfold wd
    rcases (show w = 0 ∨ w = 1 ∨ w = 2 ∨ w = 3 by omega) with rfl | rfl | rfl | rfl
    · constructor
      · rintro ⟨a, h⟩
        have a : lets T len q = 2 := a
        have e0 := (lt 0 105 (by omega) (by decide)).mp (h 0 (by omega) (by decide))
        have e1 := (lt 1 102 (by omega) (by decide)).mp (h 1 (by omega) (by decide))
        rw [Nat.add_zero] at e0
        rw [if_neg (by omega), if_pos ⟨a, e0, e1⟩]
        rfl
      · intro h
        have a : lets T len q = 2 ∧ T q = 105 ∧ T (q + 1) = 102 := by
          by_cases z : lets T len q = 2 ∧ T q = 105 ∧ T (q + 1) = 102
          · exact z
          · rw [if_neg z] at h
            repeat' split at h
            all_goals (cases h)
        refine ⟨a.1, fun j _ hj => ?_⟩
        have hj : j < 2 := hj
        rcases (show j = 0 ∨ j = 1 by omega) with rfl | rfl
        · exact congrArg nI a.2.1
        · exact congrArg nI a.2.2
    · constructor
      · rintro ⟨a, h⟩
        have a : lets T len q = 5 := a
        have e0 := (lt 0 119 (by omega) (by decide)).mp (h 0 (by omega) (by decide))
        have e1 := (lt 1 104 (by omega) (by decide)).mp (h 1 (by omega) (by decide))
        have e2 := (lt 2 105 (by omega) (by decide)).mp (h 2 (by omega) (by decide))
        have e3 := (lt 3 108 (by omega) (by decide)).mp (h 3 (by omega) (by decide))
        have e4 := (lt 4 101 (by omega) (by decide)).mp (h 4 (by omega) (by decide))
        rw [Nat.add_zero] at e0
        rw [if_neg (by omega), if_neg (by omega), if_neg (by omega), if_pos ⟨a, e0, e1, e2, e3, e4⟩]
        rfl
      · intro h
        have a : lets T len q = 5 ∧ T q = 119 ∧ T (q + 1) = 104 ∧ T (q + 2) = 105 ∧ T (q + 3) = 108 ∧ T (q + 4) = 101 := by
          by_cases z : lets T len q = 5 ∧ T q = 119 ∧ T (q + 1) = 104 ∧ T (q + 2) = 105 ∧ T (q + 3) = 108 ∧ T (q + 4) = 101
          · exact z
          · rw [if_neg z] at h
            repeat' split at h
            all_goals (cases h)
        refine ⟨a.1, fun j _ hj => ?_⟩
        have hj : j < 5 := hj
        rcases (show j = 0 ∨ j = 1 ∨ j = 2 ∨ j = 3 ∨ j = 4 by omega) with rfl | rfl | rfl | rfl | rfl
        · exact congrArg nI a.2.1
        · exact congrArg nI a.2.2.1
        · exact congrArg nI a.2.2.2.1
        · exact congrArg nI a.2.2.2.2.1
        · exact congrArg nI a.2.2.2.2.2
    · constructor
      · rintro ⟨a, h⟩
        have a : lets T len q = 1 := a
        have e0 := (lt 0 109 (by omega) (by decide)).mp (h 0 (by omega) (by decide))
        rw [Nat.add_zero] at e0
        rw [if_pos a, if_neg (by omega), if_pos e0]
        rfl
      · intro h
        have a : lets T len q = 1 ∧ T q = 109 := by
          by_cases z : lets T len q = 1 ∧ T q = 109
          · exact z
          · by_cases z1 : lets T len q = 1
            · have z2 : ¬ T q = 109 := fun q => z ⟨z1, q⟩
              rw [if_pos z1, if_neg z2] at h
              repeat' split at h
              all_goals (cases h)
            · rw [if_neg z1] at h
              repeat' split at h
              all_goals (cases h)
        refine ⟨a.1, fun j _ hj => ?_⟩
        have hj : j < 1 := hj
        rcases (show j = 0 by omega) with rfl
        exact congrArg nI a.2
    · constructor
      · rintro ⟨a, h⟩
        have a : lets T len q = 4 := a
        have e0 := (lt 0 101 (by omega) (by decide)).mp (h 0 (by omega) (by decide))
        have e1 := (lt 1 108 (by omega) (by decide)).mp (h 1 (by omega) (by decide))
        have e2 := (lt 2 115 (by omega) (by decide)).mp (h 2 (by omega) (by decide))
        have e3 := (lt 3 101 (by omega) (by decide)).mp (h 3 (by omega) (by decide))
        rw [Nat.add_zero] at e0
        rw [if_neg (by omega), if_neg (by omega), if_pos ⟨a, e0, e1, e2, e3⟩]
        rfl
      · intro h
        have a : lets T len q = 4 ∧ T q = 101 ∧ T (q + 1) = 108 ∧ T (q + 2) = 115 ∧ T (q + 3) = 101 := by
          by_cases z : lets T len q = 4 ∧ T q = 101 ∧ T (q + 1) = 108 ∧ T (q + 2) = 115 ∧ T (q + 3) = 101
          · exact z
          · rw [if_neg z] at h
            repeat' split at h
            all_goals (cases h)
        refine ⟨a.1, fun j _ hj => ?_⟩
        have hj : j < 4 := hj
        rcases (show j = 0 ∨ j = 1 ∨ j = 2 ∨ j = 3 by omega) with rfl | rfl | rfl | rfl
        · exact congrArg nI a.2.1
        · exact congrArg nI a.2.2.1
        · exact congrArg nI a.2.2.2.1
        · exact congrArg nI a.2.2.2.2
  have e0 : (nI (lets T len q) = nI (lenS.getD w 0)) = (lets T len q = lenS.getD w 0) := q_eq (by omega) (by omega)
  simp only [e0]
  by_cases e1 : lets T len q = lenS.getD w 0
  · have l0 := loop n 0 e1 (by omega) (by omega)
    rw [nI_0] at l0
    rw [if_pos e1, l0, bd_s]
    by_cases e2 : ∀ j, 0 ≤ j → j < lenS.getD w 0 → nI (T (q + j)) = (bytS.getD w []).getD j 0
    · rw [if_pos e2, if_pos (hm.mp ⟨e1, e2⟩)]
    · rw [if_neg e2, if_neg (fun h => e2 (hm.mpr h).2)]
  · rw [if_neg e1, if_neg (fun h => e1 (hm.mpr h).1)]
theorem wd_var {T : Nat → Nat} {len p : Nat} : wd T len p = 4 ↔ lets T len p = 1 ∧ T p ≤ 104 := by
  unfold wd
  constructor
  · intro h
    by_cases z1 : lets T len p = 1
    · refine ⟨z1, ?_⟩
      rw [if_pos z1] at h
      by_cases z2 : T p ≤ 104
      · exact z2
      · rw [if_neg z2] at h
        split at h <;> cases h
    · rw [if_neg z1] at h
      repeat' split at h
      all_goals (cases h)
  · rintro ⟨a, b⟩
    rw [if_pos a, if_pos b]
theorem wd_let {T : Nat → Nat} {len p : Nat} (h : ¬ wd T len p = 0) : isL T len p := by
  by_cases z : isL T len p
  · exact z
  · exfalso
    apply h
    unfold wd
    rw [lets_0 z]
    simp
theorem r_seenVariable {T : Nat → Nat} {len n p : Nat} {c : Mem} (hT : TapeT T len) (h1 : TapeC c T len) (h2 : gI c 5 0 1 = nI p) (h3 : p ≤ len) (hn : 800 ≤ n) : Rd_seenVariable n c = some (if wd T len (skip T len p) = 4 then nI (T (skip T len p) - 97) else -1, sI c 5 0 1 (nI (skip T len p))) := by
  have hl := hT.1
  have hs := skip_le (T := T) h3
  rw [Rd_seenVariable, r_look hT h1 h2 h3 hn, bd_s]
  dsimp only
  generalize hq : skip T len p = q at hs ⊢
  generalize hm' : sI c 5 0 1 (nI q) = m'
  have h1' : TapeC m' T len := by rw [← hm']; exact h1
  have h2' : gI m' 5 0 1 = nI q := by rw [← hm', gs_I]
  rw [r_letters hT h1' h2' hs hn]
  simp only [lt9, bd_s]
  have k1 : ((1 : Int32) = 0) = False := eq_false (by decide)
  have k0 : ((0 : Int32) = 0) = True := eq_true rfl
  simp only [k1, k0, if_true, if_false]
  have e1 : (nI (lets T len q) = (1 : Int32)) = (lets T len q = 1) := q_eq (b := 1) (by have := lets_le (T := T) hs; omega) (by decide)
  simp only [e1]
  by_cases h : q < len
  · rw [byt_in h]
    have hb := hT.2 q h
    by_cases a : T q < 97
    · have : nI (T q) - 97 < 0 := pk_sneg (a := T q) (b := 97) (by decide) a
      rw [if_pos this, if_neg (fun z => by have := (wd_var.mp z).1; have := (lets_is (T := T) (len := len) (p := q) (i := 0) (by omega)).2.1; rw [Nat.add_zero] at this; omega)]
    · have e : nI (T q) - 97 = nI (T q - 97) := pk_sub (a := T q) (b := 97) (by omega)
      rw [e, if_neg (nI_pos (by omega))]
      have e2 : ((8 : Int32) ≤ nI (T q - 97)) = (8 ≤ T q - 97) := q_le (a := 8) (by decide) (by omega)
      simp only [e2]
      by_cases a2 : 8 ≤ T q - 97
      · rw [if_pos a2, if_neg (fun z => by have := (wd_var.mp z).2; omega)]
      · rw [if_neg a2]
        by_cases a3 : lets T len q = 1
        · rw [if_pos a3, if_pos (wd_var.mpr ⟨a3, by omega⟩)]
        · rw [if_neg a3, if_neg (fun z => a3 (wd_var.mp z).1)]
  · rw [byt_out h, if_pos (by decide), if_neg (fun z => by have := (wd_let (T := T) (len := len) (p := q) (by rw [z]; decide)).1; omega)]
