/-! ===== PURE: laying: who comes behind whom, by the reference ===== -/
theorem vr_val {v s x : Int32} {j : Nat} (h : VR0 v s x) (hj : j < 200) : (s = 3 ∧ x = nI j) = (v = cval j) := by
  apply propext
  rcases h with (⟨a, rfl, rfl⟩ | ⟨k, k1, rfl, rfl, rfl⟩ | ⟨i, i1, rfl, rfl, rfl⟩) | ⟨rfl, rfl⟩
  · exact ⟨fun z => absurd z.1 (by decide), fun z => absurd (cval_lo j hj).1 (by rw [← z]; exact a)⟩
  · exact ⟨fun z => absurd z.1 (by decide), fun z => absurd z.symm (cval_cvar hj k1)⟩
  · exact ⟨fun z => by rw [(nI_eq (by omega) (by omega)).mp z.2], fun z => ⟨rfl, by rw [cval_inj i1 hj z]⟩⟩
  · exact ⟨fun z => absurd z.1 (by decide), fun z => absurd (cval_lo j hj).1 (by rw [← z]; decide)⟩
theorem cvar_inj : ∀ k, k < 8 → ∀ j, j < 8 → cvar k = cvar j → k = j := by decide +kernel
theorem vr_var {v s x : Int32} {j : Nat} (h : VR0 v s x) (hj : j < 8) : (s = 2 ∧ x = nI j) = (v = cvar j) := by
  apply propext
  rcases h with (⟨a, rfl, rfl⟩ | ⟨k, k1, rfl, rfl, rfl⟩ | ⟨i, i1, rfl, rfl, rfl⟩) | ⟨rfl, rfl⟩
  · exact ⟨fun z => absurd z.1 (by decide), fun z => absurd (cvar_lo j hj).1 (by rw [← z]; exact a)⟩
  · exact ⟨fun z => by rw [(nI_eq (by omega) (by omega)).mp z.2], fun z => ⟨rfl, by rw [cvar_inj k k1 j hj z]⟩⟩
  · exact ⟨fun z => absurd z.1 (by decide), fun z => absurd z (cval_cvar i1 hj)⟩
  · exact ⟨fun z => absurd z.1 (by decide), fun z => absurd (cvar_lo j hj).1 (by rw [← z]; decide)⟩
theorem m_kd {n : Nat} {s code : Int32} (h : SG s code) : M_kindOf n code = some (kd s) := by
  rcases h with ⟨rfl, rfl⟩ | ⟨rfl, rfl⟩ | ⟨rfl, rfl⟩ | ⟨rfl, rfl⟩ | ⟨rfl, rfl⟩ | ⟨rfl, rfl⟩ | ⟨rfl, rfl⟩ | ⟨rfl, rfl⟩ <;> rfl
theorem sg_6 {s code : Int32} (h : SG s code) : (code = 6) = (s = 2) := by
  rcases h with ⟨rfl, rfl⟩ | ⟨rfl, rfl⟩ | ⟨rfl, rfl⟩ | ⟨rfl, rfl⟩ | ⟨rfl, rfl⟩ | ⟨rfl, rfl⟩ | ⟨rfl, rfl⟩ | ⟨rfl, rfl⟩ <;> decide
theorem kd_2 : kd 2 = 2 := rfl
section LB
variable {n q cnt B i j : Nat} {c m : Mem}
theorem ix2 {i : Nat} (hi : i < 200) : ix ((2 : Int32) * nI i) 400 = some (2 * i) := by
  rw [show (2 : Int32) * nI i = nI (2 * i) from pk_mul 2 i]
  exact ix_nI (by omega) (by decide)
theorem ix21 {i : Nat} (hi : i < 200) : ix (((2 : Int32) * nI i) + 1) 400 = some (2 * i + 1) := by
  rw [show (2 : Int32) * nI i = nI (2 * i) from pk_mul 2 i, nI_1]
  exact ix_nI (by omega) (by decide)
theorem m_usesValue (hP : PR c m q cnt B) (hi : i < cnt) (hj : j < 200) : M_usesValue n (nI i) (nI j) m = some (b1 (decide (gI c 3 (200 * q + i) 3 = cval j ∨ gI c 3 (200 * q + i) 4 = cval j))) := by
  have hcnt := hP.1.2.2.2.2.1
  obtain ⟨-, -, v3, v4, -⟩ := hP.2.1 i hi
  have e3 := vr_val v3 hj
  have e4 := vr_val v4 hj
  rw [M_usesValue, ix2 (by omega), bd_s, lt9, ix21 (by omega), bd_s, bd_s, bd_s]
  by_cases h1 : gI c 3 (200 * q + i) 3 = cval j
  · have z := (e3.symm ▸ h1 : gI m 127 0 (2 * i) = 3 ∧ gI m 128 0 (2 * i) = nI j)
    rw [decide_eq_true (Or.inl h1), if_pos z.1, if_pos z.2]; rfl
  · have z : ¬ (gI m 127 0 (2 * i) = 3 ∧ gI m 128 0 (2 * i) = nI j) := by rw [e3]; exact h1
    have e : ∀ x y : Option Int32, (if gI m 127 0 (2 * i) = 3 then if gI m 128 0 (2 * i) = nI j then x else y else y) = y := fun x y => by
      by_cases a : gI m 127 0 (2 * i) = 3
      · rw [if_pos a, if_neg (fun b => z ⟨a, b⟩)]
      · rw [if_neg a]
    rw [e]
    by_cases h2 : gI c 3 (200 * q + i) 4 = cval j
    · have y := (e4.symm ▸ h2 : gI m 127 0 (2 * i + 1) = 3 ∧ gI m 128 0 (2 * i + 1) = nI j)
      rw [decide_eq_true (Or.inr h2), if_pos y.1, if_pos y.2]; rfl
    · have y : ¬ (gI m 127 0 (2 * i + 1) = 3 ∧ gI m 128 0 (2 * i + 1) = nI j) := by rw [e4]; exact h2
      rw [decide_eq_false (fun w => w.elim h1 h2)]
      by_cases a : gI m 127 0 (2 * i + 1) = 3
      · rw [if_pos a, if_neg (fun b => y ⟨a, b⟩)]; rfl
      · rw [if_neg a]; rfl
theorem m_usesVar (hP : PR c m q cnt B) (hi : i < cnt) (hj : j < 8) : M_usesVariable n (nI i) (nI j) m = some (b1 (decide (gI c 3 (200 * q + i) 3 = cvar j ∨ gI c 3 (200 * q + i) 4 = cvar j))) := by
  have hcnt := hP.1.2.2.2.2.1
  obtain ⟨-, -, v3, v4, -⟩ := hP.2.1 i hi
  have e3 := vr_var v3 hj
  have e4 := vr_var v4 hj
  rw [M_usesVariable, ix2 (by omega), bd_s, lt9, ix21 (by omega), bd_s, bd_s, bd_s]
  by_cases h1 : gI c 3 (200 * q + i) 3 = cvar j
  · have z := (e3.symm ▸ h1 : gI m 127 0 (2 * i) = 2 ∧ gI m 128 0 (2 * i) = nI j)
    rw [decide_eq_true (Or.inl h1), if_pos z.1, if_pos z.2]; rfl
  · have z : ¬ (gI m 127 0 (2 * i) = 2 ∧ gI m 128 0 (2 * i) = nI j) := by rw [e3]; exact h1
    have e : ∀ x y : Option Int32, (if gI m 127 0 (2 * i) = 2 then if gI m 128 0 (2 * i) = nI j then x else y else y) = y := fun x y => by
      by_cases a : gI m 127 0 (2 * i) = 2
      · rw [if_pos a, if_neg (fun b => z ⟨a, b⟩)]
      · rw [if_neg a]
    rw [e]
    by_cases h2 : gI c 3 (200 * q + i) 4 = cvar j
    · have y := (e4.symm ▸ h2 : gI m 127 0 (2 * i + 1) = 2 ∧ gI m 128 0 (2 * i + 1) = nI j)
      rw [decide_eq_true (Or.inr h2), if_pos y.1, if_pos y.2]; rfl
    · have y : ¬ (gI m 127 0 (2 * i + 1) = 2 ∧ gI m 128 0 (2 * i + 1) = nI j) := by rw [e4]; exact h2
      rw [decide_eq_false (fun w => w.elim h1 h2)]
      by_cases a : gI m 127 0 (2 * i + 1) = 2
      · rw [if_pos a, if_neg (fun b => y ⟨a, b⟩)]; rfl
      · rw [if_neg a]; rfl
theorem bool_f {b : Bool} (h : ¬ b = true) : b = false := by cases b <;> simp_all
/-- the reference: operation i takes the variable that j gives -/
theorem m_usev (hP : PR c m q cnt B) (hi : i < cnt) (hj : j < cnt) (x y : Option Int32) : (if gI m 129 0 j < 0 then y else (M_usesVariable n (nI i) (gI m 129 0 j) m).bind fun z5 => if z5 = 0 then x else some 1) = if usev c q i (gI c 3 (200 * q + j) 5) = true then some 1 else if gI m 129 0 j < 0 then y else x := by
  obtain ⟨-, -, -, -, v5, v6, -⟩ := hP.2.1 j hj
  rw [← v5]
  rcases v6 with e | ⟨v, hv, e, -⟩
  · rw [e, if_pos (show (-1 : Int32) < 0 by decide), if_pos (show (-1 : Int32) < 0 by decide)]
    have : usev c q i (-1) = false := by
      unfold usev
      exact decide_eq_false (fun z => z.1 rfl)
    rw [this, if_neg (show ¬ false = true by decide)]
  · have ng : ¬ nI v < 0 := fun z => (q_ltm (by omega)).mp z
    rw [e, if_neg ng, if_neg ng, m_usesVar hP hi hv, bd_s]
    simp only [b1_0]
    have : usev c q i (nI v) = decide (gI c 3 (200 * q + i) 3 = cvar v ∨ gI c 3 (200 * q + i) 4 = cvar v) := by
      unfold usev
      by_cases h : gI c 3 (200 * q + i) 3 = cvar v ∨ gI c 3 (200 * q + i) 4 = cvar v
      · rw [decide_eq_true h]; exact decide_eq_true ⟨nI_nm (by omega), h⟩
      · rw [decide_eq_false h]; exact decide_eq_false (fun z => h z.2)
    rw [this]
    by_cases h : gI c 3 (200 * q + i) 3 = cvar v ∨ gI c 3 (200 * q + i) 4 = cvar v
    · rw [decide_eq_true h, if_neg (by decide), if_pos rfl]
    · rw [decide_eq_false h, if_pos rfl, if_neg (by decide)]
theorem m_same (hP : PR c m q cnt B) (hi : i < cnt) (hj : j < cnt) (y : Option Int32) : (if gI m 129 0 j < 0 then y else if gI m 129 0 i = gI m 129 0 j then some 1 else y) = if decide (¬ gI c 3 (200 * q + i) 5 = -1 ∧ gI c 3 (200 * q + i) 5 = gI c 3 (200 * q + j) 5) = true then some 1 else y := by
  obtain ⟨-, -, -, -, v5, v6, -⟩ := hP.2.1 j hj
  obtain ⟨-, -, -, -, w5, w6, -⟩ := hP.2.1 i hi
  rw [← v5, ← w5]
  by_cases h : ¬ gI c 3 (200 * q + i) 5 = -1 ∧ gI c 3 (200 * q + i) 5 = gI c 3 (200 * q + j) 5
  · rw [decide_eq_true h, if_pos rfl, if_pos h.2, if_neg]
    rcases v6 with e | ⟨v, hv, e, -⟩
    · exact absurd (h.2.trans e) h.1
    · rw [e]; exact fun z => (q_ltm (by omega)).mp z
  · rw [decide_eq_false h, if_neg (show ¬ false = true by decide)]
    rcases v6 with e | ⟨v, hv, e, -⟩
    · rw [e, if_pos (show (-1 : Int32) < 0 by decide)]
    · rw [e, if_neg (fun z => (q_ltm (by omega)).mp z), if_neg]
      intro z
      exact h ⟨fun y => nI_nm (a := v) (by omega) (z.symm.trans y), z.trans e.symm⟩
theorem m_cb (hP : PR c m q cnt B) (hi : i < cnt) (hj : j < cnt) : M_comesBehind n (nI i) (nI j) m = some (b1 (bh c q i j)) := by
  have hcnt := hP.1.2.2.2.2.1
  obtain ⟨i1, i2, -, -, i5, i6, -⟩ := hP.2.1 i hi
  obtain ⟨j1, j2, -, -, j5, j6, -⟩ := hP.2.1 j hj
  have ixi : ix (nI i) 200 = some i := ix_nI (by omega) (by decide)
  have ixj : ix (nI j) 200 = some j := ix_nI (by omega) (by decide)
  rw [M_comesBehind, m_usesValue hP hi (by omega), bd_s]
  simp only [lt9, ixi, ixj, bd_s, m_kd i1, m_kd j1]
  rw [m_usev hP hi hj, m_same hP hi hj, m_usev hP hj hi]
  have hZ : (if kd (gI c 3 (200 * q + j) 1) = 2 then if kd (gI c 3 (200 * q + i) 1) = 2 then if (1 : Int32) = 0 then some (0 : Int32) else if gI m 126 0 j = 6 then some 1 else if gI m 126 0 i = 6 then some 1 else some 0 else if True then some 0 else if gI m 126 0 j = 6 then some 1 else if gI m 126 0 i = 6 then some 1 else some 0 else if True then some 0 else if gI m 126 0 j = 6 then some 1 else if gI m 126 0 i = 6 then some 1 else some 0) = some (b1 (decide (gI c 3 (200 * q + i) 1 = 2 ∧ gI c 3 (200 * q + j) 2 = 2) || decide (gI c 3 (200 * q + j) 1 = 2 ∧ gI c 3 (200 * q + i) 2 = 2))) := by
    simp only [sg_6 j1, sg_6 i1]
    rw [i2, j2, if_neg (show ¬ (1 : Int32) = 0 by decide), if_pos True.intro]
    by_cases a : kd (gI c 3 (200 * q + j) 1) = 2
    · rw [if_pos a]
      by_cases b : kd (gI c 3 (200 * q + i) 1) = 2
      · rw [if_pos b]
        by_cases d : gI c 3 (200 * q + j) 1 = 2
        · rw [if_pos d, decide_eq_true (show gI c 3 (200 * q + j) 1 = 2 ∧ kd (gI c 3 (200 * q + i) 1) = 2 from ⟨d, b⟩), Bool.or_true]; rfl
        · rw [if_neg d, decide_eq_false (show ¬ (gI c 3 (200 * q + j) 1 = 2 ∧ kd (gI c 3 (200 * q + i) 1) = 2) from fun z => d z.1), Bool.or_false]
          by_cases e : gI c 3 (200 * q + i) 1 = 2
          · rw [if_pos e, decide_eq_true ⟨e, a⟩]; rfl
          · rw [if_neg e, decide_eq_false (fun z => e z.1)]; rfl
      · rw [if_neg b, decide_eq_false (show ¬ (gI c 3 (200 * q + j) 1 = 2 ∧ kd (gI c 3 (200 * q + i) 1) = 2) from fun z => b z.2), Bool.or_false, decide_eq_false (show ¬ (gI c 3 (200 * q + i) 1 = 2 ∧ kd (gI c 3 (200 * q + j) 1) = 2) from fun z => b (by rw [z.1]; rfl))]; rfl
    · rw [if_neg a, decide_eq_false (show ¬ (gI c 3 (200 * q + i) 1 = 2 ∧ kd (gI c 3 (200 * q + j) 1) = 2) from fun z => a z.2), Bool.false_or, decide_eq_false (show ¬ (gI c 3 (200 * q + j) 1 = 2 ∧ kd (gI c 3 (200 * q + i) 1) = 2) from fun z => a (by rw [z.1]; rfl))]; rfl
  rw [hZ, ite_self]
  unfold bh
  simp only [b1_0]
  cases decide (gI c 3 (200 * q + i) 3 = cval j ∨ gI c 3 (200 * q + i) 4 = cval j) with
  | true => rfl
  | false =>
    cases usev c q i (gI c 3 (200 * q + j) 5) with
    | true => rfl
    | false =>
      cases decide (¬ gI c 3 (200 * q + i) 5 = -1 ∧ gI c 3 (200 * q + i) 5 = gI c 3 (200 * q + j) 5) with
      | true => rfl
      | false =>
        cases usev c q j (gI c 3 (200 * q + i) 5) with
        | true => rfl
        | false => rfl
end LB
