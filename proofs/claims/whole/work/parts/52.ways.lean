/-! ===== PURE: ways, joints, blocks: the single steps ===== -/
theorem m_way {n wc b s : Nat} {m : Mem} {u : Int32} (h : gI m 10 0 24 = nI wc) (hw : wc < 1600) (hb : b < 1000) (hs : (u = 0 ∧ s = 0) ∨ (u = 1 ∧ s = 1)) : M_way n (nI b) u m = some (sI (sI m 123 0 wc (nI (2 * b + s))) 10 0 24 (nI (wc + 1))) := by
  have e1 : gI (sI m 123 0 wc (nI (2 * b + s))) 10 0 24 + 1 = nI (wc + 1) := by
    rw [gn_I (by omega), h, nI_1]
  have e2 : (2 : Int32) * nI b = nI (2 * b) := pk_mul 2 b
  rw [M_way]
  simp only [lt9]
  rw [h, ix_nI (N := 1600) hw (by decide), e2]
  simp only [bd_s]
  rcases hs with ⟨rfl, rfl⟩ | ⟨rfl, rfl⟩
  · rw [if_pos rfl, show nI (2 * b) + 0 = nI (2 * b + 0) from nI_add (2 * b) 0, e1]
  · rw [if_neg (by decide), show nI (2 * b) + 1 = nI (2 * b + 1) from nI_1 _, e1]
/-- lead: what waits from a place on is led to a block -/
theorem m_leadL {n : Nat} {a2 : Int32} {wc : Nat} (hw : wc ≤ 1600) : ∀ (k x : Nat) (m : Mem), x ≤ wc → gI m 10 0 24 = nI wc → (∀ j, x ≤ j → j < wc → ∃ w, w < 1600 ∧ gI m 123 0 j = nI w) → wc - x < k →
    ∃ m1, M_lead_L2 n a2 k (nI x) m = some m1 ∧ (∀ a i j, a ≠ 119 → a ≠ 120 → gI m1 a i j = gI m a i j) ∧ m1.2 = m.2 ∧
      (∀ b j, x ≤ j → j < wc → gI m 123 0 j = nI (2 * b) → b < 800 → gI m1 119 0 b = a2) ∧ (∀ b, b < 800 → (∀ j, x ≤ j → j < wc → ¬ gI m 123 0 j = nI (2 * b)) → gI m1 119 0 b = gI m 119 0 b) ∧
      (∀ b j, x ≤ j → j < wc → gI m 123 0 j = nI (2 * b + 1) → b < 800 → gI m1 120 0 b = a2) ∧ (∀ b, b < 800 → (∀ j, x ≤ j → j < wc → ¬ gI m 123 0 j = nI (2 * b + 1)) → gI m1 120 0 b = gI m 120 0 b) := by
  intro k
  induction k with
  | zero => intro x m h0 h1 h2 h3; omega
  | succ k ih =>
    intro x m h0 h1 h2 h3
    rw [M_lead_L2, h1]
    by_cases hx : wc ≤ x
    · rw [if_pos (nI_le hx (by omega))]
      exact ⟨m, rfl, fun _ _ _ _ _ => rfl, rfl, fun b j a1 a2 => by omega, fun _ _ _ => rfl, fun b j a1 a2 => by omega, fun _ _ _ => rfl⟩
    · rw [if_neg (nI_ge (by omega) (by omega)), ix_nI (N := 1600) (by omega) (by decide), bd_s, bd_s]
      obtain ⟨w, hw1, hw2⟩ := h2 x (Nat.le_refl _) (by omega)
      have e1 : nI w / (2 : Int32) = nI (w / 2) := pk_div (d := 2) (by omega) (by decide) (by decide)
      have e2 : nI w - nI (w / 2) * (2 : Int32) = nI (w % 2) := by rw [← e1]; exact pk_rem (d := 2) (by omega) (by decide) (by decide)
      have e3 : (nI (w % 2) = (0 : Int32)) = (w % 2 = 0) := q_eq (b := 0) (by omega) (by decide)
      rw [hw2, e1, e2, ix_nI (n := w / 2) (N := 800) (by omega) (by decide), bd_s, bd_s]
      simp only [e3, lt9]
      rw [show nI x + 1 = nI (x + 1) from nI_1 _]
      by_cases hz : w % 2 = 0
      · rw [if_pos hz]
        obtain ⟨m1, g1, g2, g3, g4, g5, g6, g7⟩ := ih (x + 1) (sI m 119 0 (w / 2) a2) (by omega) h1 (fun j a b => h2 j (by omega) b) (by omega)
        have keep : ∀ j, gI (sI m 119 0 (w / 2) a2) 123 0 j = gI m 123 0 j := fun j => rfl
        refine ⟨m1, g1, fun a i j a1 a2 => (g2 a i j a1 a2).trans (gn_I (fun z => a1 z.1)), g3, ?_, ?_, ?_, ?_⟩
        · intro b j a1 a2' a3 a4
          rcases Nat.eq_or_lt_of_le a1 with z | z
          · subst z
            rw [hw2] at a3
            have hb : b = w / 2 := by have := (nI_eq (by omega) (by omega)).mp a3; omega
            by_cases q : ∃ j, x + 1 ≤ j ∧ j < wc ∧ gI m 123 0 j = nI (2 * b)
            · obtain ⟨j, q1, q2, q3⟩ := q
              exact g4 b j q1 q2 q3 a4
            · rw [g5 b a4 (fun j q1 q2 q3 => q ⟨j, q1, q2, q3⟩), hb, gs_I]
          · exact g4 b j z a2' a3 a4
        · intro b a4 a5
          rw [g5 b a4 (fun j q1 q2 => a5 j (by omega) q2), gn_I]
          intro z
          refine a5 x (Nat.le_refl _) (by omega) ?_
          rw [hw2]
          congr 1
          omega
        · intro b j a1 a2' a3 a4
          rcases Nat.eq_or_lt_of_le a1 with z | z
          · subst z
            rw [hw2] at a3
            have := (nI_eq (by omega) (by omega)).mp a3
            omega
          · exact g6 b j z a2' a3 a4
        · intro b a4 a5
          exact g7 b a4 (fun j q1 q2 => a5 j (by omega) q2)
      · rw [if_neg hz]
        obtain ⟨m1, g1, g2, g3, g4, g5, g6, g7⟩ := ih (x + 1) (sI m 120 0 (w / 2) a2) (by omega) h1 (fun j a b => h2 j (by omega) b) (by omega)
        refine ⟨m1, g1, fun a i j a1 a2 => (g2 a i j a1 a2).trans (gn_I (fun z => a2 z.1)), g3, ?_, ?_, ?_, ?_⟩
        · intro b j a1 a2' a3 a4
          rcases Nat.eq_or_lt_of_le a1 with z | z
          · subst z
            rw [hw2] at a3
            have := (nI_eq (by omega) (by omega)).mp a3
            omega
          · exact g4 b j z a2' a3 a4
        · intro b a4 a5
          exact g5 b a4 (fun j q1 q2 => a5 j (by omega) q2)
        · intro b j a1 a2' a3 a4
          rcases Nat.eq_or_lt_of_le a1 with z | z
          · subst z
            rw [hw2] at a3
            have hb : b = w / 2 := by have := (nI_eq (by omega) (by omega)).mp a3; omega
            by_cases q : ∃ j, x + 1 ≤ j ∧ j < wc ∧ gI m 123 0 j = nI (2 * b + 1)
            · obtain ⟨j, q1, q2, q3⟩ := q
              exact g6 b j q1 q2 q3 a4
            · rw [g7 b a4 (fun j q1 q2 q3 => q ⟨j, q1, q2, q3⟩), hb, gs_I]
          · exact g6 b j z a2' a3 a4
        · intro b a4 a5
          rw [g7 b a4 (fun j q1 q2 => a5 j (by omega) q2), gn_I]
          intro z
          refine a5 x (Nat.le_refl _) (by omega) ?_
          rw [hw2]
          congr 1
          omega
theorem m_lead {n wf wc : Nat} {a2 : Int32} {m : Mem} (hn : 2000 ≤ n) (hw : wc ≤ 1600) (hf : wf ≤ wc) (h1 : gI m 10 0 24 = nI wc) (h2 : ∀ j, wf ≤ j → j < wc → ∃ w, w < 1600 ∧ gI m 123 0 j = nI w) :
    ∃ m1, M_lead n (nI wf) a2 m = some m1 ∧ gI m1 10 0 24 = nI wf ∧ (∀ a i j, a ≠ 119 → a ≠ 120 → ¬ (a = 10 ∧ j = 24) → gI m1 a i j = gI m a i j) ∧ m1.2 = m.2 ∧
      (∀ b j, wf ≤ j → j < wc → gI m 123 0 j = nI (2 * b) → b < 800 → gI m1 119 0 b = a2) ∧ (∀ b, b < 800 → (∀ j, wf ≤ j → j < wc → ¬ gI m 123 0 j = nI (2 * b)) → gI m1 119 0 b = gI m 119 0 b) ∧
      (∀ b j, wf ≤ j → j < wc → gI m 123 0 j = nI (2 * b + 1) → b < 800 → gI m1 120 0 b = a2) ∧ (∀ b, b < 800 → (∀ j, wf ≤ j → j < wc → ¬ gI m 123 0 j = nI (2 * b + 1)) → gI m1 120 0 b = gI m 120 0 b) := by
  obtain ⟨m1, g1, g2, g3, g4, g5, g6, g7⟩ := m_leadL (n := n) (a2 := a2) hw n wf m hf h1 h2 (by omega)
  rw [M_lead, g1, bd_s]
  exact ⟨_, rfl, gs_I _ _ _ _ _, fun a i j a1 a2 a3 => (gn_I (fun z => a3 ⟨z.1, z.2.2⟩)).trans (g2 a i j a1 a2), g3, g4, g5, g6, g7⟩
theorem r_addJoint {n J : Nat} {c : Mem} (h : gI c 8 0 2 = nI J) (hJ : J < 350) : Wy_addJoint n c = some (nI J, sI (sI (sI c 21 0 J (-1)) 22 0 J (-1)) 8 0 2 (nI (J + 1))) := by
  rw [Wy_addJoint, h, ix_nI (N := 350) hJ (by decide)]
  simp only [bd_s, lt9]
  have e : gI (sI (sI c 21 0 J (-1)) 22 0 J (-1)) 8 0 2 + 1 = nI (J + 1) := by
    show gI c 8 0 2 + 1 = _
    rw [h, nI_1]
  rw [e]
theorem r_openNew {n q B h cnt : Nat} {c : Mem} (hq : q < 2) (ho : gR c 8 0 4 = none) (hp : gR c 8 0 3 = some q) (hh : gI c 8 0 5 = nI h) (hh2 : h < 350) (hB : gI c 4 q 3 = nI B) (hB2 : B < 175) (hc : gI c 4 q 2 = nI cnt) :
    Wy_openBlock n c = some (sR (sI (sI (sI (sI (sI (sI (sI (sI c 21 0 h (nI B)) 0 (175 * q + B) 0 (nI cnt)) 0 (175 * q + B) 1 0) 0 (175 * q + B) 2 0) 0 (175 * q + B) 3 0) 0 (175 * q + B) 4 (-1)) 0 (175 * q + B) 5 (-1)) 4 q 3 (nI (B + 1))) 8 0 4 (some (175 * q + B))) := by
  rw [Wy_openBlock, if_pos ho, hp, bd_s, if_pos hq, hh, ix_nI (N := 350) hh2 (by decide), bd_s, hB]
  simp only [lt9]
  have e1 : gR (sI c 21 0 h (nI B)) 8 0 3 = some q := hp
  rw [e1, bd_s, if_pos hq, Pg_addBlock]
  have e2 : gI (sI c 21 0 h (nI B)) 4 q 3 = nI B := hB
  have e3 : gI (sI c 21 0 h (nI B)) 4 q 2 = nI cnt := hc
  rw [e2, e3, ix_nI (N := 175) hB2 (by decide), bd_s, Bk_become]
  simp only [lt9, bd_s]
  have e4 : gI (sI (sI (sI (sI (sI (sI (sI c 21 0 h (nI B)) 0 (175 * q + B) 0 (nI cnt)) 0 (175 * q + B) 1 0) 0 (175 * q + B) 2 0) 0 (175 * q + B) 3 0) 0 (175 * q + B) 4 (-1)) 0 (175 * q + B) 5 (-1)) 4 q 3 + 1 = nI (B + 1) := by
    show gI c 4 q 3 + 1 = _
    rw [hB, nI_1]
  rw [e4, if_pos (by omega)]
theorem r_openOld {n b : Nat} {c : Mem} (ho : gR c 8 0 4 = some b) : Wy_openBlock n c = some c := by
  rw [Wy_openBlock, if_neg (by rw [ho]; exact fun h => by cases h)]
theorem r_goNew {n h : Nat} {t : Int32} {c : Mem} (ho : gR c 8 0 4 = none) (hh : gI c 8 0 5 = nI h) (hh2 : h < 350) : Wy_goTo n t c = some (sI c 22 0 h t) := by
  rw [Wy_goTo, if_pos ho, hh, ix_nI (N := 350) hh2 (by decide)]
  rfl
theorem r_goOld {n b : Nat} {t : Int32} {c : Mem} (ho : gR c 8 0 4 = some b) (hb : b < 350) : Wy_goTo n t c = some (sI c 0 b 4 t) := by
  rw [Wy_goTo, if_neg (by rw [ho]; exact fun h => by cases h), ho, bd_s, if_pos hb]
  rfl
theorem r_choose {n b : Nat} {v s t : Int32} {c : Mem} (ho : gR c 8 0 4 = some b) (hb : b < 350) : Wy_choose n v s t c = some (sI (sI (sI (sI c 0 b 2 1) 0 b 3 v) 0 b 4 s) 0 b 5 t) := by
  have e1 : gR (sI c 0 b 2 1) 8 0 4 = some b := ho
  have e2 : gR (sI (sI c 0 b 2 1) 0 b 3 v) 8 0 4 = some b := ho
  have e3 : gR (sI (sI (sI c 0 b 2 1) 0 b 3 v) 0 b 4 s) 8 0 4 = some b := ho
  rw [Wy_choose, if_neg (by rw [ho]; exact fun h => by cases h), ho, bd_s, if_pos hb]
  simp only [lt9]
  rw [e1, bd_s, if_pos hb, e2, bd_s, if_pos hb, e3, bd_s, if_pos hb]
theorem m_needNew {n B wf wc : Nat} {m : Mem} (hn : 2000 ≤ n) (hc : gI m 10 0 22 = -1) (hB : gI m 10 0 16 = nI B) (hB2 : B < 175) (h1 : gI m 10 0 24 = nI wc) (h0 : gI m 10 0 49 = nI wf) (hw : wc ≤ 1600) (hf : wf ≤ wc) (h2 : ∀ j, wf ≤ j → j < wc → ∃ w, w < 1600 ∧ gI m 123 0 j = nI w) :
    ∃ m1, M_needBlock n m = some m1 ∧ gI m1 10 0 22 = nI B ∧ gI m1 10 0 16 = nI (B + 1) ∧ gI m1 10 0 24 = nI wf ∧ (∀ a i j, (a ≠ 119 ∧ a ≠ 120 ∧ a ≠ 121) → ¬ (a = 10 ∧ (j = 16 ∨ j = 22 ∨ j = 24)) → gI m1 a i j = gI m a i j) ∧ m1.2 = m.2 ∧
      (∀ b, gI m1 121 0 b = if b = B then 0 else gI m 121 0 b) ∧
      (∀ b j, wf ≤ j → j < wc → gI m 123 0 j = nI (2 * b) → b < 800 → gI m1 119 0 b = nI B) ∧ (∀ b, b < 800 → (∀ j, wf ≤ j → j < wc → ¬ gI m 123 0 j = nI (2 * b)) → gI m1 119 0 b = if b = B then -1 else gI m 119 0 b) ∧
      (∀ b j, wf ≤ j → j < wc → gI m 123 0 j = nI (2 * b + 1) → b < 800 → gI m1 120 0 b = nI B) ∧ (∀ b, b < 800 → (∀ j, wf ≤ j → j < wc → ¬ gI m 123 0 j = nI (2 * b + 1)) → gI m1 120 0 b = if b = B then -1 else gI m 120 0 b) := by
  rw [M_needBlock, if_pos hc]
  simp only [lt9]
  have e1 : gI (sI m 10 0 22 (gI m 10 0 16)) 10 0 16 + 1 = nI (B + 1) := by rw [gn_I (by decide), hB, nI_1]
  have e2 : gI (sI (sI m 10 0 22 (gI m 10 0 16)) 10 0 16 (nI (B + 1))) 10 0 22 = nI B := by rw [gn_I (by decide), gs_I, hB]
  rw [e1, e2, ix_nI (N := 800) (by omega) (by decide), bd_s]
  have e3 : gI (sI (sI (sI m 10 0 22 (gI m 10 0 16)) 10 0 16 (nI (B + 1))) 119 0 B (-1)) 10 0 22 = nI B := e2
  rw [e3, ix_nI (N := 800) (by omega) (by decide), bd_s]
  have e4 : gI (sI (sI (sI (sI m 10 0 22 (gI m 10 0 16)) 10 0 16 (nI (B + 1))) 119 0 B (-1)) 120 0 B (-1)) 10 0 22 = nI B := e2
  rw [e4, ix_nI (N := 800) (by omega) (by decide), bd_s]
  generalize hG : sI (sI (sI (sI (sI m 10 0 22 (gI m 10 0 16)) 10 0 16 (nI (B + 1))) 119 0 B (-1)) 120 0 B (-1)) 121 0 B 0 = G
  have k49 : gI G 10 0 49 = nI wf := by rw [← hG]; exact h0
  have k24 : gI G 10 0 24 = nI wc := by rw [← hG]; exact h1
  have k22 : gI G 10 0 22 = nI B := by rw [← hG]; exact e2
  have k16 : gI G 10 0 16 = nI (B + 1) := by
    rw [← hG]
    show gI (sI (sI m 10 0 22 (gI m 10 0 16)) 10 0 16 (nI (B + 1))) 10 0 16 = _
    exact gs_I _ _ _ _ _
  have k123 : ∀ j, gI G 123 0 j = gI m 123 0 j := fun j => by rw [← hG]; rfl
  have k119 : ∀ b, gI G 119 0 b = if b = B then -1 else gI m 119 0 b := fun b => by
    rw [← hG, gn_I (by omega), gn_I (by omega), gI_sI]
    by_cases z : b = B
    · rw [if_pos z, if_pos ⟨rfl, rfl, z⟩]
    · rw [if_neg z, if_neg (fun y => z y.2.2)]
      rfl
  have k120 : ∀ b, gI G 120 0 b = if b = B then -1 else gI m 120 0 b := fun b => by
    rw [← hG, gn_I (by omega), gI_sI]
    by_cases z : b = B
    · rw [if_pos z, if_pos ⟨rfl, rfl, z⟩]
    · rw [if_neg z, if_neg (fun y => z y.2.2)]
      rfl
  have k121 : ∀ b, gI G 121 0 b = if b = B then 0 else gI m 121 0 b := fun b => by
    rw [← hG, gI_sI]
    by_cases z : b = B
    · rw [if_pos z, if_pos ⟨rfl, rfl, z⟩]
    · rw [if_neg z, if_neg (fun y => z y.2.2)]
      rfl
  have kO : ∀ a i j, (a ≠ 119 ∧ a ≠ 120 ∧ a ≠ 121) → ¬ (a = 10 ∧ (j = 16 ∨ j = 22 ∨ j = 24)) → gI G a i j = gI m a i j := fun a i j g1 g2 => by
    rw [← hG, gn_I (by omega), gn_I (by omega), gn_I (by omega), gn_I (by omega), gn_I (by omega)]
  have kR : G.2 = m.2 := by rw [← hG]; rfl
  obtain ⟨m1, g1, g2, g3, g4, g5, g6, g7, g8⟩ := m_lead (n := n) (a2 := nI B) (m := G) hn hw hf k24 (fun j a b => by rw [k123]; exact h2 j a b)
  rw [k49, k22, g1, bd_s]
  refine ⟨m1, rfl, (g3 10 0 22 (by decide) (by decide) (by decide)).trans k22, (g3 10 0 16 (by decide) (by decide) (by decide)).trans k16, g2, fun a i j a1 a2 => (g3 a i j a1.1 a1.2.1 (by omega)).trans (kO a i j a1 a2), g4.trans kR, fun b => (g3 121 0 b (by decide) (by decide) (by omega)).trans (k121 b), ?_, ?_, ?_, ?_⟩
  · intro b j a1 a2 a3 a4; exact g5 b j a1 a2 (by rw [k123]; exact a3) a4
  · intro b a1 a2; rw [g6 b a1 (fun j q1 q2 => by rw [k123]; exact a2 j q1 q2)]; exact k119 b
  · intro b j a1 a2 a3 a4; exact g7 b j a1 a2 (by rw [k123]; exact a3) a4
  · intro b a1 a2; rw [g8 b a1 (fun j q1 q2 => by rw [k123]; exact a2 j q1 q2)]; exact k120 b
theorem m_needOld {n : Nat} {m : Mem} (hc : ¬ gI m 10 0 22 = -1) : M_needBlock n m = some m := by rw [M_needBlock, if_neg hc]
