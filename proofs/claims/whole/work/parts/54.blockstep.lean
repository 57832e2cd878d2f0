/-! ===== PURE: joints, ways that are left open, ends of blocks ===== -/
def upL (lab : Nat → Nat ⊕ Nat) (J : Nat) : Nat → Nat ⊕ Nat := fun j => if j = J then .inr J else lab j
def upR (rk : Nat → Nat) (J : Nat) : Nat → Nat := fun j => if j = J then 0 else rk j
theorem upL_s {lab : Nat → Nat ⊕ Nat} {J : Nat} : upL lab J J = .inr J := if_pos rfl
theorem upL_n {lab : Nat → Nat ⊕ Nat} {J j : Nat} (h : j ≠ J) : upL lab J j = lab j := if_neg h
theorem upR_s {rk : Nat → Nat} {J : Nat} : upR rk J J = 0 := if_pos rfl
theorem upR_n {rk : Nat → Nat} {J j : Nat} (h : j ≠ J) : upR rk J j = rk j := if_neg h
/-- one more joint -/
def jnt (c : Mem) (J : Nat) : Mem := sI (sI (sI c 21 0 J (-1)) 22 0 J (-1)) 8 0 2 (nI (J + 1))
def BX (c m : Mem) (q B J K h wf wc : Nat) (lab : Nat → Nat ⊕ Nat) (rk : Nat → Nat) (op : Bool) : Prop := (op = true ∧ BO c m q B J K wf lab rk ∧ wc = wf) ∨ (op = false ∧ BN c m q B J K h wf wc lab rk)
theorem BX.core {c m : Mem} {q B J K h wf wc : Nat} {lab : Nat → Nat ⊕ Nat} {rk : Nat → Nat} {op : Bool} (hb : BX c m q B J K h wf wc lab rk op) : BCore c m q B J K wf wc lab rk := by
  rcases hb with ⟨-, h, rfl⟩ | ⟨-, h⟩
  · exact h.1
  · exact h.1
theorem GoV.joint {J : Nat} {lab : Nat → Nat ⊕ Nat} {x y : Int32} (h : GoV J lab x y) : GoV (J + 1) (upL lab J) x y := by
  rcases h with h | ⟨j, j1, j2, j3⟩
  · exact Or.inl h
  · refine Or.inr ⟨j, by omega, j2, ?_⟩
    rw [upL_n (by omega)]
    exact j3
section XS
variable {c m : Mem} {q B J K h wf wc n cnt : Nat} {lab : Nat → Nat ⊕ Nat} {rk : Nat → Nat} {op : Bool}
theorem jnt21 {j : Nat} : gI (jnt c J) 21 0 j = if j = J then -1 else gI c 21 0 j := by
  unfold jnt
  rw [gn_I (by omega), gn_I (by omega), gI_sI]
  by_cases z : j = J
  · rw [if_pos z, if_pos ⟨rfl, rfl, z⟩]
  · rw [if_neg z, if_neg (fun y => z y.2.2)]
theorem jnt22 {j : Nat} : gI (jnt c J) 22 0 j = if j = J then -1 else gI c 22 0 j := by
  unfold jnt
  rw [gn_I (by omega), gI_sI]
  by_cases z : j = J
  · rw [if_pos z, if_pos ⟨rfl, rfl, z⟩]
  · rw [if_neg z, if_neg (fun y => z y.2.2)]
    exact gn_I (by omega)
theorem jntO {k i j : Nat} (h1 : k ≠ 21) (h2 : k ≠ 22) (h3 : ¬ (k = 8 ∧ j = 2)) : gI (jnt c J) k i j = gI c k i j := by
  unfold jnt
  rw [gn_I (by omega), gn_I (by omega), gn_I (by omega)]
theorem BCore.joint (hb : BCore c m q B J K wf wc lab rk) (hJ : J < 350) : BCore (jnt c J) m q B (J + 1) K wf wc (upL lab J) (upR rk J) := by
  obtain ⟨⟨a1, a2, a3, a4⟩, ⟨b1, b2⟩, d, ⟨e1, e2, e3, e4⟩, f1, g1⟩ := hb
  refine ⟨⟨a1, (jntO (by decide) (by decide) (by omega)).trans a2, a3, a4⟩, ⟨gs_I _ _ _ _ _, by omega⟩, d, ⟨?_, by omega, ?_, ?_⟩, ?_, g1⟩
  · intro j hj
    by_cases z : j = J
    · rw [z, upR_s]; omega
    · rw [upR_n z]; exact e1 j (by omega)
  · intro j hj
    by_cases z : j = J
    · subst z
      exact Or.inr (Or.inl ⟨by rw [jnt21, if_pos rfl], by rw [jnt22, if_pos rfl], upL_s, upR_s⟩)
    · unfold LabOk
      rw [jnt21, jnt22, if_neg z, if_neg z, upL_n z, upR_n z]
      rcases e3 j (by omega) with x | x | ⟨x1, t, t1, t2, t3, t4⟩
      · exact Or.inl x
      · exact Or.inr (Or.inl x)
      · exact Or.inr (Or.inr ⟨x1, t, by omega, t2, by rw [upL_n (by omega)]; exact t3, by rw [upR_n (by omega)]; exact t4⟩)
  · intro j t hj e
    by_cases z : j = J
    · rw [z, upL_s] at e
      have := Sum.inr.inj e
      subst this
      exact ⟨by omega, upL_s, upR_s⟩
    · rw [upL_n z] at e
      obtain ⟨x1, x2, x3⟩ := e4 j t (by omega) e
      exact ⟨by omega, by rw [upL_n (by omega)]; exact x2, by rw [upR_n (by omega)]; exact x3⟩
  · intro b hb
    obtain ⟨s1, s2, s3⟩ := f1 b hb
    exact ⟨s1.joint, s2.joint, s3⟩
theorem BX.joint (hb : BX c m q B J K h wf wc lab rk op) (hJ : J < 350) : BX (jnt c J) m q B (J + 1) K h wf wc (upL lab J) (upR rk J) op := by
  rcases hb with ⟨ho, ⟨h1, h2⟩, hw⟩ | ⟨ho, h1, ⟨h2, h3, h4⟩, h5, h6, h7, h8⟩
  · exact Or.inl ⟨ho, ⟨h1.joint hJ, h2⟩, hw⟩
  · refine Or.inr ⟨ho, h1.joint hJ, ⟨h2, by omega, by rw [upL_n (by omega)]; exact h4⟩, h5, h6, ?_, ?_⟩
    · intro k k1 k2
      obtain ⟨b, s, j, x1, x2, x3, x4, x5, x6⟩ := h7 k k1 k2
      exact ⟨b, s, j, x1, x2, by omega, x4, x5, by rw [upL_n (by omega)]; exact x6⟩
    · intro b s j x1 x2 x3 x4 x5
      by_cases z : j = J
      · rw [z, upL_s] at x5
        have := Sum.inr.inj x5
        omega
      · rw [upL_n z] at x5
        exact h8 b s j x1 x2 (by omega) x4 x5
/-- what waited waits at t now -/
def reR (lab : Nat → Nat ⊕ Nat) (rk : Nat → Nat) (h : Nat) : Nat → Nat := fun j => if lab j = .inr h then rk j + 1 else rk j
theorem b_goNew {t : Nat} {x : Nat ⊕ Nat} (hb : BN c m q B J K h wf wc lab rk) (ht : t < J) (hl : lab t = x) (hx : ¬ x = .inr h) (hr : rk t = 0) (hK : K + 1 < J) :
    (∀ j, j < J → reR lab rk h j ≤ K + 1) ∧ (∀ j, j < J → LabOk (sI c 22 0 h (nI t)) B J (relab lab h x) (reR lab rk h) j) ∧ ∀ j u, j < J → relab lab h x j = .inr u → u < J ∧ relab lab h x u = .inr u ∧ reR lab rk h u = 0 := by
  obtain ⟨⟨⟨a1, a2, a3, a4⟩, ⟨b1, b2⟩, d, ⟨e1, e2, e3, e4⟩, f1, g1⟩, ⟨h1, h2, h3⟩, i1, j1, k1, l1⟩ := hb
  have nt : ¬ lab t = .inr h := by rw [hl]; exact hx
  have o22 : ∀ j, gI (sI c 22 0 h (nI t)) 22 0 j = if j = h then nI t else gI c 22 0 j := fun j => by
    rw [gI_sI]
    by_cases z : j = h
    · rw [if_pos z, if_pos ⟨rfl, rfl, z⟩]
    · rw [if_neg z, if_neg (fun y => z y.2.2)]
  have o21 : ∀ j, gI (sI c 22 0 h (nI t)) 21 0 j = gI c 21 0 j := fun j => gn_I (by omega)
  refine ⟨?_, ?_, ?_⟩
  · intro j hj
    unfold reR
    have := e1 j hj
    split <;> omega
  · intro j hj
    unfold LabOk
    rw [o21, o22]
    by_cases z : lab j = .inr h
    · by_cases zh : j = h
      · subst zh
        have c1 : gI c 21 0 j = -1 := by
          rcases e3 j hj with ⟨⟨k, x1, x2, x3⟩, -⟩ | ⟨x1, -⟩ | ⟨x1, -⟩
          · rw [z] at x3; cases x3
          · exact x1
          · exact x1
        refine Or.inr (Or.inr ⟨c1, t, ht, if_pos rfl, ?_, ?_⟩)
        · rw [relab_y z, relab_n nt]; exact hl
        · unfold reR
          rw [if_pos z, if_neg nt]
          omega
      · rcases e3 j hj with ⟨⟨k, x1, x2, x3⟩, -⟩ | ⟨x1, x2, x3, -⟩ | ⟨x1, u, u1, u2, u3, u4⟩
        · rw [z] at x3; cases x3
        · rw [z] at x3; exact absurd (Sum.inr.inj x3).symm zh
        · refine Or.inr (Or.inr ⟨x1, u, u1, by rw [if_neg zh]; exact u2, by rw [relab_y z, relab_y (u3.trans z)], ?_⟩)
          unfold reR
          rw [if_pos z, if_pos (u3.trans z)]
          omega
    · have zh : ¬ j = h := fun y => z (by rw [y]; exact h3)
      rw [if_neg zh, relab_n z]
      have rr : reR lab rk h j = rk j := if_neg z
      rw [rr]
      rcases e3 j hj with x | x | ⟨x1, u, u1, u2, u3, u4⟩
      · exact Or.inl x
      · exact Or.inr (Or.inl x)
      · have zu : ¬ lab u = .inr h := by rw [u3]; exact z
        refine Or.inr (Or.inr ⟨x1, u, u1, u2, by rw [relab_n zu]; exact u3, ?_⟩)
        unfold reR
        rw [if_neg zu]
        exact u4
  · intro j u hj e
    by_cases z : lab j = .inr h
    · rw [relab_y z] at e
      have e' : lab t = .inr u := hl.trans e
      obtain ⟨x1, x2, x3⟩ := e4 t u ht e'
      have nu : ¬ lab u = .inr h := by rw [x2]; exact fun y => hx (by rw [e, y])
      refine ⟨x1, by rw [relab_n nu]; exact x2, ?_⟩
      unfold reR
      rw [if_neg nu]
      exact x3
    · rw [relab_n z] at e
      obtain ⟨x1, x2, x3⟩ := e4 j u hj e
      have nu : ¬ lab u = .inr h := by rw [x2]; exact fun y => z (by rw [e, y])
      refine ⟨x1, by rw [relab_n nu]; exact x2, ?_⟩
      unfold reR
      rw [if_neg nu]
      exact x3
theorem m_leaveNo (hc : gI m 10 0 22 = -1) : M_leaveOpen n m = some m := by rw [M_leaveOpen, if_pos hc]
/-- the way of a block that is left -/
def wayM (m : Mem) (wc b s : Nat) : Mem := sI (sI m 123 0 wc (nI (2 * b + s))) 10 0 24 (nI (wc + 1))
theorem m_leaveYes {b : Nat} (hc : gI m 10 0 22 = nI b) (hb : b < 1000) (hw : gI m 10 0 24 = nI wc) (hw2 : wc < 1600) : M_leaveOpen n m = some (sI (wayM m wc b 0) 10 0 22 (-1)) := by
  rw [M_leaveOpen, if_neg (by rw [hc]; exact nI_nm (by omega)), hc, m_way (s := 0) hw hw2 hb (Or.inl ⟨rfl, rfl⟩)]
  rfl
theorem way123 {b s k : Nat} : gI (wayM m wc b s) 123 0 k = if k = wc then nI (2 * b + s) else gI m 123 0 k := by
  unfold wayM
  rw [gn_I (by omega), gI_sI]
  by_cases z : k = wc
  · rw [if_pos z, if_pos ⟨rfl, rfl, z⟩]
  · rw [if_neg z, if_neg (fun y => z y.2.2)]
theorem wayO {b s k i j : Nat} (h1 : k ≠ 123) (h2 : ¬ (k = 10 ∧ j = 24)) : gI (wayM m wc b s) k i j = gI m k i j := by
  unfold wayM
  rw [gn_I (by omega), gn_I (by omega)]
theorem GoV.relabN {t : Nat} {x y : Int32} (hg : GoV J lab x y) : GoV J (relab lab h (.inr t)) x y := by
  rcases hg with hg | ⟨j, j1, j2, j3⟩
  · exact Or.inl hg
  · refine Or.inr ⟨j, j1, j2, ?_⟩
    rcases j3 with ⟨k, k1, k2⟩ | ⟨u, u1, u2⟩
    · exact Or.inl ⟨k, by rw [relab_n (by rw [k1]; exact fun e => by cases e)]; exact k1, k2⟩
    · by_cases z : lab j = .inr h
      · exact Or.inr ⟨t, relab_y z, u2⟩
      · exact Or.inr ⟨u, by rw [relab_n z]; exact u1, u2⟩
/-- what is open, or waits, goes to the joint t -/
theorem b_leave {t : Nat} (hb : BX c m q B J K h wf wc lab rk op) (hq : q < 2) (ht : t < J) (hl : lab t = .inr t) (hth : op = true ∨ t ≠ h) (hK : K + 1 < J) (hw : wc < 800) :
    ∃ c1 m1 wc1 lab1 rk1, Wy_goTo n (nI t) c = some c1 ∧ M_leaveOpen n m = some m1 ∧ BCore c1 m1 q B J (K + 1) wf wc1 lab1 rk1 ∧ gI m1 10 0 22 = -1 ∧ Pend c1 m1 q B J wf wc1 lab1 (.inr t) ∧ Conv c1 m1 q B J wf wc1 lab1 (.inr t) (fun b s => ∃ j, j < J ∧ sd c q b s = nI j ∧ lab j = .inr t) ∧
      (wf ≤ wc1 ∧ wc1 ≤ wc + 1) ∧ (∀ j, j < J → (op = true ∨ ¬ lab j = .inr h) → lab1 j = lab j) ∧ (∀ j, j < J → op = false → lab j = .inr h → lab1 j = .inr t) ∧ (∀ b s, b < B → s < 2 → ¬ (op = true ∧ b + 1 = B ∧ s = 0) → sd c1 q b s = sd c q b s) ∧ (op = true → sd c1 q (B - 1) 0 = nI t) ∧ (∀ k, k < wc → gI m1 123 0 k = gI m 123 0 k) ∧
      (∀ k i j, k ≠ 22 → ¬ (k = 0 ∧ i = 175 * q + (B - 1) ∧ j = 4) → gI c1 k i j = gI c k i j) ∧ c1.2 = c.2 ∧ (∀ k i j, k ≠ 123 → ¬ (k = 10 ∧ (j = 22 ∨ j = 24)) → gI m1 k i j = gI m k i j) ∧ m1.2 = m.2 := by
  rcases hb with ⟨ho, ⟨hcore, o1, o2, o3, o4, o5, o6⟩, rfl⟩ | ⟨ho, hb⟩
  · obtain ⟨⟨a1, a2, a3, a4⟩, ⟨b1, b2⟩, ⟨d1, d2, d3, d4⟩, ⟨e1, e2, e3, e4⟩, f1, g1⟩ := hcore
    have sdo : ∀ b s, b < B → s < 2 → ¬ (b + 1 = B ∧ s = 0) → sd (sI c 0 (175 * q + (B - 1)) 4 (nI t)) q b s = sd c q b s := fun b s x1 x2 x3 => by
      unfold sd
      exact gn_I (by omega)
    have sdn : sd (sI c 0 (175 * q + (B - 1)) 4 (nI t)) q (B - 1) 0 = nI t := gs_I _ _ _ _ _
    refine ⟨_, _, wc + 1, lab, rk, r_goOld o1 (by omega), m_leaveYes o3 (by omega) d1 (by omega), ⟨⟨a1, ?_, ?_, a4⟩, ⟨?_, b2⟩, ⟨?_, ?_, by omega, by omega⟩, ⟨fun j hj => by have := e1 j hj; omega, hK, ?_, e4⟩, ?_, ?_⟩, gs_I _ _ _ _ _, ?_, ?_, by omega, fun _ _ _ => rfl, fun j _ z => (by rw [ho] at z; cases z), ?_, fun _ => sdn, ?_, fun k i j z1 z2 => gn_I (by omega), rfl, ?_, rfl⟩
    · rw [gn_I (by omega)]; exact a2
    · rw [gn_I (by omega), wayO (by decide) (by omega)]; exact a3
    · rw [gn_I (by omega)]; exact b1
    · rw [gn_I (by omega)]; exact gs_I _ _ _ _ _
    · rw [gn_I (by omega), wayO (by decide) (by omega)]; exact d2
    · intro j hj
      exact (e3 j hj).mono (gn_I (by omega)) (gn_I (by omega)) (Nat.le_refl _) (Nat.le_refl _)
    · intro b hb
      obtain ⟨s1, s2, s3, s4, s5⟩ := f1 b hb
      have m119 : ∀ k, 117 ≤ k → k ≤ 122 → gI (sI (wayM m wc (B - 1) 0) 10 0 22 (-1)) k 0 b = gI m k 0 b := fun k x y => by rw [gn_I (by omega), wayO (by omega) (by omega)]
      have cO : ∀ j, j ≠ 4 → gI (sI c 0 (175 * q + (B - 1)) 4 (nI t)) 0 (175 * q + b) j = gI c 0 (175 * q + b) j := fun j x => gn_I (by omega)
      refine ⟨?_, ?_, ?_, ?_, ?_⟩
      · rw [m119 119 (by decide) (by decide)]
        by_cases z : b + 1 = B
        · have zb : b = B - 1 := by omega
          subst zb
          rw [sdn]
          refine Or.inr ⟨t, ht, rfl, Or.inr ⟨t, hl, ?_⟩⟩
          rcases s1 with ⟨x1, x2⟩ | ⟨j, j1, j2, -⟩
          · exact x2
          · exact absurd (j2.symm.trans o5) (nI_nm (by omega))
        · rw [sdo b 0 hb (by decide) (by omega)]; exact s1
      · rw [m119 120 (by decide) (by decide), sdo b 1 hb (by decide) (by omega)]; exact s2
      · rw [m119 121 (by decide) (by decide), cO 2 (by decide)]; exact s3
      · rw [cO 2 (by decide)]; exact s4
      · rw [m119 117 (by decide) (by decide), m119 118 (by decide) (by decide), cO 2 (by decide), cO 3 (by decide)]; exact s5
    · intro k hk
      by_cases z : k = wc
      · exact ⟨2 * (B - 1) + 0, by omega, by rw [gn_I (by omega), way123, if_pos z]⟩
      · obtain ⟨w, w1, w2⟩ := g1 k (by omega)
        exact ⟨w, w1, by rw [gn_I (by omega), way123, if_neg z]; exact w2⟩
    · intro k k1 k2
      have z : k = wc := by omega
      exact ⟨B - 1, 0, t, by omega, by decide, ht, by rw [gn_I (by omega), way123, if_pos z], sdn, hl⟩
    · intro b s j x1 x2 x3 x4 x5
      by_cases z : b + 1 = B ∧ s = 0
      · refine Or.inl ⟨wc, Nat.le_refl _, by omega, ?_⟩
        rw [gn_I (by omega), way123, if_pos rfl, show b = B - 1 by omega, z.2]
      · rw [sdo b s x1 x2 z] at x4
        exact Or.inr ⟨j, x3, x4, x5⟩
    · intro b s x1 x2 x3
      exact sdo b s x1 x2 (fun z => x3 ⟨ho, z⟩)
    · intro k hk
      rw [gn_I (by omega), way123, if_neg (by omega)]
    · intro k i j z1 z2
      rw [gn_I (by omega), wayO z1 (by omega)]
  · have htn : t ≠ h := hth.elim (fun z => by rw [ho] at z; cases z) id
    have hx : ¬ (Sum.inr t : Nat ⊕ Nat) = .inr h := fun e => htn (Sum.inr.inj e)
    obtain ⟨⟨⟨a1, a2, a3, a4⟩, ⟨b1, b2⟩, ⟨d1, d2, d3, d4⟩, ⟨e1, e2, e3, e4⟩, f1, g1⟩, ⟨h1, h2, h3⟩, i1, j1, k1, l1⟩ := id hb
    obtain ⟨n1, n2, n3⟩ := b_goNew hb ht hl hx (e4 t t ht hl).2.2 hK
    have sdo : ∀ b s, sd (sI c 22 0 h (nI t)) q b s = sd c q b s := fun b s => by unfold sd; exact gn_I (by omega)
    refine ⟨_, _, wc, relab lab h (.inr t), reR lab rk h, r_goNew i1 h1 (by omega), m_leaveNo j1, ⟨⟨a1, ?_, a3, a4⟩, ⟨?_, b2⟩, ⟨d1, d2, d3, d4⟩, ⟨n1, hK, n2, n3⟩, ?_, g1⟩, j1, ?_, ?_, ⟨d3, by omega⟩, ?_, fun j _ _ z => relab_y z, fun b s _ _ _ => sdo b s, fun z => (by rw [ho] at z; cases z), fun _ _ => rfl, fun k i j z1 z2 => gn_I (by omega), rfl, fun _ _ _ _ _ => rfl, rfl⟩
    · rw [gn_I (by omega)]; exact a2
    · rw [gn_I (by omega)]; exact b1
    · intro b hb
      obtain ⟨s1, s2, s3⟩ := f1 b hb
      unfold SideOk
      rw [sdo, sdo, gn_I (by omega), gn_I (by omega)]
      exact ⟨s1.relabN, s2.relabN, s3⟩
    · intro k k1' k2
      obtain ⟨b, s, j, x1, x2, x3, x4, x5, x6⟩ := k1 k k1' k2
      exact ⟨b, s, j, x1, x2, x3, x4, by rw [sdo]; exact x5, relab_y x6⟩
    · intro b s j x1 x2 x3 x4 x5
      rw [sdo] at x4
      by_cases z : lab j = .inr h
      · rcases l1 b s j x1 x2 x3 x4 z with y | y
        · exact Or.inl y
        · exact y.elim
      · rw [relab_n z] at x5
        exact Or.inr ⟨j, x3, x4, x5⟩
    · intro j hj z
      exact relab_n (z.elim (fun y => by rw [ho] at y; cases y) id)
end XS
