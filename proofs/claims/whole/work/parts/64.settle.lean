/-! ===== PURE: the end of a program: joints become blocks ===== -/
section SE
variable {T : Nat → Nat} {len q n x : Nat} {c0 m0 c m : Mem} {p cnt bc B J K h wf wc W : Nat} {lab : Nat → Nat ⊕ Nat} {rk : Nat → Nat} {op : Bool}
/-- where a joint leads in the end -/
def res (lab : Nat → Nat ⊕ Nat) (j : Nat) : Int32 := match lab j with
| .inl k => nI k
| .inr _ => -1
theorem lab_lt (hr : ∀ j t, j < J → lab j = .inr t → t < J) (hl : ∀ j, j < J → LabOk c B J lab rk j) : ∀ (f j k : Nat), rk j < f → j < J → lab j = .inl k → k < B := by
  intro f
  induction f with
  | zero => intro j k a; omega
  | succ f ih =>
    intro j k a b e
    rcases hl j b with ⟨⟨k', x1, x2, x3⟩, -⟩ | ⟨x1, x2, x3, x4⟩ | ⟨x1, t, x2, x3, x4, x5⟩
    · rw [x3] at e
      have := Sum.inl.inj e
      omega
    · rw [x3] at e; cases e
    · exact ih t k (by omega) x2 (x4.trans e)
theorem r_blockFromL (hJ : gI c 8 0 2 = nI J) (hJ2 : J ≤ 350) (hl : ∀ j, j < J → LabOk c B J lab rk j) (hB : B ≤ 175) : ∀ (f j i : Nat), j < J → rk j + i < J → J + 1 - i ≤ f →
    ∃ r, Wy_blockFrom_L4 n c f (nI j) (nI i) = some r ∧ ((∃ t k, r = .inl (nI t) ∧ t < J ∧ gI c 21 0 t = nI k ∧ lab j = .inl k) ∨ (r = .inr () ∧ ∃ t, lab j = .inr t)) := by
  intro f
  induction f with
  | zero => intro j i a b d; omega
  | succ f ih =>
    intro j i a b d
    have e1 : (nI J ≤ nI i) = (J ≤ i) := q_le (by omega) (by omega)
    rw [Wy_blockFrom_L4, hJ]
    simp only [e1]
    rw [if_neg (by omega), if_neg (nI_nm (by omega)), ix_nI (N := 350) (by omega) (by decide), bd_s]
    rcases hl j a with ⟨⟨k', x1, x2, x3⟩, -⟩ | ⟨x1, x2, x3, x4⟩ | ⟨x1, t, x2, x3, x4, x5⟩
    · rw [x2, if_neg (nI_nm (by omega))]
      exact ⟨_, rfl, Or.inl ⟨j, k', rfl, a, x2, x3⟩⟩
    · rw [if_pos x1, bd_s, x2, show nI i + 1 = nI (i + 1) from nI_1 _]
      obtain ⟨f, rfl⟩ : ∃ e, f = e + 1 := ⟨f - 1, by omega⟩
      have e2 : (nI J ≤ nI (i + 1)) = (J ≤ i + 1) := q_le (by omega) (by omega)
      rw [Wy_blockFrom_L4, hJ]
      simp only [e2]
      refine ⟨.inr (), ?_, Or.inr ⟨rfl, j, x3⟩⟩
      by_cases z : J ≤ i + 1
      · rw [if_pos z]
      · rw [if_neg z, if_pos True.intro]
    · rw [if_pos x1, bd_s, x3, show nI i + 1 = nI (i + 1) from nI_1 _]
      obtain ⟨r, y1, y2⟩ := ih t (i + 1) x2 (by omega) (by omega)
      refine ⟨r, y1, ?_⟩
      rw [← x4]
      exact y2
theorem r_blockFrom {j : Nat} (hn : 800 ≤ n) (hJ : gI c 8 0 2 = nI J) (hJ2 : J ≤ 350) (hl : ∀ j, j < J → LabOk c B J lab rk j) (hB : B ≤ 175) (hj : j < J) (hk : rk j < J) : Wy_blockFrom n (nI j) c = some (res lab j) := by
  obtain ⟨r, y1, y2⟩ := r_blockFromL (n := n) hJ hJ2 hl hB n j 0 hj (by omega) (by omega)
  rw [nI_0] at y1
  rw [Wy_blockFrom, y1, bd_s]
  rcases y2 with ⟨t, k, rfl, z1, z2, z3⟩ | ⟨rfl, t, z⟩
  · show (ix (nI t) 350).bind _ = _
    rw [ix_nI (N := 350) (by omega) (by decide), bd_s, z2]
    unfold res
    rw [z3]
  · show some (-1 : Int32) = _
    unfold res
    rw [z]
theorem r_blockFromNo (hJ : gI c 8 0 2 = nI J) (hn : 1 ≤ n) : Wy_blockFrom n (-1) c = some (-1) := by
  obtain ⟨f, rfl⟩ : ∃ e, n = e + 1 := ⟨n - 1, by omega⟩
  have e : Wy_blockFrom_L4 (f + 1) c (f + 1) (-1) 0 = some (.inr ()) := by
    rw [Wy_blockFrom_L4]
    by_cases z : gI c 8 0 2 ≤ 0
    · rw [if_pos z]
    · rw [if_neg z, if_pos rfl]
  rw [Wy_blockFrom, e, bd_s]
/-- a side, settled -/
theorem r_side {s y : Int32} (hn : 800 ≤ n) (hJ : gI c 8 0 2 = nI J) (hJ2 : J ≤ 350) (hl : ∀ j, j < J → LabOk c B J lab rk j) (hr : ∀ j t, j < J → lab j = .inr t → t < J) (hk : ∀ j, j < J → rk j < J) (hB : B ≤ 175) (hg : GoV J lab s y) : Wy_blockFrom n s c = some y ∧ (y = -1 ∨ ∃ k, k < B ∧ y = nI k) := by
  rcases hg with ⟨rfl, rfl⟩ | ⟨j, j1, rfl, j3⟩
  · exact ⟨r_blockFromNo hJ (by omega), Or.inl rfl⟩
  · rw [r_blockFrom hn hJ hJ2 hl hB j1 (hk j j1)]
    unfold res
    rcases j3 with ⟨k, k1, rfl⟩ | ⟨t, t1, rfl⟩
    · rw [k1]
      exact ⟨rfl, Or.inr ⟨k, lab_lt hr hl (rk j + 1) j k (by omega) j1 k1, rfl⟩⟩
    · rw [t1]
      exact ⟨rfl, Or.inl rfl⟩
theorem LabOk.ag {c' : Mem} {j : Nat} (h : LabOk c B J lab rk j) (h1 : gI c' 21 0 j = gI c 21 0 j) (h2 : gI c' 22 0 j = gI c 22 0 j) : LabOk c' B J lab rk j := h.mono h1 h2 (Nat.le_refl _) (Nat.le_refl _)
/-- settle: every side is what the reference says -/
theorem r_settleL (hn : 800 ≤ n) (hq : q < 2) (hJ2 : J ≤ 350) (hr : ∀ j t, j < J → lab j = .inr t → t < J) (hk : ∀ j, j < J → rk j < J) (hB : B ≤ 175) (y : Nat → Nat → Int32) : ∀ (f x : Nat) (c : Mem), x ≤ B → gR c 8 0 3 = some q → gI c 4 q 3 = nI B → gI c 8 0 2 = nI J → (∀ j, j < J → LabOk c B J lab rk j) → (∀ b, x ≤ b → b < B → GoV J lab (sd c q b 0) (y b 0) ∧ GoV J lab (sd c q b 1) (y b 1)) → (∀ b s, b < x → s < 2 → sd c q b s = y b s) → B + 1 - x ≤ f →
    ∃ c', Wy_settle_L2 n f (nI x) c = some c' ∧ (∀ b s, b < B → s < 2 → sd c' q b s = y b s) ∧ (∀ k i j, ¬ (k = 0 ∧ 175 * q ≤ i ∧ i < 175 * q + 175 ∧ (j = 4 ∨ j = 5)) → gI c' k i j = gI c k i j) ∧ c'.2 = c.2 := by
  intro f
  induction f with
  | zero => intro x c a1 a2 a3 a4 a5 a6 a7 a8; omega
  | succ f ih =>
    intro x c a1 a2 a3 a4 a5 a6 a7 a8
    have e1 : (nI B ≤ nI x) = (B ≤ x) := q_le (by omega) (by omega)
    rw [Wy_settle_L2, a2, bd_s, if_pos hq, a3]
    simp only [e1]
    by_cases z : B ≤ x
    · rw [if_pos z]
      exact ⟨c, rfl, fun b s h1 h2 => a7 b s (by omega) h2, fun _ _ _ _ => rfl, rfl⟩
    · obtain ⟨g0, g1⟩ := a6 x (Nat.le_refl _) (by omega)
      obtain ⟨s0, -⟩ := r_side (n := n) hn a4 hJ2 a5 hr hk hB g0
      rw [if_neg z, bd_s, if_pos hq, ix_nI (N := 175) (by omega) (by decide), bd_s]
      have s0' : Wy_blockFrom n (gI c 0 (175 * q + x) 4) c = some (y x 0) := s0
      rw [s0', bd_s]
      simp only [lt9]
      have l2 : ∀ j, j < J → LabOk (sI c 0 (175 * q + x) 4 (y x 0)) B J lab rk j := fun j hj => (a5 j hj).ag (gn_I (by omega)) (gn_I (by omega))
      have j2 : gI (sI c 0 (175 * q + x) 4 (y x 0)) 8 0 2 = nI J := (gn_I (by omega)).trans a4
      have g1' : GoV J lab (gI (sI c 0 (175 * q + x) 4 (y x 0)) 0 (175 * q + x) 5) (y x 1) := by
        rw [gn_I (by omega)]
        exact g1
      obtain ⟨s1, -⟩ := r_side (n := n) hn j2 hJ2 l2 hr hk hB g1'
      rw [s1, bd_s, show nI x + 1 = nI (x + 1) from nI_1 _]
      have sdx : ∀ b s, b ≠ x → sd (sI (sI c 0 (175 * q + x) 4 (y x 0)) 0 (175 * q + x) 5 (y x 1)) q b s = sd c q b s := fun b s h => by
        unfold sd
        rw [gn_I (by omega), gn_I (by omega)]
      obtain ⟨c', b1, b2, b3, b4⟩ := ih (x + 1) (sI (sI c 0 (175 * q + x) 4 (y x 0)) 0 (175 * q + x) 5 (y x 1)) (by omega) a2 ((gn_I (by omega)).trans ((gn_I (by omega)).trans a3)) ((gn_I (by omega)).trans j2) (fun j hj => (l2 j hj).ag (gn_I (by omega)) (gn_I (by omega))) (fun b h1 h2 => by
        rw [sdx b 0 (by omega), sdx b 1 (by omega)]
        exact a6 b (by omega) h2) (fun b s h1 h2 => by
        by_cases w : b = x
        · subst w
          rcases (show s = 0 ∨ s = 1 by omega) with rfl | rfl
          · unfold sd
            rw [gn_I (by omega), gs_I]
          · exact gs_I _ _ _ _ _
        · rw [sdx b s w]
          exact a7 b s (by omega) h2) (by omega)
      refine ⟨c', b1, b2, fun k i j h => ?_, b4⟩
      rw [b3 k i j h, gn_I (by omega), gn_I (by omega)]
/-- a compiled program: the class's program q, and what the reference says of it -/
def PRg (c : Mem) (q cnt B : Nat) (code gives blk sort val eS eV go ot has : Nat → Int32) : Prop :=
  (∀ i, i < cnt → SG (gI c 3 (200 * q + i) 1) (code i) ∧ gI c 3 (200 * q + i) 2 = kd (gI c 3 (200 * q + i) 1) ∧ VR0 (gI c 3 (200 * q + i) 3) (sort (2 * i)) (val (2 * i)) ∧ VR0 (gI c 3 (200 * q + i) 4) (sort (2 * i + 1)) (val (2 * i + 1)) ∧ gI c 3 (200 * q + i) 5 = gives i ∧ (gI c 3 (200 * q + i) 5 = -1 ∨ ∃ v, v < 8 ∧ gI c 3 (200 * q + i) 5 = nI v ∧ ¬ gI c 3 (200 * q + i) 1 = 2) ∧ gI c 3 (200 * q + i) 6 = blk i ∧ RefOk c q i ∧ UsedR c q cnt B i ∧ ∃ b, b < B ∧ gI c 3 (200 * q + i) 6 = nI b) ∧
  (∀ b, b < B → RangeR c q cnt b ∧ (gI c 0 (175 * q + b) 2 = 0 ∨ gI c 0 (175 * q + b) 2 = 1) ∧ gI c 0 (175 * q + b) 2 = has b ∧ (gI c 0 (175 * q + b) 2 = 1 → VR (gI c 0 (175 * q + b) 3) (eS b) (eV b) ∧ ValB c q cnt b (gI c 0 (175 * q + b) 3)) ∧ (sd c q b 0 = go b ∧ (go b = -1 ∨ ∃ k, k < B ∧ go b = nI k)) ∧ (sd c q b 1 = ot b ∧ (ot b = -1 ∨ ∃ k, k < B ∧ ot b = nI k))) ∧ NumC c
/-- the reference's new program -/
def PRn (c m : Mem) (q cnt B : Nat) : Prop := (gI c 4 q 2 = nI cnt ∧ gI c 4 q 3 = nI B ∧ gI m 10 0 10 = nI cnt ∧ gI m 10 0 16 = nI B ∧ cnt ≤ 200 ∧ B ≤ 175) ∧ PRg c q cnt B (gI m 111 0) (gI m 114 0) (gI m 115 0) (gI m 112 0) (gI m 113 0) (gI m 117 0) (gI m 118 0) (gI m 119 0) (gI m 120 0) (gI m 121 0)
/-- the reference's program as it is kept -/
def PR (c m : Mem) (q cnt B : Nat) : Prop := (gI c 4 q 2 = nI cnt ∧ gI c 4 q 3 = nI B ∧ gI m 10 0 25 = nI cnt ∧ gI m 10 0 31 = nI B ∧ cnt ≤ 200 ∧ B ≤ 175) ∧ PRg c q cnt B (gI m 126 0) (gI m 129 0) (gI m 130 0) (gI m 127 0) (gI m 128 0) (gI m 132 0) (gI m 133 0) (gI m 134 0) (gI m 135 0) (gI m 136 0)
end SE
