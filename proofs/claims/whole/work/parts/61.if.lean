/-! ===== PURE: statements: what an if does ===== -/
section SI
variable {T : Nat → Nat} {len q n x : Nat} {c0 m0 c m : Mem} {p cnt bc B J K h wf wc W : Nat} {lab : Nat → Nat ⊕ Nat} {rk : Nat → Nat} {op : Bool}
theorem safe_leave (hs : SafeM m wf W) (hW : W < 1000) : ∃ m1, M_leaveOpen n m = some m1 ∧ SafeM m1 wf (W + 1) ∧ (∀ k i j, k ≠ 123 → ¬ (k = 10 ∧ (j = 22 ∨ j = 24)) → gI m1 k i j = gI m k i j) ∧ m1.2 = m.2 := by
  obtain ⟨wc, h1, h2, h3, h4, h5, h6⟩ := hs
  rcases h6 with h6 | ⟨b, hb, h6⟩
  · exact ⟨m, m_leaveNo h6, ⟨wc, h1, h2, h3, by omega, h5, Or.inl h6⟩, fun _ _ _ _ _ => rfl, rfl⟩
  · refine ⟨_, m_leaveYes h6 (by omega) h1 (by omega), ⟨wc + 1, ?_, ?_, by omega, by omega, ?_, Or.inl (gs_I _ _ _ _ _)⟩, ?_, rfl⟩
    · rw [gn_I (by decide)]
      exact gs_I _ _ _ _ _
    · rw [gn_I (by decide), wayO (by decide) (by decide)]
      exact h2
    · intro k hk
      rw [gn_I (by omega), way123]
      by_cases z : k = wc
      · rw [if_pos z]; exact ⟨_, by omega, rfl⟩
      · rw [if_neg z]; exact h5 k (by omega)
    · intro k i j z1 z2
      rw [gn_I (by omega), wayO z1 (by omega)]
theorem safe_way {b s : Nat} {u : Int32} (hs : SafeM m wf W) (hW : W < 1000) (hb : b < 800) (hu : (u = 0 ∧ s = 0) ∨ (u = 1 ∧ s = 1)) : ∃ m1, M_way n (nI b) u m = some m1 ∧ SafeM m1 wf (W + 1) ∧ (∀ k i j, k ≠ 123 → ¬ (k = 10 ∧ (j = 22 ∨ j = 24)) → gI m1 k i j = gI m k i j) ∧ m1.2 = m.2 := by
  obtain ⟨wc, h1, h2, h3, h4, h5, h6⟩ := hs
  refine ⟨_, m_way h1 (by omega) (by omega) hu, ⟨wc + 1, gs_I _ _ _ _ _, ?_, by omega, by omega, ?_, ?_⟩, ?_, rfl⟩
  · rw [gn_I (by decide), gn_I (by omega)]
    exact h2
  · intro k hk
    have e := way123 (m := m) (wc := wc) (b := b) (s := s) (k := k)
    unfold wayM at e
    rw [e]
    by_cases z : k = wc
    · rw [if_pos z]
      rcases hu with ⟨-, rfl⟩ | ⟨-, rfl⟩
      · exact ⟨2 * b + 0, by omega, rfl⟩
      · exact ⟨2 * b + 1, by omega, rfl⟩
    · rw [if_neg z]; exact h5 k (by omega)
  · rw [gn_I (by decide), gn_I (by omega)]
    exact h6
  · intro k i j z1 z2
    rw [gn_I (by omega), gn_I (by omega)]
theorem safe_lead {v : Int32} (hn : 2000 ≤ n) (hs : SafeM m wf W) (hW : W < 1000) : ∃ m1, M_lead n (gI m 10 0 49) v m = some m1 ∧ SafeM m1 wf W ∧ (∀ k i j, k ≠ 119 → k ≠ 120 → ¬ (k = 10 ∧ j = 24) → gI m1 k i j = gI m k i j) ∧ m1.2 = m.2 := by
  obtain ⟨wc, h1, h2, h3, h4, h5, h6⟩ := hs
  obtain ⟨m1, g1, g2, g3, g4, -⟩ := m_lead (n := n) (wf := wf) (wc := wc) (a2 := v) (m := m) hn (by omega) h3 h1 (fun j _ z => h5 j z)
  rw [h2, g1]
  refine ⟨m1, rfl, ⟨wf, g2, (g3 _ _ _ (by decide) (by decide) (by decide)).trans h2, Nat.le_refl _, by omega, fun k hk => ?_, ?_⟩, g3, g4⟩
  · rw [g3 123 0 k (by decide) (by decide) (by omega)]; exact h5 k (by omega)
  · rw [g3 10 0 22 (by decide) (by decide) (by decide)]; exact h6
theorem FLS.upd {m1 : Mem} {wf' W' : Nat} (hf : FLS T len q c0 m0 c m wf W) (hs : SafeM m1 wf' W') (ha : ∀ k i j, ¬ (111 ≤ k ∧ k ≤ 123) → ¬ (k = 10 ∧ (j = 22 ∨ j = 24 ∨ j = 49)) → gI m1 k i j = gI m k i j) (h2 : m1.2 = m.2) : FLS T len q c0 m0 c m1 wf' W' := by
  obtain ⟨⟨f, a1, a1', a2, a3⟩, ⟨z, z1, z2, z3⟩, a4, ⟨y, y1, y2⟩, a5, a6, a7⟩ := hf
  refine ⟨⟨f, a1, a1', a2, (ha 10 0 3 (by decide) (by decide)).trans a3⟩, ⟨z, z1, z2, (ha 10 0 4 (by decide) (by decide)).trans z3⟩, ⟨(ha 10 0 2 (by decide) (by decide)).trans a4.1, fun j hj => (ha 101 0 j (by decide) (by omega)).trans (a4.2 j hj)⟩, ⟨y, y1, (ha 10 0 5 (by decide) (by decide)).trans y2⟩, hs, a6, a7.tr ⟨fun k i j g1 g2 => ha k i j g2 (by omega), h2⟩⟩
theorem FLS.leave (hf : FLS T len q c0 m0 c m wf W) (hW : W < 1000) : ∃ m1, M_leaveOpen n m = some m1 ∧ FLS T len q c0 m0 c m1 wf (W + 1) := by
  obtain ⟨m1, e1, e2, e3, e4⟩ := safe_leave (n := n) hf.2.2.2.2.1 hW
  exact ⟨m1, e1, hf.upd e2 (fun k i j g1 g2 => e3 k i j (by omega) (by omega)) e4⟩
theorem FLS.way {b s : Nat} {u : Int32} (hf : FLS T len q c0 m0 c m wf W) (hW : W < 1000) (hb : b < 800) (hu : (u = 0 ∧ s = 0) ∨ (u = 1 ∧ s = 1)) : ∃ m1, M_way n (nI b) u m = some m1 ∧ FLS T len q c0 m0 c m1 wf (W + 1) := by
  obtain ⟨m1, e1, e2, e3, e4⟩ := safe_way (n := n) hf.2.2.2.2.1 hW hb hu
  exact ⟨m1, e1, hf.upd e2 (fun k i j g1 g2 => e3 k i j (by omega) (by omega)) e4⟩
theorem FLS.lead {v : Int32} (hn : 2000 ≤ n) (hf : FLS T len q c0 m0 c m wf W) (hW : W < 1000) : ∃ m1, M_lead n (gI m 10 0 49) v m = some m1 ∧ FLS T len q c0 m0 c m1 wf W := by
  obtain ⟨m1, e1, e2, e3, e4⟩ := safe_lead (n := n) (v := v) hn hf.2.2.2.2.1 hW
  exact ⟨m1, e1, hf.upd e2 (fun k i j g1 g2 => e3 k i j (by omega) (by omega) (by omega)) e4⟩
theorem FLS.base {wf' : Nat} (hf : FLS T len q c0 m0 c m wf W) (hw : wf' ≤ wf) : FLS T len q c0 m0 c (sI m 10 0 49 (nI wf')) wf' W := by
  refine hf.upd ?_ (fun k i j g1 g2 => gn_I (by omega)) rfl
  obtain ⟨wc, h1, h2, h3, h4, h5, h6⟩ := hf.2.2.2.2.1
  exact ⟨wc, (gn_I (by decide)).trans h1, gs_I _ _ _ _ _, by omega, h4, h5, by rw [gn_I (by decide)]; exact h6⟩
/-- sides of blocks behind a stretch -/
theorem SP.side {c' m' : Mem} {B' J' K' h' b s j : Nat} {lab' : Nat → Nat ⊕ Nat} {op' : Bool} (hs : SP q c m B J K h wf lab op c' m' B' J' K' h' lab' op') (hb : b < B') (h2 : s < 2) (hj : j < 350) (e : sd c' q b s = nI j) : (b < B ∧ ¬ (op = true ∧ b + 1 = B) ∧ sd c q b s = nI j) ∨ J ≤ j := by
  obtain ⟨a1, a2, a3, a4, a5, a6, a7, a8, a9, a10⟩ := hs
  by_cases z : B ≤ b ∨ (op = true ∧ b + 1 = B)
  · exact Or.inr (a6 b s j h2 z hb hj e)
  · have z1 : b < B := by
      rcases Nat.lt_or_ge b B with y | y
      · exact y
      · exact absurd (Or.inl y) z
    have z2 : ¬ (op = true ∧ b + 1 = B) := fun y => z (Or.inr y)
    exact Or.inl ⟨z1, z2, (a5 b z1 z2 s h2).symm.trans e⟩
theorem BCore.side {b s j : Nat} (hb : BCore c m q B J K wf wc lab rk) (h1 : b < B) (h2 : s < 2) (hj : j < 350) (e : sd c q b s = nI j) : j < J := by
  obtain ⟨-, ⟨-, b2⟩, -, -, f1, -⟩ := hb
  obtain ⟨s1, s2, -⟩ := f1 b h1
  have key : ∀ y, GoV J lab (sd c q b s) y → j < J := fun y hg => by
    rcases hg with ⟨g1, -⟩ | ⟨j', j1, j2, -⟩
    · exact absurd (e.symm.trans g1) (nI_nm (by omega))
    · have := (nI_eq (by omega) (by omega)).mp (e.symm.trans j2)
      omega
  rcases (show s = 0 ∨ s = 1 by omega) with rfl | rfl
  · exact key _ s1
  · exact key _ s2
theorem SP.low {wf' : Nat} {c' m' : Mem} {B' J' K' h' : Nat} {lab' : Nat → Nat ⊕ Nat} {op' : Bool} (hs : SP q c m B J K h wf' lab op c' m' B' J' K' h' lab' op') (hw : wf ≤ wf') : SP q c m B J K h wf lab op c' m' B' J' K' h' lab' op' := by
  obtain ⟨a1, a2, a3, a4, a5, a6, a7, a8, a9, a10⟩ := hs
  exact ⟨a1, a2, a3, a4, a5, a6, fun k hk => a7 k (by omega), a8, a9, a10⟩
/-- leaving what is open, or where we stand -/
theorem SP.left {c5 m5 c7 m7 : Mem} {B5 J5 K5 h5 K7 t h7 : Nat} {lab5 lab7 : Nat → Nat ⊕ Nat} {op5 : Bool} {X : Nat ⊕ Nat} (hr : ∀ j t, j < J → lab j = .inr t → t < J) (hs : SP q c m B J K h wf lab op c5 m5 B5 J5 K5 h5 lab5 op5) (hK : J + K7 ≤ J5 + K) (l1 : ∀ j, j < J5 → (op5 = true ∨ ¬ lab5 j = .inr h5) → lab7 j = lab5 j) (l2 : ∀ j, j < J5 → op5 = false → lab5 j = .inr h5 → lab7 j = X) (hX : ∀ t', t' < J → ¬ X = .inr t') (s1 : ∀ b s, b < B5 → s < 2 → ¬ (op5 = true ∧ b + 1 = B5 ∧ s = 0) → sd c7 q b s = sd c5 q b s) (s2 : op5 = true → sd c7 q (B5 - 1) 0 = nI t) (ht : J ≤ t ∧ t < 350) (hw : ∀ k, k < wf → gI m7 123 0 k = gI m5 123 0 k) (hb : ∀ j, gI c7 21 0 j = gI c5 21 0 j) (hh : J ≤ h7) : SP q c m B J K h wf lab op c7 m7 B5 J5 K7 h7 lab7 false := by
  obtain ⟨⟨a1, a1', a1''⟩, a2, a3, a4, a5, a6, a7, a8, a9, a10⟩ := hs
  refine ⟨⟨a1, a1', hK⟩, ?_, ?_, ?_, ?_, ?_, fun k hk => (hw k hk).trans (a7 k hk), fun _ => Or.inr hh, fun e => (by cases e), fun j hj z => (hb j).trans (a10 j hj z)⟩
  · intro j hj k e
    have e5 := a2 j hj k e
    exact (l1 j (by omega) (Or.inr (by rw [e5]; exact fun z => by cases z))).trans e5
  · intro j hj u e ho
    have e5 := a3 j hj u e ho
    refine (l1 j (by omega) ?_).trans e5
    cases hop : op5 with
    | true => exact Or.inl rfl
    | false =>
      right
      rw [e5]
      intro z
      have zu := Sum.inr.inj z
      have hu := hr j u hj e
      rcases a8 hop with ⟨y1, y2⟩ | y
      · rcases ho with y3 | y3
        · rw [y2] at y3; cases y3
        · exact y3 (by omega)
      · omega
  · intro j hj u hu e _
    by_cases z : op5 = true ∨ ¬ lab5 j = .inr h5
    · rw [l1 j hj z] at e
      refine a4 j hj u hu e ?_
      rcases z with z | z
      · exact Or.inl z
      · exact Or.inr (fun y => z (by rw [e, y]))
    · have z1 : op5 = false := by
        cases hop : op5 with
        | true => exact absurd (Or.inl hop) z
        | false => rfl
      have z2 : lab5 j = .inr h5 := by
        by_cases y : lab5 j = .inr h5
        · exact y
        · exact absurd (Or.inr y) z
      rw [l2 j hj z1 z2] at e
      exact absurd e (hX u hu)
  · intro b hb' ho s hs'
    rw [s1 b s (by omega) hs' ?_, a5 b hb' ho s hs']
    rintro ⟨y1, y2, y3⟩
    rcases a9 y1 with y | y
    · exact ho ⟨y, by omega⟩
    · omega
  · intro b s j hs' ho hb' hj e
    by_cases z : op5 = true ∧ b + 1 = B5 ∧ s = 0
    · obtain ⟨y1, y2, rfl⟩ := z
      have zb : b = B5 - 1 := by omega
      rw [zb, s2 y1] at e
      have := (nI_eq (by omega) (by omega)).mp e
      omega
    · rw [s1 b s hb' hs' z] at e
      exact a6 b s j hs' ho hb' hj e
/-- a block chooses, and we stand inside -/
theorem SP.choose {c1 w c' m' : Mem} {B1 J2 K2 i o : Nat} {lab1 : Nat → Nat ⊕ Nat} {h1 : Nat} (hs : SP q c m B J K h wf lab op c1 w B1 J2 K2 h1 lab1 true) (s0 : ∀ b s, b + 1 < B1 → s < 2 → sd c' q b s = sd c1 q b s) (s1 : sd c' q (B1 - 1) 0 = nI i) (s2 : sd c' q (B1 - 1) 1 = nI o) (hi : J ≤ i ∧ i < 350) (ho : J ≤ o ∧ o < 350) (hw : ∀ k, k < wf → gI m' 123 0 k = gI w 123 0 k) (hb : ∀ j, gI c' 21 0 j = gI c1 21 0 j) : SP q c m B J K h wf lab op c' m' B1 J2 K2 i lab1 false := by
  obtain ⟨a1, a2, a3, a4, a5, a6, a7, a8, a9, a10⟩ := hs
  refine ⟨a1, a2, a3, fun j hj t ht e _ => a4 j hj t ht e (Or.inl rfl), ?_, ?_, fun k hk => (hw k hk).trans (a7 k hk), fun _ => Or.inr hi.1, fun e => (by cases e), fun j hj z => (hb j).trans (a10 j hj z)⟩
  · intro b hb' hop s hs'
    have hz : b + 1 < B1 := by
      rcases a9 rfl with y | y
      · have : ¬ b + 1 = B := fun z => hop ⟨y, z⟩
        have := a1.1
        omega
      · omega
    rw [s0 b s hz hs', a5 b hb' hop s hs']
  · intro b s j hs' hop hb' hj e
    by_cases z : b + 1 < B1
    · rw [s0 b s z hs'] at e
      exact a6 b s j hs' hop hb' hj e
    · have zb : b = B1 - 1 := by omega
      subst zb
      rcases (show s = 0 ∨ s = 1 by omega) with rfl | rfl
      · rw [s1] at e
        have := (nI_eq (by omega) (by omega)).mp e
        omega
      · rw [s2] at e
        have := (nI_eq (by omega) (by omega)).mp e
        omega
/-- the only side that leads to the other joint of a choice -/
theorem SP.only {c' m4 c5 m5 : Mem} {B1 J2 K1 K5 B5 J5 h5 i o : Nat} {lab1 lab5 : Nat → Nat ⊕ Nat} {op5 : Bool} (hs : SP q c' m4 B1 J2 K1 i wf lab1 false c5 m5 B5 J5 K5 h5 lab5 op5) (s0 : ∀ b s, b + 1 < B1 → s < 2 → ¬ sd c' q b s = nI o) (s1 : sd c' q (B1 - 1) 0 = nI i) (hio : i ≠ o) (ho : o < J2) (hlo : ∀ j, j < J2 → lab1 j = .inr o → j = o) (hi : i < 350) (hJ2 : J2 ≤ 350) (hJ5 : J5 ≤ 350) :
    lab1 o = .inr o → ∀ b s j, b < B5 → s < 2 → j < J5 → sd c5 q b s = nI j → lab5 j = .inr o → b = B1 - 1 ∧ s = 1 := by
  intro hl b s j hb hs' hj e el
  have h5o : op5 = true ∨ o ≠ h5 := by
    cases hop : op5 with
    | true => exact Or.inl rfl
    | false =>
      right
      rcases hs.2.2.2.2.2.2.2.1 hop with ⟨y, -⟩ | y
      · omega
      · omega
  obtain ⟨x1, x2, x3⟩ := hs.2.2.2.1 j hj o ho el h5o
  have hjo := hlo j x1 x2
  subst hjo
  rcases hs.side hb hs' (by omega) e with ⟨y1, -, y3⟩ | y
  · by_cases z : b + 1 < B1
    · exact absurd y3 (s0 b s z hs')
    · have zb : b = B1 - 1 := by omega
      subst zb
      rcases (show s = 0 ∨ s = 1 by omega) with rfl | rfl
      · have := (nI_eq (by omega) (by omega)).mp (s1.symm.trans y3)
        omega
      · exact ⟨rfl, rfl⟩
  · omega
theorem OPS.leave {c' m' : Mem} {X : Nat → Prop} {op' : Bool} (ho : OPS c m q cnt B op X) (hop : op' = false) (h3 : ∀ i j, gI c' 3 i j = gI c 3 i j) (h0 : ∀ b j, b < B → j < 4 → gI c' 0 (175 * q + b) j = gI c 0 (175 * q + b) j) (hm : ∀ k i j, 111 ≤ k → k ≤ 115 → gI m' k i j = gI m k i j) : OPS c' m' q cnt B op' X := by
  obtain ⟨h1, h2, hh3, h4, h5, h6, h7, h8⟩ := ho
  subst hop
  refine ⟨?_, ?_, ?_, ?_, ?_, ?_, fun e => (by cases e), h8⟩
  · unfold OpsR OpR RefOk uses at h1 ⊢
    simp only [h3, hm 111 _ _ (by decide) (by decide), hm 112 _ _ (by decide) (by decide), hm 113 _ _ (by decide) (by decide), hm 114 _ _ (by decide) (by decide), hm 115 _ _ (by decide) (by decide)]
    exact h1
  · unfold NumC at h2 ⊢
    simp only [h3]
    exact h2
  · simp only [h3]
    exact hh3
  · intro b hb
    obtain ⟨f, g, r1, r2, r3, r4⟩ := h4 b hb
    refine ⟨f, g, by rw [h0 b 0 hb (by decide)]; exact r1, by rw [h0 b 1 hb (by decide)]; exact r2, r3, fun i hi => ?_⟩
    rw [h3]
    exact r4 i hi
  · intro i hi
    refine (h5 i hi).imp id (fun y u1 u2 => ?_)
    rw [h3] at u1 u2
    rcases y u1 u2 with ⟨j, j1, j2, j3⟩ | ⟨b, b1, b2, b3, b4⟩
    · refine Or.inl ⟨j, j1, j2, ?_⟩
      unfold uses
      rw [h3, h3]
      exact j3
    · exact Or.inr ⟨b, b1, by rw [h3]; exact b2, by rw [h0 b 2 b1 (by decide)]; exact b3, by rw [h0 b 3 b1 (by decide)]; exact b4⟩
  · intro b hb e
    rw [h0 b 2 hb (by decide)] at e
    rw [h0 b 3 hb (by decide)]
    have := h6 b hb e
    unfold ValB at this ⊢
    simp only [h3]
    exact this
theorem wd_len {p : Nat} : (wd T len p = 1 → lets T len p = 2) ∧ (wd T len p = 2 → lets T len p = 4) ∧ (wd T len p = 3 → lets T len p = 5) ∧ (wd T len p = 4 → lets T len p = 1) ∧ (wd T len p = 5 → lets T len p = 1) := by
  unfold wd
  refine ⟨fun h => ?_, fun h => ?_, fun h => ?_, fun h => ?_, fun h => ?_⟩
  all_goals (repeat' split at h)
  all_goals first | omega | (rename_i z; exact z.1) | cases h
/-- what leaving, standing and joints change -/
def FC (q B : Nat) (c c' : Mem) : Prop := (∀ k i j, k ≠ 5 → k ≠ 8 → k ≠ 21 → k ≠ 22 → ¬ (k = 0 ∧ i = 175 * q + (B - 1) ∧ j = 4) → gI c' k i j = gI c k i j) ∧ (∀ k i j, k ≠ 8 → gR c' k i j = gR c k i j) ∧ gL c' = gL c
def FM (m m' : Mem) : Prop := (∀ k i j, k ≠ 123 → k ≠ 119 → k ≠ 120 → ¬ (k = 10 ∧ (j = 5 ∨ j = 22 ∨ j = 24 ∨ j = 49)) → gI m' k i j = gI m k i j) ∧ m'.2 = m.2
theorem FC.rf : FC q B c c := ⟨fun _ _ _ _ _ _ _ _ => rfl, fun _ _ _ _ => rfl, rfl⟩
theorem FC.tr {a b d : Mem} (h1 : FC q B a b) (h2 : FC q B b d) : FC q B a d := ⟨fun k i j x1 x2 x3 x4 x5 => (h2.1 k i j x1 x2 x3 x4 x5).trans (h1.1 k i j x1 x2 x3 x4 x5), fun k i j z => (h2.2.1 k i j z).trans (h1.2.1 k i j z), h2.2.2.trans h1.2.2⟩
theorem FM.rf : FM m m := ⟨fun _ _ _ _ _ _ _ => rfl, rfl⟩
theorem FM.tr {a b d : Mem} (h1 : FM a b) (h2 : FM b d) : FM a d := ⟨fun k i j x1 x2 x3 x4 => (h2.1 k i j x1 x2 x3 x4).trans (h1.1 k i j x1 x2 x3 x4), h2.2.trans h1.2⟩
theorem FC.pos {v : Int32} : FC q B c (sI c 5 0 1 v) := ⟨fun k i j x1 x2 x3 x4 x5 => gn_I (fun z => x1 z.1), fun _ _ _ _ => rfl, rfl⟩
theorem FC.stndF {t : Nat} : FC q B c (stnd c t) := ⟨fun k i j x1 x2 x3 x4 x5 => stndO (fun z => x2 z.1), fun k i j z => stndR (fun y => z y.1), rfl⟩
theorem FC.jntF : FC q B c (jnt c J) := ⟨fun k i j x1 x2 x3 x4 x5 => jntO x3 x4 (fun z => x2 z.1), fun _ _ _ _ => rfl, rfl⟩
theorem FC.lv {c1 : Mem} (h1 : ∀ k i j, k ≠ 22 → ¬ (k = 0 ∧ i = 175 * q + (B - 1) ∧ j = 4) → gI c1 k i j = gI c k i j) (h2 : c1.2 = c.2) : FC q B c c1 := ⟨fun k i j x1 x2 x3 x4 x5 => h1 k i j x4 x5, fun k i j z => by unfold gR; rw [h2], by unfold gL; rw [h2]⟩
theorem FM.lv {m1 : Mem} (h1 : ∀ k i j, k ≠ 123 → ¬ (k = 10 ∧ (j = 22 ∨ j = 24)) → gI m1 k i j = gI m k i j) (h2 : m1.2 = m.2) : FM m m1 := ⟨fun k i j x1 x2 x3 x4 => h1 k i j x1 (by omega), h2⟩
theorem FM.lv2 {m1 : Mem} (h1 : ∀ k i j, k ≠ 123 → k ≠ 119 → k ≠ 120 → ¬ (k = 10 ∧ (j = 22 ∨ j = 24)) → gI m1 k i j = gI m k i j) (h2 : m1.2 = m.2) : FM m m1 := ⟨fun k i j x1 x2 x3 x4 => h1 k i j x1 x2 x3 (by omega), h2⟩
theorem FM.upd {j : Nat} {v : Int32} (h : j = 5 ∨ j = 49) : FM m (sI m 10 0 j v) := ⟨fun a b d x1 x2 x3 x4 => gn_I (fun z => x4 ⟨z.1, by omega⟩), rfl⟩
theorem FM.wayF {b s : Nat} : FM m (wayM m wc b s) := ⟨fun a b d x1 x2 x3 x4 => wayO x1 (fun z => x4 ⟨z.1, by omega⟩), rfl⟩
theorem FC.fr {c' : Mem} (h : FC q B c c') (hB : B ≤ 175) : FrC q c c' := ⟨fun k i j g1 g2 g3 g4 g5 g6 g7 g8 => h.1 k i j g1 g3 g4 g5 (fun z => g8 ⟨z.1, by omega, by omega⟩), fun k i j g1 g2 => h.2.1 k i j g2, h.2.2⟩
theorem FM.fr {m' : Mem} (h : FM m m') : FrM m m' := ⟨fun k i j g1 g2 => h.1 k i j (by omega) (by omega) (by omega) (by omega), h.2⟩
theorem s_left {c' m' : Mem} {p' y J' K' h' wf' wc' : Nat} {lab' : Nat → Nat ⊕ Nat} {rk' : Nat → Nat} (hS : SRx T len q n x c0 m0 c m p cnt bc B J K h wf wc lab rk op) (fc : FC q B c c') (fm : FM m m') (h1 : gI c' 5 0 1 = nI p') (h2 : gI m' 10 0 5 = nI p') (hp : p ≤ p' ∧ p' ≤ len) (hx : BX c' m' q B J' K' h' wf' wc' lab' rk' false) (hn1 : 5 * (J' - 1) ≤ 2 * (p' + bc) + y) (hn2 : wc' ≤ p') (hh : h' < J') : SRx T len q n y c0 m0 c' m' p' cnt bc B J' K' h' wf' wc' lab' rk' false := by
  obtain ⟨a1, a2, a3, a4, a5, a6, a7, a8, a9, ⟨a10, a11⟩, a12, a13⟩ := hS
  have hB := a9.2.2.2.2.2.2.2.1
  have fr : FrC q c c' := ⟨fun k i j g1 g2 g3 g4 g5 g6 g7 g8 => fc.1 k i j g1 g3 g4 g5 (fun z => g8 ⟨z.1, by omega, by omega⟩), fun k i j g1 g2 => fc.2.1 k i j g2, fc.2.2⟩
  have frm : FrM m m' := ⟨fun k i j g1 g2 => fm.1 k i j (by omega) (by omega) (by omega) (by omega), fm.2⟩
  refine ⟨⟨⟨(fc.1 6 0 1 (by decide) (by decide) (by decide) (by decide) (by omega)).trans a1.1.1, fun j hj => (fc.1 20 0 j (by decide) (by decide) (by decide) (by decide) (by omega)).trans (a1.1.2 j hj)⟩, ⟨(fm.1 10 0 2 (by decide) (by decide) (by decide) (by decide)).trans a1.2.1, fun j hj => (fm.1 101 0 j (by decide) (by decide) (by decide) (by omega)).trans (a1.2.2 j hj)⟩⟩, ⟨h1, h2, hp.2⟩, (fm.1 10 0 3 (by decide) (by decide) (by decide) (by decide)).trans a3, ⟨(fc.1 7 0 4 (by decide) (by decide) (by decide) (by decide) (by omega)).trans a4.1, (fm.1 10 0 6 (by decide) (by decide) (by decide) (by decide)).trans a4.2.1, (fc.1 7 0 5 (by decide) (by decide) (by decide) (by decide) (by omega)).trans a4.2.2.1, (fc.1 7 0 6 (by decide) (by decide) (by decide) (by decide) (by omega)).trans a4.2.2.2.1, (fm.1 10 0 4 (by decide) (by decide) (by decide) (by decide)).trans a4.2.2.2.2⟩, ⟨(fc.1 7 0 3 (by decide) (by decide) (by decide) (by decide) (by omega)).trans a5.1, (fm.1 10 0 7 (by decide) (by decide) (by decide) (by decide)).trans a5.2.1, a5.2.2⟩, (fc.2.1 7 0 2 (by decide)).trans a6, ⟨(fc.1 4 q 2 (by decide) (by decide) (by decide) (by decide) (by omega)).trans a7.1, (fm.1 10 0 10 (by decide) (by decide) (by decide) (by decide)).trans a7.2⟩, hx, a9.leave rfl (fun i j => fc.1 3 i j (by decide) (by decide) (by decide) (by decide) (by omega)) (fun b j z1 z2 => fc.1 0 _ j (by decide) (by decide) (by decide) (by decide) (by omega)) (fun k i j z1 z2 => fm.1 k i j (by omega) (by omega) (by omega) (by omega)), ⟨a10.tr fr, a11.tr frm⟩, ⟨by omega, hn1, hn2⟩, hh⟩
theorem AgBC.rf : AgBC c c := ⟨fun _ _ _ => rfl, fun _ => rfl, fun _ => rfl, fun _ => rfl, fun _ => rfl, fun _ => rfl⟩
theorem upL_at {j t : Nat} (hr : ∀ j t, j < J → lab j = .inr t → t < J) (hj : j < J + 1) (e : upL lab J j = .inr t) (ht : t = J) : j = J := by
  by_cases z : j = J
  · exact z
  · rw [upL_n z] at e
    have := hr j t (by omega) e
    omega
theorem s_if {d : Nat} (hT : TapeT T len) (hq : q < 2) (hn : 2000 ≤ n) (ih : STS T len q n d) (hd1 : 1 ≤ d) (hd2 : d ≤ 20) (hd : 11 ≤ bc + d) (hS : SR T len q n c0 m0 c m p cnt bc B J K h wf wc lab rk op) (hl : p + 2 ≤ len) :
    ∃ r c' m', Tr_ifStatement (Tr_statements n d) n c = some (r, c') ∧ M_choice (M_statements n d) n m = some m' ∧ OUT T len q n c0 m0 c m p cnt bc B J K h wf wc (700 + 3 * (d + 1)) lab op 1 r c' m' := by
  have hlen := hT.1
  have hn8 : 800 ≤ n := by omega
  have pC : gI c 5 0 1 = nI p := hS.2.1.1
  have pM : gI m 10 0 5 = nI p := hS.2.1.2.1
  have hbc := hS.2.2.2.2.1.2.2
  have hinv := hS.2.2.2.2.2.2.2.2.2.2.1
  have hhJ := hS.2.2.2.2.2.2.2.2.2.2.2
  have href := hS.ref
  have hwf : wf ≤ wc := hS.2.2.2.2.2.2.2.1.core.2.2.1.2.2.1
  have hKJ : K < J := hS.2.2.2.2.2.2.2.1.core.2.2.2.1.2.1
  have hcore := hS.2.2.2.2.2.2.2.1.core
  have hS1 := SRx.pos (x := 0) hS (p' := p + 2) (by omega) hl
  have sp0 : SP q c m B J K h wf lab op (sI c 5 0 1 (nI (p + 2))) (sI m 10 0 5 (nI (p + 2))) B J K h lab op := SP.rf hS.2.2.2.2.2.2.2.1 (AgBC.upd (Or.inr (Or.inl rfl))) (fun k hk => gn_I (by omega))
  have sdc : ∀ b s, sd (sI c 5 0 1 (nI (p + 2))) q b s = sd c q b s := fun b s => gn_I (by omega)
  rw [Tr_ifStatement, M_choice, Rd_pass]
  simp only [lt9, bd_s]
  rw [pC, pM, show nI p + 2 = nI (p + 2) from nI_add p 2]
  generalize sI c 5 0 1 (nI (p + 2)) = cA at *
  generalize sI m 10 0 5 (nI (p + 2)) = mA at *
  obtain ⟨j1, hS2, sp1⟩ := hS1.joint (by omega)
  obtain ⟨j2, hS3, sp2⟩ := hS2.joint (by omega)
  rw [j1, bd_s, j2, bd_s]
  dsimp only
  have sp012 := (sp0.tr href hhJ (sp1.tr href hhJ sp2))
  have lJ : upL (upL lab J) (J + 1) J = .inr J := by rw [upL_n (by omega), upL_s]
  have lJ1 : upL (upL lab J) (J + 1) (J + 1) = .inr (J + 1) := upL_s
  have onlyJ : ∀ t, (t = J ∨ t = J + 1) → ∀ j, j < J + 1 + 1 → upL (upL lab J) (J + 1) j = .inr t → j = t := by
    intro t ht j hj e
    by_cases z : j = J + 1
    · rw [z, upL_s] at e
      rw [z]
      exact Sum.inr.inj e
    · rw [upL_n z] at e
      by_cases z2 : j = J
      · rw [z2, upL_s] at e
        rw [z2]
        exact Sum.inr.inj e
      · rw [upL_n z2] at e
        have := href j t (by omega) e
        omega
  have href3 : ∀ j t, j < J + 1 + 1 → upL (upL lab J) (J + 1) j = .inr t → t < J + 1 + 1 := hS3.ref
  have sdc2 : ∀ b s, sd (jnt (jnt cA J) (J + 1)) q b s = sd c q b s := fun b s => by
    rw [← sdc b s]
    unfold sd
    rw [jntO (by decide) (by decide) (by omega), jntO (by decide) (by decide) (by omega)]
  generalize hcJ : jnt (jnt cA J) (J + 1) = cJ at *
  generalize hlab2 : upL (upL lab J) (J + 1) = lab2 at *
  generalize upR (upR rk J) (J + 1) = rk2 at *
  obtain ⟨c1, w, B1, lab1, t1, -, t3, t4, t5, t6, t7, t8, t9, t10, t11, -⟩ := s_open hq hn hS3 (by omega)
  have hB1 : 1 ≤ B1 ∧ B1 ≤ 175 := ⟨t4.2.2.1, t4.1.1.2.2.2⟩
  have spo := sp012.tr href hhJ t6
  have only1 : ∀ t, (t = J ∨ t = J + 1) → ∀ j, j < J + 1 + 1 → lab1 j = .inr t → j = t := by
    intro t ht j hj e
    exact onlyJ t ht j hj (t6.2.2.2.1 j hj t (by omega) e (Or.inl rfl)).2.1
  have l1J : lab1 J = .inr J := t6.2.2.1 J (by omega) J lJ (Or.inr (by omega))
  have l1J1 : lab1 (J + 1) = .inr (J + 1) := t6.2.2.1 (J + 1) (by omega) (J + 1) lJ1 (Or.inr (by omega))
  have oldS : ∀ b s j, b + 1 < B1 → s < 2 → j < 350 → sd c1 q b s = nI j → j < J := by
    intro b s j x1 x2 x3 x4
    rcases t6.side (by omega) x2 x3 x4 with ⟨y1, -, y3⟩ | y
    · rw [sdc2] at y3
      exact hcore.side y1 x2 x3 y3
    · have := t4.1.side (by omega) x2 x3 x4
      omega
  rw [Tr_choice, t1, bd_s]
  obtain ⟨r2, c2, m2, u1, u2, u3⟩ := s_choice (i := J) (o := J + 1) hT hq hn t3 t4 t5 (by omega) l1J (by omega) l1J1 (by omega) (fun b s j x1 x2 x3 x4 x5 => by
    have := oldS b s j x1 x2 (by omega) x4
    have := only1 J (Or.inl rfl) j x3 x5
    omega) (by omega)
  rw [u1, u2, bd_s, bd_s]
  dsimp only
  rcases u3 with ⟨rfl, f2, ac2, am2⟩ | ⟨rfl, k0, m3, m4, p4, cnt4, k1, k2, k3, e4, bn4, ops4, frc4, frm4, hp4, hc4, b4, b4', s40, s41, s42, w4, z4⟩
  · rw [if_pos rfl, if_neg f2.notle]
    exact ⟨_, _, _, rfl, rfl, Or.inr ⟨rfl, s_fl hS3 hB1 t7 t9 f2 ac2 am2 (by omega)⟩⟩
  · rw [if_neg (by decide), if_pos k0, k1, bd_s]
    dsimp only
    rw [k2, bd_s]
    have fr3 := hS3.2.2.2.2.2.2.2.2.2.1
    have bc3 := hS3.2.2.2.2.1
    obtain ⟨r5, c5, m5, v1, v2, v3⟩ := s_body (c0 := c0) (m0 := m0) (t := J) hT hn ih hd1 hd e4 ⟨b4.trans (t11.trans bc3.1), b4'.trans bc3.2.1, hbc⟩ bn4 ops4 ⟨(fr3.1.tr t7).tr frc4, fr3.2.tr frm4⟩ ⟨by omega, by omega, by omega⟩
    rw [v1, v2, bd_s, bd_s]
    dsimp only
    have sp4 : SP q c m B J K h wf lab op c2 m4 B1 (J + 1 + 1) K J lab1 false := spo.choose s40 s41 s42 ⟨Nat.le_refl _, by omega⟩ ⟨by omega, by omega⟩ w4 z4
    rcases v3 with ⟨rfl, p5, cnt5, B5, J5, K5, h5, wc5, lab5, rk5, op5, S5, spb, hp5, hc5, hw5⟩ | ⟨rfl, f5⟩
    · have sp5 := sp4.tr href hhJ spb
      have inv5 := S5.2.2.2.2.2.2.2.2.2.2.1
      have hhJ5 := S5.2.2.2.2.2.2.2.2.2.2.2
      have core5 := S5.2.2.2.2.2.2.2.1.core
      have J5ge : J + 1 + 1 ≤ J5 := spb.1.2.1
      have K5le : J + 1 + 1 + K5 ≤ J5 + K := spb.1.2.2
      have hwf5 : wf ≤ wc5 := core5.2.2.1.2.2.1
      have p5le := S5.2.1.2.2
      have J5le : J5 ≤ 349 := by omega
      have hp6 := skip_ge T len p5
      have hpl6 := skip_le (T := T) p5le
      have l5o : lab5 (J + 1) = .inr (J + 1) := spb.2.2.1 (J + 1) (by omega) (J + 1) l1J1 (Or.inr (by omega))
      have h5o : op5 = true ∨ J + 1 ≠ h5 := by
        cases hop : op5 with
        | true => exact Or.inl rfl
        | false =>
          right
          rcases spb.2.2.2.2.2.2.2.1 hop with ⟨y, -⟩ | y <;> omega
      have only5 := spb.only (o := J + 1) (fun b s x1 x2 x3 => by
        rw [s40 b s x1 x2] at x3
        have := oldS b s (J + 1) x1 x2 (by omega) x3
        omega) s41 (by omega) (by omega) (fun j x1 x2 => only1 (J + 1) (Or.inr rfl) j x1 x2) (by omega) (by omega) (by omega) l1J1
      have rw5 := r_seesWord (w := 3) hT S5.1.1 S5.2.1.1 p5le hn8 (by decide)
      have bx6 : BX (sI c5 5 0 1 (nI (skip T len p5))) m5 q B5 J5 K5 h5 wf wc5 lab5 rk5 op5 := S5.2.2.2.2.2.2.2.1.ag (AgBC.upd (Or.inr (Or.inl rfl))) AgB.rf
      have B5ge : B1 ≤ B5 := spb.1.1
      have sdp : ∀ b s, sd (sI c5 5 0 1 (nI (skip T len p5))) q b s = sd c5 q b s := fun b s => gn_I (by omega)
      have sd5 : ∀ b s, b < B1 → s < 2 → sd c5 q b s = sd c2 q b s := fun b s y1 y2 => spb.2.2.2.2.1 b y1 (fun z => by cases z.1) s y2
      rw [if_neg (by decide), rw5, bd_s]
      dsimp only
      by_cases hE : wd T len (skip T len p5) = wof 3
      · have hs4 : skip T len p5 + 4 ≤ len := by
          have h4 := wd_len.2.1 hE
          have := lets_le (T := T) hpl6
          omega
        have SE := SRx.joint (x := 0) (S5.pos (p' := skip T len p5 + 4) (by omega) hs4) (by omega)
        have jE := SE.1
        have bx8 : BX (jnt (sI c5 5 0 1 (nI (skip T len p5 + 4))) J5) m5 q B5 (J5 + 1) K5 h5 wf wc5 (upL lab5 J5) (upR rk5 J5) op5 := (S5.2.2.2.2.2.2.2.1.ag (AgBC.upd (Or.inr (Or.inl rfl))) AgB.rf).joint (by omega)
        have sd8 : ∀ b s, sd (jnt (sI c5 5 0 1 (nI (skip T len p5 + 4))) J5) q b s = sd c5 q b s := fun b s => (jntO (by decide) (by decide) (by omega)).trans (gn_I (by omega))
        obtain ⟨c9, m6, wc6, lab6, rk6, g1, g2, g3, g4, g5, g6, g7, g8, g9, g10, g11, g12, g13, g14, g15, g16⟩ := b_leave (n := n) bx8 hq (t := J5) (by omega) upL_s (Or.inr (by omega)) (by omega) (by omega)
        have tm6 : TapeM m6 T len := ⟨(g15 10 0 2 (by decide) (by decide)).trans S5.1.2.1, fun j hj => (g15 101 0 j (by decide) (by omega)).trans (S5.1.2.2 j hj)⟩
        have pm6 : gI m6 10 0 5 = nI p5 := (g15 10 0 5 (by decide) (by decide)).trans S5.2.1.2.1
        have fm6 : gI m6 10 0 3 = 0 := (g15 10 0 3 (by decide) (by decide)).trans S5.2.2.1
        have k24 : gI m6 10 0 24 = nI wc6 := g3.2.2.1.1
        have e24 : gI (sI m6 10 0 5 (nI (skip T len p5 + 4))) 10 0 24 = nI wc6 := k24
        have mw := m_way (n := n) (wc := wc6) (b := B1 - 1) (s := 1) (u := 1) (m := sI (sI m6 10 0 5 (nI (skip T len p5 + 4))) 10 0 49 (nI wc6)) k24 (by omega) (by omega) (Or.inr ⟨rfl, rfl⟩)
        rw [if_pos hE, if_neg (by decide), Rd_pass]
        simp only [lt9, bd_s]
        rw [gs_I, sI_sI, show nI (skip T len p5) + 4 = nI (skip T len p5 + 4) from nI_add _ 4, jE, bd_s]
        dsimp only
        rw [g1, bd_s, g2, bd_s, if_pos fm6, m_word hT tm6 pm6 p5le hn8, bd_s]
        dsimp only
        rw [if_pos (show nI (wd T len (skip T len p5)) = 2 by rw [hE]; rfl), gs_I, sI_sI, show nI (skip T len p5) + 4 = nI (skip T len p5 + 4) from nI_add _ 4, e24, mw, bd_s]
        have core9 := ((g3.ag AgBC.rf (AgB.upd (v := nI (skip T len p5 + 4)) nbS5)).from (wf' := wc6) (Nat.le_refl _)).way (b := B1 - 1) (s := 1) (by omega) (by decide) (by omega)
        have u5 : ∀ j, j < J5 → upL lab5 J5 j = lab5 j := fun j hj => upL_n (by omega)
        have l6o : lab6 (J + 1) = .inr (J + 1) := (g8 (J + 1) (by omega) (h5o.imp id (fun y z => y (Sum.inr.inj (((u5 _ (by omega)).trans l5o).symm.trans z))))).trans ((u5 _ (by omega)).trans l5o)
        have l6e : lab6 J5 = .inr J5 := (g8 J5 (by omega) (Or.inr (fun z => by rw [upL_s] at z; have := Sum.inr.inj z; omega))).trans upL_s
        have s91 : sd c9 q (B1 - 1) 1 = nI (J + 1) := (g10 (B1 - 1) 1 (by omega) (by decide) (by omega)).trans ((sd8 _ _).trans ((sd5 (B1 - 1) 1 (by omega) (by decide)).trans s42))
        have pd9 := Pend.way (c := c9) (m := sI (sI m6 10 0 5 (nI (skip T len p5 + 4))) 10 0 49 (nI wc6)) (q := q) (B := B5) (J := J5 + 1) (wf := wc6) (wc := wc6) (lab := lab6) (b := B1 - 1) (s := 1) (j := J + 1) (fun k y1 y2 => absurd (Nat.lt_of_le_of_lt y1 y2) (Nat.lt_irrefl _)) (by omega) (by decide) (by omega) s91 l6o
        have cv9 := Conv.way (c := c9) (m := sI (sI m6 10 0 5 (nI (skip T len p5 + 4))) 10 0 49 (nI wc6)) (q := q) (B := B5) (J := J5 + 1) (wf := wc6) (wc := wc6) (lab := lab6) (τ := .inr (J + 1)) (X := fun b s => b = B1 - 1 ∧ s = 1) (b := B1 - 1) (s := 1) (fun b s j y1 y2 y3 y4 y5 => by
          right
          by_cases z : op5 = true ∧ b + 1 = B5 ∧ s = 0
          · obtain ⟨z1, z2, rfl⟩ := z
            rw [show b = B5 - 1 by omega, g11 z1] at y4
            have := (nI_eq (by omega) (by omega)).mp y4
            subst this
            rw [l6e] at y5
            have := Sum.inr.inj y5
            omega
          · rw [g10 b s y1 y2 z, sd8] at y4
            have jl := core5.side y1 y2 (by omega) y4
            by_cases z2 : op5 = true ∨ ¬ upL lab5 J5 j = .inr h5
            · rw [g8 j y3 z2, u5 j jl] at y5
              exact only5 b s j y1 y2 jl y4 y5
            · have z3 : op5 = false := by
                cases hop : op5 with
                | true => exact absurd (Or.inl hop) z2
                | false => rfl
              have z4 : upL lab5 J5 j = .inr h5 := by
                by_cases y : upL lab5 J5 j = .inr h5
                · exact y
                · exact absurd (Or.inr y) z2
              rw [g9 j y3 z3 z4] at y5
              have := Sum.inr.inj y5
              omega) (Nat.le_refl _) (fun b' s' hX _ _ => hX)
        have bn9 := b_stand core9 ((wayO (by decide) (by decide)).trans g4) pd9 cv9 (by omega) l6o
        have fc9 : FC q B5 c5 c9 := (FC.pos.tr FC.jntF).tr (FC.lv g13 g14)
        have fm9 : FM m5 (wayM (sI (sI m6 10 0 5 (nI (skip T len p5 + 4))) 10 0 49 (nI wc6)) wc6 (B1 - 1) 1) := (((FM.lv g15 g16).tr (FM.upd (Or.inl rfl))).tr (FM.upd (Or.inr rfl))).tr FM.wayF
        have p9c : gI (stnd c9 (J + 1)) 5 0 1 = nI (skip T len p5 + 4) := (stndO (by decide)).trans ((g13 5 0 1 (by decide) (by omega)).trans ((jntO (by decide) (by decide) (by decide)).trans (gs_I _ _ _ _ _)))
        have p9m : gI (wayM (sI (sI m6 10 0 5 (nI (skip T len p5 + 4))) 10 0 49 (nI wc6)) wc6 (B1 - 1) 1) 10 0 5 = nI (skip T len p5 + 4) := (wayO (by decide) (by decide)).trans ((gn_I (by decide)).trans (gs_I _ _ _ _ _))
        have S9 : SRx T len q n 0 c0 m0 (stnd c9 (J + 1)) (wayM (sI (sI m6 10 0 5 (nI (skip T len p5 + 4))) 10 0 49 (nI wc6)) wc6 (B1 - 1) 1) (skip T len p5 + 4) cnt5 bc B5 (J5 + 1) (K5 + 1) (J + 1) wc6 (wc6 + 1) lab6 rk6 false := s_left (x := 0) S5 (fc9.tr FC.stndF) fm9 p9c p9m ⟨by omega, hs4⟩ (Or.inr ⟨rfl, bn9⟩) (by omega) (by omega) (by omega)
        have sp9 : SP q c m B J K h wf lab op c9 (wayM (sI (sI m6 10 0 5 (nI (skip T len p5 + 4))) 10 0 49 (nI wc6)) wc6 (B1 - 1) 1) B5 (J5 + 1) (K5 + 1) (J + 1) lab6 false := by
          refine SP.left (t := J5) (X := .inr J5) href (sp5.tr href hhJ (SP.ag SE.2.2 (c := c5) (m := m5) (c' := jnt (sI c5 5 0 1 (nI (skip T len p5 + 4))) J5) (m' := m5) (fun b s => gn_I (by omega)) (fun j => gn_I (by omega)) (fun k hk => gn_I (by omega)) (fun _ _ => rfl) (fun _ => rfl) (fun k hk => (gn_I (by omega)).symm))) (by omega) g8 g9 (fun t' ht z => by have := Sum.inr.inj z; omega) g10 g11 ⟨by omega, by omega⟩ (fun k hk => ?_) (fun j => g13 21 0 j (by decide) (by omega)) (by omega)
          rw [way123, if_neg (by omega), gn_I (by omega), gn_I (by omega)]
          exact g12 k (by omega)
        have w6 : ∀ k, k < wc6 → gI (wayM (sI (sI m6 10 0 5 (nI (skip T len p5 + 4))) 10 0 49 (nI wc6)) wc6 (B1 - 1) 1) 123 0 k = gI m6 123 0 k := fun k hk => by
          rw [way123, if_neg (by omega), gn_I (by omega), gn_I (by omega)]
        have mw' : wayM (sI (sI m6 10 0 5 (nI (skip T len p5 + 4))) 10 0 49 (nI wc6)) wc6 (B1 - 1) 1 = sI (sI (sI (sI m6 10 0 5 (nI (skip T len p5 + 4))) 10 0 49 (nI wc6)) 123 0 wc6 (nI (2 * (B1 - 1) + 1))) 10 0 24 (nI (wc6 + 1)) := rfl
        rw [← mw']
        clear mw
        generalize wayM (sI (sI m6 10 0 5 (nI (skip T len p5 + 4))) 10 0 49 (nI wc6)) wc6 (B1 - 1) 1 = m8 at *
        have B5l : B5 ≤ 175 := core5.1.2.2.2
        have S9b := S9.2.2.2.2.1
        have S9f := S9.2.2.2.2.2.2.2.2.2.1
        have S9o := S9.2.2.2.2.2.2.2.2.1
        have e9 : EH T len q c9 m8 (skip T len p5 + 4) cnt5 := ⟨S9.1, S9.2.1, S9.2.2.1, S9.2.2.2.1, S9.2.2.2.2.2.1, S9.2.2.2.2.2.2.1⟩
        obtain ⟨r10, c10, m10, x1, x2, x3⟩ := s_body (c0 := c0) (m0 := m0) (t := J + 1) hT hn ih hd1 hd e9 ⟨S9b.1, S9b.2.1, hbc⟩ bn9 (S9o.same (fun k i j z => (stndO (by omega)).symm) (fun _ _ _ _ _ => rfl)) ⟨S5.2.2.2.2.2.2.2.2.2.1.1.tr (fc9.fr B5l), S9f.2⟩ ⟨by omega, by omega, by omega⟩
        rw [x1, x2, bd_s, bd_s]
        dsimp only
        rcases x3 with ⟨rfl, p10, cnt10, B10, J10, K10, h10, wc10, lab10, rk10, op10, S10, sp10, hp10, hc10, hw10⟩ | ⟨rfl, f10⟩
        · have inv10 := S10.2.2.2.2.2.2.2.2.2.2.1
          have core10 := S10.2.2.2.2.2.2.2.1.core
          have p10le := S10.2.1.2.2
          have hwf10 : wc6 ≤ wc10 := core10.2.2.1.2.2.1
          have hhJ10 := S10.2.2.2.2.2.2.2.2.2.2.2
          have J10ge : J5 + 1 ≤ J10 := sp10.1.2.1
          have K10le : J5 + 1 + K10 ≤ J10 + (K5 + 1) := sp10.1.2.2
          have B10ge : B5 ≤ B10 := sp10.1.1
          have l10e : lab10 J5 = .inr J5 := sp10.2.2.1 J5 (by omega) J5 l6e (Or.inr (by omega))
          have h10e : op10 = true ∨ J5 ≠ h10 := by
            cases hop : op10 with
            | true => exact Or.inl rfl
            | false =>
              right
              rcases sp10.2.2.2.2.2.2.2.1 hop with ⟨y, -⟩ | y <;> omega
          have J10le : J10 ≤ 349 := by omega
          obtain ⟨c11, m11, wc11, lab11, rk11, q1, q2, q3, q4, q5, q6, q7, q8, q9, q10, q11, q12, q13, q14, q15, q16⟩ := b_leave (n := n) S10.2.2.2.2.2.2.2.1 hq (t := J5) (by omega) l10e h10e (by omega) (by omega)
          rw [if_neg (by decide), q1, bd_s, r_stand, bd_s, q2, bd_s, k3]
          have m11a : ∀ k, k < wc6 → gI m11 123 0 k = gI m6 123 0 k := fun k hk => (q12 k (by omega)).trans ((sp10.2.2.2.2.2.2.1 k hk).trans (w6 k hk))
          have sd11 : ∀ b s, b < B5 → s < 2 → sd c11 q b s = sd c9 q b s := fun b s y1 y2 => (q10 b s (by omega) y2 (fun z => by
            rcases sp10.2.2.2.2.2.2.2.2.1 z.1 with y | y
            · cases y
            · omega)).trans (sp10.2.2.2.2.1 b y1 (fun z => by cases z.1) s y2)
          have l11 : ∀ j, j < J5 + 1 → lab6 j = .inr J5 → lab11 j = .inr J5 := fun j y1 y2 => by
            have e10 := sp10.2.2.1 j y1 J5 y2 (Or.inr (by omega))
            exact (q8 j (by omega) (h10e.imp id (fun y z => y (Sum.inr.inj (e10.symm.trans z))))).trans e10
          have core11 := q3.from (wf' := wf) (by omega)
          have pd11 : Pend c11 (sI m11 10 0 49 (nI wf)) q B10 J10 wf wc11 lab11 (.inr J5) := by
            intro k y1 y2
            by_cases z : k < wc6
            · obtain ⟨b, s, j, z1, z2, z3, z4, z5, z6⟩ := g5 k y1 z
              exact ⟨b, s, j, by omega, z2, by omega, (m11a k z).trans z4, (sd11 b s z1 z2).trans z5, l11 j z3 z6⟩
            · exact q5 k (by omega) y2
          have cv11 : Conv c11 (sI m11 10 0 49 (nI wf)) q B10 J10 wf wc11 lab11 (.inr J5) (fun _ _ => False) := by
            intro b s j y1 y2 y3 y4 y5
            left
            rcases q6 b s j y1 y2 y3 y4 y5 with ⟨k, z1, z2, z3⟩ | ⟨j', z1, z2, z3⟩
            · exact ⟨k, by omega, z2, z3⟩
            · obtain ⟨v1, v2, -⟩ := sp10.2.2.2.1 j' z1 J5 (by omega) z3 h10e
              rcases sp10.side y1 y2 (by omega) z2 with ⟨u1, -, u3⟩ | u
              · rcases g6 b s j' u1 y2 v1 u3 v2 with ⟨k, a1, a2, a3⟩ | ⟨j'', a1, a2, a3⟩
                · exact ⟨k, a1, by omega, (m11a k a2).trans a3⟩
                · have e := upL_at S5.ref a1 a3 rfl
                  subst e
                  rw [sd8] at a2
                  have := core5.side u1 y2 (by omega) a2
                  omega
              · omega
          have bn11 := b_stand core11 ((gn_I (by decide)).trans q4) pd11 cv11 (by omega) (l11 J5 (by omega) l6e)
          refine ⟨_, _, _, rfl, rfl, Or.inl ⟨rfl, p10, cnt10, B10, J10, K10 + 1, J5, wc11, lab11, rk11, false, ?_, ?_, by omega, by omega, by omega⟩⟩
          · refine s_left (x := 0) (y := 0) S10 ((FC.lv q13 q14).tr FC.stndF) ((FM.lv q15 q16).tr (FM.upd (Or.inr rfl))) ((stndO (by decide)).trans ((q13 5 0 1 (by decide) (by omega)).trans S10.2.1.1)) ((gn_I (by decide)).trans ((q15 10 0 5 (by decide) (by decide)).trans S10.2.1.2.1)) ⟨Nat.le_refl _, p10le⟩ (Or.inr ⟨rfl, bn11⟩) (by omega) (by omega) (by omega)
          · refine SP.left (t := J5) (X := .inr J5) href (sp9.tr href hhJ (sp10.low g7.1)) (by omega) q8 q9 (fun t' ht z => by have := Sum.inr.inj z; omega) (fun b s y1 y2 y3 => sd_stand.trans (q10 b s y1 y2 y3)) (fun z => sd_stand.trans (q11 z)) ⟨by omega, by omega⟩ (fun k hk => ?_) (fun j => (stndO (by omega)).trans (q13 21 0 j (by decide) (by omega))) (by omega)
            rw [gn_I (by omega)]
            exact q12 k (by omega)
        · obtain ⟨m11, e11, f11⟩ := f10.leave (n := n) (by omega)
          rw [if_pos rfl, e11, bd_s, k3]
          exact ⟨_, _, _, rfl, rfl, Or.inr ⟨rfl, (f11.base g7.1).mono (by omega)⟩⟩
      · obtain ⟨c7, m7, wc7, lab7, rk7, g1, g2, g3, g4, g5, g6, g7, g8, g9, g10, g11, g12, g13, g14, g15, g16⟩ := b_leave (n := n) bx6 hq (t := J + 1) (by omega) l5o h5o (by omega) (by omega)
        have tm7 : TapeM m7 T len := ⟨(g15 10 0 2 (by decide) (by decide)).trans S5.1.2.1, fun j hj => (g15 101 0 j (by decide) (by omega)).trans (S5.1.2.2 j hj)⟩
        have pm7 : gI m7 10 0 5 = nI p5 := (g15 10 0 5 (by decide) (by decide)).trans S5.2.1.2.1
        have fm7 : gI m7 10 0 3 = 0 := (g15 10 0 3 (by decide) (by decide)).trans S5.2.2.1
        have w2 : ¬ nI (wd T len (skip T len p5)) = 2 := fun z => hE ((nI_eq (b := 2) (by have := wd_le (T := T) (len := len) (p := skip T len p5); omega) (by decide)).mp z)
        have mw := m_way (n := n) (wc := wc7) (b := B1 - 1) (s := 1) (u := 1) (m := sI m7 10 0 5 (nI (skip T len p5))) g3.2.2.1.1 (by omega) (by omega) (Or.inr ⟨rfl, rfl⟩)
        rw [if_neg hE, if_pos rfl, g1, bd_s, r_stand, bd_s, g2, bd_s, if_pos fm7, m_word hT tm7 pm7 p5le hn8, bd_s]
        dsimp only
        rw [if_neg w2, mw, bd_s]
        have bag9 := (g3.ag AgBC.rf (AgB.upd (v := nI (skip T len p5)) nbS5)).way (b := B1 - 1) (s := 1) (by omega) (by decide) (by omega)
        have l7o : lab7 (J + 1) = .inr (J + 1) := (g8 (J + 1) (by omega) (h5o.imp id (fun y z => y (Sum.inr.inj (l5o.symm.trans z))))).trans l5o
        have s71 : sd c7 q (B1 - 1) 1 = nI (J + 1) := (g10 (B1 - 1) 1 (by omega) (by decide) (by omega)).trans ((sdp _ _).trans ((sd5 (B1 - 1) 1 (by omega) (by decide)).trans s42))
        have pd := Pend.way (m := sI m7 10 0 5 (nI (skip T len p5))) (b := B1 - 1) (s := 1) (j := J + 1) g5 (by omega) (by decide) (by omega) s71 l7o
        have cv := Conv.way (m := sI m7 10 0 5 (nI (skip T len p5))) (b := B1 - 1) (s := 1) g6 g7.1 (fun b' s' hX y1 y2 => by
          obtain ⟨j, j1, j2, j3⟩ := hX
          exact only5 b' s' j y1 y2 j1 ((sdp _ _).symm.trans j2) j3)
        have bn := b_stand bag9 ((wayO (by decide) (by decide)).trans g4) pd cv (by omega) l7o
        refine ⟨_, _, _, rfl, rfl, Or.inl ⟨rfl, skip T len p5, cnt5, B5, J5, K5 + 1, J + 1, wc7 + 1, lab7, rk7, false, ?_, ?_, by omega, by omega, by omega⟩⟩
        · refine s_left (x := 0) (y := 0) S5 ((FC.pos.tr (FC.lv g13 g14)).tr FC.stndF) (((FM.lv g15 g16).tr (FM.upd (Or.inl rfl))).tr FM.wayF) ((stndO (by decide)).trans ((g13 5 0 1 (by decide) (by omega)).trans (gs_I _ _ _ _ _))) ((wayO (by decide) (by decide)).trans (gs_I _ _ _ _ _)) ⟨hp6, hpl6⟩ (Or.inr ⟨rfl, bn⟩) (by omega) (by omega) (by omega)
        · refine SP.left (t := J + 1) (X := .inr (J + 1)) href sp5 (by omega) g8 g9 (fun t' ht z => by have := Sum.inr.inj z; omega) (fun b s y1 y2 y3 => sd_stand.trans ((g10 b s y1 y2 y3).trans (sdp b s))) (fun z => sd_stand.trans (g11 z)) ⟨by omega, by omega⟩ (fun k hk => ?_) (fun j => (stndO (by omega)).trans ((g13 21 0 j (by decide) (by omega)).trans (gn_I (by omega)))) (by omega)
          rw [gn_I (by omega), gn_I (by omega), gn_I (by omega)]
          exact g12 k (by omega)
    · obtain ⟨m6, e6, f6⟩ := f5.leave (n := n) (by omega)
      obtain ⟨m7, e7, f7⟩ := f6.way (n := n) (b := B1 - 1) (u := 1) (s := 1) (by omega) (by omega) (Or.inr ⟨rfl, rfl⟩)
      rw [if_pos rfl, e6, bd_s, if_neg f6.not0, e7, bd_s]
      exact ⟨_, _, _, rfl, rfl, Or.inr ⟨rfl, f7.mono (by omega)⟩⟩
end SI
