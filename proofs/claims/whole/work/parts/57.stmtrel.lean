/-! ===== PURE: statements: what is held to be the same on both sides ===== -/
/-- only the parser's things, and those of program q, have changed since c0 -/
def FrC (q : Nat) (c0 c : Mem) : Prop :=
  (∀ k i j, k ≠ 5 → k ≠ 7 → k ≠ 8 → k ≠ 21 → k ≠ 22 → ¬ (k = 4 ∧ i = q) → ¬ (k = 3 ∧ 200 * q ≤ i ∧ i < 200 * q + 200 ∧ j ≠ 0) → ¬ (k = 0 ∧ 175 * q ≤ i ∧ i < 175 * q + 175) → gI c k i j = gI c0 k i j) ∧ (∀ k i j, k ≠ 7 → k ≠ 8 → gR c k i j = gR c0 k i j) ∧ gL c = gL c0
def FrM (m0 m : Mem) : Prop := (∀ k i j, ¬ (k = 10 ∧ ((3 ≤ j ∧ j ≤ 10) ∨ j = 16 ∨ j = 22 ∨ j = 24 ∨ j = 49)) → ¬ (111 ≤ k ∧ k ≤ 123) → gI m k i j = gI m0 k i j) ∧ m.2 = m0.2
theorem FrC.rf {q : Nat} {c : Mem} : FrC q c c := ⟨fun _ _ _ _ _ _ _ _ _ _ _ => rfl, fun _ _ _ _ _ => rfl, rfl⟩
theorem FrC.tr {q : Nat} {a b c : Mem} (h1 : FrC q a b) (h2 : FrC q b c) : FrC q a c := ⟨fun k i j g1 g2 g3 g4 g5 g6 g7 g8 => (h2.1 k i j g1 g2 g3 g4 g5 g6 g7 g8).trans (h1.1 k i j g1 g2 g3 g4 g5 g6 g7 g8), fun k i j g1 g2 => (h2.2.1 k i j g1 g2).trans (h1.2.1 k i j g1 g2), h2.2.2.trans h1.2.2⟩
theorem FrM.rf {m : Mem} : FrM m m := ⟨fun _ _ _ _ _ => rfl, rfl⟩
theorem FrM.tr {a b c : Mem} (h1 : FrM a b) (h2 : FrM b c) : FrM a c := ⟨fun k i j g1 g2 => (h2.1 k i j g1 g2).trans (h1.1 k i j g1 g2), h2.2.trans h1.2⟩
theorem FrC.agC {q cnt B : Nat} {c c' : Mem} (h : AgC q cnt B c c') (hB : 1 ≤ B ∧ B ≤ 175) : FrC q c c' :=
  ⟨fun k i j g1 g2 g3 g4 g5 g6 g7 g8 => h.1 k i j g1 (fun z => g2 z.1) (fun z => g6 ⟨z.1, z.2.1⟩) (fun z => g7 ⟨z.1, by omega, z.2.2⟩) (fun z => g8 ⟨z.1, by omega, by omega⟩), fun k i j _ _ => by unfold gR; rw [h.2], by unfold gL; rw [h.2]⟩
theorem FrM.agM {cnt : Nat} {m m' : Mem} (h : AgM cnt m m') : FrM m m' := ⟨fun k i j g1 g2 => h.1 k i j (by omega) (by omega) (by omega) (by omega) (by omega), h.2.2⟩
theorem FrM.oth {m m' : Mem} (h : OthB m m') : FrM m m' := ⟨fun k i j g1 g2 => h.1 k i j (by omega) (by omega), h.2⟩
theorem FrC.upd {q k i j : Nat} {c : Mem} {v : Int32} (h : k = 5 ∨ k = 7 ∨ k = 8 ∨ k = 21 ∨ k = 22 ∨ (k = 4 ∧ i = q) ∨ (k = 3 ∧ 200 * q ≤ i ∧ i < 200 * q + 200 ∧ j ≠ 0) ∨ (k = 0 ∧ 175 * q ≤ i ∧ i < 175 * q + 175)) : FrC q c (sI c k i j v) :=
  ⟨fun a b d g1 g2 g3 g4 g5 g6 g7 g8 => gn_I (fun z => by rcases h with h | h | h | h | h | h | h | h <;> omega), fun _ _ _ _ _ => rfl, rfl⟩
theorem FrC.updR {q k i j : Nat} {c : Mem} {v : Option Nat} (h : k = 7 ∨ k = 8) : FrC q c (sR c k i j v) :=
  ⟨fun _ _ _ _ _ _ _ _ _ _ _ => rfl, fun a b d g1 g2 => by rw [gR_sR, if_neg (by omega)], rfl⟩
theorem FrM.upd {j : Nat} {m : Mem} {v : Int32} (h : (3 ≤ j ∧ j ≤ 10) ∨ j = 16 ∨ j = 22 ∨ j = 24 ∨ j = 49) : FrM m (sI m 10 0 j v) := ⟨fun a b d g1 g2 => gn_I (fun z => g1 ⟨z.1, by rw [z.2.2]; exact h⟩), rfl⟩
theorem FrM.updA {k i j : Nat} {m : Mem} {v : Int32} (h : 111 ≤ k ∧ k ≤ 123) : FrM m (sI m k i j v) := ⟨fun a b d g1 g2 => gn_I (fun z => g2 (by rw [z.1]; exact h)), rfl⟩
/-- how a stretch of statements moves labels, sides and ways -/
def SP (q : Nat) (c m : Mem) (B J K h wf : Nat) (lab : Nat → Nat ⊕ Nat) (op : Bool) (c' m' : Mem) (B' J' K' h' : Nat) (lab' : Nat → Nat ⊕ Nat) (op' : Bool) : Prop :=
  (B ≤ B' ∧ J ≤ J' ∧ J + K' ≤ J' + K) ∧
  (∀ j, j < J → ∀ k, lab j = .inl k → lab' j = .inl k) ∧
  (∀ j, j < J → ∀ t, lab j = .inr t → (op = true ∨ t ≠ h) → lab' j = .inr t) ∧
  (∀ j, j < J' → ∀ t, t < J → lab' j = .inr t → (op' = true ∨ t ≠ h') → j < J ∧ lab j = .inr t ∧ (op = true ∨ t ≠ h)) ∧
  (∀ b, b < B → ¬ (op = true ∧ b + 1 = B) → ∀ s, s < 2 → sd c' q b s = sd c q b s) ∧
  (∀ b s j, s < 2 → (B ≤ b ∨ (op = true ∧ b + 1 = B)) → b < B' → j < 350 → sd c' q b s = nI j → J ≤ j) ∧
  (∀ k, k < wf → gI m' 123 0 k = gI m 123 0 k) ∧ (op' = false → (h' = h ∧ op = false) ∨ J ≤ h') ∧ (op' = true → op = true ∨ B < B') ∧ (∀ j, j < J → ¬ gI c 21 0 j = -1 → gI c' 21 0 j = gI c 21 0 j)
theorem SP.tr {q : Nat} {c m c1 m1 c2 m2 : Mem} {B J K h wf B1 J1 K1 h1 B2 J2 K2 h2 : Nat} {lab lab1 lab2 : Nat → Nat ⊕ Nat} {op op1 op2 : Bool} (hr : ∀ j t, j < J → lab j = .inr t → t < J) (hh : h < J) (a : SP q c m B J K h wf lab op c1 m1 B1 J1 K1 h1 lab1 op1) (b : SP q c1 m1 B1 J1 K1 h1 wf lab1 op1 c2 m2 B2 J2 K2 h2 lab2 op2) : SP q c m B J K h wf lab op c2 m2 B2 J2 K2 h2 lab2 op2 := by
  obtain ⟨⟨a1, a2, a3⟩, a4, a5, a6, a7, a8, a9, a10, a11, a12⟩ := a
  obtain ⟨⟨b1, b2, b3⟩, b4, b5, b6, b7, b8, b9, b10, b11, b12⟩ := b
  have sep : ∀ t, t < J → (op = true ∨ t ≠ h) → op1 = true ∨ t ≠ h1 := by
    intro t ht ho
    cases hop1 : op1 with
    | true => exact Or.inl rfl
    | false =>
      right
      rcases a10 hop1 with ⟨e1, e2⟩ | e
      · rw [e1]
        rcases ho with z | z
        · rw [e2] at z; cases z
        · exact z
      · omega
  refine ⟨⟨by omega, by omega, by omega⟩, fun j hj k e => b4 j (by omega) k (a4 j hj k e), fun j hj t e ho => b5 j (by omega) t (a5 j hj t e ho) (sep t (hr j t hj e) ho), ?_, ?_, ?_, fun k hk => (b9 k hk).trans (a9 k hk), ?_, ?_, fun j hj z => (b12 j (by omega) (by rw [a12 j hj z]; exact z)).trans (a12 j hj z)⟩
  · intro j hj t ht e ho
    obtain ⟨x1, x2, x3⟩ := b6 j hj t (by omega) e ho
    exact a6 j x1 t ht x2 x3
  · intro b hb ho s hs
    rw [b7 b (by omega) (fun z => ?_) s hs, a7 b hb ho s hs]
    rcases a11 z.1 with y | y
    · exact ho ⟨y, by omega⟩
    · omega
  · intro b s j hs ho hb hj e
    by_cases z : B1 ≤ b ∨ (op1 = true ∧ b + 1 = B1)
    · have := b8 b s j hs z hb hj e
      omega
    · rw [b7 b (by omega) (fun y => z (Or.inr y)) s hs] at e
      exact a8 b s j hs ho (by omega) hj e
  · intro e
    rcases b10 e with ⟨x1, x2⟩ | x
    · rcases a10 x2 with ⟨y1, y2⟩ | y
      · exact Or.inl ⟨x1.trans y1, y2⟩
      · exact Or.inr (by omega)
    · exact Or.inr (by omega)
  · intro e
    rcases b11 e with x | x
    · rcases a11 x with y | y
      · exact Or.inl y
      · exact Or.inr (by omega)
    · exact Or.inr (by omega)
/-- class and reference between statements -/
def SRx (T : Nat → Nat) (len q n x : Nat) (c0 m0 c m : Mem) (p cnt bc B J K h wf wc : Nat) (lab : Nat → Nat ⊕ Nat) (rk : Nat → Nat) (op : Bool) : Prop :=
  (TapeC c T len ∧ TapeM m T len) ∧ (gI c 5 0 1 = nI p ∧ gI m 10 0 5 = nI p ∧ p ≤ len) ∧ gI m 10 0 3 = 0 ∧ (gI c 7 0 4 = nI 0 ∧ gI m 10 0 6 = nI 0 ∧ NF c m) ∧ (gI c 7 0 3 = nI bc ∧ gI m 10 0 7 = nI bc ∧ bc ≤ 10) ∧ gR c 7 0 2 = some q ∧ (gI c 4 q 2 = nI cnt ∧ gI m 10 0 10 = nI cnt) ∧
  BX c m q B J K h wf wc lab rk op ∧ OPS c m q cnt B op (fun _ => False) ∧ (FrC q c0 c ∧ FrM m0 m) ∧ (4 * B ≤ p ∧ 5 * (J - 1) ≤ 2 * (p + bc) + x ∧ wc ≤ p) ∧ h < J
def SR (T : Nat → Nat) (len q n : Nat) (c0 m0 c m : Mem) (p cnt bc B J K h wf wc : Nat) (lab : Nat → Nat ⊕ Nat) (rk : Nat → Nat) (op : Bool) : Prop := SRx T len q n 0 c0 m0 c m p cnt bc B J K h wf wc lab rk op
/-- with a fault noted, the reference goes on for a while: nothing of it goes wrong -/
def SafeM (m : Mem) (wf W : Nat) : Prop := ∃ wc, gI m 10 0 24 = nI wc ∧ gI m 10 0 49 = nI wf ∧ wf ≤ wc ∧ wc ≤ W ∧ (∀ k, k < wc → ∃ w, w < 1600 ∧ gI m 123 0 k = nI w) ∧ (gI m 10 0 22 = -1 ∨ ∃ b, b < 800 ∧ gI m 10 0 22 = nI b)
def FLS (T : Nat → Nat) (len q : Nat) (c0 m0 c m : Mem) (wf W : Nat) : Prop :=
  (∃ f, f < 4 ∧ 1 ≤ f ∧ gI c 7 0 5 = nI f ∧ gI m 10 0 3 = nI f) ∧ (∃ z, z ≤ len ∧ gI c 7 0 6 = nI z ∧ gI m 10 0 4 = nI z) ∧ TapeM m T len ∧ (∃ z, z ≤ len ∧ gI m 10 0 5 = nI z) ∧ SafeM m wf W ∧ FrC q c0 c ∧ FrM m0 m
theorem FLS.not0 {T : Nat → Nat} {len q wf W : Nat} {c0 m0 c m : Mem} (h : FLS T len q c0 m0 c m wf W) : ¬ gI m 10 0 3 = 0 := by
  obtain ⟨⟨f, h1, h2, -, h4⟩, -⟩ := h
  rw [h4]
  exact nI_ne0 (by omega) (by omega)
theorem FLS.notle {T : Nat → Nat} {len q wf W : Nat} {c0 m0 c m : Mem} (h : FLS T len q c0 m0 c m wf W) : ¬ gI m 10 0 3 ≤ 0 := by
  obtain ⟨⟨f, h1, h2, -, h4⟩, -⟩ := h
  rw [h4]
  exact nI_nle (by omega) (by omega)
theorem SafeM.mono {m : Mem} {wf W W' : Nat} (h : SafeM m wf W) (hw : W ≤ W') : SafeM m wf W' := by
  obtain ⟨wc, h1, h2, h3, h4, h5⟩ := h
  exact ⟨wc, h1, h2, h3, by omega, h5⟩
theorem FLS.mono {T : Nat → Nat} {len q wf W W' : Nat} {c0 m0 c m : Mem} (h : FLS T len q c0 m0 c m wf W) (hw : W ≤ W') : FLS T len q c0 m0 c m wf W' := by
  obtain ⟨h1, h2, h3, h4, h5, h6⟩ := h
  exact ⟨h1, h2, h3, h4, h5.mono hw, h6⟩
theorem SafeM.agB {m m' : Mem} {wf W : Nat} (h : SafeM m wf W) (ha : AgB m m') : SafeM m' wf W := by
  obtain ⟨wc, h1, h2, h3, h4, h5, h6⟩ := h
  refine ⟨wc, ha.1.2.2.1.symm.trans h1, ha.1.2.2.2.symm.trans h2, h3, h4, fun k hk => ?_, ?_⟩
  · obtain ⟨w, w1, w2⟩ := h5 k hk
    exact ⟨w, w1, (ha.2 123 k (by decide) (by decide)).symm.trans w2⟩
  · rw [← ha.1.2.1]; exact h6
theorem BX.safe {c m : Mem} {q B J K h wf wc W : Nat} {lab : Nat → Nat ⊕ Nat} {rk : Nat → Nat} {op : Bool} (hb : BX c m q B J K h wf wc lab rk op) (hw : wc ≤ W) : SafeM m wf W := by
  have hc := hb.core
  obtain ⟨⟨a1, a2, a3, a4⟩, b1, ⟨d1, d2, d3, d4⟩, e1, f1, g1⟩ := hc
  refine ⟨wc, d1, d2, d3, hw, fun k hk => ?_, ?_⟩
  · obtain ⟨w, w1, w2⟩ := g1 k hk
    exact ⟨w, by omega, w2⟩
  · rcases hb with ⟨-, ⟨-, o1, o2, o3, -⟩, -⟩ | ⟨-, h⟩
    · exact Or.inr ⟨B - 1, by omega, o3⟩
    · exact Or.inl h.2.2.2.1
theorem FL.stm {T : Nat → Nat} {len q wf W : Nat} {c0 m0 c m m1 w : Mem} (h : FL T len c m m1 w) (hC : FrC q c0 c) (hM : FrM m0 m) (h1 : SafeM m1 wf W) (h2 : SafeM w wf W) : FLS T len q c0 m0 c m wf W := by
  obtain ⟨a1, a2, a3, a4, a5⟩ := h
  exact ⟨a1, a2, a3, a4, a5.elim (fun z => h1.agB z) (fun z => h2.agB z), hC, hM⟩
/-- the same blocks, seen from other memories -/
def AgBC (c c' : Mem) : Prop := (∀ i j, j ≠ 1 → gI c' 0 i j = gI c 0 i j) ∧ (∀ i, gI c' 4 i 3 = gI c 4 i 3) ∧ (∀ j, gI c' 8 0 j = gI c 8 0 j) ∧ (∀ j, gI c' 21 0 j = gI c 21 0 j) ∧ (∀ j, gI c' 22 0 j = gI c 22 0 j) ∧ ∀ j, gR c' 8 0 j = gR c 8 0 j
theorem AgBC.agC {q cnt B : Nat} {c c' : Mem} (h : AgC q cnt B c c') : AgBC c c' := ⟨fun i j z => h.1 0 i j (by decide) (by omega) (by omega) (by omega) (by omega), fun i => h.1 4 i 3 (by decide) (by omega) (by omega) (by omega) (by omega), fun j => h.1 8 0 j (by decide) (by omega) (by omega) (by omega) (by omega), fun j => h.1 21 0 j (by decide) (by omega) (by omega) (by omega) (by omega), fun j => h.1 22 0 j (by decide) (by omega) (by omega) (by omega) (by omega), fun j => by unfold gR; rw [h.2]⟩
theorem AgBC.upd {c : Mem} {k i j : Nat} {v : Int32} (h : k = 3 ∨ k = 5 ∨ k = 7) : AgBC c (sI c k i j v) := ⟨fun _ _ _ => gn_I (by omega), fun _ => gn_I (by omega), fun _ => gn_I (by omega), fun _ => gn_I (by omega), fun _ => gn_I (by omega), fun _ => rfl⟩
theorem BCore.ag {c m c' m' : Mem} {q B J K wf wc : Nat} {lab : Nat → Nat ⊕ Nat} {rk : Nat → Nat} (h : BCore c m q B J K wf wc lab rk) (hc : AgBC c c') (hm : AgB m m') : BCore c' m' q B J K wf wc lab rk := by
  obtain ⟨⟨a1, a2, a3, a4⟩, ⟨b1, b2⟩, ⟨d1, d2, d3, d4⟩, ⟨e1, e2, e3, e4⟩, f1, g1⟩ := h
  obtain ⟨k1, k2, k3, k4, k5, k6⟩ := hc
  refine ⟨⟨(k6 3).trans a1, (k2 q).trans a2, hm.1.1.symm.trans a3, a4⟩, ⟨(k3 2).trans b1, b2⟩, ⟨hm.1.2.2.1.symm.trans d1, hm.1.2.2.2.symm.trans d2, d3, d4⟩, ⟨e1, e2, fun j hj => (e3 j hj).mono (k4 j) (k5 j) (Nat.le_refl _) (Nat.le_refl _), e4⟩, ?_, ?_⟩
  · intro b hb
    have := f1 b hb
    unfold SideOk sd at this ⊢
    rw [k1 _ _ (by decide), k1 _ _ (by decide), k1 _ _ (by decide), k1 _ _ (by decide), ← hm.2 119 b (by decide) (by decide), ← hm.2 120 b (by decide) (by decide), ← hm.2 121 b (by decide) (by decide), ← hm.2 117 b (by decide) (by decide), ← hm.2 118 b (by decide) (by decide)]
    exact this
  · intro k hk
    rw [← hm.2 123 k (by decide) (by decide)]
    exact g1 k hk
theorem sd_ag {c c' : Mem} {q b s : Nat} (hc : AgBC c c') : sd c' q b s = sd c q b s := hc.1 _ _ (by omega)
theorem BX.ag {c m c' m' : Mem} {q B J K h wf wc : Nat} {lab : Nat → Nat ⊕ Nat} {rk : Nat → Nat} {op : Bool} (hb : BX c m q B J K h wf wc lab rk op) (hc : AgBC c c') (hm : AgB m m') : BX c' m' q B J K h wf wc lab rk op := by
  rcases hb with ⟨ho, ⟨h1, h2, h3, h4, h5, h6, h7⟩, hw⟩ | ⟨ho, h1, ⟨h2, h3, h4⟩, h5, h6, h7, h8⟩
  · exact Or.inl ⟨ho, ⟨h1.ag hc hm, (hc.2.2.2.2.2 4).trans h2, h3, hm.1.2.1.symm.trans h4, (hc.1 _ _ (by decide)).trans h5, (sd_ag hc).trans h6, (sd_ag hc).trans h7⟩, hw⟩
  · refine Or.inr ⟨ho, h1.ag hc hm, ⟨(hc.2.2.1 5).trans h2, h3, h4⟩, (hc.2.2.2.2.2 4).trans h5, hm.1.2.1.symm.trans h6, ?_, ?_⟩
    · intro k k1 k2
      obtain ⟨b, s, j, x1, x2, x3, x4, x5, x6⟩ := h7 k k1 k2
      exact ⟨b, s, j, x1, x2, x3, by rw [← hm.2 123 k (by decide) (by decide)]; exact x4, by rw [sd_ag hc]; exact x5, x6⟩
    · intro b s j x1 x2 x3 x4 x5
      rw [sd_ag hc] at x4
      rcases h8 b s j x1 x2 x3 x4 x5 with ⟨k, k1, k2, k3⟩ | y
      · exact Or.inl ⟨k, k1, k2, by rw [← hm.2 123 k (by decide) (by decide)]; exact k3⟩
      · exact y.elim
theorem SP.rf {q B J K h wf wc : Nat} {c m c' m' : Mem} {lab : Nat → Nat ⊕ Nat} {rk : Nat → Nat} {op : Bool} (hb : BX c m q B J K h wf wc lab rk op) (hc : AgBC c c') (hm : ∀ k, k < wf → gI m' 123 0 k = gI m 123 0 k) : SP q c m B J K h wf lab op c' m' B J K h lab op := by
  refine ⟨⟨Nat.le_refl _, Nat.le_refl _, Nat.le_refl _⟩, fun _ _ _ e => e, fun _ _ _ e _ => e, fun j hj t ht e ho => ⟨hj, e, ho⟩, fun b _ _ s _ => sd_ag hc, ?_, hm, fun e => Or.inl ⟨rfl, e⟩, fun e => Or.inl e, fun j _ _ => hc.2.2.2.1 j⟩
  intro b s j hs ho hb' hj e
  rw [sd_ag hc] at e
  rcases ho with z | ⟨z1, z2⟩
  · omega
  · rcases hb with ⟨-, ⟨-, -, o2, -, -, o5, o6⟩, -⟩ | ⟨y, -⟩
    · have zb : b = B - 1 := by omega
      subst zb
      rcases (show s = 0 ∨ s = 1 by omega) with rfl | rfl
      · rw [o5] at e; exact absurd e.symm (nI_nm (by omega))
      · rw [o6] at e; exact absurd e.symm (nI_nm (by omega))
    · rw [z1] at y; cases y
