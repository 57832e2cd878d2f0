/-! ===== PURE: where blocks go: joints (class) and ways (reference) ===== -/
/-- a side of a block: 0 where it goes if so or always, 1 if not -/
def sd (c : Mem) (q b s : Nat) : Int32 := gI c 0 (175 * q + b) (4 + s)
/-- a side: the class's joint, the reference's block. lab j: the block that joint j has led to, or the last joint that it leads to as yet -/
def GoV (J : Nat) (lab : Nat → Nat ⊕ Nat) (x y : Int32) : Prop := (x = -1 ∧ y = -1) ∨ ∃ j, j < J ∧ x = nI j ∧ ((∃ k, lab j = .inl k ∧ y = nI k) ∨ (∃ t, lab j = .inr t ∧ y = -1))
def LabOk (c : Mem) (B J : Nat) (lab : Nat → Nat ⊕ Nat) (rk : Nat → Nat) (j : Nat) : Prop :=
  ((∃ k, k < B ∧ gI c 21 0 j = nI k ∧ lab j = .inl k) ∧ rk j = 0) ∨ (gI c 21 0 j = -1 ∧ gI c 22 0 j = -1 ∧ lab j = .inr j ∧ rk j = 0) ∨ (gI c 21 0 j = -1 ∧ ∃ t, t < J ∧ gI c 22 0 j = nI t ∧ lab t = lab j ∧ rk t < rk j)
def SideOk (c m : Mem) (q J : Nat) (lab : Nat → Nat ⊕ Nat) (b : Nat) : Prop :=
  GoV J lab (sd c q b 0) (gI m 119 0 b) ∧ GoV J lab (sd c q b 1) (gI m 120 0 b) ∧ gI c 0 (175 * q + b) 2 = gI m 121 0 b ∧ (gI c 0 (175 * q + b) 2 = 0 ∨ gI c 0 (175 * q + b) 2 = 1) ∧ (gI c 0 (175 * q + b) 2 = 1 → VR (gI c 0 (175 * q + b) 3) (gI m 117 0 b) (gI m 118 0 b))
def BCore (c m : Mem) (q B J K wf wc : Nat) (lab : Nat → Nat ⊕ Nat) (rk : Nat → Nat) : Prop :=
  (gR c 8 0 3 = some q ∧ gI c 4 q 3 = nI B ∧ gI m 10 0 16 = nI B ∧ B ≤ 175) ∧ (gI c 8 0 2 = nI J ∧ J ≤ 350) ∧ (gI m 10 0 24 = nI wc ∧ gI m 10 0 49 = nI wf ∧ wf ≤ wc ∧ wc ≤ 800) ∧
  ((∀ j, j < J → rk j ≤ K) ∧ K < J ∧ (∀ j, j < J → LabOk c B J lab rk j) ∧ ∀ j t, j < J → lab j = .inr t → t < J ∧ lab t = .inr t ∧ rk t = 0) ∧ (∀ b, b < B → SideOk c m q J lab b) ∧ (∀ k, k < wc → ∃ w, w < 2 * B ∧ gI m 123 0 k = nI w)
/-- what waits: sides with this label -/
def Pend (c m : Mem) (q B J wf wc : Nat) (lab : Nat → Nat ⊕ Nat) (τ : Nat ⊕ Nat) : Prop := ∀ k, wf ≤ k → k < wc → ∃ b s j, b < B ∧ s < 2 ∧ j < J ∧ gI m 123 0 k = nI (2 * b + s) ∧ sd c q b s = nI j ∧ lab j = τ
/-- all sides with this label wait, but those of X -/
def Conv (c m : Mem) (q B J wf wc : Nat) (lab : Nat → Nat ⊕ Nat) (τ : Nat ⊕ Nat) (X : Nat → Nat → Prop) : Prop := ∀ b s j, b < B → s < 2 → j < J → sd c q b s = nI j → lab j = τ → (∃ k, wf ≤ k ∧ k < wc ∧ gI m 123 0 k = nI (2 * b + s)) ∨ X b s
/-- no block is open -/
def BN (c m : Mem) (q B J K h wf wc : Nat) (lab : Nat → Nat ⊕ Nat) (rk : Nat → Nat) : Prop :=
  BCore c m q B J K wf wc lab rk ∧ (gI c 8 0 5 = nI h ∧ h < J ∧ lab h = .inr h) ∧ gR c 8 0 4 = none ∧ gI m 10 0 22 = -1 ∧ Pend c m q B J wf wc lab (.inr h) ∧ Conv c m q B J wf wc lab (.inr h) (fun _ _ => False)
/-- the last block is open -/
def BO (c m : Mem) (q B J K wf : Nat) (lab : Nat → Nat ⊕ Nat) (rk : Nat → Nat) : Prop :=
  BCore c m q B J K wf wf lab rk ∧ gR c 8 0 4 = some (175 * q + (B - 1)) ∧ 1 ≤ B ∧ gI m 10 0 22 = nI (B - 1) ∧ gI c 0 (175 * q + (B - 1)) 2 = 0 ∧ sd c q (B - 1) 0 = -1 ∧ sd c q (B - 1) 1 = -1
theorem nI_nm {a : Nat} (ha : a < 2 ^ 31) : ¬ nI a = -1 := fun h => (q_eqm ha).mp h
/-- a new name for the label of what waits -/
def relab (lab : Nat → Nat ⊕ Nat) (h : Nat) (x : Nat ⊕ Nat) : Nat → Nat ⊕ Nat := fun j => if lab j = .inr h then x else lab j
theorem relab_y {lab : Nat → Nat ⊕ Nat} {h j : Nat} {x : Nat ⊕ Nat} (e : lab j = .inr h) : relab lab h x j = x := if_pos e
theorem relab_n {lab : Nat → Nat ⊕ Nat} {h j : Nat} {x : Nat ⊕ Nat} (e : ¬ lab j = .inr h) : relab lab h x j = lab j := if_neg e
/-- the sides that wait are led to a block -/
theorem GoV.led {c m : Mem} {q B J wf wc h b s B' : Nat} {lab : Nat → Nat ⊕ Nat} {y y' : Int32} (hJ : J ≤ 350) (hP : Pend c m q B J wf wc lab (.inr h)) (hC : Conv c m q B J wf wc lab (.inr h) (fun _ _ => False)) (hb : b < B) (hB : B ≤ 175) (hs : s < 2) (hg : GoV J lab (sd c q b s) y)
    (h1 : ∀ k, wf ≤ k → k < wc → gI m 123 0 k = nI (2 * b + s) → y' = nI B') (h2 : (∀ k, wf ≤ k → k < wc → ¬ gI m 123 0 k = nI (2 * b + s)) → y' = y) : GoV J (relab lab h (.inl B')) (sd c q b s) y' := by
  have noP : (∀ j, j < J → sd c q b s = nI j → ¬ lab j = .inr h) → y' = y := by
    intro g
    refine h2 (fun k k1 k2 k3 => ?_)
    obtain ⟨b2, s2, j2, x1, x2, x3, x4, x5, x6⟩ := hP k k1 k2
    rw [k3] at x4
    have := (nI_eq (by omega) (by omega)).mp x4
    have e1 : b2 = b := by omega
    have e2 : s2 = s := by omega
    subst e1 e2
    exact g j2 x3 x5 x6
  rcases hg with ⟨g1, g2⟩ | ⟨j, j1, j2, j3⟩
  · refine Or.inl ⟨g1, ?_⟩
    rw [noP (fun j a e => absurd (e.symm.trans g1) (nI_nm (by omega)))]
    exact g2
  · refine Or.inr ⟨j, j1, j2, ?_⟩
    have uniq : ∀ j', j' < J → sd c q b s = nI j' → j' = j := fun j' a e => (nI_eq (by omega) (by omega)).mp (e.symm.trans j2)
    rcases j3 with ⟨k, k1, k2⟩ | ⟨t, t1, t2⟩
    · refine Or.inl ⟨k, ?_, ?_⟩
      · rw [relab_n (by rw [k1]; exact fun e => by cases e)]
        exact k1
      · rw [noP (fun j' a e z => by rw [uniq j' a e, k1] at z; cases z)]
        exact k2
    · by_cases e : t = h
      · subst e
        rcases hC b s j hb hs j1 j2 t1 with ⟨k, k1, k2, k3⟩ | z
        · exact Or.inl ⟨B', relab_y t1, h1 k k1 k2 k3⟩
        · exact z.elim
      · refine Or.inr ⟨t, ?_, ?_⟩
        · rw [relab_n (by rw [t1]; exact fun z => e (Sum.inr.inj z))]
          exact t1
        · rw [noP (fun j' a e' z => by rw [uniq j' a e', t1] at z; exact e (Sum.inr.inj z))]
          exact t2
theorem LabOk.mono {c c' : Mem} {B B' J J' j : Nat} {lab : Nat → Nat ⊕ Nat} {rk : Nat → Nat} (h : LabOk c B J lab rk j) (h1 : gI c' 21 0 j = gI c 21 0 j) (h2 : gI c' 22 0 j = gI c 22 0 j) (hB : B ≤ B') (hJ : J ≤ J') : LabOk c' B' J' lab rk j := by
  unfold LabOk
  rw [h1, h2]
  rcases h with ⟨⟨k, a, b⟩, z⟩ | h | ⟨a, t, t1, t2⟩
  · exact Or.inl ⟨⟨k, by omega, b⟩, z⟩
  · exact Or.inr (Or.inl h)
  · exact Or.inr (Or.inr ⟨a, t, by omega, t2⟩)
section XB
variable {c m : Mem} {q B J K h wf wc n cnt : Nat} {lab : Nat → Nat ⊕ Nat} {rk : Nat → Nat}
/-- a block begins where we stand -/
theorem b_open (hq : q < 2) (hn : 2000 ≤ n) (hb : BN c m q B J K h wf wc lab rk) (hB : B < 175) (hc : gI c 4 q 2 = nI cnt) :
    ∃ c1 m1, Wy_openBlock n c = some c1 ∧ M_needBlock n m = some m1 ∧ BO c1 m1 q (B + 1) J K wf (relab lab h (.inl B)) rk ∧ OthB m m1 ∧ (∀ b s, b ≠ B → gI c1 0 (175 * q + b) s = gI c 0 (175 * q + b) s) ∧ gI c1 0 (175 * q + B) 0 = nI cnt ∧ gI c1 0 (175 * q + B) 1 = 0 ∧
      (∀ k i j, k ≠ 0 → k ≠ 21 → ¬ (k = 4 ∧ i = q ∧ j = 3) → gI c1 k i j = gI c k i j) ∧ (∀ i j, (i / 175 = q → i % 175 ≠ B) → gI c1 0 i j = gI c 0 i j) ∧ (∀ k i j, k ≠ 8 → gR c1 k i j = gR c k i j) ∧ gL c1 = gL c := by
  obtain ⟨⟨⟨a1, a2, a3, a4⟩, ⟨b1, b2⟩, ⟨d1, d2, d3, d4⟩, ⟨e1, e2, e3, e4⟩, f1, g1⟩, ⟨h1, h2, h3⟩, i1, j1, k1, l1⟩ := hb
  have hway : ∀ j, wf ≤ j → j < wc → ∃ w, w < 1600 ∧ gI m 123 0 j = nI w := fun j _ z => by
    obtain ⟨w, x, y⟩ := g1 j z
    exact ⟨w, by omega, y⟩
  obtain ⟨m1, n1, n2, n3, n4, n5, n6, n7, n8, n9, n10, n11⟩ := m_needNew (n := n) hn j1 a3 hB d1 d2 (by omega) d3 hway
  have hop := r_openNew (n := n) hq i1 a1 h1 (by omega) a2 hB hc
  generalize hC1 : sR (sI (sI (sI (sI (sI (sI (sI (sI c 21 0 h (nI B)) 0 (175 * q + B) 0 (nI cnt)) 0 (175 * q + B) 1 0) 0 (175 * q + B) 2 0) 0 (175 * q + B) 3 0) 0 (175 * q + B) 4 (-1)) 0 (175 * q + B) 5 (-1)) 4 q 3 (nI (B + 1))) 8 0 4 (some (175 * q + B)) = c1 at hop
  have o0 : ∀ b s, b ≠ B → gI c1 0 (175 * q + b) s = gI c 0 (175 * q + b) s := fun b s hb => by
    rw [← hC1, gI_sR, gn_I (by omega), gn_I (by omega), gn_I (by omega), gn_I (by omega), gn_I (by omega), gn_I (by omega), gn_I (by omega), gn_I (by omega)]
  have v0 : gI c1 0 (175 * q + B) 0 = nI cnt := by
    rw [← hC1, gI_sR, gn_I (by omega), gn_I (by omega), gn_I (by omega), gn_I (by omega), gn_I (by omega), gn_I (by omega), gs_I]
  have v1 : gI c1 0 (175 * q + B) 1 = 0 := by
    rw [← hC1, gI_sR, gn_I (by omega), gn_I (by omega), gn_I (by omega), gn_I (by omega), gn_I (by omega), gs_I]
  have v2 : gI c1 0 (175 * q + B) 2 = 0 := by
    rw [← hC1, gI_sR, gn_I (by omega), gn_I (by omega), gn_I (by omega), gn_I (by omega), gs_I]
  have v4 : sd c1 q B 0 = -1 := by
    unfold sd
    rw [← hC1, gI_sR, gn_I (by omega), gn_I (by omega), gs_I]
  have v5 : sd c1 q B 1 = -1 := by
    unfold sd
    rw [← hC1, gI_sR, gn_I (by omega), gs_I]
  have oK : ∀ k i j, k ≠ 0 → k ≠ 21 → ¬ (k = 4 ∧ i = q ∧ j = 3) → gI c1 k i j = gI c k i j := fun k i j z1 z2 z3 => by
    rw [← hC1, gI_sR, gn_I (by omega), gn_I (by omega), gn_I (by omega), gn_I (by omega), gn_I (by omega), gn_I (by omega), gn_I (by omega), gn_I (by omega)]
  have o21 : ∀ j, gI c1 21 0 j = if j = h then nI B else gI c 21 0 j := fun j => by
    rw [← hC1, gI_sR, gn_I (by omega), gn_I (by omega), gn_I (by omega), gn_I (by omega), gn_I (by omega), gn_I (by omega), gn_I (by omega), gI_sI]
    by_cases z : j = h
    · rw [if_pos z, if_pos ⟨rfl, rfl, z⟩]
    · rw [if_neg z, if_neg (fun y => z y.2.2)]
  have oI : ∀ i j, (i / 175 = q → i % 175 ≠ B) → gI c1 0 i j = gI c 0 i j := fun i j z => by
    have : i ≠ 175 * q + B := fun e => by
      refine z ?_ ?_
      · rw [e]; omega
      · rw [e]; omega
    rw [← hC1, gI_sR, gn_I (by omega), gn_I (by omega), gn_I (by omega), gn_I (by omega), gn_I (by omega), gn_I (by omega), gn_I (by omega), gn_I (by omega)]
  have oR : ∀ k i j, k ≠ 8 → gR c1 k i j = gR c k i j := fun k i j z => by
    rw [← hC1, gR_sR, if_neg (fun y => z y.1)]
    rfl
  have hsd : ∀ b s, b ≠ B → sd c1 q b s = sd c q b s := fun b s z => o0 b _ z
  have n5' : OthB m m1 := ⟨n5, n6⟩
  refine ⟨c1, m1, hop, n1, ⟨⟨⟨?_, ?_, n3, by omega⟩, ⟨(oK 8 0 2 (by decide) (by decide) (by omega)).trans b1, b2⟩, ⟨n4, (n5 10 0 49 (by decide) (by decide)).trans d2, Nat.le_refl _, by omega⟩, ⟨e1, e2, ?_, ?_⟩, ?_, ?_⟩, ?_, by omega, n2, v2, v4, v5⟩, n5', o0, v0, v1, oK, oI, oR, ?_⟩
  · rw [← hC1]; exact a1
  · rw [← hC1, gI_sR]; exact gs_I _ _ _ _ _
  · intro j hj
    have key := e3 j hj
    by_cases z : lab j = .inr h
    · by_cases zh : j = h
      · subst zh
        refine Or.inl ⟨⟨B, by omega, ?_, relab_y z⟩, (e4 j j hj z).2.2⟩
        rw [o21, if_pos rfl]
      · rcases key with ⟨⟨k, x1, x2, x3⟩, -⟩ | ⟨x1, x2, x3, -⟩ | ⟨x1, t, t1, t2, t3, t4⟩
        · rw [z] at x3; cases x3
        · rw [z] at x3; exact absurd (Sum.inr.inj x3).symm zh
        · refine Or.inr (Or.inr ⟨?_, t, t1, ?_, ?_, t4⟩)
          · rw [o21, if_neg zh]; exact x1
          · rw [oK 22 0 j (by decide) (by decide) (by omega)]; exact t2
          · rw [relab_y z, relab_y (t3.trans z)]
    · have zh : ¬ j = h := fun y => z (by rw [y]; exact h3)
      rcases key with ⟨⟨k, x1, x2, x3⟩, x4⟩ | ⟨x1, x2, x3, x4⟩ | ⟨x1, t, t1, t2, t3, t4⟩
      · exact Or.inl ⟨⟨k, by omega, by rw [o21, if_neg zh]; exact x2, by rw [relab_n z]; exact x3⟩, x4⟩
      · exact Or.inr (Or.inl ⟨by rw [o21, if_neg zh]; exact x1, by rw [oK 22 0 j (by decide) (by decide) (by omega)]; exact x2, by rw [relab_n z]; exact x3, x4⟩)
      · exact Or.inr (Or.inr ⟨by rw [o21, if_neg zh]; exact x1, t, t1, by rw [oK 22 0 j (by decide) (by decide) (by omega)]; exact t2, by rw [relab_n z, relab_n (by rw [t3]; exact z)]; exact t3, t4⟩)
  · intro j t hj e
    by_cases z : lab j = .inr h
    · rw [relab_y z] at e; cases e
    · rw [relab_n z] at e
      obtain ⟨x1, x2, x3⟩ := e4 j t hj e
      refine ⟨x1, ?_, x3⟩
      rw [relab_n (by rw [x2]; exact fun y => z (by rw [e, y]))]
      exact x2
  · intro b hb
    by_cases zB : b = B
    · subst zB
      have nw : ∀ s, s < 2 → ∀ k, wf ≤ k → k < wc → ¬ gI m 123 0 k = nI (2 * b + s) := fun s hs k k1 k2 y => by
        obtain ⟨w, w1, w2⟩ := g1 k k2
        rw [w2] at y
        have := (nI_eq (by omega) (by omega)).mp y
        omega
      refine ⟨Or.inl ⟨v4, ?_⟩, Or.inl ⟨v5, ?_⟩, ?_, Or.inl v2, fun y => ?_⟩
      · rw [n9 b (by omega) (nw 0 (by decide)), if_pos rfl]
      · rw [n11 b (by omega) (nw 1 (by decide)), if_pos rfl]
      · rw [v2, n7, if_pos rfl]
      · rw [v2] at y; exact absurd y (by decide)
    · have hb' : b < B := by omega
      obtain ⟨s1, s2, s3, s4, s5⟩ := f1 b hb'
      refine ⟨?_, ?_, ?_, ?_, ?_⟩
      · rw [hsd b 0 zB]
        refine GoV.led b2 k1 l1 hb' a4 (by decide) s1 (fun k k1 k2 k3 => n8 b k k1 k2 k3 (by omega)) (fun k => ?_)
        rw [n9 b (by omega) k, if_neg zB]
      · rw [hsd b 1 zB]
        refine GoV.led b2 k1 l1 hb' a4 (by decide) s2 (fun k k1 k2 k3 => n10 b k k1 k2 k3 (by omega)) (fun k => ?_)
        rw [n11 b (by omega) k, if_neg zB]
      · rw [o0 b 2 zB, n7, if_neg zB]; exact s3
      · rw [o0 b 2 zB]; exact s4
      · rw [o0 b 2 zB, o0 b 3 zB, n5 117 0 b (by decide) (by omega), n5 118 0 b (by decide) (by omega)]; exact s5
  · intro k hk
    obtain ⟨w, w1, w2⟩ := g1 k (by omega)
    exact ⟨w, by omega, by rw [n5 123 0 k (by decide) (by omega)]; exact w2⟩
  · rw [← hC1]; exact gs_R _ _ _ _ _
  · rw [← hC1]; rfl
end XB
