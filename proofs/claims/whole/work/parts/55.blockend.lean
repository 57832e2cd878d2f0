/-! ===== PURE: standing at a joint, ways pushed, the E of a block, ends of loops ===== -/
section XS2
variable {c m : Mem} {q B J K h wf wc n cnt : Nat} {lab : Nat → Nat ⊕ Nat} {rk : Nat → Nat} {op : Bool}
def stnd (c : Mem) (t : Nat) : Mem := sR (sI c 8 0 5 (nI t)) 8 0 4 none
theorem r_stand {t : Nat} : Wy_standAt n (nI t) c = some (stnd c t) := rfl
theorem stndO {t k i j : Nat} (h : ¬ (k = 8 ∧ j = 5)) : gI (stnd c t) k i j = gI c k i j := by
  unfold stnd
  rw [gI_sR, gn_I (by omega)]
theorem stndR {t k i j : Nat} (h : ¬ (k = 8 ∧ j = 4)) : gR (stnd c t) k i j = gR c k i j := by
  unfold stnd
  rw [gR_sR, if_neg (by omega)]
  rfl
theorem BCore.stand {t : Nat} (hb : BCore c m q B J K wf wc lab rk) : BCore (stnd c t) m q B J K wf wc lab rk := by
  obtain ⟨⟨a1, a2, a3, a4⟩, ⟨b1, b2⟩, d, ⟨e1, e2, e3, e4⟩, f1, g1⟩ := hb
  refine ⟨⟨(stndR (by omega)).trans a1, (stndO (by omega)).trans a2, a3, a4⟩, ⟨(stndO (by omega)).trans b1, b2⟩, d, ⟨e1, e2, fun j hj => (e3 j hj).mono (stndO (by omega)) (stndO (by omega)) (Nat.le_refl _) (Nat.le_refl _), e4⟩, ?_, g1⟩
  intro b hb
  obtain ⟨s1, s2, s3⟩ := f1 b hb
  unfold SideOk sd
  rw [stndO (by omega), stndO (by omega), stndO (by omega), stndO (by omega)]
  exact ⟨s1, s2, s3⟩
theorem sd_stand {t b s : Nat} : sd (stnd c t) q b s = sd c q b s := stndO (by omega)
theorem b_stand {t : Nat} (hb : BCore c m q B J K wf wc lab rk) (hc : gI m 10 0 22 = -1) (hp : Pend c m q B J wf wc lab (.inr t)) (hv : Conv c m q B J wf wc lab (.inr t) (fun _ _ => False)) (ht : t < J) (hl : lab t = .inr t) : BN (stnd c t) m q B J K t wf wc lab rk := by
  refine ⟨hb.stand, ⟨?_, ht, hl⟩, gs_R _ _ _ _ _, hc, ?_, ?_⟩
  · unfold stnd
    rw [gI_sR, gs_I]
  · intro k k1 k2
    obtain ⟨b, s, j, x1, x2, x3, x4, x5, x6⟩ := hp k k1 k2
    exact ⟨b, s, j, x1, x2, x3, x4, by rw [sd_stand]; exact x5, x6⟩
  · intro b s j x1 x2 x3 x4 x5
    rw [sd_stand] at x4
    exact hv b s j x1 x2 x3 x4 x5
theorem BCore.way {b s : Nat} (hb : BCore c m q B J K wf wc lab rk) (h1 : b < B) (h2 : s < 2) (hw : wc < 800) : BCore c (wayM m wc b s) q B J K wf (wc + 1) lab rk := by
  obtain ⟨⟨a1, a2, a3, a4⟩, b1, ⟨d1, d2, d3, d4⟩, e1, f1, g1⟩ := hb
  refine ⟨⟨a1, a2, (wayO (by decide) (by omega)).trans a3, a4⟩, b1, ⟨gs_I _ _ _ _ _, (wayO (by decide) (by omega)).trans d2, by omega, by omega⟩, e1, ?_, ?_⟩
  · intro b' hb'
    obtain ⟨s1, s2, s3, s4, s5⟩ := f1 b' hb'
    unfold SideOk
    rw [wayO (by decide) (by omega), wayO (by decide) (by omega), wayO (by decide) (by omega), wayO (by decide) (by omega), wayO (by decide) (by omega)]
    exact ⟨s1, s2, s3, s4, s5⟩
  · intro k hk
    rw [way123]
    by_cases z : k = wc
    · rw [if_pos z]; exact ⟨_, by omega, rfl⟩
    · rw [if_neg z]; exact g1 k (by omega)
theorem Pend.way {b s j : Nat} {τ : Nat ⊕ Nat} (hp : Pend c m q B J wf wc lab τ) (h1 : b < B) (h2 : s < 2) (hj : j < J) (h3 : sd c q b s = nI j) (h4 : lab j = τ) : Pend c (wayM m wc b s) q B J wf (wc + 1) lab τ := by
  intro k k1 k2
  rw [way123]
  by_cases z : k = wc
  · rw [if_pos z]; exact ⟨b, s, j, h1, h2, hj, rfl, h3, h4⟩
  · rw [if_neg z]; exact hp k k1 (by omega)
theorem Conv.way {b s : Nat} {τ : Nat ⊕ Nat} {X : Nat → Nat → Prop} (hv : Conv c m q B J wf wc lab τ X) (hw : wf ≤ wc) (hx : ∀ b' s', X b' s' → b' < B → s' < 2 → b' = b ∧ s' = s) : Conv c (wayM m wc b s) q B J wf (wc + 1) lab τ (fun _ _ => False) := by
  intro b' s' j x1 x2 x3 x4 x5
  rcases hv b' s' j x1 x2 x3 x4 x5 with ⟨k, k1, k2, k3⟩ | y
  · exact Or.inl ⟨k, k1, by omega, by rw [way123, if_neg (by omega)]; exact k3⟩
  · obtain ⟨rfl, rfl⟩ := hx b' s' y x1 x2
    exact Or.inl ⟨wc, hw, by omega, by rw [way123, if_pos rfl]⟩
/-- ways from another place on -/
theorem BCore.from {wf' : Nat} (hb : BCore c m q B J K wf wc lab rk) (hw : wf' ≤ wc) : BCore c (sI m 10 0 49 (nI wf')) q B J K wf' wc lab rk := by
  obtain ⟨⟨a1, a2, a3, a4⟩, b1, ⟨d1, d2, d3, d4⟩, e1, f1, g1⟩ := hb
  exact ⟨⟨a1, a2, a3, a4⟩, b1, ⟨d1, gs_I _ _ _ _ _, hw, d4⟩, e1, f1, g1⟩
theorem m_endBlock {m1 : Mem} {b : Nat} (hnb : M_needBlock n m = some m1) (hc : gI m1 10 0 22 = nI b) (hb : b < 800) : M_endBlock n m = some (nI b, sI (sI (sI (sI m1 121 0 b 1) 117 0 b (gI m1 10 0 8)) 118 0 b (gI m1 10 0 9)) 10 0 22 (-1)) := by
  rw [M_endBlock, hnb, bd_s, hc, ix_nI (N := 800) hb (by decide)]
  rfl
/-- the memory with the E of block b -/
def endM (m : Mem) (b : Nat) : Mem := sI (sI (sI (sI m 121 0 b 1) 117 0 b (gI m 10 0 8)) 118 0 b (gI m 10 0 9)) 10 0 22 (-1)
def choC (c : Mem) (b : Nat) (v : Int32) (i o : Nat) : Mem := sI (sI (sI (sI c 0 b 2 1) 0 b 3 v) 0 b 4 (nI i)) 0 b 5 (nI o)
theorem b_choose {i o : Nat} {v : Int32} (hb : BO c m q B J K wf lab rk) (hi : i < J) (hli : lab i = .inr i) (ho : o < J) (hlo : lab o = .inr o) (hio : i ≠ o) (hf : ∀ b s j, b + 1 < B → s < 2 → j < J → sd c q b s = nI j → ¬ lab j = .inr i) (hv : VR v (gI m 10 0 8) (gI m 10 0 9)) (hw : wf < 800) :
    BN (stnd (choC c (175 * q + (B - 1)) v i o) i) (wayM (endM m (B - 1)) wf (B - 1) 0) q B J K i wf (wf + 1) lab rk ∧ (∀ b s, b + 1 < B → s < 2 → sd (choC c (175 * q + (B - 1)) v i o) q b s = sd c q b s) ∧ sd (choC c (175 * q + (B - 1)) v i o) q (B - 1) 0 = nI i ∧ sd (choC c (175 * q + (B - 1)) v i o) q (B - 1) 1 = nI o := by
  obtain ⟨⟨⟨a1, a2, a3, a4⟩, ⟨b1, b2⟩, ⟨d1, d2, d3, d4⟩, ⟨e1, e2, e3, e4⟩, f1, g1⟩, o1, o2, o3, o4, o5, o6⟩ := hb
  have cO : ∀ k i' j, ¬ (k = 0 ∧ i' = 175 * q + (B - 1) ∧ (j = 2 ∨ j = 3 ∨ j = 4 ∨ j = 5)) → gI (choC c (175 * q + (B - 1)) v i o) k i' j = gI c k i' j := fun k i' j z => by
    unfold choC
    rw [gn_I (by omega), gn_I (by omega), gn_I (by omega), gn_I (by omega)]
  have c2 : gI (choC c (175 * q + (B - 1)) v i o) 0 (175 * q + (B - 1)) 2 = 1 := by
    unfold choC
    rw [gn_I (by omega), gn_I (by omega), gn_I (by omega), gs_I]
  have c3 : gI (choC c (175 * q + (B - 1)) v i o) 0 (175 * q + (B - 1)) 3 = v := by
    unfold choC
    rw [gn_I (by omega), gn_I (by omega), gs_I]
  have s0 : sd (choC c (175 * q + (B - 1)) v i o) q (B - 1) 0 = nI i := by
    unfold sd choC
    rw [gn_I (by omega), gs_I]
  have s1 : sd (choC c (175 * q + (B - 1)) v i o) q (B - 1) 1 = nI o := by
    unfold sd choC
    exact gs_I _ _ _ _ _
  have sO : ∀ b s, b + 1 < B → s < 2 → sd (choC c (175 * q + (B - 1)) v i o) q b s = sd c q b s := fun b s x y => cO _ _ _ (by omega)
  have eO : ∀ k i' j, ¬ ((k = 121 ∨ k = 117 ∨ k = 118) ∧ j = B - 1) → ¬ (k = 10 ∧ j = 22) → gI (endM m (B - 1)) k i' j = gI m k i' j := fun k i' j z1 z2 => by
    unfold endM
    rw [gn_I (by omega), gn_I (by omega), gn_I (by omega), gn_I (by omega)]
  have hend : BCore (choC c (175 * q + (B - 1)) v i o) (endM m (B - 1)) q B J K wf wf lab rk := by
    refine ⟨⟨a1, (cO _ _ _ (by omega)).trans a2, (eO _ _ _ (by omega) (by omega)).trans a3, a4⟩, ⟨(cO _ _ _ (by omega)).trans b1, b2⟩, ⟨(eO _ _ _ (by omega) (by omega)).trans d1, (eO _ _ _ (by omega) (by omega)).trans d2, d3, d4⟩, ⟨e1, e2, fun j hj => (e3 j hj).mono (cO _ _ _ (by omega)) (cO _ _ _ (by omega)) (Nat.le_refl _) (Nat.le_refl _), e4⟩, ?_, ?_⟩
    · intro b hb
      obtain ⟨t1, t2, t3, t4, t5⟩ := f1 b hb
      by_cases z : b + 1 = B
      · have zb : b = B - 1 := by omega
        subst zb
        have y0 : gI m 119 0 (B - 1) = -1 := by
          rcases t1 with ⟨-, x2⟩ | ⟨j, j1, j2, -⟩
          · exact x2
          · exact absurd (j2.symm.trans o5) (nI_nm (by omega))
        have y1 : gI m 120 0 (B - 1) = -1 := by
          rcases t2 with ⟨-, x2⟩ | ⟨j, j1, j2, -⟩
          · exact x2
          · exact absurd (j2.symm.trans o6) (nI_nm (by omega))
        refine ⟨?_, ?_, ?_, Or.inr c2, fun _ => ?_⟩
        · rw [s0, eO _ _ _ (by omega) (by omega), y0]
          exact Or.inr ⟨i, hi, rfl, Or.inr ⟨i, hli, rfl⟩⟩
        · rw [s1, eO _ _ _ (by omega) (by omega), y1]
          exact Or.inr ⟨o, ho, rfl, Or.inr ⟨o, hlo, rfl⟩⟩
        · rw [c2]
          unfold endM
          rw [gn_I (by omega), gn_I (by omega), gn_I (by omega), gs_I]
        · rw [c3]
          have m7 : gI (endM m (B - 1)) 117 0 (B - 1) = gI m 10 0 8 := by
            unfold endM
            rw [gn_I (by omega), gn_I (by omega), gs_I]
          have m8 : gI (endM m (B - 1)) 118 0 (B - 1) = gI m 10 0 9 := by
            unfold endM
            rw [gn_I (by omega), gs_I]
          rw [m7, m8]
          exact hv
      · unfold SideOk
        rw [sO b 0 (by omega) (by decide), sO b 1 (by omega) (by decide), eO 119 _ _ (by omega) (by omega), eO 120 _ _ (by omega) (by omega), eO 121 _ _ (by omega) (by omega), eO 117 _ _ (by omega) (by omega), eO 118 _ _ (by omega) (by omega), cO _ _ _ (by omega), cO _ _ _ (by omega)]
        exact ⟨t1, t2, t3, t4, t5⟩
    · intro k hk
      obtain ⟨w, w1, w2⟩ := g1 k hk
      exact ⟨w, w1, by rw [eO _ _ _ (by omega) (by omega)]; exact w2⟩
  refine ⟨b_stand (hend.way (by omega) (by decide) hw) ?_ ?_ ?_ hi hli, sO, s0, s1⟩
  · rw [wayO (by decide) (by omega)]
    exact gs_I _ _ _ _ _
  · exact Pend.way (fun k k1 k2 => by omega) (by omega) (by decide) hi s0 hli
  · refine Conv.way (X := fun b s => b = B - 1 ∧ s = 0) ?_ (Nat.le_refl _) (fun b' s' x _ _ => x)
    intro b s j x1 x2 x3 x4 x5
    refine Or.inr ?_
    by_cases z : b + 1 = B
    · have zb : b = B - 1 := by omega
      subst zb
      refine ⟨rfl, ?_⟩
      rcases (show s = 0 ∨ s = 1 by omega) with rfl | rfl
      · rfl
      · rw [s1] at x4
        have : o = j := (nI_eq (by omega) (by omega)).mp x4
        subst this
        rw [hlo] at x5
        exact absurd (Sum.inr.inj x5) (Ne.symm hio)
    · rw [sO b s (by omega) x2] at x4
      exact absurd x5 (hf b s j (by omega) x2 x3 x4)
/-- the end of a loop: what is open, or waits, goes back to its block k0 -/
theorem b_endLoop {g k0 : Nat} (hb : BX c m q B J K h wf wc lab rk op) (hq : q < 2) (hn : 2000 ≤ n) (hg : g < J) (hl : lab g = .inl k0) (hr : rk g = 0) (hK : K + 1 < J) (hw : wc < 800) :
    ∃ c1 m1 m2 lab1 rk1, Wy_goTo n (nI g) c = some c1 ∧ M_leaveOpen n m = some m1 ∧ M_lead n (nI wf) (nI k0) m1 = some m2 ∧ gI m1 10 0 49 = nI wf ∧ BCore c1 m2 q B J (K + 1) wf wf lab1 rk1 ∧ gI m2 10 0 22 = -1 ∧
      (∀ j, j < J → (op = true ∨ ¬ lab j = .inr h) → lab1 j = lab j) ∧ (∀ j, j < J → op = false → lab j = .inr h → lab1 j = .inl k0) ∧ (∀ b s, b < B → s < 2 → ¬ (op = true ∧ b + 1 = B ∧ s = 0) → sd c1 q b s = sd c q b s) ∧ (op = true → sd c1 q (B - 1) 0 = nI g) ∧ (∀ k, k < wc → gI m2 123 0 k = gI m 123 0 k) ∧
      (∀ k i j, k ≠ 22 → ¬ (k = 0 ∧ i = 175 * q + (B - 1) ∧ j = 4) → gI c1 k i j = gI c k i j) ∧ c1.2 = c.2 ∧ (∀ k i j, k ≠ 123 → k ≠ 119 → k ≠ 120 → ¬ (k = 10 ∧ (j = 22 ∨ j = 24)) → gI m2 k i j = gI m k i j) ∧ m2.2 = m.2 := by
  rcases hb with ⟨hop, ⟨hcore, o1, o2, o3, o4, o5, o6⟩, rfl⟩ | ⟨hop, hb⟩
  · obtain ⟨⟨a1, a2, a3, a4⟩, ⟨b1, b2⟩, ⟨d1, d2, d3, d4⟩, ⟨e1, e2, e3, e4⟩, f1, g1⟩ := hcore
    have sdo : ∀ b s, b < B → s < 2 → ¬ (b + 1 = B ∧ s = 0) → sd (sI c 0 (175 * q + (B - 1)) 4 (nI g)) q b s = sd c q b s := fun b s x1 x2 x3 => by
      unfold sd
      exact gn_I (by omega)
    have sdn : sd (sI c 0 (175 * q + (B - 1)) 4 (nI g)) q (B - 1) 0 = nI g := gs_I _ _ _ _ _
    have hlv := m_leaveYes (n := n) (m := m) (b := B - 1) o3 (by omega) d1 (by omega)
    generalize hm1 : sI (wayM m wc (B - 1) 0) 10 0 22 (-1) = m1 at hlv
    have m123 : ∀ k, gI m1 123 0 k = if k = wc then nI (2 * (B - 1) + 0) else gI m 123 0 k := fun k => by rw [← hm1, gn_I (by omega), way123]
    have mO : ∀ k i j, k ≠ 123 → ¬ (k = 10 ∧ (j = 22 ∨ j = 24)) → gI m1 k i j = gI m k i j := fun k i j z1 z2 => by rw [← hm1, gn_I (by omega), wayO z1 (by omega)]
    have m24 : gI m1 10 0 24 = nI (wc + 1) := by rw [← hm1, gn_I (by omega)]; exact gs_I _ _ _ _ _
    have m22 : gI m1 10 0 22 = -1 := by rw [← hm1]; exact gs_I _ _ _ _ _
    have mR : m1.2 = m.2 := by rw [← hm1]; rfl
    obtain ⟨m2, l1, l2, l3, l4, l5, l6, l7, l8⟩ := m_lead (n := n) (wf := wc) (wc := wc + 1) (a2 := nI k0) (m := m1) hn (by omega) (by omega) m24 (fun j x y => ⟨2 * (B - 1) + 0, by omega, by rw [m123, if_pos (by omega)]⟩)
    have oth : ∀ b s, b < B → s < 2 → ¬ (b + 1 = B ∧ s = 0) → ∀ j, wc ≤ j → j < wc + 1 → ¬ gI m1 123 0 j = nI (2 * b + s) := fun b s x1 x2 x3 j y1 y2 y3 => by
      rw [m123, if_pos (by omega)] at y3
      have := (nI_eq (by omega) (by omega)).mp y3
      omega
    refine ⟨_, m1, m2, lab, rk, r_goOld o1 (by omega), hlv, l1, (mO _ _ _ (by decide) (by omega)).trans d2, ⟨⟨a1, ?_, ?_, a4⟩, ⟨?_, b2⟩, ⟨l2, ?_, by omega, by omega⟩, ⟨fun j hj => by have := e1 j hj; omega, hK, ?_, e4⟩, ?_, ?_⟩, ?_, fun _ _ _ => rfl, fun j _ z => (by rw [hop] at z; cases z), ?_, fun _ => sdn, ?_, fun k i j z1 z2 => gn_I (by omega), rfl, ?_, l4.trans mR⟩
    · rw [gn_I (by omega)]; exact a2
    · rw [l3 _ _ _ (by decide) (by decide) (by omega), mO _ _ _ (by decide) (by omega)]; exact a3
    · rw [gn_I (by omega)]; exact b1
    · rw [l3 _ _ _ (by decide) (by decide) (by omega), mO _ _ _ (by decide) (by omega)]; exact d2
    · intro j hj
      exact (e3 j hj).mono (gn_I (by omega)) (gn_I (by omega)) (Nat.le_refl _) (Nat.le_refl _)
    · intro b hb
      obtain ⟨s1, s2, s3, s4, s5⟩ := f1 b hb
      have mk : ∀ k, k ≠ 119 → k ≠ 120 → k ≠ 123 → k ≠ 10 → gI m2 k 0 b = gI m k 0 b := fun k x y z w => by rw [l3 _ _ _ x y (by omega), mO _ _ _ z (by omega)]
      have cO : ∀ j, j ≠ 4 → gI (sI c 0 (175 * q + (B - 1)) 4 (nI g)) 0 (175 * q + b) j = gI c 0 (175 * q + b) j := fun j x => gn_I (by omega)
      refine ⟨?_, ?_, ?_, ?_, ?_⟩
      · by_cases z : b + 1 = B
        · have zb : b = B - 1 := by omega
          subst zb
          rw [sdn, l5 (B - 1) wc (Nat.le_refl _) (by omega) (by rw [m123, if_pos rfl]; rfl) (by omega)]
          exact Or.inr ⟨g, hg, rfl, Or.inl ⟨k0, hl, rfl⟩⟩
        · rw [sdo b 0 hb (by decide) (by omega), l6 b (by omega) (fun j x y => oth b 0 hb (by decide) (by omega) j x y), mO _ _ _ (by decide) (by omega)]
          exact s1
      · rw [sdo b 1 hb (by decide) (by omega), l8 b (by omega) (fun j x y => oth b 1 hb (by decide) (by omega) j x y), mO _ _ _ (by decide) (by omega)]
        exact s2
      · rw [mk 121 (by decide) (by decide) (by decide) (by decide), cO 2 (by decide)]; exact s3
      · rw [cO 2 (by decide)]; exact s4
      · rw [mk 117 (by decide) (by decide) (by decide) (by decide), mk 118 (by decide) (by decide) (by decide) (by decide), cO 2 (by decide), cO 3 (by decide)]; exact s5
    · intro k hk
      obtain ⟨w, w1, w2⟩ := g1 k hk
      exact ⟨w, w1, by rw [l3 _ _ _ (by decide) (by decide) (by omega), m123, if_neg (by omega)]; exact w2⟩
    · rw [l3 _ _ _ (by decide) (by decide) (by omega)]; exact m22
    · intro b s x1 x2 x3
      exact sdo b s x1 x2 (fun z => x3 ⟨hop, z⟩)
    · intro k hk
      rw [l3 _ _ _ (by decide) (by decide) (by omega), m123, if_neg (by omega)]
    · intro k i j z1 z2 z3 z4
      rw [l3 _ _ _ z2 z3 (by omega), mO _ _ _ z1 z4]
  · obtain ⟨⟨⟨a1, a2, a3, a4⟩, ⟨b1, b2⟩, ⟨d1, d2, d3, d4⟩, ⟨e1, e2, e3, e4⟩, f1, g1⟩, ⟨h1, h2, h3⟩, i1, j1, k1, l1⟩ := id hb
    obtain ⟨n1, n2, n3⟩ := b_goNew hb hg hl (fun e => by cases e) hr hK
    have sdo : ∀ b s, sd (sI c 22 0 h (nI g)) q b s = sd c q b s := fun b s => by unfold sd; exact gn_I (by omega)
    obtain ⟨m2, p1, p2, p3, p4, p5, p6, p7, p8⟩ := m_lead (n := n) (wf := wf) (wc := wc) (a2 := nI k0) (m := m) hn (by omega) d3 d1 (fun j x y => by
      obtain ⟨w, w1, w2⟩ := g1 j y
      exact ⟨w, by omega, w2⟩)
    refine ⟨_, m, m2, relab lab h (.inl k0), reR lab rk h, r_goNew i1 h1 (by omega), m_leaveNo j1, p1, d2, ⟨⟨a1, ?_, ?_, a4⟩, ⟨?_, b2⟩, ⟨p2, ?_, by omega, by omega⟩, ⟨n1, hK, n2, n3⟩, ?_, ?_⟩, ?_, ?_, fun j _ _ z => relab_y z, fun b s _ _ _ => sdo b s, fun z => (by rw [hop] at z; cases z), ?_, fun k i j z1 z2 => gn_I (by omega), rfl, ?_, p4⟩
    · rw [gn_I (by omega)]; exact a2
    · rw [p3 _ _ _ (by decide) (by decide) (by omega)]; exact a3
    · rw [gn_I (by omega)]; exact b1
    · rw [p3 _ _ _ (by decide) (by decide) (by omega)]; exact d2
    · intro b hb
      obtain ⟨s1, s2, s3⟩ := f1 b hb
      unfold SideOk
      rw [sdo, sdo, gn_I (by omega), gn_I (by omega), p3 121 _ _ (by decide) (by decide) (by omega), p3 117 _ _ (by decide) (by decide) (by omega), p3 118 _ _ (by decide) (by decide) (by omega)]
      refine ⟨GoV.led b2 k1 l1 hb a4 (by decide) s1 (fun k x y z => p5 b k x y z (by omega)) (fun x => p6 b (by omega) x), GoV.led b2 k1 l1 hb a4 (by decide) s2 (fun k x y z => p7 b k x y z (by omega)) (fun x => p8 b (by omega) x), s3⟩
    · intro k hk
      obtain ⟨w, w1, w2⟩ := g1 k (by omega)
      exact ⟨w, w1, by rw [p3 _ _ _ (by decide) (by decide) (by omega)]; exact w2⟩
    · rw [p3 _ _ _ (by decide) (by decide) (by omega)]; exact j1
    · intro j hj z
      exact relab_n (z.elim (fun y => by rw [hop] at y; cases y) id)
    · intro k hk
      exact p3 _ _ _ (by decide) (by decide) (by omega)
    · intro k i j z1 z2 z3 z4
      exact p3 _ _ _ z2 z3 (by omega)
end XS2
