/-! ===== PURE: laying: heights, and how many are still before ===== -/
theorem imax_N {a b : Nat} (ha : a < 2 ^ 31) (hb : b < 2 ^ 31) : imax (nI a) (nI b) = nI (max a b) := by
  unfold imax
  have e : (nI a < nI b) = (a < b) := q_lt ha hb
  simp only [e]
  by_cases z : a < b
  · rw [if_pos z, Nat.max_eq_right (by omega)]
  · rw [if_neg z, Nat.max_eq_left (by omega)]
theorem PR.num {q cnt B i : Nat} {c m : Mem} (hP : PR c m q cnt B) (hq : q < 2) (hi : i < 200) : gI c 3 (200 * q + i) 0 = nI i := by
  rw [hP.2.2.2 (200 * q + i) (by omega)]
  congr 1
  omega
/-- how many below hi, from lo on -/
def cq (P : Nat → Bool) (lo : Nat) : Nat → Nat
| 0 => 0
| h + 1 => cq P lo h + (if lo ≤ h ∧ P h = true then 1 else 0)
theorem cq_le (P : Nat → Bool) (lo : Nat) : ∀ h, cq P lo h ≤ h := by
  intro h
  induction h with
  | zero => exact Nat.le_refl _
  | succ h ih =>
    unfold cq
    split <;> omega
theorem cq_none (P : Nat → Bool) : ∀ h lo, h ≤ lo → cq P lo h = 0 := by
  intro h
  induction h with
  | zero => intro lo _; rfl
  | succ h ih =>
    intro lo hl
    unfold cq
    rw [ih lo (by omega), if_neg (by omega)]
theorem cq_lo (P : Nat → Bool) (x : Nat) : ∀ h, cq P x h = cq P (x + 1) h + (if x < h ∧ P x = true then 1 else 0) := by
  intro h
  induction h with
  | zero => unfold cq; rw [if_neg (by omega)]
  | succ h ih =>
    unfold cq
    rw [ih]
    by_cases z : x = h
    · subst z
      rw [if_neg (show ¬ (x < x ∧ P x = true) from fun z => by omega), if_neg (show ¬ (x + 1 ≤ x ∧ P x = true) from fun z => by omega)]
      by_cases y : P x = true
      · rw [if_pos ⟨Nat.le_refl _, y⟩, if_pos ⟨by omega, y⟩]
      · rw [if_neg (fun z => y z.2), if_neg (fun z => y z.2)]
    · have e1 : (x ≤ h ∧ P h = true) = (x + 1 ≤ h ∧ P h = true) := propext ⟨fun y => ⟨by omega, y.2⟩, fun y => ⟨by omega, y.2⟩⟩
      have e2 : (x < h ∧ P x = true) = (x < h + 1 ∧ P x = true) := propext ⟨fun y => ⟨by omega, y.2⟩, fun y => ⟨by omega, y.2⟩⟩
      simp only [e1, e2]
      omega
def pm (x : Nat) : Int32 := if x = 0 then -1 else nI (x - 1)
theorem pm_s {i : Nat} : pm (i + 1) = nI i := by unfold pm; rw [if_neg (by omega)]; rfl
theorem pm_sub {x : Nat} : nI x - 1 = pm x := by
  cases x with
  | zero => rfl
  | succ x => rw [pm_s]; exact nI_pred _
theorem pm_add {x : Nat} : nI x + (-1) = pm x := by
  cases x with
  | zero => rfl
  | succ x => rw [pm_s]; exact pk_m1 x
theorem pm_lt {x f : Nat} (hx : x < 2 ^ 30) (hf : f < 2 ^ 30) : (pm x < nI f) = (x ≤ f) := by
  unfold pm
  by_cases z : x = 0
  · rw [if_pos z]
    refine propext ⟨fun _ => by omega, fun _ => ?_⟩
    rw [Int32.lt_iff_toInt_lt, nI_toInt (by omega), m1_toInt]
    omega
  · rw [if_neg z, q_lt (by omega) (by omega)]
    refine propext ⟨fun _ => by omega, fun _ => by omega⟩
section LH
variable {n q cnt B b f g : Nat} {c m : Mem} {lat mn : Nat → Nat}
/-- heights from x on, on both sides -/
def HR (c m : Mem) (q e x : Nat) : Prop := ∀ j, x ≤ j → j < e → gI m 139 0 j = gI c 3 (200 * q + j) 8 ∧ ∃ h, h ≤ 4 * (e - j) ∧ gI c 3 (200 * q + j) 8 = nI h
theorem h_in {i : Nat} {cB : Mem} (hq : q < 2) (hP : PR c m q cnt B) (hG : RG c q cnt b f g) (hcB : RG cB q cnt b f g) (hi : f ≤ i ∧ i < f + g) : ∀ (k x a : Nat) (c' : Mem), FrL c c' → HR c' m q (f + g) (i + 1) → i < x → x ≤ f + g → a ≤ 4 * (f + g - (i + 1)) → (∀ j, x ≤ j → j < f + g → ∃ u, u ≤ 200 ∧ gI c' 3 (200 * q + j) 12 = nI u) → f + g - x < k →
    ∃ r c2, Ly_measureHeights_L42 n (175 * q + b) cB i q k (nI a) (nI x) c' = some (nI r, c2) ∧ M_layBlock_L36 n m (nI i) (nI (f + g)) k (nI a) (nI x) = some (nI r) ∧ r ≤ 4 * (f + g - (i + 1)) ∧ (∀ j u, x ≤ j → j < f + g → u ≤ 200 → gI c' 3 (200 * q + j) 12 = nI u → gI c2 3 (200 * q + j) 12 = nI (u + if bh c q j i = true then 1 else 0)) ∧ (∀ k i j, ¬ (k = 3 ∧ 200 * q + x ≤ i ∧ i < 200 * q + (f + g) ∧ j = 12) → gI c2 k i j = gI c' k i j) ∧ c2.2 = c'.2 := by
  have hcnt := hP.1.2.2.2.2.1
  have hfg := hG.2.2.1
  intro k
  induction k with
  | zero => intro x a c' a0 a1 a2 a3 a4 a5 a6; omega
  | succ k ih =>
    intro x a c' a0 a1 a2 a3 a4 a5 a6
    have hP' := hP.ag a0 FrLM.rf
    have e1 : (nI (f + g) ≤ nI x) = (f + g ≤ x) := q_le (by omega) (by omega)
    rw [Ly_measureHeights_L42, M_layBlock_L36, hcB.1, hcB.2.1, nI_add]
    simp only [e1]
    by_cases z : f + g ≤ x
    · rw [if_pos z, if_pos z]
      exact ⟨a, c', rfl, rfl, a4, fun j u h1 h2 => by omega, fun _ _ _ _ => rfl, rfl⟩
    · have ni : gI c' 3 (200 * q + i) 0 = nI i := hP'.num hq (by omega)
      have ix0 : ix (nI x) 200 = some x := ix_nI (by omega) (by decide)
      rw [if_neg z, if_neg z, ix0, bd_s, r_cb ni, bd_s, m_cb hP' (by omega) (by omega), bd_s, bh_ag a0]
      simp only [b1_0, lt9, bd_s]
      rw [show nI x + 1 = nI (x + 1) from nI_1 _]
      by_cases y : bh c q x i = false
      · rw [if_pos y, if_pos y]
        obtain ⟨r, c2, b1, b2, b3, b4, b5, b6⟩ := ih (x + 1) a c' a0 a1 (by omega) (by omega) a4 (fun j h1 h2 => a5 j (by omega) h2) (by omega)
        refine ⟨r, c2, b1, b2, b3, fun j u h1 h2 h0 h3 => ?_, fun k i j h => b5 k i j (by omega), b6⟩
        by_cases w : j = x
        · subst w
          rw [b5 3 _ 12 (by omega), h3, y, if_neg (by decide)]
          rfl
        · exact b4 j u (by omega) h2 h0 h3
      · have y' : bh c q x i = true := by
          cases e : bh c q x i with
          | true => rfl
          | false => exact absurd e y
        obtain ⟨u, hu, u1⟩ := a5 x (Nat.le_refl _) (by omega)
        obtain ⟨w1, h, hh, w2⟩ := a1 x (by omega) (by omega)
        have e3 : (nI h ≤ nI a) = (h ≤ a) := q_le (by omega) (by omega)
        rw [if_neg y, if_neg y, u1, w1, w2, imax_N (by omega) (by omega), show nI u + 1 = nI (u + 1) from nI_1 _]
        simp only [e3]
        have eM : (if h ≤ a then M_layBlock_L36 n m (nI i) (nI (f + g)) k (nI a) (nI (x + 1)) else M_layBlock_L36 n m (nI i) (nI (f + g)) k (nI h) (nI (x + 1))) = M_layBlock_L36 n m (nI i) (nI (f + g)) k (nI (max a h)) (nI (x + 1)) := by
          by_cases v : h ≤ a
          · rw [if_pos v, Nat.max_eq_left v]
          · rw [if_neg v, Nat.max_eq_right (by omega)]
        rw [eM]
        have o8 : ∀ i' j, ¬ (i' = x ∧ j = 12) → gI (sI c' 3 (200 * q + x) 12 (nI (u + 1))) 3 (200 * q + i') j = gI c' 3 (200 * q + i') j := fun i' j h => gn_I (by omega)
        obtain ⟨r, c2, b1, b2, b3, b4, b5, b6⟩ := ih (x + 1) (max a h) (sI c' 3 (200 * q + x) 12 (nI (u + 1))) (a0.tr (FrL.upd (by omega))) (fun j h1 h2 => by
          rw [o8 j 8 (by omega)]
          exact a1 j h1 h2) (by omega) (by omega) (by omega) (fun j h1 h2 => by
          rw [o8 j 12 (by omega)]
          exact a5 j (by omega) h2) (by omega)
        refine ⟨r, c2, b1, b2, b3, fun j v h1 h2 h0 h3 => ?_, fun k i j h => (b5 k i j (by omega)).trans (gn_I (by omega)), b6⟩
        by_cases w : j = x
        · subst w
          rw [b5 3 _ 12 (by omega), gs_I, y', if_pos rfl]
          have := (nI_eq (a := v) (b := u) (by omega) (by omega)).mp (h3.symm.trans u1)
          rw [this]
        · exact b4 j v (by omega) h2 h0 (by rw [o8 j 12 (by omega)]; exact h3)
/-- what heights write -/
def FrH (c c' : Mem) (q f e : Nat) : Prop := (∀ a i j, ¬ (a = 3 ∧ 200 * q + f ≤ i ∧ i < 200 * q + e ∧ (j = 8 ∨ j = 12)) → gI c' a i j = gI c a i j) ∧ c'.2 = c.2
def FrHM (m m' : Mem) (f e : Nat) : Prop := (∀ a i j, ¬ ((a = 139 ∨ a = 140) ∧ i = 0 ∧ f ≤ j ∧ j < e) → gI m' a i j = gI m a i j) ∧ m'.2 = m.2
theorem FrH.fl {c' : Mem} {e : Nat} (h : FrH c c' q f e) : FrL c c' := ⟨fun k i j x1 x2 x3 x4 x5 => h.1 k i j (by omega), fun k i j _ => by unfold gR; rw [h.2], by unfold gL; rw [h.2]⟩
theorem FrHM.fl {m' : Mem} {e : Nat} (h : FrHM m m' f e) : FrLM m m' := ⟨fun k i j x1 x2 => h.1 k i j (by omega), h.2⟩
theorem h_out {cB : Mem} (hn : 800 ≤ n) (hq : q < 2) (hP : PR c m q cnt B) (hL : LatR c m lat mn) (hG : RG c q cnt b f g) (hcB : RG cB q cnt b f g) : ∀ (k x : Nat) (c' m' : Mem), FrL c c' → FrLM m m' → f ≤ x → x ≤ f + g → HR c' m' q (f + g) x → (∀ j, x ≤ j → j < f + g → gI m' 140 0 j = -1) → (∀ j, f ≤ j → j < f + g → gI c' 3 (200 * q + j) 12 = nI (cq (fun i => bh c q j i) x j) ∧ gI c' 3 (200 * q + j) 7 = nI (lt_ c q lat j)) → x - f < k →
    ∃ c2 m2, Ly_measureHeights_L15 n (175 * q + b) cB q k (pm x) c' = some c2 ∧ (0 < g → M_layBlock_L17 n (nI f) (nI (f + g)) k (pm x) m' = some m2) ∧ HR c2 m2 q (f + g) f ∧ (∀ j, f ≤ j → j < f + g → gI m2 140 0 j = -1) ∧ (∀ j, f ≤ j → j < f + g → gI c2 3 (200 * q + j) 12 = nI (cq (fun i => bh c q j i) f j)) ∧ FrH c' c2 q f (f + g) ∧ FrHM m' m2 f (f + g) := by
  have hcnt := hP.1.2.2.2.2.1
  have hfg := hG.2.2.1
  intro k
  induction k with
  | zero => intro x c' m' a0 a1 a2 a3 a4 a5 a6 a7; omega
  | succ k ih =>
    intro x c' m' a0 a1 a2 a3 a4 a5 a6 a7
    have hP' := hP.ag a0 a1
    have hG' := hG.ag a0
    have hL' := hL.ag a0 a1
    have e1 : (pm x < nI f) = (x ≤ f) := pm_lt (by omega) (by omega)
    rw [Ly_measureHeights_L15, M_layBlock_L17, hG'.1]
    simp only [e1]
    by_cases z : x ≤ f
    · have zx : x = f := by omega
      subst zx
      rw [if_pos z, if_pos z]
      exact ⟨c', m', rfl, fun _ => rfl, a4, a5, fun j h1 h2 => (a6 j h1 h2).1, ⟨fun _ _ _ _ => rfl, rfl⟩, ⟨fun _ _ _ _ => rfl, rfl⟩⟩
    · obtain ⟨i, rfl⟩ : ∃ i, x = i + 1 := ⟨x - 1, by omega⟩
      rw [if_neg z, if_neg z, pm_s]
      have ix0 : ix (nI i) 200 = some i := ix_nI (by omega) (by decide)
      obtain ⟨r, c2, b1, b2, b3, b4, b5, b6⟩ := h_in (n := n) hq hP' hG' hcB (i := i) (by omega) n (i + 1) 0 c' FrL.rf a4 (by omega) a3 (by omega) (fun j h1 h2 => ⟨_, Nat.le_trans (cq_le _ _ _) (by omega), (a6 j (by omega) h2).1⟩) (by omega)
      rw [nI_0] at b1 b2
      have f0 : (nI f < 0) = False := q_ltm (by omega)
      simp only [ix0, bd_s, lt9, f0, if_false]
      rw [show nI i + 1 = nI (i + 1) from nI_1 _, b1, b2, bd_s, bd_s, m_latOf hP' hL' (by omega), bd_s]
      have lt' : lt_ c' q lat i = lt_ c q lat i := by
        unfold lt_
        rw [a0.1 3 _ 1 (by omega) (by omega) (by decide) (by decide) (by omega)]
      have l7 : gI c2 3 (200 * q + i) 7 = nI (lt_ c q lat i) := (b5 3 _ 7 (by omega)).trans (a6 i (by omega) (by omega)).2
      have l4 : lt_ c q lat i ≤ 4 := (hL.1 _ (kn_lt _)).2.2.2
      rw [l7, lt', nI_add, pm_add]
      have frc : FrH c' (sI c2 3 (200 * q + i) 8 (nI (lt_ c q lat i + r))) q f (f + g) := ⟨fun a i' j h => (gn_I (by omega)).trans (b5 a i' j (by omega)), b6⟩
      have frm : FrHM m' (sI (sI m' 139 0 i (nI (lt_ c q lat i + r))) 140 0 i (-1)) f (f + g) := ⟨fun a i' j h => (gn_I (by omega)).trans (gn_I (by omega)), rfl⟩
      obtain ⟨c3, m3, d1, d2, d3, d4, d5, d6, d7⟩ := ih i (sI c2 3 (200 * q + i) 8 (nI (lt_ c q lat i + r))) (sI (sI m' 139 0 i (nI (lt_ c q lat i + r))) 140 0 i (-1)) (a0.tr frc.fl) (a1.tr frm.fl) (by omega) (by omega) (fun j h1 h2 => by
        by_cases y : j = i
        · subst y
          rw [gn_I (by omega), gs_I, gs_I]
          exact ⟨rfl, _, by omega, rfl⟩
        · rw [gn_I (by omega), gn_I (by omega), gn_I (by omega), b5 3 _ 8 (by omega)]
          exact a4 j (by omega) h2) (fun j h1 h2 => by
        by_cases y : j = i
        · subst y; exact gs_I _ _ _ _ _
        · rw [gn_I (by omega), gn_I (by omega)]
          exact a5 j (by omega) h2) (fun j h1 h2 => by
        obtain ⟨p1, p2⟩ := a6 j h1 h2
        refine ⟨?_, ?_⟩
        · rw [gn_I (by omega)]
          have key := cq_lo (fun i => bh c q j i) i j
          by_cases y : i < j
          · have := b4 j _ (by omega) h2 (Nat.le_trans (cq_le _ _ _) (by omega)) p1
            rw [this, key, bh_ag a0]
            congr 2
            by_cases v : bh c q j i = true
            · rw [if_pos v, if_pos ⟨y, v⟩]
            · rw [if_neg v, if_neg (fun z => v z.2)]
          · rw [b5 3 _ 12 (by omega), p1, key, if_neg (fun z => y z.1)]; rfl
        · rw [gn_I (by omega), b5 3 _ 7 (by omega)]
          exact p2) (by omega)
      exact ⟨c3, m3, d1, d2, d3, d4, d5, ⟨fun a i' j h => (d6.1 a i' j h).trans (frc.1 a i' j h), d6.2.trans frc.2⟩, ⟨fun a i' j h => (d7.1 a i' j h).trans (frm.1 a i' j h), d7.2.trans frm.2⟩⟩
end LH
