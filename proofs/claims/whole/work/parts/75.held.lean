/-! ===== PURE: laying: up to when values are held ===== -/
theorem imax_pm {a t : Nat} (ha : a < 2 ^ 20) (ht : t < 2 ^ 20) : imax (pm a) (nI t) = pm (max a (t + 1)) := by
  unfold imax
  have e : (pm a < nI t) = (a ≤ t) := pm_lt (by omega) (by omega)
  simp only [e]
  by_cases z : a ≤ t
  · rw [if_pos z, Nat.max_eq_right (by omega), pm_s]
  · rw [if_neg z, Nat.max_eq_left (by omega)]
/-- the reference says -2 where nothing uses the value -/
def p2 (x : Nat) : Int32 := if x = 0 then -2 else nI (x - 1)
theorem p2_s {x : Nat} : p2 (x + 1) = nI x := by unfold p2; rw [if_neg (by omega)]; rfl
theorem p2_ge {s x : Nat} (hs : s < 2 ^ 20) (hx : x < 2 ^ 20) : (nI s ≤ p2 x) = (s < x) := by
  cases x with
  | zero =>
    refine propext ⟨fun z => ?_, fun z => by omega⟩
    exfalso
    rw [show p2 0 = -2 from rfl, Int32.le_iff_toInt_le, nI_toInt (by omega)] at z
    have : (-2 : Int32).toInt = -2 := by decide
    omega
  | succ x =>
    rw [p2_s, q_le (by omega) (by omega)]
    exact propext ⟨fun _ => by omega, fun _ => by omega⟩
theorem p2_m2 {x : Nat} (hx : x < 2 ^ 20) : (p2 x ≤ -2) = (x = 0) := by
  cases x with
  | zero => exact propext ⟨fun _ => rfl, fun _ => by decide⟩
  | succ x =>
    refine propext ⟨fun z => ?_, fun z => by omega⟩
    exfalso
    rw [p2_s, Int32.le_iff_toInt_le, nI_toInt (by omega)] at z
    have : (-2 : Int32).toInt = -2 := by decide
    omega
/-- the block's choice is this operation's value -/
def chosen (c : Mem) (q b o : Nat) : Prop := gI c 0 (175 * q + b) 2 = 1 ∧ gI c 0 (175 * q + b) 3 = cval o
/-- H is one more than the cycle up to which o is held, 0 where nothing uses it -/
def HM (c : Mem) (q b f g : Nat) (st : Nat → Nat) (cy H o : Nat) : Prop := H < 2 ^ 20 ∧ ∀ y, H ≤ y ↔ (∀ j, f ≤ j → j < f + g → uses c q j o → st j + 1 ≤ y) ∧ (chosen c q b o → cy ≤ y)
theorem HM.uq {c : Mem} {q b f g : Nat} {st : Nat → Nat} {cy H H' o : Nat} (h : HM c q b f g st cy H o) (h' : HM c q b f g st cy H' o) : H = H' := by
  have e1 := (h.2 H').mpr ((h'.2 H').mp (Nat.le_refl _))
  have e2 := (h'.2 H).mpr ((h.2 H).mp (Nat.le_refl _))
  omega
theorem vr_isv {n : Nat} {v s x : Int32} (h : VR0 v s x) : (Od_isValue n v = some 0 ∧ ∀ o, o < 200 → v ≠ cval o) ∨ ∃ i, i < 200 ∧ v = cval i ∧ Od_isValue n v = some 1 := by
  rcases h with (⟨a, rfl, rfl⟩ | ⟨k, k1, rfl, rfl, rfl⟩ | ⟨i, i1, rfl, rfl, rfl⟩) | ⟨rfl, rfl⟩
  · refine Or.inl ⟨?_, fun o ho z => absurd (cval_lo o ho).1 (by rw [← z]; exact a)⟩
    rw [Od_isValue, if_pos (num_lo a).1]
  · refine Or.inl ⟨?_, fun o ho z => absurd z.symm (cval_cvar ho k1)⟩
    rw [Od_isValue, if_pos (cvar_lo k k1).2.1]
  · refine Or.inr ⟨i, i1, rfl, ?_⟩
    rw [Od_isValue, if_neg (cval_lo i i1).2.1, if_neg (cval_lo i i1).2.2.1]
  · refine Or.inl ⟨rfl, fun o ho z => absurd (cval_lo o ho).1 (by rw [← z]; decide)⟩
/-- only last uses in a block have changed -/
def FrU (c c' : Mem) (q f e : Nat) : Prop := (∀ a i j, ¬ (a = 3 ∧ 200 * q + f ≤ i ∧ i < 200 * q + e ∧ j = 14) → gI c' a i j = gI c a i j) ∧ c'.2 = c.2
theorem FrU.tr {a b c : Mem} {q f e : Nat} (h1 : FrU a b q f e) (h2 : FrU b c q f e) : FrU a c q f e := ⟨fun x i j h => (h2.1 x i j h).trans (h1.1 x i j h), h2.2.trans h1.2⟩
theorem FrU.fl {c c' : Mem} {q f e : Nat} (h : FrU c c' q f e) : FrL c c' := ⟨fun k i j x1 x2 x3 x4 x5 => h.1 k i j (by omega), fun k i j _ => by unfold gR; rw [h.2], by unfold gL; rw [h.2]⟩
section LU
variable {n q cnt B b f g : Nat} {c m : Mem} {lat mn st L : Nat → Nat}
theorem r_noteUse {v s x : Int32} {t : Nat} {hs : Nat → Nat} (hv : VR0 v s x) (ht : t + 1 < 2 ^ 20) (hf : f + g ≤ 200) (hin : ∀ o, o < 200 → v = cval o → f ≤ o ∧ o < f + g) (hh : ∀ o, f ≤ o → o < f + g → gI c 3 (200 * q + o) 14 = pm (hs o) ∧ hs o < 2 ^ 20) :
    ∃ c', Ly_noteUse n q v (nI t) c = some c' ∧ (∀ o, f ≤ o → o < f + g → ∃ h', gI c' 3 (200 * q + o) 14 = pm h' ∧ h' < 2 ^ 20 ∧ ∀ y, h' ≤ y ↔ hs o ≤ y ∧ (v = cval o → t + 1 ≤ y)) ∧ FrU c c' q f (f + g) := by
  rw [Ly_noteUse]
  rcases vr_isv (n := n) hv with ⟨e1, e2⟩ | ⟨i, i1, e2, e1⟩
  · rw [e1, bd_s, if_pos rfl]
    refine ⟨c, rfl, fun o h1 h2 => ⟨hs o, (hh o h1 h2).1, (hh o h1 h2).2, fun y => ⟨fun w => ⟨w, fun z => absurd z (e2 o (by omega))⟩, fun w => w.1⟩⟩, ⟨fun _ _ _ _ => rfl, rfl⟩⟩
  · rw [e1, bd_s, if_neg (show ¬ (1 : Int32) = 0 by decide), e2, Od_operationOf, (cval_lo i i1).2.2.2, bd_s, ix_nI (N := 200) i1 (by decide), bd_s]
    simp only [lt9]
    have hi := hin i i1 e2
    rw [(hh i hi.1 hi.2).1, imax_pm (hh i hi.1 hi.2).2 (show t < 2 ^ 20 by omega)]
    refine ⟨_, rfl, fun o h1 h2 => ?_, ⟨fun a i j h => gn_I (by omega), rfl⟩⟩
    by_cases z : o = i
    · subst z
      refine ⟨_, gs_I _ _ _ _ _, by have := (hh o h1 h2).2; omega, fun y => ⟨fun w => ⟨by omega, fun _ => by omega⟩, fun w => ?_⟩⟩
      have := w.2 rfl
      have := w.1
      omega
    · refine ⟨hs o, (gn_I (by omega)).trans (hh o h1 h2).1, (hh o h1 h2).2, fun y => ⟨fun w => ⟨w, fun z' => absurd (cval_inj i1 (by omega) z').symm z⟩, fun w => w.1⟩⟩
theorem r_noteL (hn : 2000 ≤ n) (hq : q < 2) (hP : PR c m q cnt B) (hG : RG c q cnt b f g) (hst : ∀ o, f ≤ o → o < f + g → gI c 3 (200 * q + o) 9 = nI (st o) ∧ st o < 2000) : ∀ (k x : Nat) (c' : Mem), FrU c c' q f (f + g) → f ≤ x → x ≤ f + g → (∀ o, f ≤ o → o < f + g → ∃ H, gI c' 3 (200 * q + o) 14 = pm H ∧ H < 2 ^ 20 ∧ ∀ y, H ≤ y ↔ ∀ j, f ≤ j → j < x → uses c q j o → st j + 1 ≤ y) → f + g - x < k →
    ∃ c2, Ly_noteUses_L5 n (175 * q + b) q k (nI x) c' = some c2 ∧ FrU c c2 q f (f + g) ∧ ∀ o, f ≤ o → o < f + g → ∃ H, gI c2 3 (200 * q + o) 14 = pm H ∧ H < 2 ^ 20 ∧ ∀ y, H ≤ y ↔ ∀ j, f ≤ j → j < f + g → uses c q j o → st j + 1 ≤ y := by
  have hcnt := hP.1.2.2.2.2.1
  have hfg := hG.2.2.1
  intro k
  induction k with
  | zero => intro x c' a1 a2 a3 a4 a5; omega
  | succ k ih =>
    intro x c' a1 a2 a3 a4 a5
    have hG' := hG.ag a1.fl
    have q1 : (nI (f + g) ≤ nI x) = (f + g ≤ x) := q_le (by omega) (by omega)
    rw [Ly_noteUses_L5, hG'.1, hG'.2.1, nI_add]
    simp only [q1]
    by_cases z : f + g ≤ x
    · have : x = f + g := by omega
      subst this
      rw [if_pos z]
      exact ⟨c', rfl, a1, a4⟩
    · rw [if_neg z, ix_nI (N := 200) (by omega) (by decide), bd_s]
      obtain ⟨-, -, v3, v4, -, -, -, v8, -⟩ := hP.2.1 x (by omega)
      have b6 := (hG.2.2.2 x (by omega)).mpr ⟨a2, by omega⟩
      have inB : ∀ o, o < 200 → uses c q x o → f ≤ o ∧ o < f + g := fun o ho hu => by
        obtain ⟨w1, w2, -⟩ := v8 o ho hu
        exact (hG.2.2.2 o (by omega)).mp (w2.trans b6)
      have e3 : gI c' 3 (200 * q + x) 3 = gI c 3 (200 * q + x) 3 := a1.1 3 _ 3 (by omega)
      have e9 : gI c' 3 (200 * q + x) 9 = nI (st x) := (a1.1 3 _ 9 (by omega)).trans (hst x a2 (by omega)).1
      have s2 := (hst x a2 (by omega)).2
      have hh' : ∀ o, ∃ H, f ≤ o → o < f + g → gI c' 3 (200 * q + o) 14 = pm H ∧ H < 2 ^ 20 ∧ ∀ y, H ≤ y ↔ ∀ j, f ≤ j → j < x → uses c q j o → st j + 1 ≤ y := fun o => by
        by_cases w : f ≤ o ∧ o < f + g
        · obtain ⟨H, hH⟩ := a4 o w.1 w.2
          exact ⟨H, fun _ _ => hH⟩
        · exact ⟨0, fun w1 w2 => absurd ⟨w1, w2⟩ w⟩
      obtain ⟨hs, hhs⟩ := Classical.axiomOfChoice hh'
      obtain ⟨c1, d1, d2, d3⟩ := r_noteUse (n := n) (c := c') (q := q) (f := f) (g := g) (hs := hs) v3 (show st x + 1 < 2 ^ 20 by omega) (by omega) (fun o ho hv => inB o ho (Or.inl hv)) (fun o h1 h2 => ⟨(hhs o h1 h2).1, (hhs o h1 h2).2.1⟩)
      have hh1' : ∀ o, ∃ H, f ≤ o → o < f + g → gI c1 3 (200 * q + o) 14 = pm H ∧ H < 2 ^ 20 ∧ ∀ y, H ≤ y ↔ hs o ≤ y ∧ (gI c 3 (200 * q + x) 3 = cval o → st x + 1 ≤ y) := fun o => by
        by_cases w : f ≤ o ∧ o < f + g
        · obtain ⟨H, hH⟩ := d2 o w.1 w.2
          exact ⟨H, fun _ _ => hH⟩
        · exact ⟨0, fun w1 w2 => absurd ⟨w1, w2⟩ w⟩
      obtain ⟨hs1, hhs1⟩ := Classical.axiomOfChoice hh1'
      obtain ⟨c2, f1, f2, f3⟩ := r_noteUse (n := n) (c := c1) (q := q) (f := f) (g := g) (hs := hs1) v4 (show st x + 1 < 2 ^ 20 by omega) (by omega) (fun o ho hv => inB o ho (Or.inr hv)) (fun o h1 h2 => ⟨(hhs1 o h1 h2).1, (hhs1 o h1 h2).2.1⟩)
      have e4 : gI c1 3 (200 * q + x) 4 = gI c 3 (200 * q + x) 4 := (d3.1 3 _ 4 (by omega)).trans (a1.1 3 _ 4 (by omega))
      have e9' : gI c1 3 (200 * q + x) 9 = nI (st x) := (d3.1 3 _ 9 (by omega)).trans e9
      rw [e3, e9, d1, bd_s, e4, e9', f1, bd_s, show nI x + 1 = nI (x + 1) from nI_1 _]
      refine ih (x + 1) c2 ((a1.tr d3).tr f3) (by omega) (by omega) (fun o h1 h2 => ?_) (by omega)
      obtain ⟨H, u1, u2, u3⟩ := f2 o h1 h2
      refine ⟨H, u1, u2, fun y => (u3 y).trans ?_⟩
      rw [(hhs1 o h1 h2).2.2 y, (hhs o h1 h2).2.2 y]
      refine ⟨fun w j j1 j2 hu => ?_, fun w => ⟨⟨fun j j1 j2 hu => w j j1 (by omega) hu, fun hv => w x a2 (by omega) (Or.inl hv)⟩, fun hv => w x a2 (by omega) (Or.inr hv)⟩⟩
      by_cases jx : j = x
      · subst jx
        rcases hu with hu | hu
        · exact w.1.2 hu
        · exact w.2 hu
      · exact w.1.1 j j1 (by omega) hu
theorem r_note {cy : Nat} (hn : 2000 ≤ n) (hq : q < 2) (hb : b < B) (hP : PR c m q cnt B) (hG : RG c q cnt b f g) (hst : ∀ o, f ≤ o → o < f + g → gI c 3 (200 * q + o) 9 = nI (st o) ∧ st o < 2000) (hcy : gI c 0 (175 * q + b) 6 = nI cy ∧ 1 ≤ cy ∧ cy ≤ 804) (h14 : ∀ o, f ≤ o → o < f + g → gI c 3 (200 * q + o) 14 = -1) :
    ∃ c2, Ly_noteUses n q (175 * q + b) c = some c2 ∧ FrU c c2 q f (f + g) ∧ ∀ o, f ≤ o → o < f + g → ∃ H, gI c2 3 (200 * q + o) 14 = pm H ∧ HM c q b f g st cy H o := by
  have hcnt := hP.1.2.2.2.2.1
  have hfg := hG.2.2.1
  obtain ⟨c1, d1, d2, d3⟩ := r_noteL (n := n) hn hq hP hG hst n f c ⟨fun _ _ _ _ => rfl, rfl⟩ (Nat.le_refl _) (by omega) (fun o h1 h2 => ⟨0, h14 o h1 h2, by decide, fun y => ⟨fun _ j j1 j2 => by omega, fun _ => Nat.zero_le _⟩⟩) (by omega)
  obtain ⟨w1, w2, w3, w4, -⟩ := hP.2.2.1 b hb
  have g0 : ∀ j, gI c1 0 (175 * q + b) j = gI c 0 (175 * q + b) j := fun j => d2.1 0 _ j (by omega)
  rw [Ly_noteUses, hG.1, d1, bd_s, g0, g0, g0]
  rcases w2 with w2 | w2
  · rw [w2, if_pos rfl]
    refine ⟨c1, rfl, d2, fun o h1 h2 => ?_⟩
    obtain ⟨H, u1, u2, u3⟩ := d3 o h1 h2
    refine ⟨H, u1, u2, fun y => (u3 y).trans ⟨fun w => ⟨w, fun z => ?_⟩, fun w => w.1⟩⟩
    have := z.1
    rw [w2] at this
    exact absurd this (by decide)
  · obtain ⟨v1, v2⟩ := w4 w2
    have hh' : ∀ o, ∃ H, f ≤ o → o < f + g → gI c1 3 (200 * q + o) 14 = pm H ∧ H < 2 ^ 20 ∧ ∀ y, H ≤ y ↔ ∀ j, f ≤ j → j < f + g → uses c q j o → st j + 1 ≤ y := fun o => by
      by_cases w : f ≤ o ∧ o < f + g
      · obtain ⟨H, hH⟩ := d3 o w.1 w.2
        exact ⟨H, fun _ _ => hH⟩
      · exact ⟨0, fun w1 w2 => absurd ⟨w1, w2⟩ w⟩
    obtain ⟨hs, hhs⟩ := Classical.axiomOfChoice hh'
    obtain ⟨c2, f1, f2, f3⟩ := r_noteUse (n := n) (c := c1) (q := q) (f := f) (g := g) (t := cy - 1) (hs := hs) (Or.inl v1) (by omega) (by omega) (fun o ho hv => by
      obtain ⟨y1, y2, -⟩ := v2 o ho hv
      exact (hG.2.2.2 o y1).mp y2) (fun o h1 h2 => ⟨(hhs o h1 h2).1, (hhs o h1 h2).2.1⟩)
    have cy1 : nI cy - 1 = nI (cy - 1) := by
      obtain ⟨y, rfl⟩ : ∃ y, cy = y + 1 := ⟨cy - 1, by omega⟩
      exact nI_pred _
    rw [w2, if_neg (show ¬ (1 : Int32) = 0 by decide), hcy.1, cy1, f1, bd_s]
    refine ⟨c2, rfl, d2.tr f3, fun o h1 h2 => ?_⟩
    obtain ⟨H, u1, u2, u3⟩ := f2 o h1 h2
    refine ⟨H, u1, u2, fun y => (u3 y).trans ?_⟩
    rw [(hhs o h1 h2).2.2 y, show cy - 1 + 1 = cy by omega]
    exact ⟨fun w => ⟨w.1, fun z => w.2 z.2⟩, fun w => ⟨w.1, fun z => w.2 ⟨w2, z⟩⟩⟩
/-- the reference -/
theorem m_isEnd {o : Nat} (hb : b < B) (hP : PR c m q cnt B) (ho : o < 200) : ∃ v : Bool, M_isEnd n (nI o) (nI b) m = some (b1 v) ∧ (v = true ↔ chosen c q b o) := by
  have hB := hP.1.2.2.2.2.2
  obtain ⟨w1, w2, w3, w4, -⟩ := hP.2.2.1 b hb
  have ixb : ix (nI b) 800 = some b := ix_nI (by omega) (by decide)
  rw [M_isEnd]
  simp only [ixb, bd_s]
  rw [← w3]
  unfold chosen
  rcases w2 with w2 | w2
  · rw [w2, if_pos rfl]
    exact ⟨false, rfl, fun z => absurd z (by decide), fun z => absurd z.1 (by decide)⟩
  · have e := vr_val (Or.inl (w4 w2).1) ho
    rw [w2, if_neg (show ¬ (1 : Int32) = 0 by decide)]
    by_cases y1 : gI m 132 0 b = 3
    · rw [if_pos y1]
      by_cases y2 : gI m 133 0 b = nI o
      · rw [if_pos y2]
        exact ⟨true, rfl, fun _ => ⟨rfl, e.mp ⟨y1, y2⟩⟩, fun _ => rfl⟩
      · rw [if_neg y2]
        exact ⟨false, rfl, fun z => absurd z (by decide), fun z => absurd (e.mpr z.2).2 y2⟩
    · rw [if_neg y1]
      exact ⟨false, rfl, fun z => absurd z (by decide), fun z => absurd (e.mpr z.2).1 y1⟩
theorem m_heldL {o : Nat} {C : Prop} {cy : Nat} (hP : PR c m q cnt B) (hG : RG c q cnt b f g) (ho : f ≤ o ∧ o < f + g) (hst : ∀ j, f ≤ j → j < f + g → gI m 140 0 j = nI (st j) ∧ st j < 2000) : ∀ (k x H : Nat), o < x → x ≤ f + g → H < 2 ^ 20 → (∀ y, H ≤ y ↔ (∀ j, o < j → j < x → uses c q j o → st j + 1 ≤ y) ∧ (C → cy ≤ y)) → f + g - x < k →
    ∃ H', M_heldTo_L42 n (nI o) m (nI (f + g)) k (p2 H) (nI x) = some (p2 H') ∧ H' < 2 ^ 20 ∧ ∀ y, H' ≤ y ↔ (∀ j, o < j → j < f + g → uses c q j o → st j + 1 ≤ y) ∧ (C → cy ≤ y) := by
  have hcnt := hP.1.2.2.2.2.1
  have hfg := hG.2.2.1
  intro k
  induction k with
  | zero => intro x H a1 a2 a3 a4 a5; omega
  | succ k ih =>
    intro x H a1 a2 a3 a4 a5
    have q1 : (nI (f + g) ≤ nI x) = (f + g ≤ x) := q_le (by omega) (by omega)
    rw [M_heldTo_L42]
    simp only [q1]
    by_cases z : f + g ≤ x
    · have : x = f + g := by omega
      subst this
      rw [if_pos z]
      exact ⟨H, rfl, a3, a4⟩
    · rw [if_neg z, m_usesValue hP (by omega) (by omega), bd_s, show nI x + 1 = nI (x + 1) from nI_1 _]
      obtain ⟨s1, s2⟩ := hst x (by omega) (by omega)
      have more : ∀ y, ¬ (uses c q x o ∧ y < st x + 1) → ((∀ j, o < j → j < x → uses c q j o → st j + 1 ≤ y) ↔ ∀ j, o < j → j < x + 1 → uses c q j o → st j + 1 ≤ y) := fun y hy => ⟨fun w j j1 j2 hu => by
        by_cases jx : j = x
        · subst jx
          exact Nat.le_of_not_lt (fun v => hy ⟨hu, v⟩)
        · exact w j j1 (by omega) hu, fun w j j1 j2 hu => w j j1 (by omega) hu⟩
      by_cases y : uses c q x o
      · rw [decide_eq_true (show gI c 3 (200 * q + x) 3 = cval o ∨ gI c 3 (200 * q + x) 4 = cval o from y), if_neg (show ¬ b1 true = 0 by decide), ix_nI (N := 200) (by omega) (by decide), bd_s, bd_s, s1]
        simp only [p2_ge (show st x < 2 ^ 20 by omega) a3]
        by_cases w : st x < H
        · rw [if_pos w]
          refine ih (x + 1) H (by omega) (by omega) a3 (fun y' => ?_) (by omega)
          rw [a4 y']
          constructor
          · intro w1
            have := (a4 y').mpr w1
            exact ⟨(more y' (fun v => by omega)).mp w1.1, w1.2⟩
          · intro w1
            exact ⟨fun j j1 j2 hu => w1.1 j j1 (by omega) hu, w1.2⟩
        · rw [if_neg w, ← p2_s]
          refine ih (x + 1) (st x + 1) (by omega) (by omega) (by omega) (fun y' => ?_) (by omega)
          constructor
          · intro w1
            have := (a4 y').mp (by omega)
            exact ⟨(more y' (fun v => by omega)).mp this.1, this.2⟩
          · intro w1
            exact w1.1 x (by omega) (by omega) y
      · rw [decide_eq_false (show ¬ (gI c 3 (200 * q + x) 3 = cval o ∨ gI c 3 (200 * q + x) 4 = cval o) from y), if_pos (show b1 false = 0 from rfl)]
        refine ih (x + 1) H (by omega) (by omega) a3 (fun y' => ?_) (by omega)
        rw [a4 y', more y' (fun v => y v.1)]
theorem m_held {o cy : Nat} (hn : 2000 ≤ n) (hb : b < B) (hP : PR c m q cnt B) (hG : RG c q cnt b f g) (ho : f ≤ o ∧ o < f + g) (hst : ∀ j, f ≤ j → j < f + g → gI m 140 0 j = nI (st j) ∧ st j < 2000) (hcy : gI m 143 0 b = nI cy ∧ 1 ≤ cy ∧ cy ≤ 804) : ∃ H, M_heldTo n (nI o) m = some (p2 H) ∧ HM c q b f g st cy H o := by
  have hcnt := hP.1.2.2.2.2.1
  have hfg := hG.2.2.1
  have hB := hP.1.2.2.2.2.2
  have bo : gI m 130 0 o = nI b := (hP.blk hG (by omega)).mpr ho
  obtain ⟨v, v1, v2⟩ := m_isEnd (n := n) (o := o) hb hP (by omega)
  rw [M_heldTo, ix_nI (N := 200) (by omega) (by decide), bd_s, bo, v1, bd_s]
  simp only [lt9]
  rw [m_behind (by omega) hP hG, bd_s, if_neg (show ¬ g = 0 by omega), ix_nI (N := 800) (show b < 800 by omega) (by decide), bd_s, hcy.1, show nI o + 1 = nI (o + 1) from nI_1 _]
  have cy1 : nI cy - 1 = p2 cy := by
    obtain ⟨y, rfl⟩ : ∃ y, cy = y + 1 := ⟨cy - 1, by omega⟩
    rw [p2_s]
    exact nI_pred _
  have fin : ∀ H, H < 2 ^ 20 → (∀ y, H ≤ y ↔ (∀ j, o < j → j < o + 1 → uses c q j o → st j + 1 ≤ y) ∧ (chosen c q b o → cy ≤ y)) → ∃ H', (M_heldTo_L42 n (nI o) m (nI (f + g)) n (p2 H) (nI (o + 1))).bind (fun r13 => some r13) = some (p2 H') ∧ HM c q b f g st cy H' o := by
    intro H h1 h2
    obtain ⟨H', e1, e2, e3⟩ := m_heldL (n := n) (C := chosen c q b o) (cy := cy) hP hG ho hst n (o + 1) H (by omega) (by omega) h1 h2 (by omega)
    refine ⟨H', by rw [e1, bd_s], e2, fun y => (e3 y).trans ⟨fun w => ⟨fun j j1 j2 hu => ?_, w.2⟩, fun w => ⟨fun j j1 j2 hu => w.1 j (by omega) j2 hu, w.2⟩⟩⟩
    obtain ⟨-, -, -, -, -, -, -, v8, -⟩ := hP.2.1 j (by omega)
    exact w.1 j (v8 o (by omega) hu).1 j2 hu
  cases hv : v with
  | false =>
    rw [if_pos (show b1 false = 0 from rfl)]
    have nc : ¬ chosen c q b o := fun z => by rw [v2.mpr z] at hv; exact absurd hv (by decide)
    exact fin 0 (by decide) (fun y => ⟨fun _ => ⟨fun j j1 j2 => by omega, fun z => absurd z nc⟩, fun _ => Nat.zero_le _⟩)
  | true =>
    rw [if_neg (show ¬ b1 true = 0 by decide), cy1]
    exact fin cy (by omega) (fun y => ⟨fun w => ⟨fun j j1 j2 => by omega, fun _ => w⟩, fun w => w.2 (v2.mp hv)⟩)
end LU
