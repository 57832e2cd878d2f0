/-! ===== PURE: laying: who begins next (reference) ===== -/
theorem pm_neg {x : Nat} (hx : x < 2 ^ 30) : (pm x < 0) = (x = 0) := by
  have := pm_lt (x := x) (f := 0) hx (by decide)
  rw [nI_0] at this
  rw [this]
  exact propext ⟨fun z => by omega, fun z => by omega⟩
theorem pm_0le {x : Nat} (hx : x < 2 ^ 30) : (0 ≤ pm x) = (x ≠ 0) := by
  cases x with
  | zero => exact propext ⟨fun z => absurd z (by decide), fun z => absurd rfl z⟩
  | succ x =>
    rw [pm_s]
    have : (nI 0 ≤ nI x) = (0 ≤ x) := q_le (by decide) (by omega)
    rw [nI_0] at this
    rw [this]
    exact propext ⟨fun _ => by omega, fun _ => by omega⟩
theorem pm_m1 {x : Nat} (hx : x < 2 ^ 30) : (pm x = -1) = (x = 0) := by
  cases x with
  | zero => exact propext ⟨fun _ => rfl, fun _ => rfl⟩
  | succ x =>
    rw [pm_s]
    exact propext ⟨fun z => absurd z (nI_nm (by omega)), fun z => by omega⟩
/-- what the laying of one block is over -/
def EV (c m : Mem) (q cnt B b f g : Nat) (lat mn K : Nat → Nat) (D : Nat → Nat → Bool) : Prop := PR c m q cnt B ∧ LatR c m lat mn ∧ RG c q cnt b f g ∧ 0 < g ∧ (∀ i j, bh c q i j = D i j) ∧ (∀ i, kn (gI c 3 (200 * q + i) 1) = K i)
theorem EV.ag {c m c' m' : Mem} {q cnt B b f g : Nat} {lat mn K : Nat → Nat} {D : Nat → Nat → Bool} (h : EV c m q cnt B b f g lat mn K D) (fc : FrL c c') (fm : FrLM m m') : EV c' m' q cnt B b f g lat mn K D := by
  obtain ⟨h1, h2, h3, h4, h5, h6⟩ := h
  refine ⟨h1.ag fc fm, h2.ag fc fm, h3.ag fc, h4, fun i j => by rw [bh_ag fc]; exact h5 i j, fun i => ?_⟩
  rw [fc.1 3 _ 1 (by omega) (by omega) (by decide) (by decide) (by omega)]
  exact h6 i
/-- begun: nothing is begun at 0, at t it is t + 1 -/
def BG (m : Mem) (f g : Nat) (bg un : Nat → Nat) (t : Nat) : Prop := t < 2 ^ 20 ∧ ∀ o, f ≤ o → o < f + g → gI m 140 0 o = pm (bg o) ∧ bg o ≤ t + 1 ∧ (bg o ≠ 0 → gI m 141 0 o = nI (un o) ∧ un o < 300)
def rdy (f : Nat) (lat K : Nat → Nat) (D : Nat → Nat → Bool) (bg : Nat → Nat) (t o : Nat) : Prop := ∀ x, f ≤ x → x < o → D o x = true → bg x ≠ 0 ∧ bg x - 1 + lat (K x) ≤ t
def fru (f g : Nat) (lat K bg un : Nat → Nat) (t k u : Nat) : Prop := ∀ x, f ≤ x → x < f + g → bg x ≠ 0 → K x = k → un x = u → bg x - 1 + lat (K x) ≤ t
def FUs (f g : Nat) (lat mn K bg un : Nat → Nat) (t k z : Nat) : Prop := (z = 0 ∧ k ≠ 3 ∧ ∀ u, u < mn k → ¬ fru f g lat K bg un t k u) ∨ ∃ w, z = w + 1 ∧ w < 300 ∧ (k = 3 ∨ w < mn k) ∧ fru f g lat K bg un t k w ∧ ∀ v, v < w → ¬ fru f g lat K bg un t k v
theorem FUs.uq {f g : Nat} {lat mn K bg un : Nat → Nat} {t k z z' : Nat} (h : FUs f g lat mn K bg un t k z) (h' : FUs f g lat mn K bg un t k z') : z = z' := by
  rcases h with ⟨a1, a2, a3⟩ | ⟨w, a1, a0, a2, a3, a4⟩
  · rcases h' with ⟨b1, b2, b3⟩ | ⟨w', b1, b0, b2, b3, b4⟩
    · omega
    · rcases b2 with b2 | b2
      · exact absurd b2 a2
      · exact absurd b3 (a3 w' b2)
  · rcases h' with ⟨b1, b2, b3⟩ | ⟨w', b1, b0, b2, b3, b4⟩
    · rcases a2 with a2 | a2
      · exact absurd a2 b2
      · exact absurd a3 (b3 w a2)
    · have : ¬ w < w' := fun z => b4 w z a3
      have : ¬ w' < w := fun z => a4 w' z b3
      omega
/-- o can begin at t, on the unit before z -/
def can (f g : Nat) (lat mn K : Nat → Nat) (D : Nat → Nat → Bool) (bg un : Nat → Nat) (t o z : Nat) : Prop := bg o = 0 ∧ rdy f lat K D bg t o ∧ FUs f g lat mn K bg un t (K o) (z + 1)
section LB
variable {n q cnt B b f g t : Nat} {c m : Mem} {lat mn K bg un h : Nat → Nat} {D : Nat → Nat → Bool}
theorem EV.lt4 (hE : EV c m q cnt B b f g lat mn K D) (x : Nat) : K x < 4 := by
  rw [← hE.2.2.2.2.2 x]
  exact kn_lt _
theorem EV.lat4 (hE : EV c m q cnt B b f g lat mn K D) (x : Nat) : 1 ≤ lat (K x) ∧ lat (K x) ≤ 4 := (hE.2.1.1 _ (hE.lt4 x)).2.2
theorem EV.size (hE : EV c m q cnt B b f g lat mn K D) : cnt ≤ 200 ∧ f + g ≤ cnt ∧ 0 < g := ⟨hE.1.1.2.2.2.2.1, hE.2.2.1.2.2.1, hE.2.2.2.1⟩
theorem EV.mk_ (hE : EV c m q cnt B b f g lat mn K D) {x : Nat} (hx : x < cnt) : M_kindOf n (gI m 126 0 x) = some (nI (K x)) := by
  obtain ⟨i1, -⟩ := hE.1.2.1 x hx
  rw [m_kd i1, kd_kn, hE.2.2.2.2.2 x]
theorem EV.mend (hE : EV c m q cnt B b f g lat mn K D) (hB : BG m f g bg un t) {x : Nat} (h1 : f ≤ x) (h2 : x < f + g) (h3 : bg x ≠ 0) : M_endOf n (nI x) m = some (nI (bg x - 1 + lat (K x))) := by
  obtain ⟨e1, e2, e3⟩ := hE.size
  obtain ⟨s, hs⟩ : ∃ s, bg x = s + 1 := ⟨bg x - 1, by omega⟩
  rw [m_endOf hE.1 hE.2.1 (show x < cnt by omega), (hB.2 x h1 h2).1, hs, pm_s, show lt_ c q lat x = lat (K x) from by unfold lt_; rw [hE.2.2.2.2.2 x], nI_add]
  rfl
theorem m_fuIn (hE : EV c m q cnt B b f g lat mn K D) (hB : BG m f g bg un t) {u kk : Nat} (hu : u < 300) (hk : kk < 4) : ∀ (k x : Nat) (fl : Bool), f ≤ x → x ≤ f + g → f + g - x < k →
    ∃ v : Bool, M_freeUnit_L53 n (nI t) m (nI u) (nI kk) (nI (f + g)) k (b1 fl) (nI x) = some (b1 v) ∧ (v = true ↔ fl = true ∧ ∀ y, x ≤ y → y < f + g → bg y ≠ 0 → K y = kk → un y = u → bg y - 1 + lat (K y) ≤ t) := by
  obtain ⟨e1, e2, e3⟩ := hE.size
  intro k
  induction k with
  | zero => intro x fl a1 a2 a3; omega
  | succ k ih =>
    intro x fl a1 a2 a3
    have q1 : (nI (f + g) ≤ nI x) = (f + g ≤ x) := q_le (by omega) (by omega)
    rw [M_freeUnit_L53]
    simp only [q1]
    by_cases z : f + g ≤ x
    · rw [if_pos z]
      exact ⟨fl, rfl, fun hv => ⟨hv, fun y h1 h2 => by omega⟩, fun hv => hv.1⟩
    · obtain ⟨b1', b2, b3⟩ := hB.2 x a1 (by omega)
      have hb20 := hB.1
      have ix0 : ix (nI x) 200 = some x := ix_nI (by omega) (by decide)
      rw [if_neg z]
      simp only [ix0, bd_s, lt9, hE.mk_ (show x < cnt by omega), b1', if_true]
      rw [show nI x + 1 = nI (x + 1) from nI_1 _]
      have J0 : (if b1 fl = 0 then M_freeUnit_L53 n (nI t) m (nI u) (nI kk) (nI (f + g)) k 0 (nI (x + 1)) else M_freeUnit_L53 n (nI t) m (nI u) (nI kk) (nI (f + g)) k 1 (nI (x + 1))) = M_freeUnit_L53 n (nI t) m (nI u) (nI kk) (nI (f + g)) k (b1 fl) (nI (x + 1)) := by
        cases fl
        · rw [if_pos (show b1 false = 0 from rfl)]; rfl
        · rw [if_neg (show ¬ b1 true = 0 by decide)]; rfl
      have J1 : (if b1 fl = 0 then M_freeUnit_L53 n (nI t) m (nI u) (nI kk) (nI (f + g)) k 0 (nI (x + 1)) else if (1 : Int32) = 0 then M_freeUnit_L53 n (nI t) m (nI u) (nI kk) (nI (f + g)) k 1 (nI (x + 1)) else if nI (K x) = nI kk then (if gI m 141 0 x = nI u then M_freeUnit_L53 n (nI t) m (nI u) (nI kk) (nI (f + g)) k 0 (nI (x + 1)) else M_freeUnit_L53 n (nI t) m (nI u) (nI kk) (nI (f + g)) k 1 (nI (x + 1))) else M_freeUnit_L53 n (nI t) m (nI u) (nI kk) (nI (f + g)) k 1 (nI (x + 1))) = M_freeUnit_L53 n (nI t) m (nI u) (nI kk) (nI (f + g)) k (b1 (fl && !decide (K x = kk ∧ gI m 141 0 x = nI u))) (nI (x + 1)) := by
        have q2 : (nI (K x) = nI kk) = (K x = kk) := q_eq (by have := hE.lt4 x; omega) (by omega)
        cases fl
        · rw [if_pos (show b1 false = 0 from rfl)]; rfl
        · rw [if_neg (show ¬ b1 true = 0 by decide), if_neg (show ¬ (1 : Int32) = 0 by decide)]
          simp only [q2]
          by_cases y1 : K x = kk
          · rw [if_pos y1]
            by_cases y2 : gI m 141 0 x = nI u
            · rw [if_pos y2, decide_eq_true ⟨y1, y2⟩]; rfl
            · rw [if_neg y2, decide_eq_false (fun w => y2 w.2)]; rfl
          · rw [if_neg y1, decide_eq_false (fun w => y1 w.1)]; rfl
      rw [J0, J1]
      have idle : (bg x = 0 ∨ bg x - 1 + lat (K x) ≤ t) → ∃ v : Bool, M_freeUnit_L53 n (nI t) m (nI u) (nI kk) (nI (f + g)) k (b1 fl) (nI (x + 1)) = some (b1 v) ∧ (v = true ↔ fl = true ∧ ∀ y, x ≤ y → y < f + g → bg y ≠ 0 → K y = kk → un y = u → bg y - 1 + lat (K y) ≤ t) := by
        intro hi
        obtain ⟨v, v1, v2⟩ := ih (x + 1) fl (by omega) (by omega) (by omega)
        refine ⟨v, v1, fun hv => ⟨(v2.mp hv).1, fun y h1 h2 h3 h4 h5 => ?_⟩, fun hv => v2.mpr ⟨hv.1, fun y h1 h2 => hv.2 y (by omega) h2⟩⟩
        by_cases w : y = x
        · subst w
          rcases hi with hi | hi
          · exact absurd hi h3
          · exact hi
        · exact (v2.mp hv).2 y (by omega) h2 h3 h4 h5
      by_cases y0 : bg x = 0
      · rw [if_pos ((pm_neg (by omega)).mpr y0)]
        exact idle (Or.inl y0)
      · rw [if_neg (fun w => y0 ((pm_neg (by omega)).mp w)), hE.mend hB a1 (by omega) y0, bd_s]
        obtain ⟨s, hs⟩ : ∃ s, bg x = s + 1 := ⟨bg x - 1, by omega⟩
        have l4 := hE.lat4 x
        have q3 : (nI t < pm (bg x)) = False := by
          rw [hs, pm_s, q_lt (by omega) (by omega)]
          exact propext ⟨fun w => by omega, fun w => w.elim⟩
        have q4 : (nI (bg x - 1 + lat (K x)) ≤ nI t) = (bg x - 1 + lat (K x) ≤ t) := q_le (by omega) (by omega)
        simp only [q3, q4, if_false]
        by_cases y1 : bg x - 1 + lat (K x) ≤ t
        · rw [if_pos y1]
          exact idle (Or.inr y1)
        · rw [if_neg y1]
          obtain ⟨u1, u2⟩ := b3 y0
          have q5 : (gI m 141 0 x = nI u) = (un x = u) := by rw [u1]; exact q_eq (by omega) (by omega)
          simp only [q5]
          obtain ⟨v, v1, v2⟩ := ih (x + 1) (fl && !decide (K x = kk ∧ un x = u)) (by omega) (by omega) (by omega)
          refine ⟨v, v1, fun hv => ?_, fun hv => v2.mpr ⟨?_, fun y h1 h2 => hv.2 y (by omega) h2⟩⟩
          · obtain ⟨w1, w2⟩ := v2.mp hv
            rw [Bool.and_eq_true] at w1
            refine ⟨w1.1, fun y h1 h2 h3 h4 h5 => ?_⟩
            by_cases w : y = x
            · subst w
              rw [decide_eq_true ⟨h4, h5⟩] at w1
              exact absurd w1.2 (by decide)
            · exact w2 y (by omega) h2 h3 h4 h5
          · rw [Bool.and_eq_true]
            refine ⟨hv.1, ?_⟩
            rw [decide_eq_false (fun w => y1 (hv.2 x (Nat.le_refl _) (by omega) y0 w.1 w.2))]
            rfl
theorem m_fuL (hn : 800 ≤ n) (hE : EV c m q cnt B b f g lat mn K D) (hB : BG m f g bg un t) {kk : Nat} (hk : kk < 4) (hf : kk = 3 → ∃ u, u < 300 ∧ fru f g lat K bg un t kk u) : ∀ (k u : Nat), u < 300 → (∀ v, v < u → ¬ fru f g lat K bg un t kk v) → 300 - u < k →
    ∃ r z, M_freeUnit_L28 n (nI t) m (nI kk) (nI f) (nI (f + g)) k (nI u) = some r ∧ FUs f g lat mn K bg un t kk z ∧ (match r with | .inl a => a | .inr _ => -1) = pm z := by
  obtain ⟨e1, e2, e3⟩ := hE.size
  intro k
  induction k with
  | zero => intro u a1 a2 a3; omega
  | succ k ih =>
    intro u a1 a2 a3
    rw [M_freeUnit_L28]
    simp only [lt9]
    obtain ⟨v, v1, v2⟩ := m_fuIn (n := n) hE hB a1 hk n f true (Nat.le_refl _) (by omega) (by omega)
    have q1 : (nI kk = 3) = (kk = 3) := q_eq (b := 3) (by omega) (by decide)
    have vf : v = true ↔ fru f g lat K bg un t kk u := ⟨fun hv => (v2.mp hv).2, fun hv => v2.mpr ⟨rfl, hv⟩⟩
    rw [show (1 : Int32) = b1 true from rfl, v1, bd_s, show nI u + b1 true = nI (u + 1) from nI_1 _]
    simp only [b1_0, q1]
    have J : (kk = 3 ∨ u < mn kk) → ∃ r z, (if v = false then M_freeUnit_L28 n (nI t) m (nI kk) (nI f) (nI (f + g)) k (nI (u + 1)) else some (Sum.inl (nI u))) = some r ∧ FUs f g lat mn K bg un t kk z ∧ (match r with | .inl a => a | .inr _ => -1) = pm z := by
      intro hk3
      cases hv : v with
      | false =>
        rw [if_pos rfl]
        have hnf : ¬ fru f g lat K bg un t kk u := fun w => by rw [vf.mpr w] at hv; exact absurd hv (by decide)
        have n4 : kk < 3 → mn kk ≤ 4 := fun w => (hE.2.1.2.1 kk w).2.2.2
        refine ih (u + 1) ?_ (fun w hw => ?_) (by omega)
        · rcases hk3 with h3 | h3
          · obtain ⟨u0, p1, p2⟩ := hf h3
            have : ¬ u0 < u := fun w => a2 u0 w p2
            have : u0 ≠ u := fun w => hnf (w ▸ p2)
            omega
          · by_cases w3 : kk = 3
            · obtain ⟨u0, p1, p2⟩ := hf w3
              have : ¬ u0 < u := fun w => a2 u0 w p2
              have : u0 ≠ u := fun w => hnf (w ▸ p2)
              omega
            · have := n4 (by omega)
              omega
        · by_cases w' : w = u
          · rw [w']; exact hnf
          · exact a2 w (by omega)
      | true =>
        rw [if_neg (by decide)]
        exact ⟨_, u + 1, rfl, Or.inr ⟨u, rfl, a1, hk3, vf.mp hv, a2⟩, pm_s.symm⟩
    by_cases z3 : kk = 3
    · rw [if_pos z3]
      exact J (Or.inl z3)
    · have m3 := hE.2.1.2.1 kk (by omega)
      rw [if_neg z3, ix_nI (N := 3) (by omega) (by decide), bd_s, m3.2.1]
      have q2 : (nI (mn kk) ≤ nI u) = (mn kk ≤ u) := q_le (by omega) (by omega)
      simp only [q2]
      by_cases zz : mn kk ≤ u
      · rw [if_pos zz]
        exact ⟨_, 0, rfl, Or.inl ⟨rfl, z3, fun w hw => a2 w (by omega)⟩, rfl⟩
      · rw [if_neg zz]
        exact J (Or.inr (by omega))
theorem m_free (hn : 800 ≤ n) (hE : EV c m q cnt B b f g lat mn K D) (hB : BG m f g bg un t) {j : Nat} (h1 : f ≤ j) (h2 : j < f + g) (hf : K j = 3 → ∃ u, u < 300 ∧ fru f g lat K bg un t (K j) u) : ∃ z, M_freeUnit n (nI j) (nI b) (nI t) m = some (pm z) ∧ FUs f g lat mn K bg un t (K j) z := by
  obtain ⟨e1, e2, e3⟩ := hE.size
  obtain ⟨r, z, r1, r2, r3⟩ := m_fuL (n := n) hn hE hB (hE.lt4 j) hf n 0 (by decide) (fun v hv => by omega) (by omega)
  rw [nI_0] at r1
  refine ⟨z, ?_, r2⟩
  rw [M_freeUnit, ix_nI (N := 200) (by omega) (by decide), bd_s, hE.mk_ (by omega), bd_s, m_first hn hE.1 hE.2.2.1, m_behind hn hE.1 hE.2.2.1, if_neg (by omega), if_neg (by omega), bd_s, bd_s, r1, bd_s]
  cases r with
  | inl a => exact congrArg some r3
  | inr a => exact congrArg some r3
theorem m_rdyL (hE : EV c m q cnt B b f g lat mn K D) (hB : BG m f g bg un t) {j : Nat} (h1 : f ≤ j) (h2 : j < f + g) : ∀ (k x : Nat), f ≤ x → x ≤ j → j - x < k →
    ∃ r, M_isReady_L7 n (nI j) (nI t) m k (nI x) = some r ∧ (r = .inr () ↔ ∀ y, x ≤ y → y < j → D j y = true → bg y ≠ 0 ∧ bg y - 1 + lat (K y) ≤ t) := by
  obtain ⟨e1, e2, e3⟩ := hE.size
  intro k
  induction k with
  | zero => intro x a1 a2 a3; omega
  | succ k ih =>
    intro x a1 a2 a3
    have q1 : (nI j ≤ nI x) = (j ≤ x) := q_le (by omega) (by omega)
    rw [M_isReady_L7]
    simp only [q1]
    by_cases z : j ≤ x
    · rw [if_pos z]
      exact ⟨_, rfl, fun _ y y1 y2 => by omega, fun _ => rfl⟩
    · rw [if_neg z, m_cb hE.1 (by omega) (by omega), bd_s, hE.2.2.2.2.1]
      simp only [b1_0]
      rw [show nI x + 1 = nI (x + 1) from nI_1 _]
      obtain ⟨r, r1, r2⟩ := ih (x + 1) (by omega) (by omega) (by omega)
      obtain ⟨b1', b2, b3⟩ := hB.2 x a1 (by omega)
      have hb20 := hB.1
      by_cases y : D j x = false
      · rw [if_pos y]
        refine ⟨r, r1, fun hr w w1 w2 w3 => ?_, fun hr => r2.mpr (fun w w1 w2 => hr w (by omega) w2)⟩
        by_cases wx : w = x
        · subst wx
          rw [y] at w3
          exact absurd w3 (by decide)
        · exact r2.mp hr w (by omega) w2 w3
      · have y' : D j x = true := by
          cases e : D j x with
          | true => rfl
          | false => exact absurd e y
        rw [if_neg y, ix_nI (N := 200) (by omega) (by decide), bd_s, b1']
        by_cases y0 : bg x = 0
        · rw [if_pos ((pm_neg (by omega)).mpr y0)]
          exact ⟨_, rfl, fun w => (nomatch w), fun hr => absurd y0 (hr x (Nat.le_refl _) (by omega) y').1⟩
        · rw [if_neg (fun w => y0 ((pm_neg (by omega)).mp w)), hE.mend hB a1 (by omega) y0, bd_s]
          have l4 := hE.lat4 x
          have q4 : (nI (bg x - 1 + lat (K x)) ≤ nI t) = (bg x - 1 + lat (K x) ≤ t) := q_le (by omega) (by omega)
          simp only [q4]
          by_cases y1 : bg x - 1 + lat (K x) ≤ t
          · rw [if_pos y1]
            refine ⟨r, r1, fun hr w w1 w2 w3 => ?_, fun hr => r2.mpr (fun w w1 w2 => hr w (by omega) w2)⟩
            by_cases wx : w = x
            · subst wx; exact ⟨y0, y1⟩
            · exact r2.mp hr w (by omega) w2 w3
          · rw [if_neg y1]
            exact ⟨_, rfl, fun w => (nomatch w), fun hr => absurd (hr x (Nat.le_refl _) (by omega) y').2 y1⟩
theorem m_rdy (hn : 800 ≤ n) (hE : EV c m q cnt B b f g lat mn K D) (hB : BG m f g bg un t) {j : Nat} (h1 : f ≤ j) (h2 : j < f + g) : ∃ v : Bool, M_isReady n (nI j) (nI b) (nI t) m = some (b1 v) ∧ (v = true ↔ rdy f lat K D bg t j) := by
  obtain ⟨e1, e2, e3⟩ := hE.size
  obtain ⟨r, r1, r2⟩ := m_rdyL (n := n) hE hB h1 h2 n f (Nat.le_refl _) h1 (by omega)
  rw [M_isReady, m_first hn hE.1 hE.2.2.1, if_neg (by omega), bd_s, r1, bd_s]
  cases r with
  | inl a => exact ⟨false, rfl, fun w => absurd w (by decide), fun w => nomatch (r2.mpr w)⟩
  | inr a => exact ⟨true, rfl, fun _ => r2.mp rfl, fun _ => rfl⟩
/-- the best below x -/
def bst (f g : Nat) (lat mn K h : Nat → Nat) (D : Nat → Nat → Bool) (bg un : Nat → Nat) (t x s z : Nat) : Prop := (s = 0 ∧ ∀ j y, f ≤ j → j < x → ¬ can f g lat mn K D bg un t j y) ∨ ∃ j0 w, s = j0 + 1 ∧ z = w + 1 ∧ f ≤ j0 ∧ j0 < x ∧ can f g lat mn K D bg un t j0 w ∧ ∀ j y, f ≤ j → j < x → can f g lat mn K D bg un t j y → j = j0 ∨ btr h j0 j
theorem m_bestL (hn : 800 ≤ n) (hE : EV c m q cnt B b f g lat mn K D) (hB : BG m f g bg un t) (hh : ∀ o, f ≤ o → o < f + g → gI m 139 0 o = nI (h o) ∧ h o < 2000) (hf : ∃ u, u < 300 ∧ fru f g lat K bg un t 3 u) : ∀ (k x s z : Nat), f ≤ x → x ≤ f + g → bst f g lat mn K h D bg un t x s z → f + g - x < k →
    ∃ s' z', M_beginOne_L19 n (nI b) (nI t) m (nI (f + g)) k (pm s) (pm z) (nI x) = some (pm s', pm z') ∧ bst f g lat mn K h D bg un t (f + g) s' z' := by
  obtain ⟨e1, e2, e3⟩ := hE.size
  have hb20 := hB.1
  intro k
  induction k with
  | zero => intro x s z a1 a2 a3 a4; omega
  | succ k ih =>
    intro x s z a1 a2 a3 a4
    have q1 : (nI (f + g) ≤ nI x) = (f + g ≤ x) := q_le (by omega) (by omega)
    rw [M_beginOne_L19]
    simp only [q1]
    by_cases zz : f + g ≤ x
    · rw [if_pos zz]
      have : x = f + g := by omega
      subst this
      exact ⟨s, z, rfl, a3⟩
    · rw [if_neg zz]
      obtain ⟨b1', b2, b3⟩ := hB.2 x a1 (by omega)
      obtain ⟨h1, h2⟩ := hh x a1 (by omega)
      obtain ⟨z', f1, f2⟩ := m_free hn hE hB a1 (show x < f + g by omega) (fun w => by rw [w]; exact hf)
      obtain ⟨v, v1, v2⟩ := m_rdy hn hE hB a1 (show x < f + g by omega)
      have ix0 : ix (nI x) 200 = some x := ix_nI (by omega) (by decide)
      simp only [ix0, bd_s, lt9, b1', v1, f1, h1, if_true]
      rw [show nI x + 1 = nI (x + 1) from nI_1 _]
      have p0 := pm_0le (show bg x < 2 ^ 30 by omega)
      have hz' : z' < 2 ^ 30 := by
        rcases f2 with f2 | ⟨w, w1, w2, -⟩ <;> omega
      have p9 := pm_neg hz'
      -- the same best goes on
      have keep : (∀ y, can f g lat mn K D bg un t x y → ∃ j0, s = j0 + 1 ∧ btr h j0 x) → ∃ s' z', M_beginOne_L19 n (nI b) (nI t) m (nI (f + g)) k (pm s) (pm z) (nI (x + 1)) = some (pm s', pm z') ∧ bst f g lat mn K h D bg un t (f + g) s' z' := by
        intro hno
        refine ih (x + 1) s z (by omega) (by omega) ?_ (by omega)
        rcases a3 with ⟨p1, p2⟩ | ⟨j0, w, p1, p2, p3, p4, p5, p6⟩
        · refine Or.inl ⟨p1, fun j y j1 j2 hc => ?_⟩
          by_cases jx : j = x
          · subst jx
            obtain ⟨j0, w1, -⟩ := hno y hc
            omega
          · exact p2 j y j1 (by omega) hc
        · refine Or.inr ⟨j0, w, p1, p2, p3, by omega, p5, fun j y j1 j2 hc => ?_⟩
          by_cases jx : j = x
          · subst jx
            obtain ⟨j0', w1, w2⟩ := hno y hc
            have : j0' = j0 := by omega
            subst this
            exact Or.inr w2
          · exact p6 j y j1 (by omega) hc
      have nc : (bg x ≠ 0 ∨ v = false ∨ z' = 0) → ∀ y, ¬ can f g lat mn K D bg un t x y := by
        intro hh y hc
        rcases hh with hh | hh | hh
        · exact hh hc.1
        · rw [v2.mpr hc.2.1] at hh
          exact absurd hh (by decide)
        · have := hc.2.2.uq f2
          omega
      -- taken where it is higher
      have J1 : (s = 0 ∨ ∃ j0, s = j0 + 1 ∧ h j0 < h x) → ∃ s' z'', (if 0 ≤ pm (bg x) then M_beginOne_L19 n (nI b) (nI t) m (nI (f + g)) k (pm s) (pm z) (nI (x + 1)) else if (1 : Int32) = 0 then M_beginOne_L19 n (nI b) (nI t) m (nI (f + g)) k (pm s) (pm z) (nI (x + 1)) else if b1 v = 0 then M_beginOne_L19 n (nI b) (nI t) m (nI (f + g)) k (pm s) (pm z) (nI (x + 1)) else if pm z' < 0 then M_beginOne_L19 n (nI b) (nI t) m (nI (f + g)) k (pm s) (pm z) (nI (x + 1)) else M_beginOne_L19 n (nI b) (nI t) m (nI (f + g)) k (nI x) (pm z') (nI (x + 1))) = some (pm s', pm z'') ∧ bst f g lat mn K h D bg un t (f + g) s' z'' := by
        intro hs
        rw [if_neg (show ¬ (1 : Int32) = 0 by decide)]
        by_cases y1 : bg x ≠ 0
        · rw [if_pos (p0.mpr y1)]
          exact keep (fun y hc => absurd hc (nc (Or.inl y1) y))
        · rw [if_neg (fun w => y1 (p0.mp w))]
          by_cases y2 : v = false
          · rw [if_pos (b1_0.mpr y2)]
            exact keep (fun y hc => absurd hc (nc (Or.inr (Or.inl y2)) y))
          · rw [if_neg (fun w => y2 (b1_0.mp w))]
            by_cases y3 : z' = 0
            · rw [if_pos (p9.mpr y3)]
              exact keep (fun y hc => absurd hc (nc (Or.inr (Or.inr y3)) y))
            · rw [if_neg (fun w => y3 (p9.mp w)), show nI x = pm (x + 1) from pm_s.symm]
              have hc : can f g lat mn K D bg un t x (z' - 1) := by
                refine ⟨by omega, v2.mp ?_, ?_⟩
                · cases e : v with
                  | true => rfl
                  | false => exact absurd e y2
                · rw [show z' - 1 + 1 = z' by omega]; exact f2
              refine ih (x + 1) (x + 1) z' (by omega) (by omega) (Or.inr ⟨x, z' - 1, rfl, by omega, a1, by omega, hc, fun j y j1 j2 hcj => ?_⟩) (by omega)
              by_cases jx : j = x
              · exact Or.inl jx
              · rcases a3 with ⟨p1, p2⟩ | ⟨j0, w, p1, p2, p3, p4, p5, p6⟩
                · exact absurd hcj (p2 j y j1 (by omega))
                · rcases hs with hs | ⟨j0', hs, hlt⟩
                  · omega
                  · have : j0' = j0 := by omega
                    subst this
                    rcases p6 j y j1 (by omega) hcj with e | e
                    · subst e
                      exact Or.inr (Or.inl hlt)
                    · right
                      unfold btr at *
                      omega
      have J0 : (if 0 ≤ pm (bg x) then M_beginOne_L19 n (nI b) (nI t) m (nI (f + g)) k (pm s) (pm z) (nI (x + 1)) else M_beginOne_L19 n (nI b) (nI t) m (nI (f + g)) k (pm s) (pm z) (nI (x + 1))) = M_beginOne_L19 n (nI b) (nI t) m (nI (f + g)) k (pm s) (pm z) (nI (x + 1)) := by
        rw [ite_self]
      rw [J0]
      have hs30 : s < 2 ^ 30 := by
        rcases a3 with a3 | ⟨j0, w, w1, w2, w3, w4, -⟩ <;> omega
      by_cases y0 : s = 0
      · rw [if_pos ((pm_neg hs30).mpr y0)]
        exact J1 (Or.inl y0)
      · rw [if_neg (fun w => y0 ((pm_neg hs30).mp w))]
        rcases a3 with a3 | ⟨j0, w, w1, w2, w3, w4, w5, w6⟩
        · exact absurd a3.1 y0
        · obtain ⟨g1, g2⟩ := hh j0 w3 (by omega)
          have q5 : (nI (h x) ≤ nI (h j0)) = (h x ≤ h j0) := q_le (by omega) (by omega)
          rw [show pm s = nI j0 from by rw [w1, pm_s], ix_nI (N := 200) (by omega) (by decide), bd_s, g1, show nI j0 = pm s from by rw [w1, pm_s]]
          simp only [q5]
          by_cases y1 : h x ≤ h j0
          · rw [if_pos y1]
            refine keep (fun y hc => ⟨j0, w1, ?_⟩)
            unfold btr
            omega
          · rw [if_neg y1]
            exact J1 (Or.inr ⟨j0, w1, by omega⟩)
theorem m_begin (hn : 800 ≤ n) (hE : EV c m q cnt B b f g lat mn K D) (hB : BG m f g bg un t) (hh : ∀ o, f ≤ o → o < f + g → gI m 139 0 o = nI (h o) ∧ h o < 2000) (hf : ∃ u, u < 300 ∧ fru f g lat K bg un t 3 u) : (M_beginOne n (nI b) (nI t) m = some (0, m) ∧ ∀ j y, f ≤ j → j < f + g → ¬ can f g lat mn K D bg un t j y) ∨ ∃ j0 w, M_beginOne n (nI b) (nI t) m = some (1, sI (sI m 140 0 j0 (nI t)) 141 0 j0 (nI w)) ∧ f ≤ j0 ∧ j0 < f + g ∧ can f g lat mn K D bg un t j0 w ∧ ∀ j y, f ≤ j → j < f + g → can f g lat mn K D bg un t j y → j = j0 ∨ btr h j0 j := by
  obtain ⟨e1, e2, e3⟩ := hE.size
  obtain ⟨s, z, r1, r2⟩ := m_bestL (n := n) hn hE hB hh hf n f 0 0 (Nat.le_refl _) (by omega) (Or.inl ⟨rfl, fun j y j1 j2 => by omega⟩) (by omega)
  have r1' : M_beginOne_L19 n (nI b) (nI t) m (nI (f + g)) n (-1) (-1) (nI f) = some (pm s, pm z) := r1
  rw [M_beginOne, m_first hn hE.1 hE.2.2.1, m_behind hn hE.1 hE.2.2.1, if_neg (by omega), if_neg (by omega), bd_s, bd_s, r1', bd_s]
  rcases r2 with ⟨p1, p2⟩ | ⟨j0, w, p1, p2, p3, p4, p5, p6⟩
  · subst p1
    exact Or.inl ⟨if_neg (show ¬ (0 : Int32) ≤ pm 0 by decide), p2⟩
  · subst p1
    subst p2
    refine Or.inr ⟨j0, w, ?_, p3, p4, p5, p6⟩
    dsimp only
    rw [if_pos ((pm_0le (by omega)).mpr (by omega)), pm_s, pm_s, ix_nI (N := 200) (by omega) (by decide), bd_s]
    simp only [lt9, bd_s]
end LB
