/-! ===== PURE: laying: who begins next (class) ===== -/
def upN (v : Nat → Nat) (o a : Nat) : Nat → Nat := fun x => if x = o then a else v x
theorem upN_s {v : Nat → Nat} {o a : Nat} : upN v o a o = a := if_pos rfl
theorem upN_n {v : Nat → Nat} {o a x : Nat} (h : x ≠ o) : upN v o a x = v x := if_neg h
theorem cq_cg {P P' : Nat → Bool} {lo : Nat} : ∀ h, (∀ x, lo ≤ x → x < h → P x = P' x) → cq P lo h = cq P' lo h := by
  intro h
  induction h with
  | zero => intro _; rfl
  | succ h ih =>
    intro e
    unfold cq
    rw [ih (fun x h1 h2 => e x h1 (by omega))]
    by_cases z : lo ≤ h
    · rw [e h z (by omega)]
    · rw [if_neg (fun w => z w.1), if_neg (fun w => z w.1)]
theorem cq_dn {P P' : Nat → Bool} {lo o : Nat} (hx : ∀ x, x ≠ o → P x = P' x) (h1 : P o = true) (h2 : P' o = false) (h3 : lo ≤ o) : ∀ h, o < h → cq P lo h = cq P' lo h + 1 := by
  intro h
  induction h with
  | zero => intro _; omega
  | succ h ih =>
    intro e
    unfold cq
    by_cases z : o = h
    · subst z
      rw [cq_cg o (fun x _ h2 => hx x (by omega)), if_pos ⟨h3, h1⟩, if_neg (fun w => by rw [h2] at w; exact absurd w.2 (by decide))]
    · rw [ih (by omega), hx h (fun w => z w.symm)]
      omega
theorem cq_0 {P : Nat → Bool} {lo : Nat} : ∀ h, cq P lo h = 0 ↔ ∀ x, lo ≤ x → x < h → P x = false := by
  intro h
  induction h with
  | zero => exact ⟨fun _ x _ h2 => by omega, fun _ => rfl⟩
  | succ h ih =>
    unfold cq
    by_cases z : lo ≤ h ∧ P h = true
    · rw [if_pos z]
      refine ⟨fun w => by omega, fun w => ?_⟩
      rw [w h z.1 (by omega)] at z
      exact absurd z.2 (by decide)
    · rw [if_neg z, Nat.add_zero, ih]
      refine ⟨fun w x h1 h2 => ?_, fun w x h1 h2 => w x h1 (by omega)⟩
      by_cases y : x = h
      · subst y
        exact bool_f (fun e => z ⟨h1, e⟩)
      · exact w x h1 (by omega)
/-- r is the last end of those begun in S -/
def MX (r : Nat) (bg l : Nat → Nat) (S : Nat → Prop) : Prop := r < 2 ^ 20 ∧ ∀ y, r ≤ y ↔ ∀ x, S x → bg x ≠ 0 → bg x - 1 + l x ≤ y
theorem MX.in_ {r o t : Nat} {bg l : Nat → Nat} {S S' : Nat → Prop} (h : MX r bg l S) (h0 : bg o = 0) (hS : ∀ x, x ≠ o → (S' x ↔ S x)) (ho : S' o) (ht : t + l o < 2 ^ 20) : MX (max r (t + l o)) (upN bg o (t + 1)) l S' := by
  refine ⟨by have := h.1; omega, fun y => ⟨fun hy x hx h1 => ?_, fun hy => ?_⟩⟩
  · by_cases z : x = o
    · subst z
      rw [upN_s]
      omega
    · rw [upN_n z] at h1 ⊢
      exact (h.2 y).mp (by omega) x ((hS x z).mp hx) h1
  · have e1 : r ≤ y := (h.2 y).mpr (fun x hx h1 => by
      have z : x ≠ o := fun w => h1 (w ▸ h0)
      have := hy x ((hS x z).mpr hx)
      rw [upN_n z] at this
      exact this h1)
    have e2 := hy o ho
    rw [upN_s] at e2
    have := e2 (by omega)
    omega
theorem MX.out {r o t : Nat} {bg l : Nat → Nat} {S S' : Nat → Prop} (h : MX r bg l S) (h0 : bg o = 0) (hS : ∀ x, x ≠ o → (S' x ↔ S x)) (ho : ¬ S' o) : MX r (upN bg o (t + 1)) l S' := by
  refine ⟨h.1, fun y => ⟨fun hy x hx h1 => ?_, fun hy => (h.2 y).mpr (fun x hx h1 => ?_)⟩⟩
  · have z : x ≠ o := fun w => ho (w ▸ hx)
    rw [upN_n z] at h1 ⊢
    exact (h.2 y).mp hy x ((hS x z).mp hx) h1
  · have z : x ≠ o := fun w => h1 (w ▸ h0)
    have := hy x ((hS x z).mpr hx)
    rw [upN_n z] at this
    exact this h1
/-- the class's state of laying: each operation -/
def SCo (c : Mem) (q f : Nat) (lat K : Nat → Nat) (D : Nat → Nat → Bool) (bg un : Nat → Nat) (t o : Nat) : Prop := gI c 3 (200 * q + o) 9 = pm (bg o) ∧ bg o ≤ t + 1 ∧ (bg o ≠ 0 → gI c 3 (200 * q + o) 10 = nI (un o) ∧ un o < 300) ∧ gI c 3 (200 * q + o) 7 = nI (lat (K o)) ∧ gI c 3 (200 * q + o) 12 = nI (cq (fun x => D o x && decide (bg x = 0)) f o) ∧ ∃ r, gI c 3 (200 * q + o) 13 = nI r ∧ MX r bg (fun x => lat (K x)) (fun x => f ≤ x ∧ x < o ∧ D o x = true)
def SC (c : Mem) (q b f g : Nat) (lat K : Nat → Nat) (D : Nat → Nat → Bool) (bg un : Nat → Nat) (t left : Nat) : Prop := (∀ o, f ≤ o → o < f + g → SCo c q f lat K D bg un t o) ∧ (∀ k u, k < 3 → u < 4 → ∃ F, gI c 25 0 (4 * k + u) = nI F ∧ MX F bg (fun x => lat (K x)) (fun x => (f ≤ x ∧ x < f + g) ∧ K x = k ∧ un x = u)) ∧ (∃ E, gI c 0 (175 * q + b) 6 = nI (max 1 E) ∧ MX E bg (fun x => lat (K x)) (fun x => f ≤ x ∧ x < f + g)) ∧ left = cq (fun x => decide (bg x = 0)) f (f + g) ∧ left ≤ g ∧ (∀ x, f ≤ x → x < f + g → bg x ≠ 0 → bg x - 1 + lat (K x) ≤ 4 * (g - left)) ∧ t ≤ 4 * (g - left)
def MV (c : Mem) (f g : Nat) (K bg un : Nat → Nat) (t mv left : Nat) : Prop := gI c 1 0 5 = nI mv ∧ (∀ u, u < mv ↔ ∃ x, f ≤ x ∧ x < f + g ∧ bg x = t + 1 ∧ K x = 3 ∧ un x = u) ∧ mv + left ≤ g
section LC
variable {n q cnt B b f g t left mv : Nat} {c m : Mem} {lat mn K bg un h : Nat → Nat} {D : Nat → Nat → Bool}
theorem SC.fu (hS : SC c q b f g lat K D bg un t left) {k u y : Nat} (hk : k < 3) (hu : u < 4) : ∃ F, gI c 25 0 (4 * k + u) = nI F ∧ F < 2 ^ 20 ∧ (F ≤ y ↔ fru f g lat K bg un y k u) := by
  obtain ⟨F, f1, f2, f3⟩ := hS.2.1 k u hk hu
  refine ⟨F, f1, f2, (f3 y).trans ⟨fun w x h1 h2 h3 h4 h5 => w x ⟨⟨h1, h2⟩, h4, h5⟩ h3, fun w x h1 h3 => w x h1.1.1 h1.1.2 h3 h1.2.1 h1.2.2⟩⟩
theorem SC.rd (hS : SC c q b f g lat K D bg un t left) {o : Nat} (h1 : f ≤ o) (h2 : o < f + g) : ∃ r, gI c 3 (200 * q + o) 13 = nI r ∧ r < 2 ^ 20 ∧ (rdy f lat K D bg t o ↔ cq (fun x => D o x && decide (bg x = 0)) f o = 0 ∧ r ≤ t) := by
  obtain ⟨-, -, -, -, s5, r, s6, s7, s8⟩ := hS.1 o h1 h2
  refine ⟨r, s6, s7, ?_⟩
  rw [s8 t, cq_0]
  refine ⟨fun w => ⟨fun x x1 x2 => ?_, fun x x1 x2 => (w x x1.1 x1.2.1 x1.2.2).2⟩, fun w x x1 x2 x3 => ?_⟩
  · cases e : D o x with
    | false => rfl
    | true =>
      rw [decide_eq_false (w x x1 x2 e).1]
      rfl
  · have := w.1 x x1 x2
    rw [x3, Bool.true_and] at this
    have e := of_decide_eq_false this
    exact ⟨e, w.2 x ⟨x1, x2, x3⟩ e⟩
theorem MV.fu (hV : MV c f g K bg un t mv left) (hg : g ≤ 200) (hl : lat 3 = 1) (hb : ∀ o, f ≤ o → o < f + g → bg o ≤ t + 1) : FUs f g lat mn K bg un t 3 (mv + 1) := by
  obtain ⟨v1, v2, v3⟩ := hV
  refine Or.inr ⟨mv, rfl, by omega, Or.inl rfl, fun x h1 h2 h3 h4 h5 => ?_, fun v hv hf => ?_⟩
  · have := hb x h1 h2
    rw [h4, hl]
    by_cases z : bg x = t + 1
    · have := (v2 mv).mpr ⟨x, h1, h2, z, h4, h5⟩
      omega
    · omega
  · obtain ⟨x, x1, x2, x3, x4, x5⟩ := (v2 v).mp hv
    have := hf x x1 x2 (by omega) x4 x5
    rw [x4, hl] at this
    omega
theorem r_freeL (hn : 800 ≤ n) (hE : EV c m q cnt B b f g lat mn K D) (hS : SC c q b f g lat K D bg un t left) (ht : t < 2 ^ 20) {kk : Nat} (hk : kk < 3) : ∀ (k u : Nat), u ≤ mn kk → (∀ v, v < u → ¬ fru f g lat K bg un t kk v) → mn kk - u < k →
    ∃ r z, Ly_freeUnit_L2 n (nI kk) (nI t) c k (nI u) = some r ∧ FUs f g lat mn K bg un t kk z ∧ (match r with | .inl a => a | .inr _ => -1) = pm z := by
  obtain ⟨l1, l2, l3, l4⟩ := hE.2.1.2.1 kk hk
  intro k
  induction k with
  | zero => intro u a1 a2 a3; omega
  | succ k ih =>
    intro u a1 a2 a3
    have q1 : (nI (mn kk) ≤ nI u) = (mn kk ≤ u) := q_le (by omega) (by omega)
    rw [Ly_freeUnit_L2, ix_nI (N := 3) hk (by decide), bd_s, l1]
    simp only [q1]
    by_cases z : mn kk ≤ u
    · rw [if_pos z]
      exact ⟨_, 0, rfl, Or.inl ⟨rfl, by omega, fun v hv => a2 v (by omega)⟩, rfl⟩
    · obtain ⟨F, f1, f2, f3⟩ := hS.fu (y := t) hk (show u < 4 by omega)
      have q2 : (nI t < nI F) = (t < F) := q_lt (by omega) (by omega)
      rw [if_neg z, show nI kk * 4 + nI u = nI (4 * kk + u) from by rw [show (4 : Int32) = nI 4 from rfl, pk_mul, nI_add, Nat.mul_comm], ix_nI (N := 12) (by omega) (by decide), bd_s, f1]
      simp only [q2]
      rw [show nI u + 1 = nI (u + 1) from nI_1 _]
      by_cases y : t < F
      · rw [if_pos y]
        refine ih (u + 1) (by omega) (fun v hv => ?_) (by omega)
        by_cases w : v = u
        · subst w
          exact fun w => by have := f3.mpr w; omega
        · exact a2 v (by omega)
      · rw [if_neg y]
        exact ⟨_, u + 1, rfl, Or.inr ⟨u, rfl, by omega, Or.inr (by omega), f3.mp (by omega), a2⟩, pm_s.symm⟩
theorem r_free (hn : 800 ≤ n) (hE : EV c m q cnt B b f g lat mn K D) (hS : SC c q b f g lat K D bg un t left) (ht : t < 2 ^ 20) {kk : Nat} (hk : kk < 3) : ∃ z, Ly_freeUnit n (nI kk) (nI t) c = some (pm z) ∧ FUs f g lat mn K bg un t kk z := by
  have m4 := (hE.2.1.2.1 kk hk).2.2.2
  obtain ⟨r, z, r1, r2, r3⟩ := r_freeL (n := n) hn hE hS ht hk n 0 (Nat.zero_le _) (fun v hv => by omega) (by omega)
  rw [nI_0] at r1
  refine ⟨z, ?_, r2⟩
  rw [Ly_freeUnit, r1, bd_s]
  cases r with
  | inl a => exact congrArg some r3
  | inr a => exact congrArg some r3
/-- o begins at t on unit w -/
def cBeg (c : Mem) (q t o w k l mv : Nat) : Mem := if k = 3 then sI (sI (sI c 3 (200 * q + o) 9 (nI t)) 3 (200 * q + o) 10 (nI w)) 1 0 5 (nI (mv + 1)) else sI (sI (sI c 3 (200 * q + o) 9 (nI t)) 3 (200 * q + o) 10 (nI w)) 25 0 (4 * k + w) (nI (t + l))
theorem r_begins (hn : 800 ≤ n) (hE : EV c m q cnt B b f g lat mn K D) (hS : SC c q b f g lat K D bg un t left) (hV : MV c f g K bg un t mv left) {o : Nat} (h1 : f ≤ o) (h2 : o < f + g) : (Ly_begins n (200 * q + o) (nI t) c = some (0, c) ∧ ∀ w, ¬ can f g lat mn K D bg un t o w) ∨ ∃ w, can f g lat mn K D bg un t o w ∧ Ly_begins n (200 * q + o) (nI t) c = some (1, cBeg c q t o w (K o) (lat (K o)) mv) ∧ (K o = 3 → w = mv) ∧ (K o ≠ 3 → w < mn (K o)) := by
  obtain ⟨e1, e2, e3⟩ := hE.size
  obtain ⟨s1, s2, s3, s4, s5, -⟩ := hS.1 o h1 h2
  obtain ⟨r, r1, r2, r3⟩ := hS.rd h1 h2
  have t8 : t ≤ 800 := by
    have := hS.2.2.2.2.2.2
    omega
  have k4 := hE.lt4 o
  have kdo : gI c 3 (200 * q + o) 2 = nI (K o) := by
    rw [(hE.1.2.1 o (by omega)).2.1, kd_kn, hE.2.2.2.2.2 o]
  rw [Ly_begins, Op_hasBegun, s1]
  have p1 := pm_m1 (x := bg o) (by omega)
  by_cases y0 : bg o = 0
  · rw [if_pos (p1.mpr y0), bd_s, if_pos rfl, s5]
    have c200 : cq (fun x => D o x && decide (bg x = 0)) f o ≤ 200 := Nat.le_trans (cq_le _ _ _) (by omega)
    have q1 : (0 < nI (cq (fun x => D o x && decide (bg x = 0)) f o)) = (0 < cq (fun x => D o x && decide (bg x = 0)) f o) := by
      have := q_lt (a := 0) (b := cq (fun x => D o x && decide (bg x = 0)) f o) (by decide) (by omega)
      rw [nI_0] at this
      exact this
    have q2 : (nI r ≤ nI t) = (r ≤ t) := q_le (by omega) (by omega)
    rw [r1]
    simp only [q1, q2]
    by_cases y1 : 0 < cq (fun x => D o x && decide (bg x = 0)) f o
    · rw [if_pos y1]
      exact Or.inl ⟨rfl, fun w hc => by have := (r3.mp hc.2.1).1; omega⟩
    · rw [if_neg y1]
      by_cases y2 : r ≤ t
      · rw [if_pos y2, kdo]
        have rd : rdy f lat K D bg t o := r3.mpr ⟨by omega, y2⟩
        have q3 : (nI (K o) = 3) = (K o = 3) := q_eq (b := 3) (by omega) (by decide)
        have k2 : ∀ v w, gI (sI (sI c 3 (200 * q + o) 9 v) 3 (200 * q + o) 10 w) 3 (200 * q + o) 2 = nI (K o) := fun v w => by
          rw [gn_I (by omega), gn_I (by omega)]; exact kdo
        have k5 : ∀ v w, gI (sI (sI c 3 (200 * q + o) 9 v) 3 (200 * q + o) 10 w) 1 0 5 = nI mv := fun v w => hV.1
        simp only [lt9, k2, k5, q3]
        by_cases y3 : K o = 3
        · rw [if_pos y3, hV.1, if_neg (nI_nm (by have := hV.2.2; omega)), if_pos y3, show nI mv + 1 = nI (mv + 1) from nI_1 _]
          refine Or.inr ⟨mv, ⟨y0, rd, ?_⟩, ?_, fun _ => rfl, fun w => absurd y3 w⟩
          · rw [y3]
            exact hV.fu (by omega) hE.2.1.2.2 (fun o h1 h2 => (hS.1 o h1 h2).2.1)
          · unfold cBeg
            rw [if_pos y3]
        · rw [if_neg y3]
          obtain ⟨z, z1, z2⟩ := r_free (n := n) hn hE hS (by omega) (show K o < 3 by omega)
          rw [z1, bd_s]
          have hz : z < 2 ^ 30 := by rcases z2 with z2 | ⟨w, w1, w2, -⟩ <;> omega
          by_cases y4 : z = 0
          · rw [if_pos ((pm_m1 hz).mpr y4)]
            exact Or.inl ⟨rfl, fun w hc => by have := hc.2.2.uq z2; omega⟩
          · rcases z2 with z2 | ⟨w, w1, w2, w3, w4, w5⟩
            · exact absurd z2.1 y4
            · have wm : w < mn (K o) := by
                rcases w3 with w3 | w3
                · exact absurd w3 y3
                · exact w3
              have m4 := (hE.2.1.2.1 (K o) (by omega)).2.2.2
              rw [if_neg (fun w => y4 ((pm_m1 hz).mp w)), if_neg y3, w1, pm_s]
              have ek : nI (K o) * 4 + nI w = nI (4 * K o + w) := by rw [show (4 : Int32) = nI 4 from rfl, pk_mul, nI_add, Nat.mul_comm]
              have en : Op_end n (200 * q + o) (sI (sI c 3 (200 * q + o) 9 (nI t)) 3 (200 * q + o) 10 (nI w)) = some (nI (t + lat (K o))) := by
                rw [Op_end, gn_I (by omega), gs_I, gn_I (by omega), gn_I (by omega), s4, nI_add]
              rw [en, bd_s, ek, ix_nI (N := 12) (by omega) (by decide), bd_s]
              refine Or.inr ⟨w, ⟨y0, rd, Or.inr ⟨w, rfl, w2, w3, w4, w5⟩⟩, ?_, fun e => absurd e y3, fun _ => wm⟩
              unfold cBeg
              rw [if_neg y3]
      · rw [if_neg y2]
        exact Or.inl ⟨rfl, fun w hc => y2 (r3.mp hc.2.1).2⟩
  · rw [if_neg (fun w => y0 (p1.mp w)), bd_s, if_neg (by decide)]
    exact Or.inl ⟨rfl, fun w hc => y0 hc.1⟩
theorem r_tellL (hE : EV c m q cnt B b f g lat mn K D) {o E : Nat} (hq : q < 2) (h1 : f ≤ o) (h2 : o < f + g) (hE2 : gI c 3 (200 * q + o) 9 + gI c 3 (200 * q + o) 7 = nI E) : ∀ (k x : Nat) (c' : Mem), FrL c c' → (∀ j, j < 12 → gI c' 3 (200 * q + o) j = gI c 3 (200 * q + o) j) → o < x → x ≤ f + g → f + g - x < k →
    ∃ c2, Ly_tellThoseBehind_L8 n (175 * q + b) (200 * q + o) q k (nI x) c' = some c2 ∧ (∀ j, x ≤ j → j < f + g → gI c2 3 (200 * q + j) 12 = (if D j o = true then gI c' 3 (200 * q + j) 12 - 1 else gI c' 3 (200 * q + j) 12) ∧ gI c2 3 (200 * q + j) 13 = (if D j o = true then imax (gI c' 3 (200 * q + j) 13) (nI E) else gI c' 3 (200 * q + j) 13)) ∧ (∀ a i j, ¬ (a = 3 ∧ 200 * q + x ≤ i ∧ i < 200 * q + (f + g) ∧ (j = 12 ∨ j = 13)) → gI c2 a i j = gI c' a i j) ∧ c2.2 = c'.2 := by
  obtain ⟨e1, e2, e3⟩ := hE.size
  intro k
  induction k with
  | zero => intro x c' a0 a1 a2 a3 a4; omega
  | succ k ih =>
    intro x c' a0 a1 a2 a3 a4
    have hE' := hE.ag a0 FrLM.rf
    have q1 : (nI (f + g) ≤ nI x) = (f + g ≤ x) := q_le (by omega) (by omega)
    rw [Ly_tellThoseBehind_L8, hE'.2.2.1.1, hE'.2.2.1.2.1, nI_add]
    simp only [q1]
    by_cases z : f + g ≤ x
    · rw [if_pos z]
      exact ⟨c', rfl, fun j h1 h2 => by omega, fun _ _ _ _ => rfl, rfl⟩
    · have no : gI c' 3 (200 * q + o) 0 = nI o := hE'.1.num hq (by omega)
      rw [if_neg z, ix_nI (N := 200) (by omega) (by decide), bd_s, r_cb no, bd_s, hE'.2.2.2.2.1]
      simp only [lt9, Op_end]
      rw [show nI x + 1 = nI (x + 1) from nI_1 _]
      by_cases y : D x o = false
      · rw [if_pos (b1_0.mpr y)]
        obtain ⟨c2, b1, b2, b3, b4⟩ := ih (x + 1) c' a0 a1 (by omega) (by omega) (by omega)
        refine ⟨c2, b1, fun j j1 j2 => ?_, fun a i j hh => b3 a i j (by omega), b4⟩
        by_cases w : j = x
        · subst w
          rw [b3 3 _ 12 (by omega), b3 3 _ 13 (by omega), y, if_neg (by decide), if_neg (by decide)]
          exact ⟨rfl, rfl⟩
        · exact b2 j (by omega) j2
      · have y' : D x o = true := by
          cases e : D x o with
          | true => rfl
          | false => exact absurd e y
        have en : gI (sI c' 3 (200 * q + x) 12 (gI c' 3 (200 * q + x) 12 - 1)) 3 (200 * q + o) 9 + gI (sI c' 3 (200 * q + x) 12 (gI c' 3 (200 * q + x) 12 - 1)) 3 (200 * q + o) 7 = nI E := by
          rw [gn_I (by omega), gn_I (by omega), a1 9 (by decide), a1 7 (by decide)]
          exact hE2
        rw [if_neg (fun w => y (b1_0.mp w)), bd_s, en, show gI (sI c' 3 (200 * q + x) 12 (gI c' 3 (200 * q + x) 12 - 1)) 3 (200 * q + x) 13 = gI c' 3 (200 * q + x) 13 from gn_I (by omega)]
        obtain ⟨c2, b1, b2, b3, b4⟩ := ih (x + 1) (sI (sI c' 3 (200 * q + x) 12 (gI c' 3 (200 * q + x) 12 - 1)) 3 (200 * q + x) 13 (imax (gI c' 3 (200 * q + x) 13) (nI E))) ((a0.tr (FrL.upd (by omega))).tr (FrL.upd (by omega))) (fun j hj => by
          rw [gn_I (by omega), gn_I (by omega)]; exact a1 j hj) (by omega) (by omega) (by omega)
        refine ⟨c2, b1, fun j j1 j2 => ?_, fun a i j hh => (b3 a i j (by omega)).trans ((gn_I (by omega)).trans (gn_I (by omega))), b4⟩
        by_cases w : j = x
        · subst w
          rw [b3 3 _ 12 (by omega), b3 3 _ 13 (by omega), y', if_pos rfl, if_pos rfl, gn_I (by omega), gs_I, gs_I]
          exact ⟨rfl, rfl⟩
        · rw [(b2 j (by omega) j2).1, (b2 j (by omega) j2).2, gn_I (by omega), gn_I (by omega), gn_I (by omega), gn_I (by omega)]
          exact ⟨rfl, rfl⟩
end LC
