/-! ===== PURE: laying: registers, the class ===== -/
/-- j is bound before i -/
def bef (en : Nat → Nat) (j i : Nat) : Prop := en j < en i ∨ (en j = en i ∧ j < i)
theorem bef_irr {en : Nat → Nat} {i : Nat} : ¬ bef en i i := fun z => by unfold bef at z; omega
theorem bef_as {en : Nat → Nat} {i j : Nat} (h : bef en i j) : ¬ bef en j i := fun z => by unfold bef at *; omega
theorem bef_tr {en : Nat → Nat} {i j k : Nat} (h1 : bef en i j) (h2 : bef en j k) : bef en i k := by unfold bef at *; omega
theorem bef_tri {en : Nat → Nat} {i j : Nat} (h : ¬ bef en i j) (n : i ≠ j) : bef en j i := by unfold bef at *; omega
/-- register r is taken for i by one that was bound before -/
def clash (S : Nat → Prop) (en H rg : Nat → Nat) (i r : Nat) : Prop := en i < H i ∧ ∃ j, S j ∧ bef en j i ∧ rg j = r ∧ en i < H j
/-- i has the least register that is free for it -/
def RS (S : Nat → Prop) (en H rg : Nat → Nat) (i : Nat) : Prop := (∀ r, r < rg i → clash S en H rg i r) ∧ ¬ clash S en H rg i (rg i)
theorem clash_cg {S S' : Nat → Prop} {en H rg rg' : Nat → Nat} {i r : Nat} (h : ∀ j, bef en j i → (S j ↔ S' j)) (h' : ∀ j, S j → bef en j i → rg j = rg' j) : clash S en H rg i r ↔ clash S' en H rg' i r := by
  constructor
  · rintro ⟨a, j, b1', b2, b3, b4⟩
    exact ⟨a, j, (h j b2).mp b1', b2, by rw [← h' j b1' b2]; exact b3, b4⟩
  · rintro ⟨a, j, b1', b2, b3, b4⟩
    have := (h j b2).mpr b1'
    exact ⟨a, j, this, b2, by rw [h' j this b2]; exact b3, b4⟩
theorem bef_lt {en : Nat → Nat} {i j : Nat} (h : bef en j i) (hj : j < 256) : en j * 256 + j < en i * 256 + i := by
  rcases h with h | ⟨h, h'⟩
  · have := Nat.mul_le_mul_right 256 (Nat.succ_le_of_lt h)
    rw [Nat.succ_mul] at this
    omega
  · rw [h]
    omega
theorem RS.uq {S : Nat → Prop} {en H rg rg' : Nat → Nat} (hS : ∀ j, S j → j < 256) (h : ∀ i, S i → RS S en H rg i) (h' : ∀ i, S i → RS S en H rg' i) : ∀ N i, S i → en i * 256 + i < N → rg i = rg' i := by
  intro N
  induction N with
  | zero => intro i _ hN; omega
  | succ N ih =>
    intro i hi hN
    have e : ∀ r, clash S en H rg i r ↔ clash S en H rg' i r := fun r => clash_cg (fun j _ => Iff.rfl) (fun j hj hb => ih j hj (Nat.lt_of_lt_of_le (bef_lt hb (hS j hj)) (Nat.le_of_lt_succ hN)))
    obtain ⟨a1, a2⟩ := h i hi
    obtain ⟨b1', b2⟩ := h' i hi
    have n1 : ¬ rg i < rg' i := fun w => a2 ((e _).mpr (b1' _ w))
    have n2 : ¬ rg' i < rg i := fun w => b2 ((e _).mp (a1 _ w))
    omega
/-- operations that fill a register -/
def fl (c : Mem) (q o : Nat) : Bool := decide (gI c 3 (200 * q + o) 5 = -1 ∧ ¬ gI c 3 (200 * q + o) 1 = 2)
theorem r_fills {n q o : Nat} {c : Mem} : Op_fillsRegister n (200 * q + o) c = some (b1 (fl c q o)) := by
  rw [Op_fillsRegister]
  unfold fl
  by_cases h1 : gI c 3 (200 * q + o) 5 = -1
  · rw [if_pos h1]
    by_cases h2 : gI c 3 (200 * q + o) 1 = 2
    · rw [if_pos h2, decide_eq_false (fun w => w.2 h2)]; rfl
    · rw [if_neg h2, decide_eq_true ⟨h1, h2⟩]; rfl
  · rw [if_neg h1, decide_eq_false (fun w => h1 w.1)]; rfl
theorem fl_ag {c c' : Mem} {q o : Nat} (fc : FrL c c') : fl c' q o = fl c q o := by
  unfold fl
  rw [fc.1 3 _ 5 (by omega) (by omega) (by decide) (by decide) (by omega), fc.1 3 _ 1 (by omega) (by omega) (by decide) (by decide) (by omega)]
/-- registers of those in P, bound in order; when registers are free again -/
def RC (c : Mem) (q f g : Nat) (en H : Nat → Nat) (F0 P : Nat → Bool) (rg : Nat → Nat) : Prop := (∀ o, f ≤ o → o < f + g → (P o = true → gI c 3 (200 * q + o) 11 = nI (rg o) ∧ rg o < cq P f (f + g) ∧ F0 o = true ∧ RS (fun j => (f ≤ j ∧ j < f + g) ∧ F0 j = true) en H rg o) ∧ (P o = false → gI c 3 (200 * q + o) 11 = -1)) ∧ ∀ r, r < 200 → ∃ F, gI c 26 0 r = pm F ∧ F < 2 ^ 20 ∧ ∀ y, F ≤ y ↔ ∀ j, f ≤ j → j < f + g → P j = true → en j < H j → rg j = r → H j ≤ y
theorem RC.cg {c : Mem} {q f g : Nat} {en H : Nat → Nat} {F0 P P' : Nat → Bool} {rg : Nat → Nat} (h : RC c q f g en H F0 P rg) (e : ∀ j, f ≤ j → j < f + g → P j = P' j) : RC c q f g en H F0 P' rg := by
  refine ⟨fun o h1 h2 => ?_, fun r hr => ?_⟩
  · rw [← e o h1 h2, ← cq_cg (f + g) e]
    exact h.1 o h1 h2
  · obtain ⟨F, f1, f2, f3⟩ := h.2 r hr
    refine ⟨F, f1, f2, fun y => (f3 y).trans ⟨fun w j j1 j2 hp => w j j1 j2 (by rw [e j j1 j2]; exact hp), fun w j j1 j2 hp => w j j1 j2 (by rw [← e j j1 j2]; exact hp)⟩⟩
/-- only registers of a block have changed -/
def FrG (c c' : Mem) (q f e : Nat) : Prop := (∀ a i j, ¬ (a = 3 ∧ 200 * q + f ≤ i ∧ i < 200 * q + e ∧ j = 11) → a ≠ 26 → gI c' a i j = gI c a i j) ∧ c'.2 = c.2
theorem FrG.tr {a b c : Mem} {q f e : Nat} (h1 : FrG a b q f e) (h2 : FrG b c q f e) : FrG a c q f e := ⟨fun x i j h h' => (h2.1 x i j h h').trans (h1.1 x i j h h'), h2.2.trans h1.2⟩
theorem FrG.fl {c c' : Mem} {q f e : Nat} (h : FrG c c' q f e) : FrL c c' := ⟨fun k i j x1 x2 x3 x4 x5 => h.1 k i j (by omega) x4, fun k i j _ => by unfold gR; rw [h.2], by unfold gL; rw [h.2]⟩
section LG
variable {n q cnt B b f g : Nat} {c m : Mem} {st L H rg en : Nat → Nat} {F0 P : Nat → Bool}
theorem r_freeRegL {e kb : Nat} {F : Nat → Nat} (he : e < 2 ^ 20) (hF : ∀ r, r < 200 → gI c 26 0 r = pm (F r) ∧ F r < 2 ^ 20) (hk : kb < 200) (h0 : F kb ≤ e) : ∀ (k r : Nat), r ≤ kb → (∀ r', r' < r → e < F r') → kb - r < k →
    ∃ r2, Ly_freeRegister_L9 n (nI e) c k (nI r) = some (.inl (nI r2)) ∧ r2 ≤ kb ∧ (∀ r', r' < r2 → e < F r') ∧ F r2 ≤ e := by
  intro k
  induction k with
  | zero => intro r a1 a2 a3; omega
  | succ k ih =>
    intro r a1 a2 a3
    have q1 : ((200 : Int32) ≤ nI r) = (200 ≤ r) := q_le (a := 200) (by decide) (by omega)
    obtain ⟨f1, f2⟩ := hF r (by omega)
    have q2 : (nI e ≤ pm (F r)) = (e < F r) := by
      have := pm_lt (x := F r) (f := e) (by omega) (by omega)
      refine propext ⟨fun w => Nat.lt_of_not_le (fun v => ?_), fun w => ?_⟩
      · have := this.mpr v
        exact absurd w (Int32.not_le.mpr this)
      · refine Int32.not_lt.mp (fun v => ?_)
        have := this.mp v
        omega
    rw [Ly_freeRegister_L9]
    simp only [q1]
    rw [if_neg (by omega), ix_nI (N := 200) (by omega) (by decide), bd_s, f1]
    simp only [q2]
    by_cases z : e < F r
    · rw [if_pos z, show nI r + 1 = nI (r + 1) from nI_1 _]
      have : r ≠ kb := fun w => by subst w; omega
      refine ih (r + 1) (by omega) (fun r' hr' => ?_) (by omega)
      by_cases w : r' = r
      · rw [w]; exact z
      · exact a2 r' (by omega)
    · rw [if_neg z]
      exact ⟨r, rfl, a1, a2, by omega⟩
theorem r_bind {x : Nat} (hn : 2000 ≤ n) (hfg : f + g ≤ 200) (hR : RC c q f g en H F0 P rg) (hx : f ≤ x ∧ x < f + g) (hen : ∀ j, f ≤ j → j < f + g → en j < 2 ^ 20 ∧ H j < 2 ^ 20) (h0 : F0 x = true) (hP : P x = false) (hb1 : ∀ j, f ≤ j → j < f + g → P j = true → bef en j x) (hb2 : ∀ j, f ≤ j → j < f + g → F0 j = true → bef en j x → P j = true) :
    ∃ r c', Ly_freeRegister n (nI (en x)) (pm (H x)) c = some (nI r, c') ∧ FrG c c' q f (f + g) ∧ RC (sI c' 3 (200 * q + x) 11 (nI r)) q f g en H F0 (fun j => P j || decide (j = x)) (upN rg x r) := by
  obtain ⟨R1, R2⟩ := hR
  obtain ⟨F, hF⟩ := Classical.axiomOfChoice (fun r => show ∃ F, r < 200 → gI c 26 0 r = pm F ∧ F < 2 ^ 20 ∧ ∀ y, F ≤ y ↔ ∀ j, f ≤ j → j < f + g → P j = true → en j < H j → rg j = r → H j ≤ y by
    by_cases hr : r < 200
    · obtain ⟨F, h⟩ := R2 r hr
      exact ⟨F, fun _ => h⟩
    · exact ⟨0, fun h => absurd h hr⟩)
  have kb' : cq (fun j => P j || decide (j = x)) f (f + g) = cq P f (f + g) + 1 := cq_dn (o := x) (fun j hj => by rw [decide_eq_false hj, Bool.or_false]) (by rw [decide_eq_true rfl, Bool.or_true]) hP hx.1 _ hx.2
  have kbg : cq (fun j => P j || decide (j = x)) f (f + g) ≤ g := by
    have : ∀ (Q : Nat → Bool) (lo h : Nat), cq Q lo (lo + h) ≤ h := by
      intro Q lo h
      induction h with
      | zero => exact Nat.le_of_eq (cq_none Q lo lo (Nat.le_refl _))
      | succ h ih =>
        show cq Q lo ((lo + h) + 1) ≤ h + 1
        unfold cq
        split <;> omega
    exact this _ f g
  have old : ∀ o, f ≤ o → o < f + g → P o = true → RS (fun j => (f ≤ j ∧ j < f + g) ∧ F0 j = true) en H rg o → ∀ r, RS (fun j => (f ≤ j ∧ j < f + g) ∧ F0 j = true) en H (upN rg x r) o := fun o o1 o2 op hr r => by
    have ox : o ≠ x := fun w => by rw [w, hP] at op; exact absurd op (by decide)
    have e : ∀ r', clash (fun j => (f ≤ j ∧ j < f + g) ∧ F0 j = true) en H rg o r' ↔ clash (fun j => (f ≤ j ∧ j < f + g) ∧ F0 j = true) en H (upN rg x r) o r' := fun r' => clash_cg (fun j _ => Iff.rfl) (fun j _ hb => by
      have jx : j ≠ x := fun w => by
        subst w
        exact bef_as hb (hb1 o o1 o2 op)
      rw [upN_n jx])
    unfold RS
    rw [upN_n ox]
    exact ⟨fun r' hr' => (e r').mp (hr.1 r' hr'), fun w => hr.2 ((e _).mpr w)⟩
  obtain ⟨ex, hxx⟩ := hen x hx.1 hx.2
  have q2 : (nI (en x) ≤ pm (H x)) = (en x < H x) := by
    have := pm_lt (x := H x) (f := en x) (by omega) (by omega)
    refine propext ⟨fun w => Nat.lt_of_not_le (fun v => ?_), fun w => ?_⟩
    · have := this.mpr v
      exact absurd w (Int32.not_le.mpr this)
    · refine Int32.not_lt.mp (fun v => ?_)
      have := this.mp v
      omega
  -- what is the same for every register that is given
  have fin : ∀ (r : Nat) (c' : Mem), r ≤ cq P f (f + g) → FrG c c' q f (f + g) → RS (fun j => (f ≤ j ∧ j < f + g) ∧ F0 j = true) en H (upN rg x r) x → (∀ o, f ≤ o → o < f + g → gI c' 3 (200 * q + o) 11 = gI c 3 (200 * q + o) 11) → (∀ r', r' < 200 → gI c' 26 0 r' = if en x < H x ∧ r' = r then pm (H x) else gI c 26 0 r') → (en x < H x → F r ≤ en x) → RC (sI c' 3 (200 * q + x) 11 (nI r)) q f g en H F0 (fun j => P j || decide (j = x)) (upN rg x r) := by
    intro r c' hr hc' hrs h11 h26 hfr
    refine ⟨fun o o1 o2 => ?_, fun r' hr' => ?_⟩
    · by_cases ox : o = x
      · subst ox
        dsimp only
        rw [gs_I, upN_s, decide_eq_true rfl, Bool.or_true]
        exact ⟨fun _ => ⟨rfl, by omega, h0, hrs⟩, fun w => absurd w (by decide)⟩
      · dsimp only
        rw [decide_eq_false ox, Bool.or_false, gn_I (by omega), h11 o o1 o2, upN_n ox]
        obtain ⟨w1, w2⟩ := R1 o o1 o2
        refine ⟨fun op => ?_, w2⟩
        obtain ⟨v1, v2, v3, v4⟩ := w1 op
        exact ⟨v1, by omega, v3, old o o1 o2 op v4 r⟩
    · obtain ⟨F1, F2, F3⟩ := hF r' hr'
      have hx26 : gI (sI c' 3 (200 * q + x) 11 (nI r)) 26 0 r' = gI c' 26 0 r' := gn_I (by omega)
      rw [hx26, h26 r' hr']
      by_cases z : en x < H x ∧ r' = r
      · rw [if_pos z]
        obtain ⟨z1, z2⟩ := z
        subst z2
        refine ⟨H x, rfl, hxx, fun y => ⟨fun hy j j1 j2 jp jh jr => ?_, fun w => ?_⟩⟩
        · by_cases jx : j = x
          · subst jx; exact hy
          · dsimp only at jp
            rw [decide_eq_false jx, Bool.or_false] at jp
            rw [upN_n jx] at jr
            have := (F3 (en x)).mp (hfr z1) j j1 j2 jp jh jr
            omega
        · exact w x hx.1 hx.2 (by dsimp only; rw [decide_eq_true rfl, Bool.or_true]) z1 upN_s
      · rw [if_neg z]
        refine ⟨F r', F1, F2, fun y => (F3 y).trans ⟨fun w j j1 j2 jp jh jr => ?_, fun w j j1 j2 jp jh jr => ?_⟩⟩
        · by_cases jx : j = x
          · subst jx
            rw [upN_s] at jr
            exact absurd ⟨jh, jr.symm⟩ z
          · dsimp only at jp
            rw [decide_eq_false jx, Bool.or_false] at jp
            rw [upN_n jx] at jr
            exact w j j1 j2 jp jh jr
        · have jx : j ≠ x := fun v => by rw [v, hP] at jp; exact absurd jp (by decide)
          exact w j j1 j2 (by dsimp only; rw [jp, Bool.true_or]) jh (by rw [upN_n jx]; exact jr)
  rw [Ly_freeRegister]
  simp only [q2]
  by_cases z : en x < H x
  · have h0' : F (cq P f (f + g)) ≤ en x := by
      have := (hF (cq P f (f + g)) (by omega)).2.2 0
      have : F (cq P f (f + g)) ≤ 0 := this.mpr (fun j j1 j2 jp _ jr => by
        have := ((R1 j j1 j2).1 jp).2.1
        omega)
      omega
    obtain ⟨r2, s1, s2, s3, s4⟩ := r_freeRegL (n := n) (e := en x) (kb := cq P f (f + g)) (F := F) ex (fun r hr => ⟨(hF r hr).1, (hF r hr).2.1⟩) (by omega) h0' n 0 (Nat.zero_le _) (fun r' hr' => by omega) (by omega)
    rw [nI_0] at s1
    rw [if_pos z, s1, bd_s]
    dsimp only
    rw [ix_nI (N := 200) (show r2 < 200 by omega) (by decide), bd_s]
    simp only [lt9]
    have hrel : ∀ r, r < 200 → (en x < F r ↔ ∃ j, f ≤ j ∧ j < f + g ∧ P j = true ∧ en j < H j ∧ rg j = r ∧ en x < H j) := fun r hr => by
      have := (hF r hr).2.2 (en x)
      constructor
      · intro w
        refine Classical.byContradiction (fun v => ?_)
        have := this.mpr (fun j j1 j2 jp jh jr => Nat.le_of_not_lt (fun u => v ⟨j, j1, j2, jp, jh, jr, u⟩))
        omega
      · rintro ⟨j, j1, j2, jp, jh, jr, ju⟩
        refine Nat.lt_of_not_le (fun w => ?_)
        have := this.mp w j j1 j2 jp jh jr
        omega
    have hcl : ∀ r, r < 200 → ∀ r2', clash (fun j => (f ≤ j ∧ j < f + g) ∧ F0 j = true) en H (upN rg x r2') x r ↔ en x < F r := fun r hr r2' => by
      rw [hrel r hr]
      constructor
      · rintro ⟨-, j, ⟨⟨j1, j2⟩, j3⟩, jb, jr, ju⟩
        have jx : j ≠ x := fun w => by rw [w] at jb; exact bef_irr jb
        rw [upN_n jx] at jr
        refine ⟨j, j1, j2, hb2 j j1 j2 j3 jb, ?_, jr, ju⟩
        unfold bef at jb
        omega
      · rintro ⟨j, j1, j2, jp, jh, jr, ju⟩
        have jx : j ≠ x := fun v => by rw [v, hP] at jp; exact absurd jp (by decide)
        exact ⟨z, j, ⟨⟨j1, j2⟩, ((R1 j j1 j2).1 jp).2.2.1⟩, hb1 j j1 j2 jp, by rw [upN_n jx]; exact jr, ju⟩
    refine ⟨r2, _, rfl, ⟨fun a i j h1 h2 => gn_I (by omega), rfl⟩, fin r2 _ s2 ⟨fun a i j h1 h2 => gn_I (by omega), rfl⟩ ?_ (fun o _ _ => rfl) (fun r' hr' => ?_) (fun _ => s4)⟩
    · unfold RS
      rw [upN_s]
      refine ⟨fun r' hr' => (hcl r' (by omega) r2).mpr (s3 r' hr'), fun w => ?_⟩
      have := (hcl r2 (by omega) r2).mp w
      omega
    · by_cases w : r' = r2
      · subst w
        rw [if_pos ⟨z, rfl⟩, gs_I]
      · rw [if_neg (fun v => w v.2), gn_I (by omega)]
  · rw [if_neg z]
    refine ⟨0, c, rfl, ⟨fun _ _ _ _ _ => rfl, rfl⟩, fin 0 c (Nat.zero_le _) ⟨fun _ _ _ _ _ => rfl, rfl⟩ ?_ (fun _ _ _ => rfl) (fun r' _ => by rw [if_neg (fun v => z v.1)]) (fun w => absurd w z)⟩
    unfold RS
    rw [upN_s]
    exact ⟨fun r' hr' => by omega, fun w => z w.1⟩
/-- bound before cycle y, and in it those before x -/
def bdP (F0 : Nat → Bool) (en : Nat → Nat) (y x j : Nat) : Bool := F0 j && decide (en j < y ∨ (en j = y ∧ j < x))
theorem bdP_t {F0 : Nat → Bool} {y x j : Nat} : bdP F0 en y x j = true ↔ F0 j = true ∧ (en j < y ∨ (en j = y ∧ j < x)) := by
  unfold bdP
  rw [Bool.and_eq_true]
  exact ⟨fun w => ⟨w.1, of_decide_eq_true w.2⟩, fun w => ⟨w.1, decide_eq_true w.2⟩⟩
theorem bool_iff {a b : Bool} (h : a = true ↔ b = true) : a = b := by
  cases a <;> cases b
  · rfl
  · exact absurd (h.mpr rfl) (by decide)
  · exact absurd (h.mp rfl) (by decide)
  · rfl
theorem r_bindIn {y : Nat} (hn : 2000 ≤ n) (hq : q < 2) (hcnt : cnt ≤ 200) (hG : RG c q cnt b f g) (hy : y < 2000) (h9 : ∀ o, f ≤ o → o < f + g → gI c 3 (200 * q + o) 9 + gI c 3 (200 * q + o) 7 = nI (en o) ∧ gI c 3 (200 * q + o) 14 = pm (H o) ∧ en o < 2 ^ 20 ∧ H o < 2 ^ 20) : ∀ (k x : Nat) (c' : Mem) (rg : Nat → Nat), FrG c c' q f (f + g) → f ≤ x → x ≤ f + g → RC c' q f g en H (fl c q) (bdP (fl c q) en y x) rg → f + g - x < k →
    ∃ c2 rg2, Ly_bindRegisters_L16 n (175 * q + b) q (nI y) k (nI x) c' = some c2 ∧ FrG c c2 q f (f + g) ∧ RC c2 q f g en H (fl c q) (bdP (fl c q) en y (f + g)) rg2 := by
  have hfg := hG.2.2.1
  intro k
  induction k with
  | zero => intro x c' rg a1 a2 a3 a4 a5; omega
  | succ k ih =>
    intro x c' rg a1 a2 a3 a4 a5
    have hG' := hG.ag a1.fl
    have q1 : (nI (f + g) ≤ nI x) = (f + g ≤ x) := q_le (by omega) (by omega)
    rw [Ly_bindRegisters_L16, hG'.1, hG'.2.1, nI_add]
    simp only [q1]
    by_cases z : f + g ≤ x
    · have : x = f + g := by omega
      subst this
      rw [if_pos z]
      exact ⟨c', rg, rfl, a1, a4⟩
    · obtain ⟨w1, w2, w3, w4⟩ := h9 x a2 (by omega)
      have s9 : gI c' 3 (200 * q + x) 9 + gI c' 3 (200 * q + x) 7 = nI (en x) := by
        rw [a1.1 3 _ 9 (by omega) (by decide), a1.1 3 _ 7 (by omega) (by decide)]; exact w1
      have s14 : gI c' 3 (200 * q + x) 14 = pm (H x) := (a1.1 3 _ 14 (by omega) (by decide)).trans w2
      have q2 : (nI (en x) = nI y) = (en x = y) := q_eq (by omega) (by omega)
      rw [if_neg z, ix_nI (N := 200) (by omega) (by decide), bd_s, Op_end, s9, bd_s, r_fills, s14]
      simp only [q2, bd_s]
      rw [show nI x + 1 = nI (x + 1) from nI_1 _, fl_ag a1.fl]
      have skip : ¬ (en x = y ∧ fl c q x = true) → RC c' q f g en H (fl c q) (bdP (fl c q) en y (x + 1)) rg := fun hno => a4.cg (fun j j1 j2 => bool_iff (by
        rw [bdP_t, bdP_t]
        refine ⟨fun v => ⟨v.1, by omega⟩, fun v => ⟨v.1, ?_⟩⟩
        by_cases jx : j = x
        · subst jx
          have hne : en j ≠ y := fun u => hno ⟨u, v.1⟩
          omega
        · omega))
      by_cases y1 : en x = y
      · rw [if_pos y1]
        by_cases y2 : fl c q x = true
        · rw [y2, if_neg (show ¬ b1 true = 0 by decide), ← y1]
          obtain ⟨r, c3, e1, e2, e3⟩ := r_bind (n := n) hn (by omega) a4 ⟨a2, by omega⟩ (fun j j1 j2 => ⟨(h9 j j1 j2).2.2.1, (h9 j j1 j2).2.2.2⟩) y2 (bool_f (fun v => by
            have := (bdP_t.mp v).2
            omega)) (fun j j1 j2 jp => by
            have := (bdP_t.mp jp).2
            unfold bef
            omega) (fun j j1 j2 j3 jb => bdP_t.mpr ⟨j3, by unfold bef at jb; omega⟩)
          rw [e1, bd_s]
          simp only [lt9]
          subst y1
          refine ih (x + 1) (sI c3 3 (200 * q + x) 11 (nI r)) (upN rg x r) ((a1.tr e2).tr ⟨fun a i j h1 h2 => gn_I (by omega), rfl⟩) (by omega) (by omega) (e3.cg (fun j j1 j2 => bool_iff ?_)) (by omega)
          rw [Bool.or_eq_true, bdP_t, bdP_t]
          constructor
          · rintro (v | v)
            · exact ⟨v.1, by omega⟩
            · have := of_decide_eq_true v
              subst this
              exact ⟨y2, by omega⟩
          · intro v
            by_cases jx : j = x
            · exact Or.inr (decide_eq_true jx)
            · exact Or.inl ⟨v.1, by omega⟩
        · rw [bool_f y2, if_pos (show b1 false = 0 from rfl)]
          exact ih (x + 1) c' rg a1 (by omega) (by omega) (skip (fun v => y2 v.2)) (by omega)
      · rw [if_neg y1]
        exact ih (x + 1) c' rg a1 (by omega) (by omega) (skip (fun v => y1 v.1)) (by omega)
theorem r_bindAll {cy : Nat} (hn : 2000 ≤ n) (hq : q < 2) (hcnt : cnt ≤ 200) (hG : RG c q cnt b f g) (hcy : gI c 0 (175 * q + b) 6 = nI cy ∧ cy ≤ 804) (h9 : ∀ o, f ≤ o → o < f + g → gI c 3 (200 * q + o) 9 + gI c 3 (200 * q + o) 7 = nI (en o) ∧ gI c 3 (200 * q + o) 14 = pm (H o) ∧ en o < 2 ^ 20 ∧ H o < 2 ^ 20) : ∀ (k y : Nat) (c' : Mem) (rg : Nat → Nat), FrG c c' q f (f + g) → y ≤ cy + 1 → RC c' q f g en H (fl c q) (bdP (fl c q) en y f) rg → cy + 1 - y < k →
    ∃ c2 rg2, Ly_bindRegisters_L2 n (175 * q + b) q k (nI y) c' = some c2 ∧ FrG c c2 q f (f + g) ∧ RC c2 q f g en H (fl c q) (bdP (fl c q) en (cy + 1) f) rg2 := by
  have hfg := hG.2.2.1
  intro k
  induction k with
  | zero => intro y c' rg a1 a2 a3 a4; omega
  | succ k ih =>
    intro y c' rg a1 a2 a3 a4
    have hG' := hG.ag a1.fl
    have q1 : (nI cy < nI y) = (cy < y) := q_lt (by omega) (by omega)
    rw [Ly_bindRegisters_L2, a1.1 0 _ 6 (by omega) (by decide), hcy.1, hG'.1]
    simp only [q1]
    by_cases z : cy < y
    · have : y = cy + 1 := by omega
      subst this
      rw [if_pos z]
      exact ⟨c', rg, rfl, a1, a3⟩
    · rw [if_neg z]
      obtain ⟨c2, rg2, e1, e2, e3⟩ := r_bindIn (n := n) (y := y) hn hq hcnt hG (by omega) h9 n f c' rg a1 (Nat.le_refl _) (by omega) a3 (by omega)
      rw [e1, bd_s, show nI y + 1 = nI (y + 1) from nI_1 _]
      exact ih (y + 1) c2 rg2 e2 (by omega) (e3.cg (fun j j1 j2 => bool_iff (by
        rw [bdP_t, bdP_t]
        exact ⟨fun v => ⟨v.1, by omega⟩, fun v => ⟨v.1, by omega⟩⟩))) (by omega)
theorem r_registers {cy : Nat} (hn : 2000 ≤ n) (hq : q < 2) (hcnt : cnt ≤ 200) (hG : RG c q cnt b f g) (hcy : gI c 0 (175 * q + b) 6 = nI cy ∧ cy ≤ 804) (h9 : ∀ o, f ≤ o → o < f + g → gI c 3 (200 * q + o) 9 + gI c 3 (200 * q + o) 7 = nI (en o) ∧ gI c 3 (200 * q + o) 14 = pm (H o) ∧ en o < 2 ^ 20 ∧ H o < 2 ^ 20) (hen : ∀ o, f ≤ o → o < f + g → 1 ≤ en o ∧ en o ≤ cy) (h11 : ∀ o, f ≤ o → o < f + g → gI c 3 (200 * q + o) 11 = -1) (h26 : ∀ i, i < 200 → gI c 26 0 i = -1) :
    ∃ c2 rg, Ly_bindRegisters n q (175 * q + b) c = some c2 ∧ FrG c c2 q f (f + g) ∧ ∀ o, f ≤ o → o < f + g → (fl c q o = true → gI c2 3 (200 * q + o) 11 = nI (rg o) ∧ rg o < 200 ∧ RS (fun j => (f ≤ j ∧ j < f + g) ∧ fl c q j = true) en H rg o) ∧ (fl c q o = false → gI c2 3 (200 * q + o) 11 = -1) := by
  have hfg := hG.2.2.1
  have none1 : ∀ j, f ≤ j → j < f + g → bdP (fl c q) en 1 f j = false := fun j j1 j2 => bool_f (fun v => by
    have := (bdP_t.mp v).2
    have := (hen j j1 j2).1
    omega)
  obtain ⟨c2, rg, e1, e2, e3⟩ := r_bindAll (n := n) hn hq hcnt hG hcy h9 n 1 c (fun _ => 0) ⟨fun _ _ _ _ _ => rfl, rfl⟩ (by omega) ⟨fun o o1 o2 => by
    rw [none1 o o1 o2]
    exact ⟨fun v => absurd v (by decide), fun _ => h11 o o1 o2⟩, fun r hr => ⟨0, h26 r hr, by decide, fun y => ⟨fun _ j j1 j2 jp => by
      rw [none1 j j1 j2] at jp
      exact absurd jp (by decide), fun _ => Nat.zero_le _⟩⟩⟩ (by omega)
  refine ⟨c2, rg, ?_, e2, fun o o1 o2 => ?_⟩
  · rw [Ly_bindRegisters, show (1 : Int32) = nI 1 from rfl, e1, bd_s]
  · obtain ⟨w1, w2⟩ := e3.1 o o1 o2
    have hle := (hen o o1 o2).2
    refine ⟨fun hf => ?_, fun hf => w2 (bool_f (fun v => by
      have := (bdP_t.mp v).1
      rw [hf] at this
      exact absurd this (by decide)))⟩
    obtain ⟨v1, v2, v3, v4⟩ := w1 (bdP_t.mpr ⟨hf, by omega⟩)
    exact ⟨v1, by have := cq_le (bdP (fl c q) en (cy + 1) f) f (f + g); omega, v4⟩
end LG
