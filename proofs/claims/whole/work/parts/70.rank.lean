/-! ===== PURE: laying: the order of heights ===== -/
/-- a is laid before b -/
def btr (h : Nat → Nat) (a b : Nat) : Prop := h b < h a ∨ (h a = h b ∧ a < b)
theorem btr_irr {h : Nat → Nat} {a : Nat} : ¬ btr h a a := fun z => by unfold btr at z; omega
theorem btr_tr {h : Nat → Nat} {a b c : Nat} (h1 : btr h a b) (h2 : btr h b c) : btr h a c := by unfold btr at *; omega
theorem btr_tri {h : Nat → Nat} {a b : Nat} (n1 : ¬ btr h a b) (n2 : a ≠ b) : btr h b a := by unfold btr at *; omega
/-- the order in which operations are tried -/
def RK (h : Nat → Nat) (c : Mem) (q f i : Nat) (r : Nat → Nat) : Prop := (∀ x, x < i → gR c 27 0 x = some (200 * q + r x) ∧ f ≤ r x ∧ r x < f + i) ∧ (∀ x y, x < y → y < i → btr h (r x) (r y)) ∧ ∀ o, f ≤ o → o < f + i → ∃ x, x < i ∧ r x = o
/-- only the ranks -/
def FrK (c c' : Mem) : Prop := c'.1 = c.1 ∧ (∀ k i j, k ≠ 27 → gR c' k i j = gR c k i j) ∧ gL c' = gL c
theorem FrK.fl {c c' : Mem} (h : FrK c c') : FrL c c' := ⟨fun k i j _ _ _ _ _ => by unfold gI; rw [h.1], h.2.1, h.2.2⟩
theorem FrK.i {c c' : Mem} (h : FrK c c') (k i j : Nat) : gI c' k i j = gI c k i j := by unfold gI; rw [h.1]
section LR
variable {n q cnt B b f g : Nat} {c m : Mem}
theorem r_rankIn {h r : Nat → Nat} {nw i : Nat} (hq : q < 2) (hh : ∀ o, o < 200 → f ≤ o → o ≤ f + i → gI c 3 (200 * q + o) 8 = nI (h o) ∧ h o < 2000) (hw : nw = f + i) (hi : f + i < 200) (hr : ∀ x, x < i → f ≤ r x ∧ r x < f + i) : ∀ (k t : Nat) (c' : Mem), FrK c c' → t ≤ i → (∀ x, x < t → gR c' 27 0 x = some (200 * q + r x)) → (∀ x, t < x → x ≤ i → gR c' 27 0 x = some (200 * q + r (x - 1)) ∧ h (r (x - 1)) < h nw) → t < k →
    ∃ t' c2, Ly_rank_L26 n nw q k (nI t) c' = some (nI t', c2) ∧ t' ≤ t ∧ FrK c c2 ∧ (∀ x, x < t' → gR c2 27 0 x = some (200 * q + r x)) ∧ (∀ x, t' < x → x ≤ i → gR c2 27 0 x = some (200 * q + r (x - 1)) ∧ h (r (x - 1)) < h nw) ∧ (t' = 0 ∨ h nw ≤ h (r (t' - 1))) := by
  intro k
  induction k with
  | zero => intro t c' a0 a1 a2 a3 a4; omega
  | succ k ih =>
    intro t c' a0 a1 a2 a3 a4
    rw [Ly_rank_L26]
    cases t with
    | zero =>
      rw [nI_0, if_pos (by decide)]
      refine ⟨0, c', rfl, Nat.le_refl _, a0, a2, a3, Or.inl rfl⟩
    | succ s =>
      have hs := hr s (by omega)
      have e0 : gR c' 27 0 s = some (200 * q + r s) := a2 s (by omega)
      obtain ⟨h1, h1'⟩ := hh nw (by omega) (by omega) (by omega)
      obtain ⟨h2, h2'⟩ := hh (r s) (by omega) (by omega) (by omega)
      have e1 : (nI (h nw) ≤ nI (h (r s))) = (h nw ≤ h (r s)) := q_le (by omega) (by omega)
      rw [if_neg (nI_nle (by omega) (by omega)), show nI (s + 1) - 1 = nI s from nI_pred _, ix_nI (N := 200) (by omega) (by decide), bd_s, e0, bd_s, if_pos (by omega), a0.i, a0.i, h1, h2]
      simp only [e1]
      by_cases z : h nw ≤ h (r s)
      · rw [if_pos z]
        exact ⟨s + 1, c', rfl, Nat.le_refl _, a0, a2, a3, Or.inr z⟩
      · rw [if_neg z, bd_s, e0, bd_s, if_pos (by omega), ix_nI (N := 200) (by omega) (by decide), bd_s]
        simp only [lt9]
        rw [pk_m1]
        obtain ⟨t', c2, b1, b2, b3, b4, b5, b6⟩ := ih s (sR c' 27 0 (s + 1) (some (200 * q + r s))) ⟨a0.1, fun k i j hk => by rw [gR_sR, if_neg (fun y => hk y.1)]; exact a0.2.1 k i j hk, a0.2.2⟩ (by omega) (fun x hx => by
          rw [gR_sR, if_neg (by omega)]
          exact a2 x (by omega)) (fun x h1 h2 => by
          by_cases y : x = s + 1
          · subst y
            rw [gs_R]
            exact ⟨rfl, by show h (r s) < h nw; omega⟩
          · rw [gR_sR, if_neg (by omega)]
            exact a3 x (by omega) h2) (by omega)
        exact ⟨t', c2, b1, by omega, b3, b4, b5, b6⟩
theorem r_rankL {h : Nat → Nat} (hn : 800 ≤ n) (hq : q < 2) (hG : gI c 0 (175 * q + b) 0 = nI f ∧ gI c 0 (175 * q + b) 1 = nI g ∧ f + g ≤ 200) (hh : ∀ o, f ≤ o → o < f + g → gI c 3 (200 * q + o) 8 = nI (h o) ∧ h o < 2000) : ∀ (k i : Nat) (c' : Mem) (r : Nat → Nat), FrK c c' → i ≤ g → RK h c' q f i r → g - i < k →
    ∃ c2 r', Ly_rank_L2 n (175 * q + b) q k (nI i) c' = some c2 ∧ FrK c c2 ∧ RK h c2 q f g r' := by
  intro k
  induction k with
  | zero => intro i c' r a0 a1 a2 a3; omega
  | succ k ih =>
    intro i c' r a0 a1 a2 a3
    have e1 : (nI g ≤ nI i) = (g ≤ i) := q_le (by omega) (by omega)
    rw [Ly_rank_L2, a0.i, hG.2.1]
    simp only [e1]
    by_cases z : g ≤ i
    · rw [if_pos z]
      have : i = g := by omega
      subst this
      exact ⟨c', r, rfl, a0, a2⟩
    · rw [if_neg z, a0.i, hG.1, nI_add, ix_nI (N := 200) (by omega) (by decide), bd_s]
      obtain ⟨r1, r2, r3⟩ := a2
      obtain ⟨t, c2, b1, b2, b3, b4, b5, b6⟩ := r_rankIn (n := n) (c := c') (h := h) (r := r) (nw := f + i) (i := i) (f := f) hq (fun o o1 o2 o3 => by
        rw [a0.i]
        exact hh o o2 (by omega)) rfl (by omega) (fun x hx => (r1 x hx).2) n i c' ⟨rfl, fun _ _ _ _ => rfl, rfl⟩ (Nat.le_refl _) (fun x hx => (r1 x hx).1) (fun x h1 h2 => by omega) (by omega)
      rw [b1, bd_s]
      dsimp only
      rw [ix_nI (N := 200) (by omega) (by decide), bd_s]
      simp only [lt9]
      rw [show nI i + 1 = nI (i + 1) from nI_1 _]
      have fr : FrK c (sR c2 27 0 t (some (200 * q + (f + i)))) := ⟨b3.1.trans a0.1, fun k i j hk => by rw [gR_sR, if_neg (fun y => hk y.1)]; exact (b3.2.1 k i j hk).trans (a0.2.1 k i j hk), b3.2.2.trans a0.2.2⟩
      refine ih (i + 1) _ (fun x => if x < t then r x else if x = t then f + i else r (x - 1)) fr (by omega) ⟨?_, ?_, ?_⟩ (by omega)
      · intro x hx
        dsimp only
        by_cases y : x < t
        · have := r1 x (by omega)
          rw [gR_sR, if_neg (by omega), if_pos y]
          exact ⟨b4 x y, by omega, by omega⟩
        · by_cases w : x = t
          · subst w
            rw [gs_R, if_neg (by omega), if_pos rfl]
            exact ⟨rfl, by omega, by omega⟩
          · have := r1 (x - 1) (by omega)
            rw [gR_sR, if_neg (by omega), if_neg y, if_neg w]
            exact ⟨(b5 x (by omega) (by omega)).1, by omega, by omega⟩
      · intro x y hxy hy
        dsimp only
        have lowT : ∀ x, x < t → btr h (r x) (f + i) := fun x hx => by
          have hx' := r1 x (by omega)
          rcases b6 with b6 | b6
          · omega
          · by_cases w : x = t - 1
            · subst w
              unfold btr
              omega
            · have := r2 x (t - 1) (by omega) (by omega)
              unfold btr at *
              omega
        by_cases y1 : x < t
        · rw [if_pos y1]
          by_cases y2 : y < t
          · rw [if_pos y2]; exact r2 x y hxy (by omega)
          · rw [if_neg y2]
            by_cases y3 : y = t
            · rw [if_pos y3]; exact lowT x y1
            · rw [if_neg y3]
              exact r2 x (y - 1) (by omega) (by omega)
        · rw [if_neg y1, if_neg (show ¬ y < t by omega), if_neg (show ¬ y = t by omega)]
          by_cases y4 : x = t
          · rw [if_pos y4]
            exact Or.inl (b5 y (by omega) (by omega)).2
          · rw [if_neg y4]
            exact r2 (x - 1) (y - 1) (by omega) (by omega)
      · intro o h1 h2
        dsimp only
        by_cases w : o = f + i
        · exact ⟨t, by omega, by rw [if_neg (by omega), if_pos rfl, w]⟩
        · obtain ⟨x, x1, x2⟩ := r3 o h1 (by omega)
          by_cases y : x < t
          · exact ⟨x, by omega, by rw [if_pos y]; exact x2⟩
          · exact ⟨x + 1, by omega, by rw [if_neg (by omega), if_neg (by omega)]; exact x2⟩
end LR
