/-! ===== PURE: laying: a cycle's pass ===== -/
theorem mx_1 {E y : Nat} : max 1 (max E y) = max (max 1 E) y := by omega
/-- what beginning writes -/
def FrB (c c' : Mem) (q b f e : Nat) : Prop := (∀ a i j, ¬ (a = 3 ∧ 200 * q + f ≤ i ∧ i < 200 * q + e ∧ (j = 9 ∨ j = 10 ∨ j = 12 ∨ j = 13)) → ¬ (a = 0 ∧ i = 175 * q + b ∧ j = 6) → a ≠ 25 → ¬ (a = 1 ∧ j = 5) → gI c' a i j = gI c a i j) ∧ c'.2 = c.2
def FrBM (m m' : Mem) (f e : Nat) : Prop := (∀ a i j, ¬ ((a = 140 ∨ a = 141) ∧ i = 0 ∧ f ≤ j ∧ j < e) → gI m' a i j = gI m a i j) ∧ m'.2 = m.2
theorem FrB.rf {c : Mem} {q b f e : Nat} : FrB c c q b f e := ⟨fun _ _ _ _ _ _ _ => rfl, rfl⟩
theorem FrB.tr {c c' c'' : Mem} {q b f e : Nat} (h1 : FrB c c' q b f e) (h2 : FrB c' c'' q b f e) : FrB c c'' q b f e := ⟨fun a i j x1 x2 x3 x4 => (h2.1 a i j x1 x2 x3 x4).trans (h1.1 a i j x1 x2 x3 x4), h2.2.trans h1.2⟩
theorem FrBM.tr {c c' c'' : Mem} {f e : Nat} (h1 : FrBM c c' f e) (h2 : FrBM c' c'' f e) : FrBM c c'' f e := ⟨fun a i j x1 => (h2.1 a i j x1).trans (h1.1 a i j x1), h2.2.trans h1.2⟩
theorem FrB.fl {c c' : Mem} {q b f e : Nat} (h : FrB c c' q b f e) : FrL c c' := ⟨fun k i j x1 x2 x3 x4 x5 => h.1 k i j (by omega) (by omega) (by omega) (by omega), fun k i j _ => by unfold gR; rw [h.2], by unfold gL; rw [h.2]⟩
theorem FrBM.fl {c c' : Mem} {f e : Nat} (h : FrBM c c' f e) : FrLM c c' := ⟨fun k i j x1 x2 => h.1 k i j (by omega), h.2⟩
section LS
variable {n q cnt B b f g t left mv : Nat} {c m : Mem} {lat mn K bg un h : Nat → Nat} {D : Nat → Nat → Bool}
theorem cb_facts {o w k l : Nat} (h5 : gI c 1 0 5 = nI mv) : (∀ a i j, ¬ (a = 3 ∧ i = 200 * q + o ∧ (j = 9 ∨ j = 10)) → ¬ (a = 1 ∧ i = 0 ∧ j = 5) → a ≠ 25 → gI (cBeg c q t o w k l mv) a i j = gI c a i j) ∧ gI (cBeg c q t o w k l mv) 3 (200 * q + o) 9 = nI t ∧ gI (cBeg c q t o w k l mv) 3 (200 * q + o) 10 = nI w ∧ (k ≠ 3 → ∀ k' u, gI (cBeg c q t o w k l mv) 25 0 (4 * k' + u) = if 4 * k' + u = 4 * k + w then nI (t + l) else gI c 25 0 (4 * k' + u)) ∧ (k = 3 → ∀ x, gI (cBeg c q t o w k l mv) 25 0 x = gI c 25 0 x) ∧ gI (cBeg c q t o w k l mv) 1 0 5 = nI (if k = 3 then mv + 1 else mv) ∧ (cBeg c q t o w k l mv).2 = c.2 := by
  unfold cBeg
  by_cases z : k = 3
  · rw [if_pos z, if_pos z]
    refine ⟨fun a i j h1 h2 h3 => ?_, ?_, ?_, fun e => absurd z e, fun _ x => rfl, gs_I _ _ _ _ _, rfl⟩
    · rw [gn_I (by omega), gn_I (by omega), gn_I (by omega)]
    · rw [gn_I (by omega), gn_I (by omega), gs_I]
    · rw [gn_I (by omega), gs_I]
  · rw [if_neg z, if_neg z]
    refine ⟨fun a i j h1 h2 h3 => ?_, ?_, ?_, fun _ k' u => ?_, fun e => absurd e z, h5, rfl⟩
    · rw [gn_I (by omega), gn_I (by omega), gn_I (by omega)]
    · rw [gn_I (by omega), gn_I (by omega), gs_I]
    · rw [gn_I (by omega), gs_I]
    · by_cases y : 4 * k' + u = 4 * k + w
      · rw [if_pos y, y, gs_I]
      · rw [if_neg y, gn_I (by omega), gn_I (by omega), gn_I (by omega)]
theorem SC.left_ (hS : SC c q b f g lat K D bg un t left) {o : Nat} (h1 : f ≤ o) (h2 : o < f + g) (h0 : bg o = 0) : left = cq (fun x => decide (upN bg o (t + 1) x = 0)) f (f + g) + 1 := by
  rw [hS.2.2.2.1]
  refine cq_dn (o := o) (fun x hx => ?_) ?_ ?_ h1 _ h2
  · rw [upN_n hx]
  · exact decide_eq_true h0
  · exact decide_eq_false (by rw [upN_s]; omega)
theorem c_step (hn : 800 ≤ n) (hq : q < 2) (hE : EV c m q cnt B b f g lat mn K D) (hS : SC c q b f g lat K D bg un t left) (hV : MV c f g K bg un t mv left) {o w : Nat} (h1 : f ≤ o) (h2 : o < f + g) (hc : can f g lat mn K D bg un t o w) (hw3 : K o = 3 → w = mv) (hw : K o ≠ 3 → w < mn (K o)) :
    ∃ c4 mv', Op_end n (200 * q + o) (cBeg c q t o w (K o) (lat (K o)) mv) = some (nI (t + lat (K o))) ∧ Ly_tellThoseBehind n q (175 * q + b) (200 * q + o) (sI (cBeg c q t o w (K o) (lat (K o)) mv) 0 (175 * q + b) 6 (imax (gI (cBeg c q t o w (K o) (lat (K o)) mv) 0 (175 * q + b) 6) (nI (t + lat (K o))))) = some c4 ∧ SC c4 q b f g lat K D (upN bg o (t + 1)) (upN un o w) t (left - 1) ∧ MV c4 f g K (upN bg o (t + 1)) (upN un o w) t mv' (left - 1) ∧ FrB c c4 q b f (f + g) ∧ 0 < left := by
  obtain ⟨e1, e2, e3⟩ := hE.size
  obtain ⟨p1, p2, p3, p4, p5, p6, p7⟩ := cb_facts (q := q) (t := t) (o := o) (w := w) (k := K o) (l := lat (K o)) hV.1
  generalize hc1 : cBeg c q t o w (K o) (lat (K o)) mv = c1 at *
  have t8 : t ≤ 800 := by have := hS.2.2.2.2.2.2; omega
  have l4 := hE.lat4 o
  have k4 := hE.lt4 o
  have hlf := hS.left_ h1 h2 hc.1
  obtain ⟨s1, s2, s3, s4, s5, -⟩ := hS.1 o h1 h2
  have o9 : gI c1 3 (200 * q + o) 9 + gI c1 3 (200 * q + o) 7 = nI (t + lat (K o)) := by
    rw [p2, p1 3 _ 7 (by omega) (by omega) (by decide), s4, nI_add]
  have fl1 : FrL c c1 := ⟨fun k i j x1 x2 x3 x4 x5 => p1 k i j (by omega) (by omega) x3, fun k i j _ => by unfold gR; rw [p7], by unfold gL; rw [p7]⟩
  generalize hc2 : sI c1 0 (175 * q + b) 6 (imax (gI c1 0 (175 * q + b) 6) (nI (t + lat (K o)))) = c2
  have fl2 : FrL c c2 := by rw [← hc2]; exact fl1.tr (FrL.upd (by omega))
  have g3 : ∀ a i j, a ≠ 0 → gI c2 a i j = gI c1 a i j := fun a i j ha => by rw [← hc2]; exact gn_I (by omega)
  have hE2 := hE.ag fl2 FrLM.rf
  obtain ⟨c4, a1, a2, a3, a4⟩ := r_tellL (n := n) hE2 (o := o) (E := t + lat (K o)) hq h1 h2 (by rw [g3 _ _ _ (by decide), g3 _ _ _ (by decide)]; exact o9) n (o + 1) c2 FrL.rf (fun _ _ => rfl) (by omega) (by omega) (by omega)
  refine ⟨c4, if K o = 3 then mv + 1 else mv, by rw [Op_end, o9], ?_, ?_, ?_, ?_, by omega⟩
  · rw [Ly_tellThoseBehind, hE2.1.num hq (by omega), show nI o + 1 = nI (o + 1) from nI_1 _, a1, bd_s]
  · have S1 := hS.1
    obtain ⟨-, S2, ⟨E, E1, E2⟩, S4, S5, S6, S7⟩ := hS
    have t20 : t + lat (K o) < 2 ^ 20 := by omega
    refine ⟨fun j j1 j2 => ?_, fun k u hk hu => ?_, ⟨max E (t + lat (K o)), ?_, ?_⟩, by omega, by omega, fun x x1 x2 x3 => ?_, by omega⟩
    · obtain ⟨u1, u2, u3, u4, u5, r, u6, u7⟩ := S1 j j1 j2
      have r4 : ∀ i, i ≠ 12 → i ≠ 13 → gI c4 3 (200 * q + j) i = gI c1 3 (200 * q + j) i := fun i i1 i2 => (a3 3 _ i (by omega)).trans (g3 3 _ _ (by decide))
      have r12 : ∀ i, i = 12 ∨ i = 13 → gI c2 3 (200 * q + j) i = gI c 3 (200 * q + j) i := fun i hi => (g3 3 _ _ (by decide)).trans (p1 3 _ i (by omega) (by omega) (by decide))
      refine ⟨?_, ?_, fun v => ?_, ?_, ?_, ?_⟩
      · rw [r4 9 (by decide) (by decide)]
        by_cases y : j = o
        · subst y
          rw [p2, upN_s, pm_s]
        · rw [p1 3 _ 9 (by omega) (by omega) (by decide), upN_n y, u1]
      · by_cases y : j = o
        · subst y; rw [upN_s]; omega
        · rw [upN_n y]; exact u2
      · rw [r4 10 (by decide) (by decide)]
        by_cases y : j = o
        · subst y
          have w3 : w < 300 := by
            rcases hc.2.2 with ⟨v1, -⟩ | ⟨w', v1, v2, -⟩ <;> omega
          rw [p3, upN_s]
          exact ⟨rfl, w3⟩
        · rw [upN_n y] at v
          rw [p1 3 _ 10 (by omega) (by omega) (by decide), upN_n y]
          exact u3 v
      · rw [r4 7 (by decide) (by decide), p1 3 _ 7 (by omega) (by omega) (by decide)]
        exact u4
      · by_cases y : o < j
        · rw [(a2 j (by omega) j2).1, r12 12 (Or.inl rfl), u5]
          by_cases v : D j o = true
          · rw [if_pos v, cq_dn (P := fun x => D j x && decide (bg x = 0)) (P' := fun x => D j x && decide (upN bg o (t + 1) x = 0)) (o := o) (fun x hx => by rw [upN_n hx]) (by rw [v, hc.1]; rfl) (by rw [upN_s, decide_eq_false (by omega), Bool.and_false]) h1 j y]
            exact nI_pred _
          · rw [if_neg v]
            congr 1
            refine cq_cg _ (fun x x1 x2 => ?_)
            by_cases y : x = o
            · rw [y, bool_f v, Bool.false_and, Bool.false_and]
            · rw [upN_n y]
        · rw [a3 3 _ 12 (by omega), r12 12 (Or.inl rfl), u5]
          congr 1
          refine cq_cg _ (fun x x1 x2 => ?_)
          rw [upN_n (by omega)]
      · by_cases y : o < j
        · rw [(a2 j (by omega) j2).2, r12 13 (Or.inr rfl), u6]
          by_cases v : D j o = true
          · rw [if_pos v, imax_N (by have := u7.1; omega) (by omega)]
            exact ⟨_, rfl, u7.in_ (l := fun x => lat (K x)) hc.1 (fun x hx => Iff.rfl) ⟨h1, y, v⟩ t20⟩
          · rw [if_neg v]
            exact ⟨r, rfl, u7.out hc.1 (fun x hx => Iff.rfl) (fun w => v w.2.2)⟩
        · rw [a3 3 _ 13 (by omega), r12 13 (Or.inr rfl), u6]
          exact ⟨r, rfl, u7.out hc.1 (fun x hx => Iff.rfl) (fun w => y w.2.1)⟩
    · obtain ⟨F, F1, F2⟩ := S2 k u hk hu
      have f25 : gI c4 25 0 (4 * k + u) = gI c1 25 0 (4 * k + u) := (a3 25 _ _ (by omega)).trans (g3 25 _ _ (by decide))
      have hSS : ∀ x, x ≠ o → (((f ≤ x ∧ x < f + g) ∧ K x = k ∧ upN un o w x = u) ↔ ((f ≤ x ∧ x < f + g) ∧ K x = k ∧ un x = u)) := fun x hx => by rw [upN_n hx]
      rw [f25]
      by_cases y : K o = 3
      · rw [p5 y, F1]
        exact ⟨F, rfl, F2.out hc.1 hSS (fun v => by have := v.2.1; omega)⟩
      · have wm := hw y
        have m4 := (hE.2.1.2.1 (K o) (by omega)).2.2.2
        rw [p4 y]
        by_cases v : 4 * k + u = 4 * K o + w
        · have kk : k = K o := by omega
          have uu : u = w := by omega
          rw [if_pos v]
          have le : F ≤ t := by
            rcases hc.2.2 with ⟨v1, -⟩ | ⟨w', v1, v2, v3, v4, v5⟩
            · omega
            · have : w' = w := by omega
              subst this
              refine (F2.2 t).mpr (fun x x1 x2 => v4 x x1.1.1 x1.1.2 x2 (x1.2.1.trans kk) (x1.2.2.trans uu))
          have := F2.in_ (l := fun x => lat (K x)) (t := t) hc.1 hSS ⟨⟨h1, h2⟩, kk.symm, by rw [upN_s]; exact uu.symm⟩ t20
          rw [Nat.max_eq_right (show F ≤ t + lat (K o) by omega)] at this
          exact ⟨_, rfl, this⟩
        · rw [if_neg v, F1]
          refine ⟨F, rfl, F2.out hc.1 hSS (fun v' => v ?_)⟩
          rw [upN_s] at v'
          rw [v'.2.1, v'.2.2]
    · rw [a3 0 _ 6 (by omega), ← hc2, gs_I, p1 0 _ 6 (by omega) (by omega) (by decide), E1, imax_N (by have := E2.1; omega) (by omega), mx_1]
    · exact E2.in_ (l := fun x => lat (K x)) hc.1 (fun x hx => Iff.rfl) ⟨h1, h2⟩ t20
    · by_cases y : x = o
      · subst y
        rw [upN_s]
        omega
      · rw [upN_n y] at x3 ⊢
        have := S6 x x1 x2 x3
        omega
  · obtain ⟨v1, v2, v3⟩ := hV
    refine ⟨?_, fun u => ?_, ?_⟩
    · rw [a3 1 _ 5 (by omega), g3 1 _ _ (by decide)]
      exact p6
    · by_cases y : K o = 3
      · rw [if_pos y]
        have := hw3 y
        refine ⟨fun hu => ?_, fun hu => ?_⟩
        · by_cases z : u = mv
          · exact ⟨o, h1, h2, upN_s, y, by rw [upN_s, z, this]⟩
          · obtain ⟨x, x1, x2, x3, x4, x5⟩ := (v2 u).mp (by omega)
            have xo : x ≠ o := fun w => by rw [w, hc.1] at x3; omega
            exact ⟨x, x1, x2, by rw [upN_n xo]; exact x3, x4, by rw [upN_n xo]; exact x5⟩
        · obtain ⟨x, x1, x2, x3, x4, x5⟩ := hu
          by_cases xo : x = o
          · subst xo
            rw [upN_s] at x5
            omega
          · rw [upN_n xo] at x3 x5
            have := (v2 u).mpr ⟨x, x1, x2, x3, x4, x5⟩
            omega
      · rw [if_neg y, v2]
        refine ⟨fun ⟨x, x1, x2, x3, x4, x5⟩ => ?_, fun ⟨x, x1, x2, x3, x4, x5⟩ => ?_⟩
        · have xo : x ≠ o := fun w => by rw [w, hc.1] at x3; omega
          exact ⟨x, x1, x2, by rw [upN_n xo]; exact x3, x4, by rw [upN_n xo]; exact x5⟩
        · have xo : x ≠ o := fun w => by rw [w] at x4; exact y x4
          rw [upN_n xo] at x3 x5
          exact ⟨x, x1, x2, x3, x4, x5⟩
    · split <;> omega
  · refine ⟨fun a i j x1 x2 x3 x4 => ?_, a4.trans ?_⟩
    · rw [a3 a i j (by omega), ← hc2, gn_I (by omega), p1 a i j (by omega) (by omega) x3]
    · rw [← hc2]; exact p7
theorem can_up (hE : EV c m q cnt B b f g lat mn K D) (hS : SC c q b f g lat K D bg un t left) (hB : BG m f g bg un t) (hV : MV c f g K bg un t mv left) {o w j y : Nat} (hc : bg o = 0) (j1 : f ≤ j) (j2 : j < f + g) (h : can f g lat mn K D (upN bg o (t + 1)) (upN un o w) t j y) : ∃ y', can f g lat mn K D bg un t j y' := by
  obtain ⟨e1, e2, e3⟩ := hE.size
  obtain ⟨h1, h2, h3⟩ := h
  have jo : j ≠ o := fun w => by rw [w, upN_s] at h1; omega
  rw [upN_n jo] at h1
  have hf3 := hV.fu (mn := mn) (by omega) hE.2.1.2.2 (fun o h1 h2 => (hS.1 o h1 h2).2.1)
  obtain ⟨z, z1, z2⟩ := m_free (n := 800) (by omega) hE hB j1 j2 (fun w => by
    rcases hf3 with v | ⟨w', v1, v2, v3, v4, v5⟩
    · omega
    · exact ⟨w', v2, by rw [w]; exact v4⟩)
  have hr : rdy f lat K D bg t j := fun x x1 x2 x3 => by
    obtain ⟨u1, u2⟩ := h2 x x1 x2 x3
    by_cases xo : x = o
    · subst xo
      rw [upN_s] at u2
      have := hE.lat4 x
      omega
    · rw [upN_n xo] at u1 u2
      exact ⟨u1, u2⟩
  by_cases zz : z = 0
  · rcases h3 with ⟨v1, -⟩ | ⟨w', v1, v2, v3, v4, v5⟩
    · omega
    · have fo : fru f g lat K bg un t (K j) w' := fun x x1 x2 x3 x4 x5 => by
        have xo : x ≠ o := fun w => x3 (w ▸ hc)
        have := v4 x x1 x2 (by rw [upN_n xo]; exact x3) x4 (by rw [upN_n xo]; exact x5)
        rw [upN_n xo] at this
        exact this
      rcases z2 with ⟨u1, u2, u3⟩ | ⟨w'', u1, -⟩
      · rcases v3 with v3 | v3
        · exact absurd v3 u2
        · exact absurd fo (u3 w' v3)
      · omega
  · exact ⟨z - 1, h1, hr, by rw [show z - 1 + 1 = z by omega]; exact z2⟩
theorem pass {r : Nat → Nat} {c0 m0 : Mem} (hn : 800 ≤ n) (hq : q < 2) (hE0 : EV c0 m0 q cnt B b f g lat mn K D) (hR : RK h c0 q f g r) (hh : ∀ o, f ≤ o → o < f + g → gI m0 139 0 o = nI (h o) ∧ h o < 2000) : ∀ (k i left mv : Nat) (bg un : Nat → Nat) (c m : Mem), FrB c0 c q b f (f + g) → FrBM m0 m f (f + g) → SC c q b f g lat K D bg un t left → MV c f g K bg un t mv left → BG m f g bg un t → (∀ x, x < i → ∀ w, ¬ can f g lat mn K D bg un t (r x) w) → i ≤ g → g - i < k →
    ∃ bg' un' left' mv' c2, Ly_beginAll_L34 n (175 * q + b) q (nI t) k (nI (g - left)) (nI i) c = some (nI (g - left'), c2) ∧ (∀ kk, left < kk → ∃ m2, M_layBlock_L136 n (nI b) (nI t) kk (nI left) m = some (nI left', m2) ∧ FrBM m0 m2 f (f + g) ∧ BG m2 f g bg' un' t) ∧ SC c2 q b f g lat K D bg' un' t left' ∧ MV c2 f g K bg' un' t mv' left' ∧ FrB c0 c2 q b f (f + g) ∧ (∀ o, f ≤ o → o < f + g → ∀ w, ¬ can f g lat mn K D bg' un' t o w) ∧ left' ≤ left := by
  obtain ⟨e1, e2, e3⟩ := hE0.size
  intro k
  induction k with
  | zero => intro i left mv bg un c m a1 a2 a3 a4 a5 a6 a7 a8; omega
  | succ k ih =>
    intro i left mv bg un c m a1 a2 a3 a4 a5 a6 a7 a8
    have hE := hE0.ag a1.fl a2.fl
    have q1 : (nI g ≤ nI i) = (g ≤ i) := q_le (by omega) (by omega)
    have hf3 : ∃ u, u < 300 ∧ fru f g lat K bg un t 3 u := by
      rcases a4.fu (mn := mn) (by omega) hE.2.1.2.2 (fun o h1 h2 => (a3.1 o h1 h2).2.1) with v | ⟨w', v1, v2, v3, v4, v5⟩
      · omega
      · exact ⟨w', v2, v4⟩
    have hh' : ∀ o, f ≤ o → o < f + g → gI m 139 0 o = nI (h o) ∧ h o < 2000 := fun o o1 o2 => by
      rw [a2.1 139 0 o (by omega)]; exact hh o o1 o2
    have mb := m_begin (n := n) hn hE a5 hh' hf3
    rw [Ly_beginAll_L34, hE.2.2.1.2.1]
    simp only [q1]
    by_cases z : g ≤ i
    · rw [if_pos z]
      have nc : ∀ o, f ≤ o → o < f + g → ∀ w, ¬ can f g lat mn K D bg un t o w := fun o o1 o2 w => by
        obtain ⟨x, x1, x2⟩ := hR.2.2 o o1 o2
        rw [← x2]
        exact a6 x (by omega) w
      refine ⟨bg, un, left, mv, c, rfl, fun kk hkk => ?_, a3, a4, a1, nc, Nat.le_refl _⟩
      obtain ⟨kk, rfl⟩ : ∃ y, kk = y + 1 := ⟨kk - 1, by omega⟩
      rcases mb with ⟨m1, m2⟩ | ⟨j0, w, m1, m2, m3, m4, m5⟩
      · rw [M_layBlock_L136, m1, bd_s]
        dsimp only
        rw [if_pos rfl]
        exact ⟨m, rfl, a2, a5⟩
      · exact absurd m4 (nc j0 m2 m3 w)
    · obtain ⟨r1, r2, r3⟩ := hR.1 i (by omega)
      have rk : gR c 27 0 i = some (200 * q + r i) := by
        have : gR c 27 0 i = gR c0 27 0 i := by unfold gR; rw [a1.2]
        rw [this]; exact r1
      have ix0 : ix (nI i) 200 = some i := ix_nI (by omega) (by decide)
      rw [if_neg z, ix0, bd_s, rk, bd_s, if_pos (by omega)]
      rcases r_begins (n := n) hn hE a3 a4 r2 r3 with ⟨b1', b2⟩ | ⟨w, b1', b2, b3, b4⟩
      · rw [b1', bd_s]
        dsimp only
        rw [if_pos rfl, show nI i + 1 = nI (i + 1) from nI_1 _]
        exact ih (i + 1) left mv bg un c m a1 a2 a3 a4 a5 (fun x hx w => by
          by_cases y : x = i
          · rw [y]; exact b2 w
          · exact a6 x (by omega) w) (by omega) (by omega)
      · obtain ⟨c4, mv', d1, d2, d3, d4, d5, d6⟩ := c_step (n := n) hn hq hE a3 a4 r2 r3 b1' b3 b4
        have rk1 : gR (cBeg c q t (r i) w (K (r i)) (lat (K (r i))) mv) 27 0 i = some (200 * q + r i) := by
          rw [← rk]
          unfold gR
          rw [(cb_facts (q := q) (t := t) (o := r i) (w := w) (k := K (r i)) (l := lat (K (r i))) a4.1).2.2.2.2.2.2]
        have rk2 : gR (sI (cBeg c q t (r i) w (K (r i)) (lat (K (r i))) mv) 0 (175 * q + b) 6 (imax (gI (cBeg c q t (r i) w (K (r i)) (lat (K (r i))) mv) 0 (175 * q + b) 6) (nI (t + lat (K (r i)))))) 27 0 i = some (200 * q + r i) := rk1
        have i4 : 200 * q + r i < 400 := by omega
        rw [b2, bd_s]
        dsimp only
        rw [if_neg (show ¬ (1 : Int32) = 0 by decide)]
        simp only [lt9, ix0, bd_s]
        rw [rk1, bd_s, if_pos i4, d1, bd_s]
        rw [rk2, bd_s, if_pos i4, d2, bd_s, show nI i + 1 = nI (i + 1) from nI_1 _, show nI (g - left) + 1 = nI (g - (left - 1)) from by
          rw [show nI (g - left) + 1 = nI (g - left + 1) from nI_1 _]
          congr 1
          have := a3.2.2.2.2.1
          omega]
        rcases mb with ⟨m1, m2⟩ | ⟨j0, w0, m1, m2, m3, m4, m5⟩
        · exact absurd b1' (m2 (r i) w r2 r3)
        · have j0e : j0 = r i := by
            rcases m5 (r i) w r2 r3 b1' with e | e
            · exact e.symm
            · obtain ⟨y, y1, y2⟩ := hR.2.2 j0 m2 m3
              by_cases yi : y < i
              · exact absurd (y2.symm ▸ m4) (a6 y yi w0)
              · by_cases ye : y = i
                · rw [← y2, ye]
                · have := hR.2.1 i y (by omega) y1
                  rw [y2] at this
                  exact absurd (btr_tr e this) btr_irr
          subst j0e
          have we : w0 = w := by
            have := m4.2.2.uq b1'.2.2
            omega
          subst we
          have fm : FrBM m0 (sI (sI m 140 0 (r i) (nI t)) 141 0 (r i) (nI w0)) f (f + g) := a2.tr ⟨fun a x j hx => by rw [gn_I (by omega), gn_I (by omega)], rfl⟩
          have t20 := a5.1
          have bg' : BG (sI (sI m 140 0 (r i) (nI t)) 141 0 (r i) (nI w0)) f g (upN bg (r i) (t + 1)) (upN un (r i) w0) t := ⟨t20, fun o o1 o2 => by
            by_cases y : o = r i
            · subst y
              rw [gn_I (by omega), gs_I, gs_I, upN_s, upN_s, pm_s]
              have w3 : w0 < 300 := by
                rcases m4.2.2 with ⟨v1, -⟩ | ⟨w', v1, v2, -⟩ <;> omega
              exact ⟨rfl, Nat.le_refl _, fun _ => ⟨rfl, w3⟩⟩
            · rw [gn_I (by omega), gn_I (by omega), gn_I (by omega), gn_I (by omega), upN_n y, upN_n y]
              exact a5.2 o o1 o2⟩
          obtain ⟨bg2, un2, left2, mv2, c5, f1, f2, f3, f4, f5, f6, f7⟩ := ih (i + 1) (left - 1) mv' _ _ c4 _ (a1.tr d5) fm d3 d4 bg' (fun x hx w' hcan => by
            by_cases y : x = i
            · rw [y] at hcan
              have := hcan.1
              rw [upN_s] at this
              omega
            · obtain ⟨y', hy'⟩ := can_up hE a3 a5 a4 b1'.1 (hR.1 x (by omega)).2.1 (by have := (hR.1 x (by omega)).2.2; omega) hcan
              exact a6 x (by omega) y' hy') (by omega) (by omega)
          refine ⟨bg2, un2, left2, mv2, c5, f1, fun kk hkk => ?_, f3, f4, f5, f6, by omega⟩
          obtain ⟨kk, rfl⟩ : ∃ y, kk = y + 1 := ⟨kk - 1, by omega⟩
          obtain ⟨m2', g1, g2, g3⟩ := f2 kk (by omega)
          refine ⟨m2', ?_, g2, g3⟩
          rw [M_layBlock_L136, m1, bd_s]
          dsimp only
          rw [if_neg (show ¬ (1 : Int32) = 0 by decide), show nI left + (-1) = nI (left - 1) from by
            obtain ⟨y, rfl⟩ : ∃ y, left = y + 1 := ⟨left - 1, by omega⟩
            exact pk_m1 y]
          exact g1
end LS
