/-! ===== PURE: a whole tape, read by both ===== -/
def mB0 (g : Mem) : Mem := sI (sI (sI (sI (sI (sI (sI (sI (sI (sI (sI g 10 0 0 0) 10 0 3 0) 10 0 4 (-1)) 10 0 5 0) 10 0 6 0) 10 0 7 0) 10 0 10 0) 10 0 16 0) 10 0 22 (-1)) 10 0 24 0) 10 0 49 0
def mFin (n : Nat) (g16 : Mem) : Option (Int32 × Mem) := if gI g16 10 0 3 ≤ 0 then (M_leaveOpen n g16).bind fun g17 => (M_lead n 0 (-1) g17).bind fun g18 => (M_keepProgram n g18).bind fun g19 => some (gI g19 10 0 25, g19) else some (-1, g16)
theorem m_compile {n : Nat} {g : Mem} : M_compile n g = (M_statements n 15 (mB0 g)).bind fun g12 => if gI g12 10 0 3 = 0 then (M_next n g12).bind fun z => if z.1 < 0 then mFin n z.2 else (M_fail n 1 (gI z.2 10 0 5) z.2).bind fun g15 => mFin n g15 else mFin n g12 := rfl
def cS0 (c : Mem) (q : Nat) : Mem := sI (sI (sI (sI (stnd (jnt (sI (sR (sI (sI (sI (sR c 7 0 2 (some q)) 4 q 2 0) 4 q 3 0) 5 0 1 0) 8 0 3 (some q)) 8 0 2 0) 0) 0) 7 0 3 0) 7 0 4 0) 7 0 5 0) 7 0 6 (-1)
section TC
variable {T : Nat → Nat} {len q n : Nat} {c m : Mem}
theorem t_start (hq : q < 2) (hn : 2000 ≤ n) : Tr_translate n q c = (Tr_statements n 15 (cS0 c q)).bind fun z11 => if z11.1 = 0 then some (0, z11.2) else (Tr_meets n (-1) z11.2).bind fun z12 => if z12.1 = 0 then some (0, z12.2) else (Wy_settle n z12.2).bind fun g13 => some (1, g13) := by
  have e0 : gI (sI (sR (sI (sI (sI (sR c 7 0 2 (some q)) 4 q 2 0) 4 q 3 0) 5 0 1 0) 8 0 3 (some q)) 8 0 2 0) 8 0 2 = nI 0 := gs_I _ _ _ _ _
  have ws : Wy_start n q (sI (sI (sI (sR c 7 0 2 (some q)) 4 q 2 0) 4 q 3 0) 5 0 1 0) = some (stnd (jnt (sI (sR (sI (sI (sI (sR c 7 0 2 (some q)) 4 q 2 0) 4 q 3 0) 5 0 1 0) 8 0 3 (some q)) 8 0 2 0) 0) 0) := by
    rw [Wy_start]
    simp only [lt9]
    rw [r_addJoint (J := 0) e0 (by decide), bd_s]
    rfl
  rw [Tr_translate]
  simp only [lt9, Pg_clear, Rd_rewind]
  rw [gs_R, bd_s, if_pos hq, bd_s, bd_s]
  have e1 : gR (sI (sI (sI (sR c 7 0 2 (some q)) 4 q 2 0) 4 q 3 0) 5 0 1 0) 7 0 2 = some q := gs_R _ _ _ _ _
  rw [e1, bd_s, if_pos hq, ws, bd_s]
  rfl
theorem FrM.of0 {m' : Mem} (h : FrM (mB0 m) m') : FrM (sI m 10 0 0 0) m' := by
  refine FrM.tr ?_ h
  unfold mB0
  refine (((((((((FrM.upd ?_).tr (FrM.upd ?_)).tr (FrM.upd ?_)).tr (FrM.upd ?_)).tr (FrM.upd ?_)).tr (FrM.upd ?_)).tr (FrM.upd ?_)).tr (FrM.upd ?_)).tr (FrM.upd ?_)).tr (FrM.upd ?_) <;> decide
theorem FrC.of0 {c' : Mem} (h : FrC q (cS0 c q) c') : FrC q c c' := by
  refine FrC.tr ?_ h
  unfold cS0
  refine FrC.tr (FrC.tr (FrC.tr (FrC.tr (FrC.tr (FrC.tr (FrC.tr (FrC.tr (FrC.tr (FrC.tr (FrC.tr (FrC.updR ?_) (FrC.upd ?_)) (FrC.upd ?_)) (FrC.upd ?_)) (FrC.updR ?_)) (FrC.upd ?_)) FrC.jntF) FrC.stndF) (FrC.upd ?_)) (FrC.upd ?_)) (FrC.upd ?_)) (FrC.upd ?_) <;> omega
/-- the state in which both begin to read -/
theorem sr_start (hq : q < 2) (h1 : TapeC c T len) (h2 : TapeM m T len) (hN : NumC c) : SR T len q n (cS0 c q) (mB0 m) (cS0 c q) (mB0 m) 0 0 0 0 1 0 0 0 0 (fun _ => .inr 0) (fun _ => 0) false := by
  have c21 : gI (cS0 c q) 21 0 0 = -1 := by
    unfold cS0
    rw [gn_I (by omega), gn_I (by omega), gn_I (by omega), gn_I (by omega), stndO (by omega), jnt21, if_pos rfl]
  have c22 : gI (cS0 c q) 22 0 0 = -1 := by
    unfold cS0
    rw [gn_I (by omega), gn_I (by omega), gn_I (by omega), gn_I (by omega), stndO (by omega), jnt22, if_pos rfl]
  have c4 : gI (cS0 c q) 4 q 3 = nI 0 := gs_I (sI (sR c 7 0 2 (some q)) 4 q 2 0) 4 q 3 0
  have c42 : gI (cS0 c q) 4 q 2 = nI 0 := (gn_I (by omega) : gI (sI (sI (sR c 7 0 2 (some q)) 4 q 2 0) 4 q 3 0) 4 q 2 = gI (sI (sR c 7 0 2 (some q)) 4 q 2 0) 4 q 2).trans (gs_I _ _ _ _ _)
  have c82 : gI (cS0 c q) 8 0 2 = nI 1 := by
    unfold cS0
    rw [gn_I (by omega), gn_I (by omega), gn_I (by omega), gn_I (by omega), stndO (by omega)]
    exact gs_I _ _ _ _ _
  have c85 : gI (cS0 c q) 8 0 5 = nI 0 := rfl
  have m16 : gI (mB0 m) 10 0 16 = nI 0 := rfl
  refine ⟨⟨h1, h2⟩, ⟨rfl, rfl, Nat.zero_le _⟩, rfl, ⟨rfl, rfl, rfl, rfl, rfl⟩, ⟨rfl, rfl, by omega⟩, rfl, ⟨c42, rfl⟩, Or.inr ⟨rfl, ?_⟩, ?_, ⟨FrC.rf, FrM.rf⟩, ⟨by omega, by omega, by omega⟩, by omega⟩
  · refine ⟨⟨⟨rfl, c4, m16, by omega⟩, ⟨c82, by omega⟩, ⟨rfl, rfl, Nat.le_refl _, by omega⟩, ⟨fun j hj => Nat.le_refl _, by omega, fun j hj => ?_, fun j t hj e => ?_⟩, fun b hb => by omega, fun k hk => by omega⟩, ⟨c85, by omega, rfl⟩, rfl, rfl, fun k k1 k2 => by omega, fun b s j b1 => by omega⟩
    · have : j = 0 := by omega
      subst this
      exact Or.inr (Or.inl ⟨c21, c22, rfl, rfl⟩)
    · have := Sum.inr.inj e
      exact ⟨by omega, by rw [← this], rfl⟩
  · refine ⟨fun i hi => by omega, hN, fun i hi => by omega, fun b hb => by omega, fun i hi => by omega, fun b hb => by omega, fun e => (by cases e), by omega, by omega⟩
/-- what waits at the end leads nowhere: the reference says so already -/
theorem GoV.no {J j : Nat} {lab : Nat → Nat ⊕ Nat} {x y : Int32} {t : Nat} (hg : GoV J lab x y) (hJ : J ≤ 350) (hj : j < J) (e : x = nI j) (hl : lab j = .inr t) : y = -1 := by
  rcases hg with ⟨-, h⟩ | ⟨j', j1, j2, j3⟩
  · exact h
  · have := (nI_eq (by omega) (by omega)).mp (e.symm.trans j2)
    subst this
    rcases j3 with ⟨k, k1, -⟩ | ⟨u, -, h⟩
    · rw [hl] at k1; cases k1
    · exact h
theorem m_lastLead {B J K h wc cnt : Nat} {lab : Nat → Nat ⊕ Nat} {rk : Nat → Nat} {op : Bool} (hn : 2000 ≤ n) (hb : BX c m q B J K h 0 wc lab rk op) (hw : wc < 800) :
    ∃ m1 m2, M_leaveOpen n m = some m1 ∧ M_lead n 0 (-1) m1 = some m2 ∧ (∀ k i j, k ≠ 123 → ¬ ((k = 119 ∨ k = 120) ∧ (i ≠ 0 ∨ B ≤ j)) → ¬ (k = 10 ∧ (j = 22 ∨ j = 24)) → gI m2 k i j = gI m k i j) ∧ m2.2 = m.2 := by
  have hcore := hb.core
  obtain ⟨⟨a1, a2, a3, a4⟩, ⟨b1, b2⟩, ⟨d1, d2, d3, d4⟩, ⟨e1, e2, e3, e4⟩, f1, g1⟩ := hcore
  have fin : ∀ (m1 : Mem) (wc1 : Nat), wc1 ≤ 1600 → gI m1 10 0 24 = nI wc1 → (∀ k i j, k ≠ 123 → ¬ (k = 10 ∧ (j = 22 ∨ j = 24)) → gI m1 k i j = gI m k i j) → m1.2 = m.2 → (∀ k, k < wc1 → ∃ b s, b < B ∧ s < 2 ∧ gI m1 123 0 k = nI (2 * b + s) ∧ (s = 0 → gI m 119 0 b = -1) ∧ (s = 1 → gI m 120 0 b = -1)) → ∃ m2, M_lead n 0 (-1) m1 = some m2 ∧ (∀ k i j, k ≠ 123 → ¬ ((k = 119 ∨ k = 120) ∧ (i ≠ 0 ∨ B ≤ j)) → ¬ (k = 10 ∧ (j = 22 ∨ j = 24)) → gI m2 k i j = gI m k i j) ∧ m2.2 = m.2 := by
    intro m1 wc1 w1 w2 w3 w4 w5
    obtain ⟨m2, l1, l2, l3, l4, l5, l6, l7, l8⟩ := m_lead (n := n) (wf := 0) (wc := wc1) (a2 := -1) (m := m1) hn w1 (Nat.zero_le _) w2 (fun j _ z => by
      obtain ⟨b, s, x1, x2, x3, -⟩ := w5 j z
      exact ⟨2 * b + s, by omega, x3⟩)
    rw [nI_0] at l1
    refine ⟨m2, l1, ?_, l4.trans w4⟩
    intro k i j z1 z2 z3
    by_cases y : k = 119 ∨ k = 120
    · have hi : i = 0 := by
        rcases Nat.eq_zero_or_pos i with h | h
        · exact h
        · exact absurd ⟨y, Or.inl (by omega)⟩ z2
      have hj : j < B := by
        rcases Nat.lt_or_ge j B with h | h
        · exact h
        · exact absurd ⟨y, Or.inr h⟩ z2
      subst hi
      rcases y with rfl | rfl
      · by_cases u : ∃ t, t < wc1 ∧ gI m1 123 0 t = nI (2 * j)
        · obtain ⟨t, t1, t2⟩ := u
          rw [l5 j t (Nat.zero_le _) t1 t2 (by omega)]
          obtain ⟨b, s, x1, x2, x3, x4, -⟩ := w5 t t1
          have := (nI_eq (by omega) (by omega)).mp (x3.symm.trans t2)
          have eb : b = j := by omega
          have es : s = 0 := by omega
          subst eb es
          exact (x4 rfl).symm
        · rw [l6 j (by omega) (fun t _ t1 t2 => u ⟨t, t1, t2⟩)]
          exact w3 119 0 j (by decide) (by omega)
      · by_cases u : ∃ t, t < wc1 ∧ gI m1 123 0 t = nI (2 * j + 1)
        · obtain ⟨t, t1, t2⟩ := u
          rw [l7 j t (Nat.zero_le _) t1 t2 (by omega)]
          obtain ⟨b, s, x1, x2, x3, -, x4⟩ := w5 t t1
          have := (nI_eq (by omega) (by omega)).mp (x3.symm.trans t2)
          have eb : b = j := by omega
          have es : s = 1 := by omega
          subst eb es
          exact (x4 rfl).symm
        · rw [l8 j (by omega) (fun t _ t1 t2 => u ⟨t, t1, t2⟩)]
          exact w3 120 0 j (by decide) (by omega)
    · rw [l3 k i j (fun z => y (Or.inl z)) (fun z => y (Or.inr z)) (by omega)]
      exact w3 k i j z1 z3
  rcases hb with ⟨ho, ⟨-, o1, o2, o3, o4, o5, o6⟩, rfl⟩ | ⟨ho, -, -, i1, j1, k1, -⟩
  · have hl := m_leaveYes (n := n) (m := m) (b := B - 1) o3 (by omega) d1 (by omega)
    obtain ⟨m2, x1, x2, x3⟩ := fin (sI (wayM m 0 (B - 1) 0) 10 0 22 (-1)) 1 (by decide) ((gn_I (by decide)).trans (gs_I _ _ _ _ _)) (fun k i j z1 z2 => (gn_I (by omega)).trans (wayO z1 (by omega))) rfl (fun k hk => by
      refine ⟨B - 1, 0, by omega, by decide, ?_, fun _ => ?_, fun z => by cases z⟩
      · rw [gn_I (by omega), way123, if_pos (by omega)]
      · rcases (f1 (B - 1) (by omega)).1 with ⟨-, z⟩ | ⟨j, y1, y2, -⟩
        · exact z
        · exact absurd (y2.symm.trans o5) (nI_nm (by omega)))
    exact ⟨_, m2, hl, x1, x2, x3⟩
  · obtain ⟨m2, x1, x2, x3⟩ := fin m wc (by omega) d1 (fun _ _ _ _ _ => rfl) rfl (fun k hk => by
      obtain ⟨b, s, j, y1, y2, y3, y4, y5, y6⟩ := k1 k (Nat.zero_le _) hk
      refine ⟨b, s, y1, y2, y4, fun z => ?_, fun z => ?_⟩
      · subst z; exact (f1 b y1).1.no b2 y3 y5 y6
      · subst z; exact (f1 b y1).2.1.no b2 y3 y5 y6)
    exact ⟨m, m2, m_leaveNo j1, x1, x2, x3⟩
theorem t_compile (hT : TapeT T len) (hq : q < 2) (hn : 2000 ≤ n) (h1 : TapeC c T len) (h2 : TapeM m T len) (hN : NumC c) :
    ∃ r c', Tr_translate n q c = some (r, c') ∧ FrC q c c' ∧
      ((r = 0 ∧ ∃ m', M_compile n m = some (-1, m') ∧ FrM (sI m 10 0 0 0) m' ∧ (∃ f, f < 4 ∧ 1 ≤ f ∧ gI c' 7 0 5 = nI f ∧ gI m' 10 0 3 = nI f) ∧ ∃ z, z ≤ len ∧ gI c' 7 0 6 = nI z ∧ gI m' 10 0 4 = nI z) ∨
       (r = 1 ∧ ∃ m18 cnt B, M_compile n m = (M_keepProgram n m18).bind (fun g19 => some (gI g19 10 0 25, g19)) ∧ FrM (sI m 10 0 0 0) m18 ∧ PRn c' m18 q cnt B ∧ gI c' 7 0 5 = 0 ∧ gI c' 7 0 6 = -1 ∧ gI m18 10 0 3 = 0 ∧ gI m18 10 0 4 = -1)) := by
  have hn8 : 800 ≤ n := by omega
  have hlen := hT.1
  have S0 := sr_start (n := n) (T := T) (len := len) hq h1 h2 hN
  obtain ⟨r, c1, m1, x1, x2, x3⟩ := s_all hT hq hn 15 (by decide) _ _ _ _ _ _ _ _ _ _ _ _ _ _ _ _ S0 (by decide)
  have flt : ∀ {c' m' : Mem}, FLS T len q (cS0 c q) (mB0 m) c' m' 0 (700 + 3 * 15) → mFin n m' = some (-1, m') ∧ FrC q c c' ∧ FrM (sI m 10 0 0 0) m' ∧ (∃ f, f < 4 ∧ 1 ≤ f ∧ gI c' 7 0 5 = nI f ∧ gI m' 10 0 3 = nI f) ∧ ∃ z, z ≤ len ∧ gI c' 7 0 6 = nI z ∧ gI m' 10 0 4 = nI z := by
    intro c' m' hf
    refine ⟨?_, hf.2.2.2.2.2.1.of0, hf.2.2.2.2.2.2.of0, hf.1, hf.2.1⟩
    unfold mFin
    rw [if_neg hf.notle]
  rw [t_start hq hn, m_compile, x1, x2, bd_s, bd_s]
  dsimp only
  rcases x3 with ⟨rfl, p, cnt, B, J, K, h, wc, lab, rk, op, S, -⟩ | ⟨rfl, f⟩
  · have ple := S.2.1.2.2
    have hp := skip_ge T len p
    have hpl := skip_le (T := T) ple
    have S1 := S.pos hp hpl
    rw [if_neg (by decide), if_pos S.2.2.1, r_meets hT S.1.1 S.2.1.1 ple hn8, m_next hT S.1.2 S.2.1.2.1 ple hn8, bd_s, bd_s]
    by_cases hz : byt T len (skip T len p) = -1
    · rw [if_pos hz]
      dsimp only
      rw [if_neg (by decide), hz, if_pos (by decide)]
      have hcore := S1.2.2.2.2.2.2.2.1.core
      have hinv := S1.2.2.2.2.2.2.2.2.2.2.1
      obtain ⟨k1, k2, k3, k4, k5⟩ := m_lastLead (cnt := cnt) hn S1.2.2.2.2.2.2.2.1 (by omega)
      have S1' := S1
      obtain ⟨s1, s2, s3, s4, s5, s6, s7, s8, s9, ⟨s10, s11⟩, s12, s13⟩ := S1'
      have hcore' := hcore
      obtain ⟨⟨a1, a2, a3, a4⟩, ⟨b1, b2⟩, d, ⟨e1, e2, e3, e4⟩, f1, g1⟩ := hcore'
      obtain ⟨c2, y1, y2, y3, y4⟩ := r_settleL (n := n) hn8 hq b2 (fun j t hj e => (e4 j t hj e).1) (fun j hj => Nat.lt_of_le_of_lt (e1 j hj) e2) a4 (fun b s => if s = 0 then gI (sI m1 10 0 5 (nI (skip T len p))) 119 0 b else gI (sI m1 10 0 5 (nI (skip T len p))) 120 0 b) n 0 (sI c1 5 0 1 (nI (skip T len p))) (Nat.zero_le _) a1 a2 b1 e3 (fun b _ hb => ⟨(f1 b hb).1, (f1 b hb).2.1⟩) (fun b s hb => by omega) (by omega)
      rw [nI_0] at y1
      rw [Wy_settle, y1, bd_s, bd_s]
      unfold mFin
      rw [if_pos (by rw [s3]; decide), k3, bd_s, k4, bd_s]
      have fr2 : FrC q (sI c1 5 0 1 (nI (skip T len p))) c2 := ⟨fun k i j g1 g2 g3 g4 g5 g6 g7 g8 => y3 k i j (fun z => g8 ⟨z.1, z.2.1, z.2.2.1⟩), fun k i j _ _ => by unfold gR; rw [y4], by unfold gL; rw [y4]⟩
      have frm2 : FrM (sI m1 10 0 5 (nI (skip T len p))) k2 := ⟨fun k i j g1 g2 => k5.1 k i j (by omega) (by omega) (by omega), k5.2⟩
      have y0 : ∀ b, b < B → sd c2 q b 0 = gI k2 119 0 b := fun b hb => by
        rw [y2 b 0 hb (by decide), k5.1 119 0 b (by decide) (by omega) (by omega)]
        rfl
      have yo : ∀ b, b < B → sd c2 q b 1 = gI k2 120 0 b := fun b hb => by
        rw [y2 b 1 hb (by decide), k5.1 120 0 b (by decide) (by omega) (by omega)]
        rfl
      have ops := s9.leave (c' := c2) (m' := k2) (op' := false) rfl (fun i j => y3 3 i j (by omega)) (fun b j _ hj => y3 0 _ j (by omega)) (fun k i j z1 z2 => k5.1 k i j (by omega) (by omega) (by omega))
      obtain ⟨o1, o2, o3, o4, o5, o6, -, o8, o9⟩ := ops
      refine ⟨_, _, rfl, s10.of0.tr fr2, Or.inr ⟨rfl, k2, cnt, B, rfl, s11.of0.tr frm2, ⟨⟨(y3 4 q 2 (by omega)).trans s7.1, (y3 4 q 3 (by omega)).trans a2, (k5.1 10 0 10 (by decide) (by omega) (by omega)).trans s7.2, (k5.1 10 0 16 (by decide) (by omega) (by omega)).trans a3, o9, o8⟩, ?_, ?_, o2⟩, (y3 7 0 5 (by omega)).trans s4.2.2.1, (y3 7 0 6 (by omega)).trans s4.2.2.2.1, (k5.1 10 0 3 (by decide) (by omega) (by omega)).trans s3, (k5.1 10 0 4 (by decide) (by omega) (by omega)).trans s4.2.2.2.2⟩⟩
      · intro i hi
        obtain ⟨⟨v1, v2, v3, v4, v5, v6, v7⟩, v8⟩ := o1 i hi
        exact ⟨v1, v2, v3, v4, v5, v6, v7, v8, (o5 i hi).elim (fun z => z.elim) id, o3 i hi⟩
      · intro b hb
        obtain ⟨v1, v2, v3, v4, v5⟩ := f1 b hb
        have c0e : ∀ j, j < 4 → gI c2 0 (175 * q + b) j = gI (sI c1 5 0 1 (nI (skip T len p))) 0 (175 * q + b) j := fun j hj => y3 0 _ j (by omega)
        have r0 := (r_side (n := n) hn8 b1 b2 e3 (fun j t hj e => (e4 j t hj e).1) (fun j hj => Nat.lt_of_le_of_lt (e1 j hj) e2) a4 v1).2
        have r1 := (r_side (n := n) hn8 b1 b2 e3 (fun j t hj e => (e4 j t hj e).1) (fun j hj => Nat.lt_of_le_of_lt (e1 j hj) e2) a4 v2).2
        refine ⟨o4 b hb, ?_, ?_, fun z => ⟨?_, o6 b hb z⟩, ⟨y0 b hb, ?_⟩, ⟨yo b hb, ?_⟩⟩
        · rw [c0e 2 (by decide)]; exact v4
        · rw [c0e 2 (by decide), k5.1 121 0 b (by decide) (by omega) (by omega)]; exact v3
        · rw [c0e 2 (by decide)] at z
          rw [c0e 3 (by decide), k5.1 117 0 b (by decide) (by omega) (by omega), k5.1 118 0 b (by decide) (by omega) (by omega)]
          exact v5 z
        · rw [k5.1 119 0 b (by decide) (by omega) (by omega)]; exact r0
        · rw [k5.1 120 0 b (by decide) (by omega) (by omega)]; exact r1
    · have hb : skip T len p < len := by
        by_cases z : skip T len p < len
        · exact z
        · rw [byt_out z] at hz; exact absurd rfl hz
      have hinv := S1.2.2.2.2.2.2.2.2.2.2.1
      have fls := FLS.mk0 (f := 1) (z := skip T len p) (W := 700 + 3 * 15) ⟨S1.1, S1.2.1, S1.2.2.1, S1.2.2.2.1, S1.2.2.2.2.2.1, S1.2.2.2.2.2.2.1⟩ (S1.2.2.2.2.2.2.2.1.safe (by omega)) S1.2.2.2.2.2.2.2.2.2.1 (by decide) hpl
      obtain ⟨f1, f2, f3, f4, f5⟩ := flt fls
      rw [if_neg hz]
      dsimp only
      rw [if_pos rfl, if_neg (by rw [byt_in hb]; exact fun z => (q_ltm (by have := hT.2 _ hb; omega)).mp z), M_fail, if_pos S1.2.2.1, S1.2.1.2.1]
      exact ⟨_, _, rfl, f2, Or.inl ⟨rfl, _, f1, f3, f4, f5⟩⟩
  · obtain ⟨f1, f2, f3, f4, f5⟩ := flt f
    rw [if_pos rfl, if_neg f.not0]
    exact ⟨_, _, rfl, f2, Or.inl ⟨rfl, _, f1, f3, f4, f5⟩⟩
end TC
