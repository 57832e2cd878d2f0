/-! ===== PURE: what holds between calls ===== -/
/-- program q and the supply are as they were in the class -/
def KEEP (c c' : Mem) (q : Nat) : Prop := (∀ i j, i < 200 → gI c' 3 (200 * q + i) j = gI c 3 (200 * q + i) j) ∧ (∀ b j, b < 175 → gI c' 0 (175 * q + b) j = gI c 0 (175 * q + b) j) ∧ (∀ j, gI c' 4 q j = gI c 4 q j) ∧ (∀ i, gI c' 23 0 i = gI c 23 0 i ∧ gI c' 24 0 i = gI c 24 0 i) ∧ NumC c'
def KEEPM (m m' : Mem) : Prop := (∀ k i j, 126 ≤ k → k ≤ 143 → gI m' k i j = gI m k i j) ∧ gI m' 10 0 25 = gI m 10 0 25 ∧ gI m' 10 0 31 = gI m 10 0 31
/-- program q is laid, with the supply lat, mn -/
def PROG (c m : Mem) (q cnt B : Nat) (lat mn : Nat → Nat) : Prop := PR c m q cnt B ∧ LatR c m lat mn ∧ LAYR c m q cnt B
theorem PROG.kp {c c' m m' : Mem} {q cnt B : Nat} {lat mn : Nat → Nat} (h : PROG c m q cnt B lat mn) (k : KEEP c c' q) (km : KEEPM m m') : PROG c' m' q cnt B lat mn := by
  obtain ⟨⟨⟨h1, h2, h3, h4, h5, h6⟩, r1, r2, r3⟩, ⟨l1, l2, l3⟩, y1, y2⟩ := h
  obtain ⟨k1, k2, k3, k4, k5⟩ := k
  obtain ⟨n1, n2, n3⟩ := km
  have us : ∀ j i, j < 200 → (uses c' q j i ↔ uses c q j i) := fun j i hj => by
    unfold uses
    rw [k1 j 3 hj, k1 j 4 hj]
  have M : ∀ a i, 126 ≤ a → a ≤ 143 → gI m' a 0 i = gI m a 0 i := fun a i g1 g2 => n1 a 0 i g1 g2
  refine ⟨⟨⟨(k3 2).trans h1, (k3 3).trans h2, n2.trans h3, n3.trans h4, h5, h6⟩, fun i hi => ?_, fun b hb => ?_, k5⟩, ⟨fun k hk => ?_, fun k hk => ?_, l3⟩, fun b hb => ?_, fun o ho => ?_⟩
  · have i2 : i < 200 := by omega
    obtain ⟨v1, v2, v3, v4, v5, v6, v7, v8, v9, v10⟩ := r1 i hi
    rw [M 126 i (by decide) (by decide), M 127 (2 * i) (by decide) (by decide), M 128 (2 * i) (by decide) (by decide), M 127 (2 * i + 1) (by decide) (by decide), M 128 (2 * i + 1) (by decide) (by decide), M 129 i (by decide) (by decide), M 130 i (by decide) (by decide), k1 i 1 i2, k1 i 2 i2, k1 i 3 i2, k1 i 4 i2, k1 i 5 i2, k1 i 6 i2]
    refine ⟨v1, v2, v3, v4, v5, v6, v7, ?_, ?_, v10⟩
    · intro z hz hu
      rw [us i z i2] at hu
      rw [k1 z 6 hz, k1 i 6 i2, k1 z 5 hz, k1 z 1 hz]
      exact v8 z hz hu
    · intro u1 u2
      rw [k1 i 5 i2] at u1
      rw [k1 i 1 i2] at u2
      rcases v9 u1 u2 with ⟨j, j1, j2, j3⟩ | ⟨b, x1, x2, x3, x4⟩
      · exact Or.inl ⟨j, j1, j2, (us j i (by omega)).mpr j3⟩
      · exact Or.inr ⟨b, x1, by rw [k1 i 6 i2]; exact x2, by rw [k2 b 2 (by omega)]; exact x3, by rw [k2 b 3 (by omega)]; exact x4⟩
  · have b2 : b < 175 := by omega
    obtain ⟨v1, v2, v3, v4, v5, v6⟩ := r2 b hb
    have sdc : ∀ s, sd c' q b s = sd c q b s := fun s => k2 b _ b2
    rw [M 132 b (by decide) (by decide), M 133 b (by decide) (by decide), M 134 b (by decide) (by decide), M 135 b (by decide) (by decide), M 136 b (by decide) (by decide), k2 b 2 b2, k2 b 3 b2, sdc 0, sdc 1]
    refine ⟨?_, v2, v3, fun z => ⟨(v4 z).1, ?_⟩, v5, v6⟩
    · obtain ⟨f, g, r1, r2, r3, r4⟩ := v1
      refine ⟨f, g, by rw [k2 b 0 b2]; exact r1, by rw [k2 b 1 b2]; exact r2, r3, fun i hi => ?_⟩
      rw [k1 i 6 (by omega)]
      exact r4 i hi
    · intro i hi e
      rw [k1 i 6 hi, k1 i 5 hi, k1 i 1 hi]
      exact (v4 z).2 i hi e
  · rw [(k4 k).2, M 138 k (by decide) (by decide)]; exact l1 k hk
  · rw [(k4 k).1, M 137 k (by decide) (by decide)]; exact l2 k hk
  · rw [M 143 b (by decide) (by decide), k2 b 6 (by omega)]; exact y1 b hb
  · rw [M 139 o (by decide) (by decide), M 140 o (by decide) (by decide), M 141 o (by decide) (by decide), M 142 o (by decide) (by decide), k1 o 8 (by omega), k1 o 9 (by omega), k1 o 10 (by omega), k1 o 11 (by omega)]; exact y2 o ho
/-- where the machine stands -/
def STAND (c m : Mem) (q B : Nat) : Prop := gR c 2 0 3 = some q ∧ gI c 2 0 4 = gI m 10 0 47 ∧ (gI c 2 0 4 = -1 ∨ ∃ k, k < B ∧ gI c 2 0 4 = nI k) ∧ gL c 2 0 = gL m 10 0
/-- what both sides have between calls -/
def INV (c m : Mem) (T : Nat → Nat) (len q cnt B : Nat) (lat mn : Nat → Nat) : Prop := (TapeT T len ∧ TapeC c T len ∧ TapeM m T len) ∧ (q < 2 ∧ gR c 9 0 4 = some q ∧ gR c 9 0 5 = some (1 - q)) ∧ PROG c m q cnt B lat mn ∧ (gI c 7 0 5 = gI m 10 0 3 ∧ gI c 7 0 6 = gI m 10 0 4) ∧ STAND c m q B ∧ (∀ v, v < 8 → gI c 28 0 v = gI m 144 0 v) ∧ ∀ i, i < 16 → gI c 29 0 i = gI m 145 0 i
/-- only what laying anew writes has changed -/
def FrY (c c' : Mem) : Prop := (∀ k i j, ¬ (k = 3 ∧ 7 ≤ j) → ¬ (k = 0 ∧ j = 6) → k ≠ 25 → k ≠ 26 → ¬ (k = 1 ∧ j = 5) → ¬ (k = 2 ∧ j = 4) → gI c' k i j = gI c k i j) ∧ (∀ k i j, k ≠ 27 → k ≠ 2 → gR c' k i j = gR c k i j)
def FrYM (m m' : Mem) : Prop := ∀ k i j, ¬ (139 ≤ k ∧ k ≤ 143) → k ≠ 150 → ¬ (k = 10 ∧ j = 47) → gI m' k i j = gI m k i j
section IV
variable {T : Nat → Nat} {len n q cnt B : Nat} {c m : Mem} {lat mn : Nat → Nat}
theorem NumC.ag {c c' : Mem} (h : NumC c) (e : ∀ o, gI c' 3 o 0 = gI c 3 o 0) : NumC c' := fun o ho => (e o).trans (h o ho)
/-- the machine begins a program -/
theorem begin_ (hq : q < 2) (hP : PROG c m q cnt B lat mn) : ∃ c2 m2, Mc_begin n q c = some c2 ∧ M_stand n m = some m2 ∧ PROG c2 m2 q cnt B lat mn ∧ STAND c2 m2 q B ∧ (∀ k i j, ¬ (k = 2 ∧ j = 4) → gI c2 k i j = gI c k i j) ∧ (∀ k i j, k ≠ 2 → gR c2 k i j = gR c k i j) ∧ ∀ k i j, ¬ (k = 10 ∧ j = 47) → gI m2 k i j = gI m k i j := by
  have hB := hP.1.1.2.2.2.2.2
  have e1 : gI (sR c 2 0 3 (some q)) 4 q 3 = nI B := hP.1.1.2.1
  have q3 : (nI B ≤ 0) = (B ≤ 0) := by
    have := q_le (a := B) (b := 0) (by omega) (by decide)
    rw [nI_0] at this
    exact this
  rw [Mc_begin, M_stand, hP.1.1.2.2.2.1]
  simp only [lt9]
  rw [e1]
  simp only [q3]
  have keep : ∀ v w, KEEP c (sL (sI (sR c 2 0 3 (some q)) 2 0 4 v) 2 0 w) q := fun v w => ⟨fun _ _ _ => rfl, fun _ _ _ => rfl, fun _ => rfl, fun _ => ⟨rfl, rfl⟩, hP.1.2.2.2⟩
  have keepM : ∀ v w, KEEPM m (sL (sI m 10 0 47 v) 10 0 w) := fun v w => ⟨fun k i j h1 h2 => show gI (sI m 10 0 47 v) k i j = gI m k i j from gn_I (by omega), show gI (sI m 10 0 47 v) 10 0 25 = gI m 10 0 25 from gn_I (by omega), show gI (sI m 10 0 47 v) 10 0 31 = gI m 10 0 31 from gn_I (by omega)⟩
  by_cases z : B ≤ 0
  · rw [if_pos z, if_pos z]
    refine ⟨_, _, rfl, rfl, hP.kp (keep _ _) (keepM _ _), ⟨rfl, rfl, Or.inl rfl, rfl⟩, fun k i j h => gn_I (by omega), fun k i j h => ?_, fun k i j h => gn_I (by omega)⟩
    show gR (sR c 2 0 3 (some q)) k i j = _
    rw [gR_sR, if_neg (fun w => h w.1)]
  · rw [if_neg z, if_neg z]
    refine ⟨_, _, rfl, rfl, hP.kp (keep _ _) (keepM _ _), ⟨rfl, rfl, Or.inr ⟨0, by omega, rfl⟩, rfl⟩, fun k i j h => gn_I (by omega), fun k i j h => ?_, fun k i j h => gn_I (by omega)⟩
    show gR (sR c 2 0 3 (some q)) k i j = _
    rw [gR_sR, if_neg (fun w => h w.1)]
theorem relay (hn : 2000 ≤ n) (hq : q < 2) (hP : PR c m q cnt B) (hL : LatR c m lat mn) : ∃ c1 c2 m2, Ly_lay n q c = some c1 ∧ Mc_begin n q c1 = some c2 ∧ M_lay n m = some m2 ∧ PROG c2 m2 q cnt B lat mn ∧ STAND c2 m2 q B ∧ FrY c c2 ∧ FrYM m m2 := by
  obtain ⟨c1, m1, a1, a2, a3, a4, a5⟩ := lay_all (n := n) hn hq hP hL
  have hP1 : PROG c1 m1 q cnt B lat mn := ⟨hP.ag a3 a4, hL.ag a3 a4, a5⟩
  obtain ⟨c2, m2, b1', b2, b3, b4, b5, b6, b7⟩ := begin_ (n := n) hq hP1
  refine ⟨c1, c2, m2, a1, b1', ?_, b3, b4, ⟨fun k i j h1 h2 h3 h4 h5 h6 => (b5 k i j h6).trans (a3.1 k i j h1 h2 h3 h4 h5), fun k i j h1 h2 => (b6 k i j h2).trans (a3.2.1 k i j h1)⟩, fun k i j h1 h2 h3 => (b7 k i j h3).trans (a4.1 k i j h1 h2)⟩
  rw [M_lay]
  obtain ⟨r5, e1, e2⟩ := bd_some a2
  rw [e1, bd_s, e2, bd_s, b2, bd_s]
theorem i_compile (hn : 2000 ≤ n) (h : INV c m T len q cnt B lat mn) : ∃ r c' m' q' cnt' B', K_compile n c = some (r, c') ∧ M_compile n m = some (r, m') ∧ INV c' m' T len q' cnt' B' lat mn := by
  obtain ⟨⟨t1, t2, t3⟩, ⟨hq, g4, g5⟩, hP, hF, hS, hV, hC⟩ := h
  have hs : 1 - q < 2 := by omega
  obtain ⟨r, c1, a1, a2, a3⟩ := t_compile (n := n) (q := 1 - q) t1 hs hn t2 t3 hP.1.2.2.2
  have num1 : NumC c1 := hP.1.2.2.2.ag (fun o => a2.1 3 o 0 (by decide) (by decide) (by decide) (by decide) (by decide) (by omega) (by omega) (by omega))
  rw [K_compile, g5, bd_s, if_pos hs, a1, bd_s]
  dsimp only
  rcases a3 with ⟨rfl, m1, b1', b2, ⟨f, f1, f2, f3, f4⟩, z, z1, z2, z3⟩ | ⟨rfl, m18, cnt', B', b1', b2, b3, b4, b5, b6, b7⟩
  · rw [if_pos rfl]
    have km : ∀ k i j, ¬ (k = 10 ∧ (j = 0 ∨ (3 ≤ j ∧ j ≤ 10) ∨ j = 16 ∨ j = 22 ∨ j = 24 ∨ j = 49)) → ¬ (111 ≤ k ∧ k ≤ 123) → gI m1 k i j = gI m k i j := fun k i j h1 h2 => (b2.1 k i j (by omega) h2).trans (gn_I (by omega))
    have kc : ∀ k i j, k ≠ 5 → k ≠ 7 → k ≠ 8 → k ≠ 21 → k ≠ 22 → ¬ (k = 4 ∧ i = 1 - q) → ¬ (k = 3 ∧ 200 * (1 - q) ≤ i ∧ i < 200 * (1 - q) + 200) → ¬ (k = 0 ∧ 175 * (1 - q) ≤ i ∧ i < 175 * (1 - q) + 175) → gI c1 k i j = gI c k i j := fun k i j h1 h2 h3 h4 h5 h6 h7 h8 => a2.1 k i j h1 h2 h3 h4 h5 h6 (by omega) h8
    refine ⟨_, _, m1, q, cnt, B, rfl, b1', ⟨t1, ⟨(kc 6 0 1 (by decide) (by decide) (by decide) (by decide) (by decide) (by omega) (by omega) (by omega)).trans t2.1, fun j hj => (kc 20 0 j (by decide) (by decide) (by decide) (by decide) (by decide) (by omega) (by omega) (by omega)).trans (t2.2 j hj)⟩, ⟨(km 10 0 2 (by omega) (by omega)).trans t3.1, fun j hj => (km 101 0 j (by omega) (by omega)).trans (t3.2 j hj)⟩⟩, ⟨hq, (a2.2.1 9 0 4 (by decide) (by decide)).trans g4, (a2.2.1 9 0 5 (by decide) (by decide)).trans g5⟩, hP.kp ⟨fun i j hi => ?_, fun b j hb => ?_, fun j => ?_, fun i => ?_, num1⟩ ⟨fun k i j h1 h2 => km k i j (by omega) (by omega), km 10 0 25 (by omega) (by omega), km 10 0 31 (by omega) (by omega)⟩, ⟨f3.trans f4.symm, z2.trans z3.symm⟩, ⟨?_, ?_, ?_, ?_⟩, fun v hv => ?_, fun i hi => ?_⟩
    · exact kc 3 _ j (by decide) (by decide) (by decide) (by decide) (by decide) (by omega) (by omega) (by omega)
    · exact kc 0 _ j (by decide) (by decide) (by decide) (by decide) (by decide) (by omega) (by omega) (by omega)
    · exact kc 4 _ j (by decide) (by decide) (by decide) (by decide) (by decide) (by omega) (by omega) (by omega)
    · exact ⟨kc 23 _ i (by decide) (by decide) (by decide) (by decide) (by decide) (by omega) (by omega) (by omega), kc 24 _ i (by decide) (by decide) (by decide) (by decide) (by decide) (by omega) (by omega) (by omega)⟩
    · exact (a2.2.1 2 0 3 (by decide) (by decide)).trans hS.1
    · rw [kc 2 0 4 (by decide) (by decide) (by decide) (by decide) (by decide) (by omega) (by omega) (by omega), km 10 0 47 (by omega) (by omega)]; exact hS.2.1
    · rw [kc 2 0 4 (by decide) (by decide) (by decide) (by decide) (by decide) (by omega) (by omega) (by omega)]; exact hS.2.2.1
    · have e1 : gL c1 2 0 = gL c 2 0 := by rw [a2.2.2]
      have e2 : gL m1 10 0 = gL m 10 0 := by
        unfold gL
        rw [b2.2]
        rfl
      rw [e1, e2]; exact hS.2.2.2
    · rw [kc 28 0 v (by decide) (by decide) (by decide) (by decide) (by decide) (by omega) (by omega) (by omega), km 144 0 v (by omega) (by omega)]; exact hV v hv
    · rw [kc 29 0 i (by decide) (by decide) (by decide) (by decide) (by decide) (by omega) (by omega) (by omega), km 145 0 i (by omega) (by omega)]; exact hC i hi
  · have r4 : gR c1 9 0 4 = some q := (a2.2.1 9 0 4 (by decide) (by decide)).trans g4
    have r5 : gR c1 9 0 5 = some (1 - q) := (a2.2.1 9 0 5 (by decide) (by decide)).trans g5
    obtain ⟨m19, d1, d2, d3, d4⟩ := m_keep (n := n) hn b3
    rw [if_neg (show ¬ (1 : Int32) = 0 by decide), r4, bd_s, if_pos hq, r5, bd_s, if_pos hs]
    simp only [lt9]
    generalize hc6 : sR (sR c1 9 0 4 (some (1 - q))) 9 0 5 (some q) = c6
    have i6 : ∀ k i j, gI c6 k i j = gI c1 k i j := fun k i j => by rw [← hc6]; rfl
    have r6 : ∀ k i j, k ≠ 9 → gR c6 k i j = gR c1 k i j := fun k i j hk => by
      rw [← hc6, gR_sR, if_neg (fun w => hk w.1), gR_sR, if_neg (fun w => hk w.1)]
    have r64 : gR c6 9 0 4 = some (1 - q) := by rw [← hc6, gR_sR, if_neg (by omega), gs_R]
    have r65 : gR c6 9 0 5 = some q := by rw [← hc6, gs_R]
    have lag : LatR c6 m19 lat mn := by
      obtain ⟨⟨-, -⟩, ⟨l1, l2, l3⟩, -⟩ := hP
      have mm : ∀ a k, (a = 137 ∨ a = 138) → gI m19 a 0 k = gI m a 0 k := fun a k ha => (d3 a 0 k (by omega) (by omega)).trans ((b2.1 a 0 k (by omega) (by omega)).trans (gn_I (by omega)))
      refine ⟨fun k hk => ?_, fun k hk => ?_, l3⟩
      · rw [i6, a2.1 24 0 k (by decide) (by decide) (by decide) (by decide) (by decide) (by omega) (by omega) (by omega), mm 138 k (Or.inr rfl)]; exact l1 k hk
      · rw [i6, a2.1 23 0 k (by decide) (by decide) (by decide) (by decide) (by decide) (by omega) (by omega) (by omega), mm 137 k (Or.inl rfl)]; exact l2 k hk
    have p6 : PR c6 m19 (1 - q) cnt' B' := by
      have : c6.1 = c1.1 := by rw [← hc6]; rfl
      have fr : FrL c1 (c6.1, c1.2) := ⟨fun k i j _ _ _ _ _ => i6 k i j, fun _ _ _ _ => rfl, rfl⟩
      have := d2.ag fr (FrLM.rf (m := m19))
      exact this
    obtain ⟨c8, c10, m20, e1, e2, e3, e4, e5, e6, e7⟩ := relay (n := n) hn hs p6 lag
    have r84 : gR c8 9 0 4 = some (1 - q) := by
      obtain ⟨c8', m8, y1, y2, y3, y4, y5⟩ := lay_all (n := n) hn hs p6 lag
      have : c8' = c8 := Option.some.inj (y1.symm.trans e1)
      subst this
      rw [y3.2.1 9 0 4 (by decide)]
      exact r64
    have r104 : gR c10 9 0 4 = some (1 - q) := (e6.2 9 0 4 (by decide) (by decide)).trans r64
    rw [r64, bd_s, if_pos hs, e1, bd_s, r84, bd_s, if_pos hs, e2, bd_s, r104, bd_s, if_pos hs, b1', d1, e3]
    have cM : ∀ k i j, ¬ (k = 10 ∧ (j = 0 ∨ (3 ≤ j ∧ j ≤ 10) ∨ j = 16 ∨ j = 22 ∨ j = 24 ∨ j = 49 ∨ j = 25 ∨ j = 31 ∨ j = 47)) → ¬ (111 ≤ k ∧ k ≤ 143) → k ≠ 150 → gI m20 k i j = gI m k i j := fun k i j h1 h2 h3 => (e7 k i j (by omega) h3 (by omega)).trans ((d3 k i j (by omega) (by omega)).trans ((b2.1 k i j (by omega) (by omega)).trans (gn_I (by omega))))
    have cC : ∀ k i j, (k = 6 ∨ k = 20 ∨ k = 28 ∨ k = 29) → gI c10 k i j = gI c k i j := fun k i j hk => (e6.1 k i j (by omega) (by omega) (by omega) (by omega) (by omega) (by omega)).trans ((i6 k i j).trans (a2.1 k i j (by omega) (by omega) (by omega) (by omega) (by omega) (by omega) (by omega) (by omega)))
    have c7 : ∀ j, gI c10 7 0 j = gI c1 7 0 j := fun j => (e6.1 7 0 j (by omega) (by omega) (by omega) (by omega) (by omega) (by omega)).trans (i6 7 0 j)
    have m7 : ∀ j, (j = 3 ∨ j = 4) → gI m20 10 0 j = gI m18 10 0 j := fun j hj => (e7 10 0 j (by omega) (by omega) (by omega)).trans (d3 10 0 j (by omega) (by omega))
    refine ⟨nI cnt', c10, m20, 1 - q, cnt', B', ?_, ?_, ⟨t1, ⟨(cC 6 0 1 (by omega)).trans t2.1, fun j hj => (cC 20 0 j (by omega)).trans (t2.2 j hj)⟩, ⟨(cM 10 0 2 (by omega) (by omega) (by omega)).trans t3.1, fun j hj => (cM 101 0 j (by omega) (by omega) (by omega)).trans (t3.2 j hj)⟩⟩, ⟨hs, r104, (e6.2 9 0 5 (by decide) (by decide)).trans (r65.trans (by rw [show 1 - (1 - q) = q by omega]))⟩, e4, ⟨?_, ?_⟩, e5, fun v hv => ?_, fun i hi => ?_⟩
    · rw [e4.1.1.1]
    · show ((some m20).bind fun g46 => some g46).bind (fun g19 => some (gI g19 10 0 25, g19)) = _
      rw [bd_s, bd_s, e4.1.1.2.2.1]
    · rw [c7, b4, m7 3 (Or.inl rfl), b6]
    · rw [c7, b5, m7 4 (Or.inr rfl), b7]
    · rw [cC 28 0 v (by omega), cM 144 0 v (by omega) (by omega) (by omega)]; exact hV v hv
    · rw [cC 29 0 i (by omega), cM 145 0 i (by omega) (by omega) (by omega)]; exact hC i hi
end IV
