/-! ===== PURE: statements: what a while does ===== -/
section SW
variable {T : Nat → Nat} {len q n x : Nat} {c0 m0 c m : Mem} {p cnt bc B J K h wf wc W : Nat} {lab : Nat → Nat ⊕ Nat} {rk : Nat → Nat} {op : Bool}
theorem AgM.oth {w : Mem} (ho : OthB m w) : AgM cnt m w := ⟨fun k i j g1 g2 g3 g4 g5 => ho.1 k i j (by omega) (by omega), ho.1 10 0 7 (by decide) (by decide), ho.2⟩
theorem ER.need {w : Mem} {br : Nat} (he : ER T len q n c m w p cnt br B) (hw : M_needBlock n m = some w) : ER T len q n c w w p cnt br B := by
  obtain ⟨⟨h1, h1'⟩, ⟨h2, h2', h2l⟩, h3, ⟨h4, h4', h4l⟩, h5, ⟨h6, h6', h6l⟩, h7, h8, h9, h10⟩ := he
  obtain ⟨m1, n1, n2, n3, n4⟩ := h8
  have e := Option.some.inj (hw.symm.trans n1)
  subst e
  exact ⟨⟨h1, h1'.ag (AgM.oth (cnt := 0) n3)⟩, ⟨h2, (ho_s n3 (by decide)).trans h2', h2l⟩, (ho_s n3 (by decide)).trans h3, ⟨h4, (ho_s n3 (by decide)).trans h4', h4l.1, h4l.2.1, h4l.2.2.1, (ho_s n3 (by decide)).trans h4l.2.2.2⟩, h5, ⟨h6, (ho_s n3 (by decide)).trans h6', h6l⟩, h7, NBx.self n4 AgB.rf, fun i hi => ⟨(h9 i hi).1.ag AgC.rf (AgM.oth (cnt := cnt) n3) hi (B := B), (h9 i hi).2⟩, h10⟩
theorem s_while {d : Nat} (hT : TapeT T len) (hq : q < 2) (hn : 2000 ≤ n) (ih : STS T len q n d) (hd1 : 1 ≤ d) (hd2 : d ≤ 20) (hd : 11 ≤ bc + d) (hS : SR T len q n c0 m0 c m p cnt bc B J K h wf wc lab rk op) (hl : p + 5 ≤ len) :
    ∃ r c' m', Tr_whileStatement (Tr_statements n d) n c = some (r, c') ∧ M_loop (M_statements n d) n m = some m' ∧ OUT T len q n c0 m0 c m p cnt bc B J K h wf wc (700 + 3 * (d + 1)) lab op 1 r c' m' := by
  have hlen := hT.1
  have hn8 : 800 ≤ n := by omega
  have pC : gI c 5 0 1 = nI p := hS.2.1.1
  have pM : gI m 10 0 5 = nI p := hS.2.1.2.1
  have hbc := hS.2.2.2.2.1.2.2
  have hinv := hS.2.2.2.2.2.2.2.2.2.2.1
  have hhJ := hS.2.2.2.2.2.2.2.2.2.2.2
  have href := hS.ref
  have hwf : wf ≤ wc := hS.2.2.2.2.2.2.2.1.core.2.2.1.2.2.1
  have hKJ : K < J := hS.2.2.2.2.2.2.2.1.core.2.2.2.1.2.1
  have hcore := hS.2.2.2.2.2.2.2.1.core
  have hS1 := SRx.pos (x := 0) hS (p' := p + 5) (by omega) hl
  have sp0 : SP q c m B J K h wf lab op (sI c 5 0 1 (nI (p + 5))) (sI m 10 0 5 (nI (p + 5))) B J K h lab op := SP.rf hS.2.2.2.2.2.2.2.1 (AgBC.upd (Or.inr (Or.inl rfl))) (fun k hk => gn_I (by omega))
  have sdc : ∀ b s, sd (sI c 5 0 1 (nI (p + 5))) q b s = sd c q b s := fun b s => gn_I (by omega)
  rw [Tr_whileStatement, M_loop, Rd_pass]
  simp only [lt9, bd_s]
  rw [pC, pM, show nI p + 5 = nI (p + 5) from nI_add p 5]
  generalize sI c 5 0 1 (nI (p + 5)) = cA at *
  generalize sI m 10 0 5 (nI (p + 5)) = mA at *
  obtain ⟨j1, hS2, sp1⟩ := hS1.joint (by omega)
  obtain ⟨j2, hS3, sp2⟩ := hS2.joint (by omega)
  obtain ⟨j3, hS4, sp3⟩ := hS3.joint (by omega)
  rw [j1, bd_s, j2, bd_s, j3, bd_s]
  dsimp only
  have sp03 := sp0.tr href hhJ (sp1.tr href hhJ (sp2.tr hS2.ref (by omega) sp3))
  have lJ : upL (upL (upL lab J) (J + 1)) (J + 1 + 1) J = .inr J := by rw [upL_n (by omega), upL_n (by omega), upL_s]
  have lJ1 : upL (upL (upL lab J) (J + 1)) (J + 1 + 1) (J + 1) = .inr (J + 1) := by rw [upL_n (by omega), upL_s]
  have lJ2 : upL (upL (upL lab J) (J + 1)) (J + 1 + 1) (J + 1 + 1) = .inr (J + 1 + 1) := upL_s
  have onlyJ : ∀ t, (t = J ∨ t = J + 1 ∨ t = J + 1 + 1) → ∀ j, j < J + 1 + 1 + 1 → upL (upL (upL lab J) (J + 1)) (J + 1 + 1) j = .inr t → j = t := by
    intro t ht j hj e
    by_cases z : j = J + 1 + 1
    · rw [z, upL_s] at e
      rw [z]
      exact Sum.inr.inj e
    · rw [upL_n z] at e
      by_cases z2 : j = J + 1
      · rw [z2, upL_s] at e
        rw [z2]
        exact Sum.inr.inj e
      · rw [upL_n z2] at e
        by_cases z3 : j = J
        · rw [z3, upL_s] at e
          rw [z3]
          exact Sum.inr.inj e
        · rw [upL_n z3] at e
          have := href j t (by omega) e
          omega
  have sdcJ : ∀ b s, sd (jnt (jnt (jnt cA J) (J + 1)) (J + 1 + 1)) q b s = sd c q b s := fun b s => by
    rw [← sdc b s]
    unfold sd
    rw [jntO (by decide) (by decide) (by omega), jntO (by decide) (by decide) (by omega), jntO (by decide) (by decide) (by omega)]
  generalize jnt (jnt (jnt cA J) (J + 1)) (J + 1 + 1) = cJ at *
  generalize upL (upL (upL lab J) (J + 1)) (J + 1 + 1) = lab3 at *
  generalize upR (upR (upR rk J) (J + 1)) (J + 1 + 1) = rk3 at *
  obtain ⟨c1, m1, wc1, lab1, rk1, g1, g2, g3, g4, g5, g6, g7, g8, g9, g10, g11, g12, g13, g14, g15, g16⟩ := b_leave (n := n) hS4.2.2.2.2.2.2.2.1 hq (t := J) (by omega) lJ (Or.inr (by omega)) (by omega) (by omega)
  have cv1 : Conv c1 m1 q B (J + 1 + 1 + 1) wf wc1 lab1 (.inr J) (fun _ _ => False) := by
    intro b s j y1 y2 y3 y4 y5
    rcases g6 b s j y1 y2 y3 y4 y5 with z | ⟨j', z1, z2, z3⟩
    · exact Or.inl z
    · have e := onlyJ J (Or.inl rfl) j' z1 z3
      rw [sdcJ] at z2
      have := hcore.side y1 y2 (by omega) z2
      omega
  have lm : ∀ t, t < J + 1 + 1 + 1 → lab3 t = .inr t → t ≠ h → lab1 t = .inr t := fun t y1 y2 y3 => (g8 t y1 (Or.inr (fun z => y3 (Sum.inr.inj (y2.symm.trans z))))).trans y2
  have l1J := lm J (by omega) lJ (by omega)
  have l1J1 := lm (J + 1) (by omega) lJ1 (by omega)
  have l1J2 := lm (J + 1 + 1) (by omega) lJ2 (by omega)
  have bn1 := b_stand g3 g4 g5 cv1 (by omega) l1J
  have S1 := s_left (x := 15) (y := 15) (p' := p + 5) hS4 ((FC.lv g13 g14).tr FC.stndF) (FM.lv g15 g16) ((stndO (by decide)).trans ((g13 5 0 1 (by decide) (by omega)).trans hS4.2.1.1)) ((g15 10 0 5 (by decide) (by decide)).trans hS4.2.1.2.1) ⟨Nat.le_refl _, hl⟩ (Or.inr ⟨rfl, bn1⟩) (by omega) (by omega) (by omega)
  have spL : SP q c m B J K h wf lab op (stnd c1 J) m1 B (J + 1 + 1 + 1) (K + 1) J lab1 false := SP.left (t := J) (X := .inr J) href sp03 (by omega) g8 g9 (fun t' ht z => by have := Sum.inr.inj z; omega) (fun b s y1 y2 y3 => sd_stand.trans (g10 b s y1 y2 y3)) (fun z => sd_stand.trans (g11 z)) ⟨by omega, by omega⟩ (fun k hk => g12 k (by omega)) (fun j => (stndO (by omega)).trans (g13 21 0 j (by decide) (by omega))) (by omega)
  have only1 : ∀ t, (t = J + 1 ∨ t = J + 1 + 1) → ∀ j, j < J + 1 + 1 + 1 → lab1 j = .inr t → j = t := by
    intro t ht j hj e
    by_cases z : op = true ∨ ¬ lab3 j = .inr h
    · rw [g8 j hj z] at e
      exact onlyJ t (Or.inr ht) j hj e
    · have z1 : op = false := by
        cases hop : op with
        | true => exact absurd (Or.inl hop) z
        | false => rfl
      have z2 : lab3 j = .inr h := by
        by_cases y : lab3 j = .inr h
        · exact y
        · exact absurd (Or.inr y) z
      rw [g9 j hj z1 z2] at e
      have := Sum.inr.inj e
      omega
  obtain ⟨c2, w, B2, lab2, t1, t2, t3, t4, t5, t6, t7, t8, t9, t10, t11, t12⟩ := s_open hq hn S1 (by omega)
  obtain ⟨hB2, l2J, b2J⟩ := t12 rfl
  have hB2' : B2 - 1 = B := by omega
  rw [← hB2'] at l2J b2J
  have hBB : 1 ≤ B2 ∧ B2 ≤ 175 := ⟨t4.2.2.1, t4.1.1.2.2.2⟩
  have spo := spL.tr href hhJ t6
  have only2 : ∀ t, (t = J + 1 ∨ t = J + 1 + 1) → ∀ j, j < J + 1 + 1 + 1 → lab2 j = .inr t → j = t := by
    intro t ht j hj e
    exact only1 t ht j hj (t6.2.2.2.1 j hj t (by omega) e (Or.inl rfl)).2.1
  have l2J1 : lab2 (J + 1) = .inr (J + 1) := t6.2.2.1 (J + 1) (by omega) (J + 1) l1J1 (Or.inr (by omega))
  have l2J2 : lab2 (J + 1 + 1) = .inr (J + 1 + 1) := t6.2.2.1 (J + 1 + 1) (by omega) (J + 1 + 1) l1J2 (Or.inr (by omega))
  have oldS : ∀ b s j, b + 1 < B2 → s < 2 → j < 350 → sd c2 q b s = nI j → j ≤ J := by
    intro b s j y1 y2 y3 y4
    have jl : j < J + 1 + 1 + 1 := t4.1.side (by omega) y2 y3 y4
    rcases t6.side (by omega) y2 y3 y4 with ⟨z1, -, z3⟩ | z
    · rw [sd_stand] at z3
      by_cases y : op = true ∧ b + 1 = B ∧ s = 0
      · rw [show b = B - 1 by omega, y.2.2, g11 y.1] at z3
        have := (nI_eq (by omega) (by omega)).mp z3
        omega
      · rw [g10 b s z1 y2 y, sdcJ] at z3
        have := hcore.side z1 y2 y3 z3
        omega
    · omega
  rw [g1, bd_s, r_stand, bd_s, Tr_choice, t1, bd_s, g2, bd_s, t2, bd_s]
  have op2 : OPS c2 w q cnt B2 true (fun _ => False) := t5.same (fun _ _ _ _ => rfl) (fun k i j y1 y2 => t10.1 k i j (by omega) (by omega))
  obtain ⟨r2, c3, m2, u1, u2, u3⟩ := s_choice (i := J + 1) (o := J + 1 + 1) hT hq hn (t3.need t2) t4 op2 (by omega) l2J1 (by omega) l2J2 (by omega) (fun b s j x1 x2 x3 x4 x5 => by
    have := oldS b s j x1 x2 (by omega) x4
    have := only2 (J + 1) (Or.inl rfl) j x3 x5
    omega) (by omega)
  rw [u1, u2, bd_s, bd_s]
  dsimp only
  rcases u3 with ⟨rfl, f2, ac2, am2⟩ | ⟨rfl, k0, m3, m4, p4, cnt4, k1, k2, k3, e4, bn4, ops4, frc4, frm4, hp4, hc4, b4, b4', s40, s41, s42, w4, z4⟩
  · rw [if_pos rfl, if_neg f2.notle]
    have f2' : FL T len c3 m2 m1 w := ⟨f2.1, f2.2.1, f2.2.2.1, f2.2.2.2.1, f2.2.2.2.2.elim Or.inr Or.inr⟩
    exact ⟨_, _, _, rfl, rfl, Or.inr ⟨rfl, s_fl S1 hBB t7 t9 f2' ac2 ((AgM.oth t10).tr am2 (Nat.le_refl _)) (by omega)⟩⟩
  · rw [if_neg (by decide), if_pos k0, k1, bd_s]
    dsimp only
    rw [k2, bd_s]
    have fr3 := S1.2.2.2.2.2.2.2.2.2.1
    have bc3 := S1.2.2.2.2.1
    obtain ⟨r5, c5, m5, v1, v2, v3⟩ := s_body (c0 := c0) (m0 := m0) (t := J + 1) hT hn ih hd1 hd e4 ⟨b4.trans (t11.trans bc3.1), b4'.trans ((t10.1 10 0 7 (by decide) (by decide)).trans bc3.2.1), hbc⟩ bn4 ops4 ⟨(fr3.1.tr t7).tr frc4, (fr3.2.tr (FrM.oth t10)).tr frm4⟩ ⟨by omega, by omega, by omega⟩
    rw [v1, v2, bd_s, bd_s]
    dsimp only
    have sp4 : SP q c m B J K h wf lab op c3 m4 B2 (J + 1 + 1 + 1) (K + 1) (J + 1) lab2 false := spo.choose s40 s41 s42 ⟨by omega, by omega⟩ ⟨by omega, by omega⟩ w4 z4
    rcases v3 with ⟨rfl, p5, cnt5, B5, J5, K5, h5, wc5, lab5, rk5, op5, S5, spb, hp5, hc5, hw5⟩ | ⟨rfl, f5⟩
    · have sp5 := sp4.tr href hhJ spb
      have inv5 := S5.2.2.2.2.2.2.2.2.2.2.1
      have hhJ5 := S5.2.2.2.2.2.2.2.2.2.2.2
      have core5 := S5.2.2.2.2.2.2.2.1.core
      have J5ge : J + 1 + 1 + 1 ≤ J5 := spb.1.2.1
      have K5le : J + 1 + 1 + 1 + K5 ≤ J5 + (K + 1) := spb.1.2.2
      have p5le := S5.2.1.2.2
      have J5le : J5 ≤ 349 := by omega
      have hwf5 : wf ≤ wc5 := core5.2.2.1.2.2.1
      have l5o : lab5 (J + 1 + 1) = .inr (J + 1 + 1) := spb.2.2.1 (J + 1 + 1) (by omega) (J + 1 + 1) l2J2 (Or.inr (by omega))
      have h5o : op5 = true ∨ J + 1 + 1 ≠ h5 := by
        cases hop : op5 with
        | true => exact Or.inl rfl
        | false =>
          right
          rcases spb.2.2.2.2.2.2.2.1 hop with ⟨y, -⟩ | y <;> omega
      have only5 := spb.only (o := J + 1 + 1) (fun b s x1 x2 x3 => by
        rw [s40 b s x1 x2] at x3
        have := oldS b s (J + 1 + 1) x1 x2 (by omega) x3
        omega) s41 (by omega) (by omega) (fun j x1 x2 => only2 (J + 1 + 1) (Or.inr rfl) j x1 x2) (by omega) (by omega) (by omega) l2J2
      have B5ge : B2 ≤ B5 := spb.1.1
      have sd5 : ∀ b s, b < B2 → s < 2 → sd c5 q b s = sd c3 q b s := fun b s y1 y2 => spb.2.2.2.2.1 b y1 (fun z => by cases z.1) s y2
      have l5J : lab5 J = .inl (B2 - 1) := spb.2.1 J (by omega) _ l2J
      have b5J : gI c5 21 0 J = nI (B2 - 1) := by
        have e : gI c3 21 0 J = nI (B2 - 1) := (z4 J).trans b2J
        exact (spb.2.2.2.2.2.2.2.2.2 J (by omega) (by rw [e]; exact nI_nm (by omega))).trans e
      have rk5J : rk5 J = 0 := by
        rcases core5.2.2.2.1.2.2.1 J (by omega) with ⟨-, z⟩ | ⟨z, -⟩ | ⟨z, -⟩
        · exact z
        · rw [b5J] at z; exact absurd z (nI_nm (by omega))
        · rw [b5J] at z; exact absurd z (nI_nm (by omega))
      obtain ⟨c6, m6, m7, lab6, rk6, q1, q2, q3, q4, q5, q6, q7, q8, q9, q10, q11, q12, q13, q14, q15⟩ := b_endLoop (n := n) (g := J) (k0 := B2 - 1) S5.2.2.2.2.2.2.2.1 hq hn (by omega) l5J rk5J (by omega) (by omega)
      have mw := m_way (n := n) (wc := wf) (b := B2 - 1) (s := 1) (u := 1) (m := m7) q5.2.2.1.1 (by omega) (by omega) (Or.inr ⟨rfl, rfl⟩)
      rw [if_neg (by decide), q1, bd_s, r_stand, bd_s, q2, bd_s, q4, q3, bd_s, mw, bd_s]
      have core7 := q5.way (b := B2 - 1) (s := 1) (by omega) (by decide) (by omega)
      have l6o : lab6 (J + 1 + 1) = .inr (J + 1 + 1) := (q7 (J + 1 + 1) (by omega) (h5o.imp id (fun y z => y (Sum.inr.inj (l5o.symm.trans z))))).trans l5o
      have s61 : sd c6 q (B2 - 1) 1 = nI (J + 1 + 1) := (q9 (B2 - 1) 1 (by omega) (by decide) (by omega)).trans ((sd5 (B2 - 1) 1 (by omega) (by decide)).trans s42)
      have pd7 := Pend.way (c := c6) (m := m7) (q := q) (B := B5) (J := J5) (wf := wf) (wc := wf) (lab := lab6) (b := B2 - 1) (s := 1) (j := J + 1 + 1) (fun k y1 y2 => absurd (Nat.lt_of_le_of_lt y1 y2) (Nat.lt_irrefl _)) (by omega) (by decide) (by omega) s61 l6o
      have cv7 := Conv.way (c := c6) (m := m7) (q := q) (B := B5) (J := J5) (wf := wf) (wc := wf) (lab := lab6) (τ := .inr (J + 1 + 1)) (X := fun b s => b = B2 - 1 ∧ s = 1) (b := B2 - 1) (s := 1) (fun b s j y1 y2 y3 y4 y5 => by
        right
        by_cases z : op5 = true ∧ b + 1 = B5 ∧ s = 0
        · obtain ⟨z1, z2, rfl⟩ := z
          rw [show b = B5 - 1 by omega, q10 z1] at y4
          have := (nI_eq (by omega) (by omega)).mp y4
          subst this
          rw [q7 J y3 (Or.inl z1), l5J] at y5
          cases y5
        · rw [q9 b s y1 y2 z] at y4
          by_cases z2 : op5 = true ∨ ¬ lab5 j = .inr h5
          · rw [q7 j y3 z2] at y5
            exact only5 b s j y1 y2 y3 y4 y5
          · have z3 : op5 = false := by
              cases hop : op5 with
              | true => exact absurd (Or.inl hop) z2
              | false => rfl
            have z4 : lab5 j = .inr h5 := by
              by_cases y : lab5 j = .inr h5
              · exact y
              · exact absurd (Or.inr y) z2
            rw [q8 j y3 z3 z4] at y5
            cases y5) (Nat.le_refl _) (fun b' s' hX _ _ => hX)
      have bn7 := b_stand core7 ((wayO (by decide) (by decide)).trans q6) pd7 cv7 (by omega) l6o
      refine ⟨_, _, _, rfl, rfl, Or.inl ⟨rfl, p5, cnt5, B5, J5, K5 + 1, J + 1 + 1, wf + 1, lab6, rk6, false, ?_, ?_, by omega, by omega, by omega⟩⟩
      · exact s_left (x := 0) (y := 0) S5 ((FC.lv q12 q13).tr FC.stndF) ((FM.lv2 q14 q15).tr FM.wayF) ((stndO (by decide)).trans ((q12 5 0 1 (by decide) (by omega)).trans S5.2.1.1)) ((wayO (by decide) (by decide)).trans ((q14 10 0 5 (by decide) (by decide) (by decide) (by decide)).trans S5.2.1.2.1)) ⟨Nat.le_refl _, p5le⟩ (Or.inr ⟨rfl, bn7⟩) (by omega) (by omega) (by omega)
      · refine SP.left (t := J) (X := .inl (B2 - 1)) href sp5 (by omega) q7 q8 (fun t' ht z => by cases z) (fun b s y1 y2 y3 => sd_stand.trans (q9 b s y1 y2 y3)) (fun z => sd_stand.trans (q10 z)) ⟨by omega, by omega⟩ (fun k hk => ?_) (fun j => (stndO (by omega)).trans (q12 21 0 j (by decide) (by omega))) (by omega)
        rw [gn_I (by omega), gn_I (by omega)]
        exact q11 k (by omega)
    · obtain ⟨m6, e6, f6⟩ := f5.leave (n := n) (by omega)
      obtain ⟨m7, e7, f7⟩ := f6.lead (n := n) (v := nI (B2 - 1)) hn (by omega)
      obtain ⟨m8, e8, f8⟩ := f7.way (n := n) (b := B2 - 1) (u := 1) (s := 1) (by omega) (by omega) (Or.inr ⟨rfl, rfl⟩)
      rw [if_pos rfl, e6, bd_s, e7, bd_s, e8, bd_s]
      exact ⟨_, _, _, rfl, rfl, Or.inr ⟨rfl, f8.mono (by omega)⟩⟩
end SW
