/-! ===== PURE: statements: joints, choices ===== -/
section SC
variable {T : Nat → Nat} {len q n x : Nat} {c0 m0 c m : Mem} {p cnt bc B J K h wf wc : Nat} {lab : Nat → Nat ⊕ Nat} {rk : Nat → Nat} {op : Bool}
theorem jntR {k i j : Nat} : gR (jnt c J) k i j = gR c k i j := rfl
theorem FrC.jntF : FrC q c (jnt c J) := by
  unfold jnt
  exact ((FrC.upd (by omega)).tr (FrC.upd (by omega))).tr (FrC.upd (by omega))
theorem SRx.joint (hS : SRx T len q n x c0 m0 c m p cnt bc B J K h wf wc lab rk op) (hJ : J < 350) : Wy_addJoint n c = some (nI J, jnt c J) ∧ SRx T len q n (x + 5) c0 m0 (jnt c J) m p cnt bc B (J + 1) K h wf wc (upL lab J) (upR rk J) op ∧ SP q c m B J K h wf lab op (jnt c J) m B (J + 1) K h (upL lab J) op := by
  have hr := hS.ref
  obtain ⟨⟨a1, a1'⟩, ⟨a2, a2', a2l⟩, a3, ⟨a4, a4'⟩, ⟨a5, a5', a5l⟩, a6, ⟨a7, a7'⟩, a8, a9, ⟨a10, a10'⟩, ⟨a11, a11', a11l⟩, a12⟩ := hS
  refine ⟨r_addJoint a8.core.2.1.1 hJ, ⟨⟨⟨(jntO (by decide) (by decide) (by omega)).trans a1.1, fun j hj => (jntO (by decide) (by decide) (by omega)).trans (a1.2 j hj)⟩, a1'⟩, ⟨(jntO (by decide) (by decide) (by omega)).trans a2, a2', a2l⟩, a3, ⟨(jntO (by decide) (by decide) (by omega)).trans a4, a4'⟩, ⟨(jntO (by decide) (by decide) (by omega)).trans a5, a5', a5l⟩, a6, ⟨(jntO (by decide) (by decide) (by omega)).trans a7, a7'⟩, a8.joint hJ, a9.same (fun k i j z => jntO (by omega) (by omega) (by omega)) (fun _ _ _ _ _ => rfl), ⟨a10.tr FrC.jntF, a10'⟩, ⟨a11, by omega, a11l⟩, by omega⟩, ?_⟩
  refine ⟨⟨Nat.le_refl _, by omega, by omega⟩, fun j hj k e => (upL_n (by omega)).trans e, fun j hj t e _ => (upL_n (by omega)).trans e, ?_, fun b _ _ s _ => jntO (by decide) (by decide) (by omega), ?_, fun _ _ => rfl, fun e => Or.inl ⟨rfl, e⟩, fun e => Or.inl e, fun j hj _ => by rw [jnt21, if_neg (by omega)]⟩
  · intro j hj t ht e ho
    by_cases z : j = J
    · rw [z, upL_s] at e
      have := Sum.inr.inj e
      omega
    · rw [upL_n z] at e
      exact ⟨by omega, e, ho⟩
  · intro b s j hs ho hb hj e
    have e' : sd c q b s = nI j := (jntO (by decide) (by decide) (by omega)).symm.trans e
    rcases ho with z | ⟨z1, z2⟩
    · omega
    · rcases a8 with ⟨-, ⟨-, -, o2, -, -, o5, o6⟩, -⟩ | ⟨y, -⟩
      · have zb : b = B - 1 := by omega
        subst zb
        rcases (show s = 0 ∨ s = 1 by omega) with rfl | rfl
        · exact absurd (e'.symm.trans o5) (nI_nm (by omega))
        · exact absurd (e'.symm.trans o6) (nI_nm (by omega))
      · rw [z1] at y; cases y
theorem AgBC.stndF {a b : Mem} {t : Nat} (h1 : AgBC a b) : AgBC (stnd a t) (stnd b t) := by
  refine ⟨fun i j z => ?_, fun i => ?_, fun j => ?_, fun j => ?_, fun j => ?_, fun j => ?_⟩
  · rw [stndO (by omega), stndO (by omega)]; exact h1.1 i j z
  · rw [stndO (by omega), stndO (by omega)]; exact h1.2.1 i
  · by_cases z : j = 5
    · subst z
      unfold stnd
      rw [gI_sR, gI_sR, gs_I, gs_I]
    · rw [stndO (by omega), stndO (by omega)]; exact h1.2.2.1 j
  · rw [stndO (by omega), stndO (by omega)]; exact h1.2.2.2.1 j
  · rw [stndO (by omega), stndO (by omega)]; exact h1.2.2.2.2.1 j
  · by_cases z : j = 4
    · subst z
      unfold stnd
      rw [gs_R, gs_R]
    · rw [stndR (by omega), stndR (by omega)]; exact h1.2.2.2.2.2 j
theorem FrC.stndF {t : Nat} : FrC q c (stnd c t) := by
  unfold stnd
  exact (FrC.upd (by omega)).tr (FrC.updR (Or.inr rfl))
theorem FrC.chF {b : Nat} {v : Int32} {i o : Nat} (hb : 175 * q ≤ b ∧ b < 175 * q + 175) : FrC q c (choC c b v i o) := by
  unfold choC
  exact (((FrC.upd (by omega)).tr (FrC.upd (by omega))).tr (FrC.upd (by omega))).tr (FrC.upd (by omega))
theorem FrM.endF {b : Nat} : FrM m (endM m b) := by
  unfold endM
  exact (((FrM.updA (by decide)).tr (FrM.updA (by decide))).tr (FrM.updA (by decide))).tr (FrM.upd (by decide))
theorem FrM.wayF {b s : Nat} : FrM m (wayM m wc b s) := by
  unfold wayM
  exact (FrM.updA (by decide)).tr (FrM.upd (by decide))
/-- the value that a block chooses by is used -/
theorem OPS.chosen {m' : Mem} {v : Int32} {i o : Nat} (hq : q < 2) (h : OPS c m q cnt B true (fun k => False ∨ v = cval k)) (hv : ValOk c q cnt B v) (hm : ∀ k i j, 111 ≤ k → k ≤ 115 → gI m' k i j = gI m k i j) : OPS (choC c (175 * q + (B - 1)) v i o) m' q cnt B false (fun _ => False) := by
  obtain ⟨h1, h2, h3, h4, h5, h6, h7, h8, h9⟩ := h
  obtain ⟨k1, k2, k3⟩ := h7 rfl
  have c3 : ∀ i' j, gI (choC c (175 * q + (B - 1)) v i o) 3 i' j = gI c 3 i' j := fun i' j => by
    unfold choC
    rw [gn_I (by omega), gn_I (by omega), gn_I (by omega), gn_I (by omega)]
  have cO : ∀ b j, b < B → b ≠ B - 1 ∨ j < 2 → gI (choC c (175 * q + (B - 1)) v i o) 0 (175 * q + b) j = gI c 0 (175 * q + b) j := fun b j hb z => by
    unfold choC
    rw [gn_I (by omega), gn_I (by omega), gn_I (by omega), gn_I (by omega)]
  have c2 : gI (choC c (175 * q + (B - 1)) v i o) 0 (175 * q + (B - 1)) 2 = 1 := by
    unfold choC
    rw [gn_I (by omega), gn_I (by omega), gn_I (by omega), gs_I]
  have cv : gI (choC c (175 * q + (B - 1)) v i o) 0 (175 * q + (B - 1)) 3 = v := by
    unfold choC
    rw [gn_I (by omega), gn_I (by omega), gs_I]
  refine ⟨?_, ?_, ?_, ?_, ?_, ?_, fun e => (by cases e), h8, h9⟩
  · unfold OpsR OpR RefOk uses at h1 ⊢
    simp only [c3, hm 111 _ _ (by decide) (by decide), hm 112 _ _ (by decide) (by decide), hm 113 _ _ (by decide) (by decide), hm 114 _ _ (by decide) (by decide), hm 115 _ _ (by decide) (by decide)]
    exact h1
  · unfold NumC at h2 ⊢
    simp only [c3]
    exact h2
  · simp only [c3]
    exact h3
  · intro b hb
    obtain ⟨f, g, r1, r2, r3, r4⟩ := h4 b hb
    refine ⟨f, g, by rw [cO b 0 hb (Or.inr (by decide))]; exact r1, by rw [cO b 1 hb (Or.inr (by decide))]; exact r2, r3, fun i hi => ?_⟩
    rw [c3]
    exact r4 i hi
  · intro j hj
    right
    intro u1 u2
    rw [c3] at u1 u2
    have viaV : v = cval j → (∃ b, b < B ∧ gI (choC c (175 * q + (B - 1)) v i o) 3 (200 * q + j) 6 = nI b ∧ gI (choC c (175 * q + (B - 1)) v i o) 0 (175 * q + b) 2 = 1 ∧ gI (choC c (175 * q + (B - 1)) v i o) 0 (175 * q + b) 3 = cval j) := fun y => ⟨B - 1, by omega, by rw [c3]; exact (hv j (by omega) y).2.1, c2, cv.trans y⟩
    rcases h5 j hj with (y | y) | y
    · exact y.elim
    · exact Or.inr (viaV y)
    · rcases y u1 u2 with ⟨j', j1, j2, j3⟩ | ⟨b, b1, b2, b3, b4⟩
      · refine Or.inl ⟨j', j1, j2, ?_⟩
        unfold uses
        rw [c3, c3]
        exact j3
      · have nb : b ≠ B - 1 := fun z => by
          rw [z, k3] at b3
          exact absurd b3 (by decide)
        exact Or.inr ⟨b, b1, by rw [c3]; exact b2, by rw [cO b 2 b1 (Or.inl nb)]; exact b3, by rw [cO b 3 b1 (Or.inl nb)]; exact b4⟩
  · intro b hb e
    by_cases z : b = B - 1
    · subst z
      rw [cv]
      intro j hj y
      obtain ⟨x1, x2, x3, x4⟩ := hv j hj y
      rw [c3, c3, c3]
      exact ⟨x1, x2, x3, x4⟩
    · rw [cO b 2 hb (Or.inl z)] at e
      rw [cO b 3 hb (Or.inl z)]
      have := h6 b hb e
      unfold ValB at this ⊢
      simp only [c3]
      exact this
/-- behind a block's value: the block chooses -/
theorem s_choice {w c1 : Mem} {B1 i o : Nat} {lab1 : Nat → Nat ⊕ Nat} (hT : TapeT T len) (hq : q < 2) (hn : 2000 ≤ n) (he : ER T len q n c1 m w p cnt 0 B1) (hbo : BO c1 w q B1 J K wf lab1 rk) (hops : OPS c1 m q cnt B1 true (fun _ => False)) (hi : i < J) (hli : lab1 i = .inr i) (ho : o < J) (hlo : lab1 o = .inr o) (hio : i ≠ o) (hf : ∀ b s j, b + 1 < B1 → s < 2 → j < J → sd c1 q b s = nI j → ¬ lab1 j = .inr i) (hw : wf < 800) :
    ∃ r c' m2, ((Tr_expression n 30 c1).bind fun z2 => if z2.1 = -209 then some ((0 : Int32), z2.2) else (Wy_choose n z2.1 (nI i) (nI o) z2.2).bind fun g3 => some ((1 : Int32), g3)) = some (r, c') ∧ M_expression n 30 m = some m2 ∧
      ((r = 0 ∧ FL T len c' m2 m w ∧ AgC q cnt B1 c1 c' ∧ AgM cnt m m2) ∨
       (r = 1 ∧ gI m2 10 0 3 ≤ 0 ∧ ∃ m3 m4 p' cnt', M_endBlock n m2 = some (nI (B1 - 1), m3) ∧ M_way n (nI (B1 - 1)) 0 m3 = some m4 ∧ gI m3 10 0 49 = nI wf ∧ EH T len q c' m4 p' cnt' ∧ BN (stnd c' i) m4 q B1 J K i wf (wf + 1) lab1 rk ∧ OPS c' m4 q cnt' B1 false (fun _ => False) ∧ FrC q c1 c' ∧ FrM m m4 ∧ p < p' ∧ cnt ≤ cnt' ∧ gI c' 7 0 3 = gI c1 7 0 3 ∧ gI m4 10 0 7 = gI m 10 0 7 ∧
        (∀ b s, b + 1 < B1 → s < 2 → sd c' q b s = sd c1 q b s) ∧ sd c' q (B1 - 1) 0 = nI i ∧ sd c' q (B1 - 1) 1 = nI o ∧ (∀ k, k < wf → gI m4 123 0 k = gI w 123 0 k) ∧ (∀ j, gI c' 21 0 j = gI c1 21 0 j))) := by
  have hn8 : 800 ≤ n := by omega
  have hB1 : 1 ≤ B1 ∧ B1 ≤ 175 := ⟨hbo.2.2.1, hbo.1.1.2.2.2⟩
  obtain ⟨v, c2, m2, z1, z2, z3⟩ := x_all hT hq hn8 30 c1 m w p cnt 0 B1 he (by decide)
  rw [z1, z2, bd_s]
  dsimp only
  rcases z3 with ⟨p3, cnt3, e3, hp3, hc3, v3, l3, n3, ac3, am3, bw3, ag3⟩ | ⟨rfl, f3, ac3, am3⟩
  · have e22 := e3.2.2.2.2.2.2.2.1
    obtain ⟨m1, k1, k2, k3, k4⟩ := e22
    have o1 := hbo.2.1
    have hbo2 : BO c2 m1 q B1 J K wf lab1 rk := by
      rcases (BX.ag (h := 0) (wc := wf) (Or.inl ⟨rfl, hbo, rfl⟩ : BX c1 w q B1 J K 0 wf wf lab1 rk true) (AgBC.agC ac3) k2) with ⟨-, z, -⟩ | ⟨z, -⟩
      · exact z
      · cases z
    have vv : VR v (gI m1 10 0 8) (gI m1 10 0 9) := by rw [ho_s k3 (by decide), ho_s k3 (by decide)]; exact v3
    have hfb : ∀ b s j, b + 1 < B1 → s < 2 → j < J → sd c2 q b s = nI j → ¬ lab1 j = .inr i := fun b s j x1 x2 x3 x4 => hf b s j x1 x2 x3 ((sd_ag (AgBC.agC ac3)).symm.trans x4)
    obtain ⟨g1, g2, g3, g4⟩ := b_choose hbo2 hi hli ho hlo hio hfb vv hw
    have c22 : gI m1 10 0 22 = nI (B1 - 1) := hbo2.2.2.2.1
    have k24 : gI m1 10 0 24 = nI wf := hbo2.1.2.2.1.1
    have k49 : gI m1 10 0 49 = nI wf := hbo2.1.2.2.1.2.1
    have eb := m_endBlock (n := n) k1 c22 (by omega)
    have mw : M_way n (nI (B1 - 1)) 0 (endM m1 (B1 - 1)) = some (wayM (endM m1 (B1 - 1)) wf (B1 - 1) 0) := m_way (s := 0) k24 (by omega) (by omega) (Or.inl ⟨rfl, rfl⟩)
    rw [if_neg v3.ne, r_choose hbo2.2.1 (by omega), bd_s]
    have e3' := e3.eh
    have mO : ∀ k i j, k ≠ 123 → k ≠ 121 → k ≠ 118 → k ≠ 117 → ¬ (k = 10 ∧ (j = 22 ∨ j = 24)) → gI (wayM (endM m1 (B1 - 1)) wf (B1 - 1) 0) k i j = gI m1 k i j := fun k i j y1 y2 y3 y4 y5 => by
      rw [wayO y1 (by omega)]
      unfold endM
      rw [gn_I (by omega), gn_I (by omega), gn_I (by omega), gn_I (by omega)]
    have mO2 : ∀ k i j, (k < 117 ∨ 123 < k) → ¬ (k = 10 ∧ (j = 16 ∨ j = 22 ∨ j = 24)) → gI (wayM (endM m1 (B1 - 1)) wf (B1 - 1) 0) k i j = gI m2 k i j := fun k i j y1 y5 => (mO k i j (by omega) (by omega) (by omega) (by omega) (by omega)).trans (k3.1 k i j (by omega) y5)
    have cO : ∀ k i' j, k ≠ 0 → gI (choC c2 (175 * q + (B1 - 1)) v i o) k i' j = gI c2 k i' j := fun k i' j y => by
      unfold choC
      rw [gn_I (by omega), gn_I (by omega), gn_I (by omega), gn_I (by omega)]
    have op2 := hops.expr e3 hc3 n3 ac3
    have vok : ValOk c2 q cnt3 B1 v := ValOk.of e3.2.2.2.2.2.1.2.2 l3 n3
    refine ⟨_, _, _, rfl, rfl, Or.inr ⟨rfl, by rw [e3.2.2.1]; decide, endM m1 (B1 - 1), _, p3, cnt3, eb, mw, k49, ⟨⟨?_, ?_⟩, ⟨e3'.2.1.1, (mO2 10 0 5 (by decide) (by decide)).trans e3'.2.1.2.1, e3'.2.1.2.2⟩, (mO2 10 0 3 (by decide) (by decide)).trans e3'.2.2.1, ⟨e3'.2.2.2.1.1, (mO2 10 0 6 (by decide) (by decide)).trans e3'.2.2.2.1.2.1, e3'.2.2.2.1.2.2.1, e3'.2.2.2.1.2.2.2.1, (mO2 10 0 4 (by decide) (by decide)).trans e3'.2.2.2.1.2.2.2.2⟩, e3'.2.2.2.2.1, ⟨e3'.2.2.2.2.2.1, (mO2 10 0 10 (by decide) (by decide)).trans e3'.2.2.2.2.2.2⟩⟩, g1, op2.chosen hq vok (fun k i j y1 y2 => mO2 k i j (by omega) (by omega)), (FrC.agC ac3 hB1).tr (FrC.chF (by omega)), ((FrM.agM am3).tr (FrM.oth k3)).tr (FrM.endF.tr FrM.wayF), hp3, hc3, ?_, ?_, fun b s y1 y2 => (g2 b s y1 y2).trans (sd_ag (AgBC.agC ac3)), g3, g4, ?_, ?_⟩⟩
    · exact e3'.1.1
    · exact ⟨(mO2 10 0 2 (by decide) (by decide)).trans e3'.1.2.1, fun j hj => (mO2 101 0 j (by decide) (by omega)).trans (e3'.1.2.2 j hj)⟩
    · exact (cO 7 0 3 (by decide)).trans (ac3.1 7 0 3 (by decide) (by omega) (by omega) (by omega) (by omega))
    · exact (mO2 10 0 7 (by decide) (by decide)).trans am3.2.1
    · intro k hk
      rw [way123, if_neg (by omega)]
      unfold endM
      rw [gn_I (by omega), gn_I (by omega), gn_I (by omega), gn_I (by omega)]
      exact (k2.2 123 k (by decide) (by decide)).symm
    · intro j
      exact (cO 21 0 j (by decide)).trans ((AgBC.agC ac3).2.2.2.1 j)
  · rw [if_pos rfl]
    exact ⟨_, _, _, rfl, rfl, Or.inl ⟨rfl, f3, ac3, am3⟩⟩
end SC
