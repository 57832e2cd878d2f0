/-! ===== PURE: statements: opening a block; assignments; writings ===== -/
section SP1
variable {T : Nat → Nat} {len q n : Nat} {c m w : Mem} {p cnt br B : Nat}
/-- a sign that must stand there, on both sides -/
theorem x_pass {a : Nat} (hT : TapeT T len) (hn : 800 ≤ n) (ha : a < 2 ^ 31) (h : ER T len q n c m w p cnt br B) :
    ∃ r c' m', Tr_passes n (nI a) c = some (r, c') ∧ M_want n (nI a) m = some m' ∧ AgC q cnt B c c' ∧ AgM cnt m m' ∧ gI m' 10 0 8 = gI m 10 0 8 ∧ gI m' 10 0 9 = gI m 10 0 9 ∧ ((r = 1 ∧ AgB m m' ∧ ∃ p', p < p' ∧ ER T len q n c' m' w p' cnt br B) ∨ (r = 0 ∧ FL T len c' m' m w)) := by
  have ple := h.2.1.2.2
  have hp := skip_ge T len p
  have hpl := skip_le (T := T) ple
  rw [r_passes hT h.1.1 h.2.1.1 ple hn, m_want hT h.2.2.1 h.1.2 h.2.1.2.1 ple hn]
  by_cases z : byt T len (skip T len p) = nI a
  · have hlt := byt_lt z ha
    rw [if_pos z, if_pos z]
    exact ⟨_, _, _, rfl, rfl, agCp, agMp, rfl, rfl, Or.inl ⟨rfl, AgB.upd nbS5, _, by omega, h.pos (by omega)⟩⟩
  · rw [if_neg z, if_neg z]
    exact ⟨_, _, _, rfl, rfl, agCp.tr FL.agC (Nat.le_refl _), agMp.tr FL.agM (Nat.le_refl _), rfl, rfl, Or.inr ⟨rfl, (FL.mk (f := 1) (h.pos hpl) (by decide) hpl).from (BW.rf.upd nbS5)⟩⟩
/-- with a fault behind it, a sign is not looked for -/
theorem m_wantFL {a : Int32} {c' m' m0 : Mem} (h : FL T len c' m' m0 w) : M_want n a m' = some m' := m_wantBad h.not0
end SP1
section SO
variable {T : Nat → Nat} {len q n : Nat} {c0 m0 c m : Mem} {p cnt bc B J K h wf wc : Nat} {lab : Nat → Nat ⊕ Nat} {rk : Nat → Nat} {op : Bool}
theorem OPS.same {c' m' : Mem} {X : Nat → Prop} (h : OPS c m q cnt B op X) (hc : ∀ k i j, k = 0 ∨ k = 3 → gI c' k i j = gI c k i j) (hm : ∀ k i j, 111 ≤ k → k ≤ 115 → gI m' k i j = gI m k i j) : OPS c' m' q cnt B op X := by
  obtain ⟨h1, h2, h3, h4, h5, h6, h7, h8⟩ := h
  have c3 : ∀ i j, gI c' 3 i j = gI c 3 i j := fun i j => hc 3 i j (Or.inr rfl)
  have c0 : ∀ i j, gI c' 0 i j = gI c 0 i j := fun i j => hc 0 i j (Or.inl rfl)
  refine ⟨?_, ?_, ?_, ?_, ?_, ?_, ?_, h8⟩
  · unfold OpsR OpR RefOk uses at h1 ⊢
    simp only [c3, hm 111 _ _ (by decide) (by decide), hm 112 _ _ (by decide) (by decide), hm 113 _ _ (by decide) (by decide), hm 114 _ _ (by decide) (by decide), hm 115 _ _ (by decide) (by decide)]
    exact h1
  · unfold NumC at h2 ⊢
    simp only [c3]
    exact h2
  · simp only [c3]
    exact h3
  · unfold RangeR at h4 ⊢
    simp only [c3, c0]
    exact h4
  · unfold UsedR uses at h5 ⊢
    simp only [c3, c0]
    exact h5
  · unfold ValB at h6 ⊢
    simp only [c3, c0]
    exact h6
  · unfold ManyR at h7 ⊢
    simp only [c0]
    exact h7
theorem SR.pos {p' : Nat} (h : SR T len q n c0 m0 c m p cnt bc B J K h wf wc lab rk op) (h1 : p ≤ p') (h2 : p' ≤ len) : SR T len q n c0 m0 (sI c 5 0 1 (nI p')) (sI m 10 0 5 (nI p')) p' cnt bc B J K h wf wc lab rk op := by
  obtain ⟨a1, a2, a3, a4, a5, a6, a7, a8, a9, ⟨a10, a11⟩, a12, a13⟩ := h
  exact ⟨a1, ⟨gs_I _ _ _ _ _, gs_I _ _ _ _ _, h2⟩, a3, a4, a5, a6, a7, a8.ag (AgBC.upd (by decide)) (AgB.upd nbS5), a9.same (fun k i j z => gn_I (by omega)) (fun k i j z1 z2 => gn_I (by omega)), ⟨a10.tr (FrC.upd (by decide)), a11.tr (FrM.upd (by decide))⟩, ⟨by omega, by omega, by omega⟩, a13⟩
/-- operations, and a block that has none as yet -/
theorem OPS.open {c1 : Mem} {X : Nat → Prop} (h : OPS c m q cnt B false X) (hB : B < 175) (h0 : ∀ b s, b ≠ B → gI c1 0 (175 * q + b) s = gI c 0 (175 * q + b) s) (hf : gI c1 0 (175 * q + B) 0 = nI cnt) (hm : gI c1 0 (175 * q + B) 1 = 0) (hch : gI c1 0 (175 * q + B) 2 = 0) (h3 : ∀ i j, gI c1 3 i j = gI c 3 i j) : OPS c1 m q cnt (B + 1) true X := by
  obtain ⟨a1, a2, a3, a4, a5, a6, a7, a8, a9⟩ := h
  refine ⟨?_, ?_, ?_, ?_, ?_, ?_, ?_, by omega, a9⟩
  · unfold OpsR OpR RefOk uses at a1 ⊢
    simp only [h3]
    exact a1
  · unfold NumC at a2 ⊢
    simp only [h3]
    exact a2
  · intro i hi
    obtain ⟨b, b1, b2⟩ := a3 i hi
    exact ⟨b, by omega, by rw [h3]; exact b2⟩
  · intro b hb
    by_cases z : b = B
    · subst z
      refine ⟨cnt, 0, hf, hm, by omega, fun i hi => ⟨fun e => ?_, fun e => by omega⟩⟩
      obtain ⟨b', b1, b2⟩ := a3 i hi
      rw [h3, b2] at e
      have := (nI_eq (by omega) (by omega)).mp e
      omega
    · obtain ⟨f, g, r1, r2, r3, r4⟩ := a4 b (by omega)
      refine ⟨f, g, by rw [h0 b 0 z]; exact r1, by rw [h0 b 1 z]; exact r2, r3, fun i hi => ?_⟩
      rw [h3]
      exact r4 i hi
  · intro i hi
    refine (a5 i hi).imp id (fun y u1 u2 => ?_)
    rw [h3] at u1 u2
    rcases y u1 u2 with ⟨j, j1, j2, j3⟩ | ⟨b, b1, b2, b3, b4⟩
    · refine Or.inl ⟨j, j1, j2, ?_⟩
      unfold uses
      rw [h3, h3]
      exact j3
    · exact Or.inr ⟨b, by omega, by rw [h3]; exact b2, by rw [h0 b 2 (by omega)]; exact b3, by rw [h0 b 3 (by omega)]; exact b4⟩
  · intro b hb e
    by_cases z : b = B
    · subst z
      rw [hch] at e
      exact absurd e (by decide)
    · rw [h0 b 2 z] at e
      rw [h0 b 3 z]
      have := a6 b (by omega) e
      unfold ValB at this ⊢
      simp only [h3]
      exact this
  · intro _
    refine ⟨by omega, ⟨cnt, Nat.le_refl _, ?_, ?_⟩, ?_⟩
    · rw [show B + 1 - 1 = B by omega]; exact hf
    · rw [show B + 1 - 1 = B by omega, hm, Nat.sub_self]; rfl
    · rw [show B + 1 - 1 = B by omega]; exact hch
theorem SR.ref (h : SR T len q n c0 m0 c m p cnt bc B J K h wf wc lab rk op) : ∀ j t, j < J → lab j = .inr t → t < J := by
  intro j t hj e
  have := h.2.2.2.2.2.2.2.1.core.2.2.2.1.2.2.2 j t hj e
  exact this.1
/-- a statement begins: a block is open -/
theorem s_open (hq : q < 2) (hn : 2000 ≤ n) (h : SR T len q n c0 m0 c m p cnt bc B J K h wf wc lab rk op) (hB : B < 175) :
    ∃ c1 w B1 lab1, Wy_openBlock n c = some c1 ∧ M_needBlock n m = some w ∧ ER T len q n c1 m w p cnt 0 B1 ∧ BO c1 w q B1 J K wf lab1 rk ∧ OPS c1 m q cnt B1 true (fun _ => False) ∧ SP q c m B J K h wf lab op c1 w B1 J K h lab1 true ∧ FrC q c c1 ∧ (B ≤ B1 ∧ B1 ≤ B + 1) ∧ SafeM w wf wc ∧ OthB m w ∧ gI c1 7 0 3 = gI c 7 0 3 := by
  obtain ⟨⟨a1, a1'⟩, ⟨a2, a2', a2l⟩, a3, ⟨a4, a4'⟩, ⟨a5, a5', a5l⟩, a6, ⟨a7, a7'⟩, a8, a9, ⟨a10, a10'⟩, ⟨a11, a11', a11l⟩, a12⟩ := h
  rcases a8 with ⟨ho, hb, rfl⟩ | ⟨ho, hb⟩
  · subst ho
    obtain ⟨hcore, o1, o2, o3, o4, o5, o6⟩ := id hb
    obtain ⟨p1, p2, p3, p4, p5, p6, p7, p8, p9⟩ := id a9
    have hbx : BX c m q B J K h wc wc lab rk true := Or.inl ⟨rfl, hb, rfl⟩
    refine ⟨c, m, B, lab, r_openOld o1, m_needOld (by rw [o3]; exact nI_nm (by omega)), ⟨⟨a1, a1'⟩, ⟨a2, a2', a2l⟩, a3, ⟨a4, a4', by omega⟩, a6, ⟨a7, a7', p9⟩, ⟨hcore.1.2.1, o2, p8, o3⟩, NBx.self (by rw [o3]; exact nI_nm (by omega)) AgB.rf, p1, p2, (p7 rfl).2.1⟩, hb, a9, SP.rf hbx ⟨fun _ _ _ => rfl, fun _ => rfl, fun _ => rfl, fun _ => rfl, fun _ => rfl, fun _ => rfl⟩ (fun _ _ => rfl), FrC.rf, ⟨Nat.le_refl _, by omega⟩, hbx.safe (Nat.le_refl _), ⟨fun _ _ _ _ _ => rfl, rfl⟩, rfl⟩
  · subst ho
    obtain ⟨⟨⟨x1, x2, x3, x4⟩, ⟨y1, y2⟩, ⟨d1, d2, d3, d4⟩, ⟨e1, e2, e3, e4⟩, f1, g1⟩, ⟨h1, h2, h3⟩, i1, j1, k1, l1⟩ := id hb
    obtain ⟨c1, w, t1, t2, t3, t4, t5, t6, t7, t8, t9, t10, t11⟩ := b_open hq hn hb hB a7
    have hBO := t3
    obtain ⟨hcore, o1, o2, o3, o4, o5, o6⟩ := id t3
    have h3' : ∀ i j, gI c1 3 i j = gI c 3 i j := fun i j => t8 3 i j (by decide) (by decide) (by omega)
    have hops := a9.open (c1 := c1) hB t5 t6 t7 (by rw [← show B + 1 - 1 = B by omega]; exact o4) h3'
    obtain ⟨p1, p2, p3, p4, p5, p6, p7, p8, p9⟩ := id hops
    have fr : FrC q c c1 := ⟨fun k i j g1 g2 g3 g4 g5 g6 g7 g8 => by
      by_cases z : k = 0
      · subst z
        refine t9 i j (fun e1 e2 => g8 ⟨rfl, by omega, by omega⟩)
      · exact t8 k i j z g4 (fun z => g6 ⟨z.1, z.2.1⟩), fun k i j _ g2 => t10 k i j g2, t11⟩
    have hbx : BX c1 w q (B + 1) J K h wf wf (relab lab h (.inl B)) rk true := Or.inl ⟨rfl, t3, rfl⟩
    refine ⟨c1, w, B + 1, relab lab h (.inl B), t1, t2, ⟨⟨⟨(t8 6 0 1 (by decide) (by decide) (by decide)).trans a1.1, fun j hj => (t8 20 0 j (by decide) (by decide) (by omega)).trans (a1.2 j hj)⟩, a1'⟩, ⟨(t8 5 0 1 (by decide) (by decide) (by decide)).trans a2, a2', a2l⟩, a3, ⟨(t8 7 0 4 (by decide) (by decide) (by decide)).trans a4, a4', by omega⟩, (t10 7 0 2 (by decide)).trans a6, ⟨(t8 4 q 2 (by decide) (by decide) (by omega)).trans a7, a7', p9⟩, ⟨hcore.1.2.1, o2, p8, o3⟩, ⟨w, t2, AgB.rf, t4, by rw [o3]; exact nI_nm (by omega)⟩, p1, p2, (p7 rfl).2.1⟩, t3, hops, ?_, fr, ⟨by omega, Nat.le_refl _⟩, hbx.safe d3, t4, t8 7 0 3 (by decide) (by decide) (by decide)⟩
    refine ⟨⟨by omega, Nat.le_refl _, Nat.le_refl _⟩, ?_, ?_, ?_, ?_, ?_, ?_, ?_, fun _ => Or.inr (by omega)⟩
    · intro j hj k e
      exact (relab_n (by rw [e]; exact fun z => by cases z)).trans e
    · intro j hj t e ho
      have ht : t ≠ h := ho.elim (fun z => by cases z) id
      exact (relab_n (by rw [e]; exact fun z => ht (Sum.inr.inj z))).trans e
    · intro j hj t ht e _
      by_cases z : lab j = .inr h
      · rw [relab_y z] at e; cases e
      · rw [relab_n z] at e
        exact ⟨hj, e, Or.inr (fun y => z (by rw [e, y]))⟩
    · intro b hb' _ s hs
      exact t5 b _ (by omega)
    · intro b s j hs ho hb' hj e
      have zb : b = B + 1 - 1 := by rcases ho with z | ⟨z, -⟩; omega; cases z
      subst zb
      rcases (show s = 0 ∨ s = 1 by omega) with rfl | rfl
      · rw [o5] at e; exact absurd e.symm (nI_nm (by omega))
      · rw [o6] at e; exact absurd e.symm (nI_nm (by omega))
    · intro k hk
      exact t4.1 123 0 k (by decide) (by omega)
    · intro e; cases e
end SO
