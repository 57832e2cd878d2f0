/-! ===== PURE: statements begin: assignments; writings ===== -/
section SP1
variable {T : Nat → Nat} {len q n : Nat} {c m w : Mem} {p cnt br B : Nat}
/-- a sign that must stand there, on both sides -/
theorem x_pass {a : Int32} (hT : TapeT T len) (hn : 800 ≤ n) (ha : ∃ k, k < 2 ^ 31 ∧ a = nI k) (h : ER T len q n c m w p cnt br B) :
    ∃ r c' m', Tr_passes n a c = some (r, c') ∧ M_want n a m = some m' ∧ AgC q cnt B c c' ∧ AgM cnt m m' ∧ gI m' 10 0 8 = gI m 10 0 8 ∧ gI m' 10 0 9 = gI m 10 0 9 ∧ ((r = 1 ∧ AgB m m' ∧ ∃ p', p < p' ∧ ER T len q n c' m' w p' cnt br B) ∨ (r = 0 ∧ FL T len c' m' m w)) := by
  have ple := h.2.1.2.2
  have hp := skip_ge T len p
  have hpl := skip_le (T := T) ple
  rw [r_passes hT h.1.1 h.2.1.1 ple hn, m_want hT h.2.2.1 h.1.2 h.2.1.2.1 ple hn]
  by_cases z : byt T len (skip T len p) = a
  · obtain ⟨k, hk, rfl⟩ := ha
    have hlt := byt_lt z hk
    rw [if_pos z, if_pos z]
    exact ⟨_, _, _, rfl, rfl, agCp, agMp, rfl, rfl, Or.inl ⟨rfl, AgB.upd nbS5, _, by omega, h.pos (by omega)⟩⟩
  · rw [if_neg z, if_neg z]
    exact ⟨_, _, _, rfl, rfl, agCp.tr FL.agC (Nat.le_refl _), agMp.tr FL.agM (Nat.le_refl _), rfl, rfl, Or.inr ⟨rfl, (FL.mk (f := 1) (h.pos hpl) (by decide) hpl).from (BW.rf.upd nbS5)⟩⟩
/-- with a fault behind it, a sign is not looked for -/
theorem m_wantFL {a : Int32} {c' m' m0 : Mem} (h : FL T len c' m' m0 w) : M_want n a m' = some m' := m_wantBad h.not0
/-- with a fault behind it, an expression looks for the next byte, no more -/
theorem x_badFL {c' m' m0 : Mem} (hT : TapeT T len) (hn : 800 ≤ n) (h : FL T len c' m' m0 w) : ∃ z, z ≤ len ∧ M_expression n 30 m' = some (sI m' 10 0 5 (nI z)) := by
  obtain ⟨z, z1, z2⟩ := h.2.2.2.1
  exact ⟨skip T len z, skip_le z1, x_bad hT hn (by decide) m' z h.notle h.2.2.1 z2 z1⟩
end SP1
section SO
variable {T : Nat → Nat} {len q n x : Nat} {c0 m0 c m : Mem} {p cnt bc B J K h wf wc : Nat} {lab : Nat → Nat ⊕ Nat} {rk : Nat → Nat} {op : Bool}
theorem OPS.same {c' m' : Mem} {X : Nat → Prop} (h : OPS c m q cnt B op X) (hc : ∀ k i j, k = 0 ∨ k = 3 → gI c' k i j = gI c k i j) (hm : ∀ k i j, 111 ≤ k → k ≤ 115 → gI m' k i j = gI m k i j) : OPS c' m' q cnt B op X := by
  obtain ⟨h1, h2, h3, h4, h5, h6, h7, h8⟩ := h
  have c3 : ∀ i j, gI c' 3 i j = gI c 3 i j := fun i j => hc 3 i j (Or.inr rfl)
  have c0 : ∀ i j, gI c' 0 i j = gI c 0 i j := fun i j => hc 0 i j (Or.inl rfl)
  refine ⟨?_, ?_, ?_, ?_, ?_, ?_, ?_, h8⟩
  · unfold OpsR OpR RefOk uses at h1 ⊢
    simp only [c3, hm 111 _ _ (by decide) (by decide), hm 112 _ _ (by decide) (by decide), hm 113 _ _ (by decide) (by decide), hm 114 _ _ (by decide) (by decide), hm 115 _ _ (by decide) (by decide)]
    exact h1
  · unfold NumC at h2 ⊢
    simp only [c3]
    exact h2
  · simp only [c3]
    exact h3
  · unfold RangeR at h4 ⊢
    simp only [c3, c0]
    exact h4
  · unfold UsedR uses at h5 ⊢
    simp only [c3, c0]
    exact h5
  · unfold ValB at h6 ⊢
    simp only [c3, c0]
    exact h6
  · unfold ManyR at h7 ⊢
    simp only [c0]
    exact h7
theorem SRx.pos {p' : Nat} (hS : SRx T len q n x c0 m0 c m p cnt bc B J K h wf wc lab rk op) (h1 : p ≤ p') (h2 : p' ≤ len) : SRx T len q n x c0 m0 (sI c 5 0 1 (nI p')) (sI m 10 0 5 (nI p')) p' cnt bc B J K h wf wc lab rk op := by
  obtain ⟨a1, a2, a3, a4, a5, a6, a7, a8, a9, ⟨a10, a11⟩, a12, a13⟩ := hS
  exact ⟨a1, ⟨gs_I _ _ _ _ _, gs_I _ _ _ _ _, h2⟩, a3, a4, a5, a6, a7, a8.ag (AgBC.upd (Or.inr (Or.inl rfl))) (AgB.upd nbS5), a9.same (fun k i j z => gn_I (by omega)) (fun k i j z1 z2 => gn_I (by omega)), ⟨a10.tr (FrC.upd (Or.inl rfl)), a11.tr (FrM.upd (by decide))⟩, ⟨by omega, by omega, by omega⟩, a13⟩
/-- operations, and a block that has none as yet -/
theorem OPS.blk0 {c1 : Mem} {X : Nat → Prop} (h : OPS c m q cnt B false X) (hB : B < 175) (h0 : ∀ b s, b ≠ B → gI c1 0 (175 * q + b) s = gI c 0 (175 * q + b) s) (hf : gI c1 0 (175 * q + B) 0 = nI cnt) (hm : gI c1 0 (175 * q + B) 1 = 0) (hch : gI c1 0 (175 * q + B) 2 = 0) (h3 : ∀ i j, gI c1 3 i j = gI c 3 i j) : OPS c1 m q cnt (B + 1) true X := by
  obtain ⟨a1, a2, a3, a4, a5, a6, a7, a8, a9⟩ := h
  refine ⟨?_, ?_, ?_, ?_, ?_, ?_, ?_, by omega, a9⟩
  · unfold OpsR OpR RefOk uses at a1 ⊢
    simp only [h3]
    exact a1
  · unfold NumC at a2 ⊢
    simp only [h3]
    exact a2
  · intro i hi
    obtain ⟨b, b1, b2⟩ := a3 i hi
    exact ⟨b, by omega, by rw [h3]; exact b2⟩
  · intro b hb
    by_cases z : b = B
    · subst z
      refine ⟨cnt, 0, hf, hm, by omega, fun i hi => ⟨fun e => ?_, fun e => by omega⟩⟩
      obtain ⟨b', b1, b2⟩ := a3 i hi
      rw [h3, b2] at e
      have := (nI_eq (by omega) (by omega)).mp e
      omega
    · obtain ⟨f, g, r1, r2, r3, r4⟩ := a4 b (by omega)
      refine ⟨f, g, by rw [h0 b 0 z]; exact r1, by rw [h0 b 1 z]; exact r2, r3, fun i hi => ?_⟩
      rw [h3]
      exact r4 i hi
  · intro i hi
    refine (a5 i hi).imp id (fun y u1 u2 => ?_)
    rw [h3] at u1 u2
    rcases y u1 u2 with ⟨j, j1, j2, j3⟩ | ⟨b, b1, b2, b3, b4⟩
    · refine Or.inl ⟨j, j1, j2, ?_⟩
      unfold uses
      rw [h3, h3]
      exact j3
    · exact Or.inr ⟨b, by omega, by rw [h3]; exact b2, by rw [h0 b 2 (by omega)]; exact b3, by rw [h0 b 3 (by omega)]; exact b4⟩
  · intro b hb e
    by_cases z : b = B
    · subst z
      rw [hch] at e
      exact absurd e (by decide)
    · rw [h0 b 2 z] at e
      rw [h0 b 3 z]
      have := a6 b (by omega) e
      unfold ValB at this ⊢
      simp only [h3]
      exact this
  · intro _
    refine ⟨by omega, ⟨cnt, Nat.le_refl _, ?_, ?_⟩, ?_⟩
    · rw [show B + 1 - 1 = B by omega]; exact hf
    · rw [show B + 1 - 1 = B by omega, hm, Nat.sub_self]; rfl
    · rw [show B + 1 - 1 = B by omega]; exact hch
theorem SRx.ref (hS : SRx T len q n x c0 m0 c m p cnt bc B J K h wf wc lab rk op) : ∀ j t, j < J → lab j = .inr t → t < J := by
  intro j t hj e
  have := hS.2.2.2.2.2.2.2.1.core.2.2.2.1.2.2.2 j t hj e
  exact this.1
/-- a statement begins: a block is open -/
theorem SR.pos {p' : Nat} (hS : SR T len q n c0 m0 c m p cnt bc B J K h wf wc lab rk op) (h1 : p ≤ p') (h2 : p' ≤ len) : SR T len q n c0 m0 (sI c 5 0 1 (nI p')) (sI m 10 0 5 (nI p')) p' cnt bc B J K h wf wc lab rk op := SRx.pos hS h1 h2
theorem SR.ref (hS : SR T len q n c0 m0 c m p cnt bc B J K h wf wc lab rk op) : ∀ j t, j < J → lab j = .inr t → t < J := SRx.ref hS
theorem s_open (hq : q < 2) (hn : 2000 ≤ n) (hS : SRx T len q n x c0 m0 c m p cnt bc B J K h wf wc lab rk op) (hB : B < 175) :
    ∃ c1 w B1 lab1, Wy_openBlock n c = some c1 ∧ M_needBlock n m = some w ∧ ER T len q n c1 m w p cnt 0 B1 ∧ BO c1 w q B1 J K wf lab1 rk ∧ OPS c1 m q cnt B1 true (fun _ => False) ∧ SP q c m B J K h wf lab op c1 w B1 J K h lab1 true ∧ FrC q c c1 ∧ (B ≤ B1 ∧ B1 ≤ B + 1) ∧ SafeM w wf wc ∧ OthB m w ∧ gI c1 7 0 3 = gI c 7 0 3 ∧ (op = false → B1 = B + 1 ∧ lab1 h = .inl B ∧ gI c1 21 0 h = nI B) := by
  obtain ⟨⟨a1, a1'⟩, ⟨a2, a2', a2l⟩, a3, ⟨a4, a4'⟩, ⟨a5, a5', a5l⟩, a6, ⟨a7, a7'⟩, a8, a9, ⟨a10, a10'⟩, ⟨a11, a11', a11l⟩, a12⟩ := hS
  rcases a8 with ⟨ho, hb, rfl⟩ | ⟨ho, hb⟩
  · subst ho
    obtain ⟨hcore, o1, o2, o3, o4, o5, o6⟩ := id hb
    obtain ⟨p1, p2, p3, p4, p5, p6, p7, p8, p9⟩ := id a9
    have hbx : BX c m q B J K h wc wc lab rk true := Or.inl ⟨rfl, hb, rfl⟩
    refine ⟨c, m, B, lab, r_openOld o1, m_needOld (by rw [o3]; exact nI_nm (by omega)), ⟨⟨a1, a1'⟩, ⟨a2, a2', a2l⟩, a3, ⟨a4, a4'.1, by omega, a4'.2⟩, a6, ⟨a7, a7', p9⟩, ⟨hcore.1.2.1, o2, p8, o3⟩, NBx.self (by rw [o3]; exact nI_nm (by omega)) AgB.rf, p1, p2, (p7 rfl).2.1⟩, hb, a9, SP.rf hbx ⟨fun _ _ _ => rfl, fun _ => rfl, fun _ => rfl, fun _ => rfl, fun _ => rfl, fun _ => rfl⟩ (fun _ _ => rfl), FrC.rf, ⟨Nat.le_refl _, by omega⟩, hbx.safe (Nat.le_refl _), ⟨fun _ _ _ _ _ => rfl, rfl⟩, rfl, fun e => (by cases e)⟩
  · subst ho
    obtain ⟨⟨⟨x1, x2, x3, x4⟩, ⟨y1, y2⟩, ⟨d1, d2, d3, d4⟩, ⟨e1, e2, e3, e4⟩, f1, g1⟩, ⟨h1, h2, h3⟩, i1, j1, k1, l1⟩ := id hb
    obtain ⟨c1, w, t1, t2, t3, t4, t5, t6, t7, t8, t9, t10, t11⟩ := b_open hq hn hb hB a7
    have hBO := t3
    obtain ⟨hcore, o1, o2, o3, o4, o5, o6⟩ := id t3
    have h3' : ∀ i j, gI c1 3 i j = gI c 3 i j := fun i j => t8 3 i j (by decide) (by decide) (by omega)
    have hops := a9.blk0 (c1 := c1) hB t5 t6 t7 (by rw [← show B + 1 - 1 = B by omega]; exact o4) h3'
    obtain ⟨p1, p2, p3, p4, p5, p6, p7, p8, p9⟩ := id hops
    have fr : FrC q c c1 := ⟨fun k i j g1 g2 g3 g4 g5 g6 g7 g8 => by
      by_cases z : k = 0
      · subst z
        refine t9 i j (fun e1 e2 => g8 ⟨rfl, by omega, by omega⟩)
      · exact t8 k i j z g4 (fun z => g6 ⟨z.1, z.2.1⟩), fun k i j _ g2 => t10 k i j g2, t11⟩
    have hbx : BX c1 w q (B + 1) J K h wf wf (relab lab h (.inl B)) rk true := Or.inl ⟨rfl, t3, rfl⟩
    refine ⟨c1, w, B + 1, relab lab h (.inl B), t1, t2, ⟨⟨⟨(t8 6 0 1 (by decide) (by decide) (by omega)).trans a1.1, fun j hj => (t8 20 0 j (by decide) (by decide) (by omega)).trans (a1.2 j hj)⟩, a1'⟩, ⟨(t8 5 0 1 (by decide) (by decide) (by omega)).trans a2, a2', a2l⟩, a3, ⟨(t8 7 0 4 (by decide) (by decide) (by omega)).trans a4, a4'.1, by omega, (t8 7 0 5 (by decide) (by decide) (by omega)).trans a4'.2.1, (t8 7 0 6 (by decide) (by decide) (by omega)).trans a4'.2.2.1, a4'.2.2.2⟩, (t10 7 0 2 (by decide)).trans a6, ⟨(t8 4 q 2 (by decide) (by decide) (by omega)).trans a7, a7', p9⟩, ⟨hcore.1.2.1, o2, p8, o3⟩, ⟨w, t2, AgB.rf, t4, by rw [o3]; exact nI_nm (by omega)⟩, p1, p2, (p7 rfl).2.1⟩, t3, hops, ?_, fr, ⟨by omega, Nat.le_refl _⟩, hbx.safe d3, t4, t8 7 0 3 (by decide) (by decide) (by omega), fun _ => ⟨rfl, relab_y h3, ?_⟩⟩
    rotate_left
    · have e1 := Option.some.inj (t1.symm.trans (r_openNew (n := n) hq i1 x1 h1 (by omega) x2 hB a7))
      rw [e1, gI_sR, gn_I (by omega), gn_I (by omega), gn_I (by omega), gn_I (by omega), gn_I (by omega), gn_I (by omega), gn_I (by omega), gs_I]
    refine ⟨⟨by omega, Nat.le_refl _, Nat.le_refl _⟩, ?_, ?_, ?_, ?_, ?_, ?_, ?_, fun _ => Or.inr (by omega), ?_⟩
    · intro j hj k e
      exact (relab_n (by rw [e]; exact fun z => by cases z)).trans e
    · intro j hj t e ho
      have ht : t ≠ h := ho.elim (fun z => by cases z) id
      exact (relab_n (by rw [e]; exact fun z => ht (Sum.inr.inj z))).trans e
    · intro j hj t ht e _
      by_cases z : lab j = .inr h
      · rw [relab_y z] at e; cases e
      · rw [relab_n z] at e
        exact ⟨hj, e, Or.inr (fun y => z (by rw [e, y]))⟩
    · intro b hb' _ s hs
      exact t5 b _ (by omega)
    · intro b s j hs ho hb' hj e
      have zb : b = B + 1 - 1 := by rcases ho with z | ⟨z, -⟩; omega; cases z
      subst zb
      rcases (show s = 0 ∨ s = 1 by omega) with rfl | rfl
      · exact absurd (e.symm.trans o5) (nI_nm (by omega))
      · exact absurd (e.symm.trans o6) (nI_nm (by omega))
    · intro k hk
      exact t4.1 123 0 k (by decide) (by omega)
    · intro e; cases e
    · intro j hj z
      have hop := r_openNew (n := n) hq i1 x1 h1 (by omega) x2 hB a7
      have e1 := Option.some.inj (t1.symm.trans hop)
      have zh : j ≠ h := fun y => by
        subst y
        refine z ?_
        rcases e3 j hj with ⟨⟨k, u1, u2, u3⟩, -⟩ | ⟨u, -⟩ | ⟨u, -⟩
        · rw [h3] at u3; cases u3
        · exact u
        · exact u
      rw [e1, gI_sR, gn_I (by omega), gn_I (by omega), gn_I (by omega), gn_I (by omega), gn_I (by omega), gn_I (by omega), gn_I (by omega), gn_I (by omega)]
theorem AgBC.tr {a b d : Mem} (h1 : AgBC a b) (h2 : AgBC b d) : AgBC a d := ⟨fun i j z => (h2.1 i j z).trans (h1.1 i j z), fun i => (h2.2.1 i).trans (h1.2.1 i), fun i => (h2.2.2.1 i).trans (h1.2.2.1 i), fun i => (h2.2.2.2.1 i).trans (h1.2.2.2.1 i), fun i => (h2.2.2.2.2.1 i).trans (h1.2.2.2.2.1 i), fun i => (h2.2.2.2.2.2 i).trans (h1.2.2.2.2.2 i)⟩
/-- how a statement, or some, end: behind it, or with a fault -/
def OUT (T : Nat → Nat) (len q n : Nat) (c0 m0 c m : Mem) (p cnt bc B J K h wf wc W : Nat) (lab : Nat → Nat ⊕ Nat) (op : Bool) (s : Nat) (r : Int32) (c' m' : Mem) : Prop :=
  (r = 1 ∧ ∃ p' cnt' B' J' K' h' wc' lab' rk' op', SR T len q n c0 m0 c' m' p' cnt' bc B' J' K' h' wf wc' lab' rk' op' ∧ SP q c m B J K h wf lab op c' m' B' J' K' h' lab' op' ∧ p + s ≤ p' ∧ cnt ≤ cnt' ∧ p + wc' ≤ p' + wc) ∨ (r = 0 ∧ FLS T len q c0 m0 c' m' wf W)
/-- the heads of both sides -/
def EH (T : Nat → Nat) (len q : Nat) (c m : Mem) (p cnt : Nat) : Prop := (TapeC c T len ∧ TapeM m T len) ∧ (gI c 5 0 1 = nI p ∧ gI m 10 0 5 = nI p ∧ p ≤ len) ∧ gI m 10 0 3 = 0 ∧ (gI c 7 0 4 = nI 0 ∧ gI m 10 0 6 = nI 0 ∧ NF c m) ∧ gR c 7 0 2 = some q ∧ (gI c 4 q 2 = nI cnt ∧ gI m 10 0 10 = nI cnt)
theorem ER.eh {w : Mem} (h : ER T len q n c m w p cnt 0 B) : EH T len q c m p cnt := ⟨h.1, h.2.1, h.2.2.1, ⟨h.2.2.2.1.1, h.2.2.2.1.2.1, h.2.2.2.1.2.2.2⟩, h.2.2.2.2.1, ⟨h.2.2.2.2.2.1.1, h.2.2.2.2.2.1.2.1⟩⟩
theorem s_done {w c1 c' m' : Mem} {p' cnt' B1 s W : Nat} {lab1 : Nat → Nat ⊕ Nat} (hS : SR T len q n c0 m0 c m p cnt bc B J K h wf wc lab rk op) (he : EH T len q c' m' p' cnt') (hbo : BO c1 w q B1 J K wf lab1 rk) (hops : OPS c' m' q cnt' B1 true (fun _ => False)) (hsp : SP q c m B J K h wf lab op c1 w B1 J K h lab1 true) (fr : FrC q c c1) (hC : FrC q c1 c') (hM : FrM m m') (ab : AgBC c1 c') (am : AgB w m') (b3 : gI c' 7 0 3 = gI c 7 0 3) (b7 : gI m' 10 0 7 = gI m 10 0 7) (hB : 4 * B1 ≤ p') (hc : cnt ≤ cnt') (hp : p + s ≤ p') : OUT T len q n c0 m0 c m p cnt bc B J K h wf wc W lab op s 1 c' m' := by
  have hh := hS.ref
  obtain ⟨a1, a2, a3, a4, ⟨a5, a5', a5l⟩, a6, a7, a8, a9, ⟨a10, a10'⟩, ⟨a11, a11', a11l⟩, a12⟩ := hS
  have hwf : wf ≤ wc := a8.core.2.2.1.2.2.1
  have hbx : BX c1 w q B1 J K h wf wf lab1 rk true := Or.inl ⟨rfl, hbo, rfl⟩
  refine Or.inl ⟨rfl, p', cnt', B1, J, K, h, wf, lab1, rk, true, ⟨he.1, he.2.1, he.2.2.1, he.2.2.2.1, ⟨b3.trans a5, b7.trans a5', a5l⟩, he.2.2.2.2.1, he.2.2.2.2.2, hbx.ag ab am, hops, ⟨(a10.tr fr).tr hC, a10'.tr hM⟩, ⟨by omega, by omega, by omega⟩, a12⟩, ?_, hp, hc, by omega⟩
  exact hsp.tr hh a12 (SP.rf hbx ab (fun k hk => (am.2 123 k (by decide) (by decide)).symm))
theorem s_fl {w c1 c' m' : Mem} {B1 W : Nat} (hS : SRx T len q n x c0 m0 c m p cnt bc B J K h wf wc lab rk op) (hB1 : 1 ≤ B1 ∧ B1 ≤ 175) (fr : FrC q c c1) (sw : SafeM w wf wc) (hf : FL T len c' m' m w) (hc : AgC q cnt B1 c1 c') (hm : AgM cnt m m') (hW : wc ≤ W) : FLS T len q c0 m0 c' m' wf W := by
  obtain ⟨a1, a2, a3, a4, a5, a6, a7, a8, a9, ⟨a10, a10'⟩, a11, a12⟩ := hS
  exact hf.stm ((a10.tr fr).tr (FrC.agC hc hB1)) (a10'.tr (FrM.agM hm)) (a8.safe hW) (sw.mono hW)
theorem od_val0 {v : Int32} (h : ∀ i, i < 200 → ¬ v = cval i) {s x : Int32} (hv : VR v s x) : Od_isValue n v = some 0 := by
  rw [Od_isValue]
  rcases hv with ⟨h1, -, -⟩ | ⟨k, hk, rfl, -, -⟩ | ⟨i, hi, rfl, -, -⟩
  · rw [if_pos (num_lo h1).1]
  · rw [if_pos (cvar_lo k hk).2.1]
  · exact absurd rfl (h i hi)
theorem od_val1 {i : Nat} (hi : i < 200) : Od_isValue n (cval i) = some 1 := by
  rw [Od_isValue, if_neg (cval_lo i hi).2.1, if_neg (cval_lo i hi).2.2.1]
theorem s_assign {a W : Nat} (hT : TapeT T len) (hq : q < 2) (hn : 2000 ≤ n) (hS : SR T len q n c0 m0 c m p cnt bc B J K h wf wc lab rk op) (hp : skip T len p = p) (hl : p < len) (hb : T p = 97 + a) (ha : a < 8) (hW : wc ≤ W) :
    ∃ r c' m', Tr_assignment n (nI a) c = some (r, c') ∧ M_assignment n m = some m' ∧ OUT T len q n c0 m0 c m p cnt bc B J K h wf wc W lab op 4 r c' m' := by
  have hlen := hT.1
  have hn8 : 800 ≤ n := by omega
  have pC : gI c 5 0 1 = nI p := hS.2.1.1
  have pM : gI m 10 0 5 = nI p := hS.2.1.2.1
  have hinv := hS.2.2.2.2.2.2.2.2.2.2.1
  have hS1 := hS.pos (p' := p + 1) (by omega) (by omega)
  have mn : M_next n m = some (nI (97 + a), m) := by
    rw [m_next hT hS.1.2 pM (by omega) hn8, hp, sI_same pM, byt_in hl, hb]
  have sp0 : SP q c m B J K h wf lab op (sI c 5 0 1 (nI (p + 1))) (sI m 10 0 5 (nI (p + 1))) B J K h lab op := SP.rf hS.2.2.2.2.2.2.2.1 (AgBC.upd (Or.inr (Or.inl rfl))) (fun k hk => gn_I (by omega))
  have fr0 : FrC q c (sI c 5 0 1 (nI (p + 1))) := FrC.upd (Or.inl rfl)
  have fm0 : FrM m (sI m 10 0 5 (nI (p + 1))) := FrM.upd (by decide)
  have out : ∀ r c' m', OUT T len q n c0 m0 (sI c 5 0 1 (nI (p + 1))) (sI m 10 0 5 (nI (p + 1))) (p + 1) cnt bc B J K h wf wc W lab op 3 r c' m' → OUT T len q n c0 m0 c m p cnt bc B J K h wf wc W lab op 4 r c' m' := by
    intro r c' m' ho
    rcases ho with ⟨ho, p', cnt', B', J', K', h', wc', lab', rk', op', x1, x2, x3, x4, x5⟩ | ho
    · exact Or.inl ⟨ho, p', cnt', B', J', K', h', wc', lab', rk', op', x1, sp0.tr hS.ref hS.2.2.2.2.2.2.2.2.2.2.2 x2, by omega, x4, by omega⟩
    · exact Or.inr ho
  rw [Tr_assignment, M_assignment, Rd_pass, mn, bd_s]
  simp only [lt9, bd_s]
  rw [pC, pM, show nI p + 1 = nI (p + 1) from nI_1 _]
  obtain ⟨c1, w, B1, lab1, t1, -, t3, t4, t5, t6, t7, t8, t9, t10, t11, -⟩ := s_open hq hn hS1 (by omega)
  generalize sI c 5 0 1 (nI (p + 1)) = cA at *
  generalize sI m 10 0 5 (nI (p + 1)) = mA at *
  have hB1 : 1 ≤ B1 ∧ B1 ≤ 175 := ⟨t4.2.2.1, t4.1.1.2.2.2⟩
  have fl : ∀ {c' m' : Mem}, FL T len c' m' mA w → AgC q cnt B1 c1 c' → AgM cnt mA m' → OUT T len q n c0 m0 c m p cnt bc B J K h wf wc W lab op 4 0 c' m' := fun {c' m'} hf hc hm => out 0 c' m' (Or.inr ⟨rfl, s_fl hS1 hB1 t7 t9 hf hc hm hW⟩)
  have dn : ∀ {c' m' : Mem} {p' cnt' : Nat}, EH T len q c' m' p' cnt' → OPS c' m' q cnt' B1 true (fun _ => False) → FrC q c1 c' → FrM mA m' → AgBC c1 c' → AgB w m' → gI c' 7 0 3 = gI cA 7 0 3 → gI m' 10 0 7 = gI mA 10 0 7 → 4 * B1 ≤ p' → cnt ≤ cnt' → p + 1 + 3 ≤ p' → OUT T len q n c0 m0 c m p cnt bc B J K h wf wc W lab op 4 1 c' m' := fun {c' m' p' cnt'} he hops hC hM ab am b3 b7 h4 hc hp => out 1 c' m' (s_done hS1 he t4 hops t6 t7 hC hM ab am b3 b7 h4 hc hp)
  have fin : ∀ {c5 m5 : Mem} {p5 j : Nat}, ER T len q n c5 m5 w p5 (j + 1) 0 B1 → OPS c5 m5 q (j + 1) B1 true (fun i => i = j) → (gI c5 3 (200 * q + j) 6 = nI (B1 - 1) ∧ ¬ gI c5 3 (200 * q + j) 1 = 2) → AgC q cnt B1 c1 c5 → AgM cnt mA m5 → AgB w m5 → cnt ≤ j → p + 4 ≤ p5 → OUT T len q n c0 m0 c m p cnt bc B J K h wf wc W lab op 4 1 (sI c5 3 (200 * q + j) 5 (nI a)) (sI m5 114 0 j (nI a)) := by
    intro c5 m5 p5 j b4 op5 b13 acB amB b14 hj h4
    have h200 := b4.2.2.2.2.2.1.2.2
    refine dn (p' := p5) (cnt' := j + 1) b4.eh (op5.give (cnt0 := 0) hq ha (fun i _ x => x) b13.1 b13.2 rfl) ((FrC.agC acB hB1).tr (FrC.upd ?_)) ((FrM.agM amB).tr (FrM.updA (by decide))) ?_ ?_ ?_ ?_ (by omega) (by omega) (by omega)
    · omega
    · exact (AgBC.agC acB).tr (AgBC.upd (Or.inl rfl))
    · exact ⟨b14.1, fun k i g1 g2 => (b14.2 k i g1 g2).trans (gn_I (by omega)).symm⟩
    · exact (acB.1 7 0 3 (by decide) (by omega) (by omega) (by omega) (by omega)).trans t11
    · exact amB.2.1
  obtain ⟨r2, c2, m2, y1, y2, y3, y4, y5, y6, y7⟩ := x_pass (a := 61) hT hn8 ⟨61, by decide, rfl⟩ t3
  rw [t1, bd_s, y1, y2, bd_s, bd_s]
  dsimp only
  rcases y7 with ⟨rfl, ab2, p2, hp2, e2⟩ | ⟨rfl, f2⟩
  · rw [if_neg (by decide)]
    obtain ⟨v, c3, m3, z1, z2, z3⟩ := x_all hT hq hn8 30 c2 m2 w p2 cnt 0 B1 e2 (by decide)
    rw [z1, z2, bd_s, bd_s]
    dsimp only
    rcases z3 with ⟨p3, cnt3, e3, hp3, hc3, v3, l3, n3, ac3, am3, bw3, ag3⟩ | ⟨rfl, f3, ac3, am3⟩
    · rw [if_neg v3.ne]
      obtain ⟨r4, c4, m4, u1, u2, u3, u4, u5, u6, u7⟩ := x_pass (a := 59) hT hn8 ⟨59, by decide, rfl⟩ e3
      rw [u1, u2, bd_s, bd_s]
      dsimp only
      have acA := y3.tr (ac3.tr u3 hc3) (Nat.le_refl _)
      have amA := y4.tr (am3.tr u4 hc3) (Nat.le_refl _)
      rcases u7 with ⟨rfl, ab4, p4, hp4, e4⟩ | ⟨rfl, f4⟩
      · have k3 : gI m4 10 0 3 ≤ 0 := by rw [e4.2.2.1]; decide
        rw [if_neg (by decide), if_pos k3]
        have k4 : gI m4 10 0 10 = nI cnt3 := e4.2.2.2.2.2.1.2.1
        have k2 : gI m2 10 0 10 = nI cnt := e2.2.2.2.2.2.1.2.1
        have k200 : cnt3 ≤ 200 := e4.2.2.2.2.2.1.2.2
        have v4 : VR v (gI m4 10 0 8) (gI m4 10 0 9) := by rw [u5, u6]; exact v3
        have n4 : NewOk c4 q cnt cnt3 B1 v := n3.ag u3
        have cmp : (nI cnt3 = nI cnt) = (cnt3 = cnt) := q_eq (by omega) (by omega)
        have op4 := t5.expr e4 hc3 n4 acA
        have ba : nI (97 + a) - 97 = nI a := by
          rw [show (97 : Int32) = nI 97 from rfl, pk_sub (by omega)]
          congr 1
          omega
        rw [k4, k2]
        simp only [cmp]
        rcases l3 with ⟨rfl, hnv⟩ | ⟨hlt, hv⟩
        · rw [od_val0 hnv v4, bd_s, if_pos rfl, if_pos rfl]
          have e4' : ER T len q n c4 (sI m4 10 0 8 0) w p4 cnt3 0 B1 := e4.opS
          have am0 : AgM cnt3 m4 (sI m4 10 0 8 0) := AgM.upd (by decide)
          rcases x_add (s := 3) (code := 7) (l := v) (r := 0) (st := p) hq (by unfold SG; simp) (Or.inl v4) (Or.inr ⟨rfl, gs_I _ _ _ _ _⟩) (by decide) (ValOk.no hnv) (ValOk.no (fun i hi z => absurd (cval_lo i hi).1 (by rw [← z]; decide))) (by omega) e4' with ⟨b1, c5, m5, b2, b3, b4, b5, b6, b7, b8, b9, b10, b11, b12, b13, b14⟩ | ⟨c5, m5, z, b1, b2, b3, b4, b5⟩
          · rw [b2, b3, bd_s, bd_s]
            dsimp only
            have k5 : gI m5 10 0 10 = nI (cnt3 + 1) := b4.2.2.2.2.2.1.2.1
            rw [if_neg (cval_ne _ b1), b4.2.2.2.2.1, bd_s, if_pos hq, Od_operationOf, bd_s, (cval_lo _ b1).2.2.2, ix_nI (N := 200) b1 (by decide), bd_s, if_pos b4.2.2.1, k5, show nI (cnt3 + 1) - 1 = nI cnt3 from nI_pred _, ix_nI (N := 200) b1 (by decide), bd_s, ba]
            have acB := acA.tr b7 hc3
            have amB := (amA.tr am0 hc3).tr b8 hc3
            have op5 := (op4.add b4 b7 b9 b10 b11 b13).weak (X' := fun i => i = cnt3) (fun i hi x => by
              rcases x with ⟨x | x, x2, -⟩ | ⟨x, -⟩
              · exact x.elim
              · exact absurd x x2
              · exact x)
            exact ⟨_, _, _, rfl, rfl, fin b4 op5 ⟨b13, by rw [b9]; decide⟩ acB amB b14 (Nat.le_refl _) (by omega)⟩
          · rw [b1, b2, bd_s, bd_s]
            dsimp only
            rw [if_pos rfl, if_neg b3.not0]
            refine ⟨_, _, _, rfl, rfl, fl (b3.from ?_) (acA.tr b4 (Nat.le_refl _)) ((amA.tr am0 (Nat.le_refl _)).tr b5 (Nat.le_refl _))⟩
            exact ((BW.tr (Or.inl ab2) bw3).tr (Or.inl ab4)).upd nbS8
        · obtain ⟨j, rfl⟩ : ∃ j, cnt3 = j + 1 := ⟨cnt3 - 1, by omega⟩
          have hv' : v = cval j := hv
          have hj : j < 200 := by omega
          have b13 := (n4 j (by omega) (by omega)).1
          have op5 := op4.weak (X' := fun i => i = j) (fun i hi x => x.elim (fun y => y.elim) (fun y => (cval_inj hj (by omega) (hv'.symm.trans y)).symm))
          rw [hv', od_val1 hj, bd_s, if_neg (by decide), if_neg (cval_ne _ hj), e4.2.2.2.2.1, bd_s, if_pos hq, Od_operationOf, bd_s, (cval_lo _ hj).2.2.2, ix_nI (N := 200) hj (by decide), bd_s, if_neg (by omega), if_pos e4.2.2.1, show nI (j + 1) - 1 = nI j from nI_pred _, ix_nI (N := 200) hj (by decide), bd_s, ba]
          exact ⟨_, _, _, rfl, rfl, fin e4 op5 ⟨b13, (n4 j (by omega) (by omega)).2.2.1⟩ acA amA ((ag3 hlt).tr ab4) (by omega) (by omega)⟩
      · rw [if_pos rfl, if_neg f4.notle]
        exact ⟨_, _, _, rfl, rfl, fl (f4.from (BW.tr (Or.inl ab2) bw3)) acA amA⟩
    · rw [if_pos rfl, m_wantFL f3, bd_s, if_neg f3.notle]
      exact ⟨_, _, _, rfl, rfl, fl (f3.from (Or.inl ab2)) (y3.tr ac3 (Nat.le_refl _)) (y4.tr am3 (Nat.le_refl _))⟩
  · obtain ⟨z, z1, z2⟩ := x_badFL hT hn8 f2
    have f3 := f2.updP z1
    rw [if_pos rfl, z2, bd_s, m_wantFL f3, bd_s, if_neg f3.notle]
    exact ⟨_, _, _, rfl, rfl, fl f3 y3 (y4.tr agMp (Nat.le_refl _))⟩
theorem m_writing {g : Mem} : M_writing n g = (M_next n (sI g 10 0 5 (gI g 10 0 5 + 1))).bind fun z2 => if z2.1 = 91 then (M_encl (M_expression n 30) n 93 z2.2).bind fun g6 => (M_want n 61 g6).bind fun g7 => (if gI g7 10 0 3 = 0 then (M_expression n 30 g7).bind fun g9 => (M_want n 59 g9).bind fun g11 => (if gI g11 10 0 3 = 0 then (M_emit n 6 (gI g 10 0 5) (gI g6 10 0 8) (gI g6 10 0 9) g11).bind fun z12 => some z12.2 else some g11) else (M_want n 59 g7).bind fun g11 => (if gI g11 10 0 3 = 0 then (M_emit n 6 (gI g 10 0 5) (gI g6 10 0 8) (gI g6 10 0 9) g11).bind fun z12 => some z12.2 else some g11)) else (M_fail n 1 (gI z2.2 10 0 5) z2.2).bind fun g13 => some g13 := by
  rw [M_writing]
  simp only [lt9]
  unfold M_encl
  cases M_next n (sI g 10 0 5 (gI g 10 0 5 + 1)) with
  | none => rfl
  | some z2 =>
    rw [bd_s, bd_s]
    by_cases z : z2.1 = 91
    · rw [if_pos z, if_pos z]
      cases M_open n z2.2 with
      | none => rfl
      | some a =>
        rw [bd_s, bd_s]
        cases M_expression n 30 a with
        | none => rfl
        | some b =>
          rw [bd_s, bd_s]
          cases M_want n 93 b with
          | none => rfl
          | some d => rfl
    · rw [if_neg z, if_neg z]
theorem s_write {W : Nat} (hT : TapeT T len) (hq : q < 2) (hn : 2000 ≤ n) (hS : SR T len q n c0 m0 c m p cnt bc B J K h wf wc lab rk op) (hl : p < len) (hW : wc ≤ W) :
    ∃ r c' m', Tr_write n c = some (r, c') ∧ M_writing n m = some m' ∧ OUT T len q n c0 m0 c m p cnt bc B J K h wf wc W lab op 4 r c' m' := by
  have hlen := hT.1
  have hn8 : 800 ≤ n := by omega
  have pC : gI c 5 0 1 = nI p := hS.2.1.1
  have pM : gI m 10 0 5 = nI p := hS.2.1.2.1
  have hinv := hS.2.2.2.2.2.2.2.2.2.2.1
  have hS1 := hS.pos (p' := p + 1) (by omega) (by omega)
  have sp0 : SP q c m B J K h wf lab op (sI c 5 0 1 (nI (p + 1))) (sI m 10 0 5 (nI (p + 1))) B J K h lab op := SP.rf hS.2.2.2.2.2.2.2.1 (AgBC.upd (Or.inr (Or.inl rfl))) (fun k hk => gn_I (by omega))
  have out : ∀ r c' m', OUT T len q n c0 m0 (sI c 5 0 1 (nI (p + 1))) (sI m 10 0 5 (nI (p + 1))) (p + 1) cnt bc B J K h wf wc W lab op 3 r c' m' → OUT T len q n c0 m0 c m p cnt bc B J K h wf wc W lab op 4 r c' m' := by
    intro r c' m' ho
    rcases ho with ⟨ho, p', cnt', B', J', K', h', wc', lab', rk', op', x1, x2, x3, x4, x5⟩ | ho
    · exact Or.inl ⟨ho, p', cnt', B', J', K', h', wc', lab', rk', op', x1, sp0.tr hS.ref hS.2.2.2.2.2.2.2.2.2.2.2 x2, by omega, x4, by omega⟩
    · exact Or.inr ho
  rw [Tr_write, m_writing, Rd_pass]
  simp only [lt9, bd_s]
  rw [pC, pM, show nI p + 1 = nI (p + 1) from nI_1 _]
  obtain ⟨c1, w, B1, lab1, t1, -, t3, t4, t5, t6, t7, t8, t9, t10, t11, -⟩ := s_open hq hn hS1 (by omega)
  generalize sI c 5 0 1 (nI (p + 1)) = cA at *
  generalize sI m 10 0 5 (nI (p + 1)) = mA at *
  have hB1 : 1 ≤ B1 ∧ B1 ≤ 175 := ⟨t4.2.2.1, t4.1.1.2.2.2⟩
  have fl : ∀ {c' m' : Mem}, FL T len c' m' mA w → AgC q cnt B1 c1 c' → AgM cnt mA m' → OUT T len q n c0 m0 c m p cnt bc B J K h wf wc W lab op 4 0 c' m' := fun {c' m'} hf hc hm => out 0 c' m' (Or.inr ⟨rfl, s_fl hS1 hB1 t7 t9 hf hc hm hW⟩)
  rw [t1, bd_s, m_next hT t3.1.2 t3.2.1.2.1 t3.2.1.2.2 hn8, bd_s]
  dsimp only
  by_cases hB : byt T len (skip T len (p + 1)) = 91
  · rw [if_pos hB]
    have hlt : skip T len (p + 1) < len := byt_lt (a := 91) hB (by decide)
    obtain ⟨l, c2, m2, x1, x2, x3⟩ := x_encl (opv := 91) (cl := 93) hT hn8 (x_all hT hq hn8 30) (x_bad hT hn8 (by decide)) (by decide) t3 hB (by decide) hlt
    rw [x1, x2, bd_s, bd_s]
    dsimp only
    rcases x3 with ⟨p2, cnt2, e2, hp2, hc2, v2, l2, n2, ac2, am2, bw2, ag2⟩ | ⟨rfl, f2, ac2, am2⟩
    · rw [if_neg v2.ne]
      obtain ⟨r3, c3, m3, y1, y2, y3, y4, y5, y6, y7⟩ := x_pass (a := 61) hT hn8 ⟨61, by decide, rfl⟩ e2
      rw [y1, y2, bd_s, bd_s]
      dsimp only
      have ac3 := ac2.tr y3 hc2
      have am3 := am2.tr y4 hc2
      rcases y7 with ⟨rfl, ab3, p3, hp3, e3⟩ | ⟨rfl, f3⟩
      · rw [if_neg (by decide), if_pos e3.2.2.1]
        obtain ⟨v, c4, m4, z1, z2, z3⟩ := x_all hT hq hn8 30 c3 m3 w p3 cnt2 0 B1 e3 (by decide)
        rw [z1, z2, bd_s, bd_s]
        dsimp only
        have bw3 : BW mA w m3 := BW.tr bw2 (Or.inl ab3)
        rcases z3 with ⟨p4, cnt4, e4, hp4, hc4, v4, l4, n4, ac4, am4, bw4, ag4⟩ | ⟨rfl, f4, ac4, am4⟩
        · rw [if_neg v4.ne]
          obtain ⟨r5, c5, m5, u1, u2, u3, u4, u5, u6, u7⟩ := x_pass (a := 59) hT hn8 ⟨59, by decide, rfl⟩ e4
          rw [u1, u2, bd_s, bd_s]
          dsimp only
          have ac5' := ac4.tr u3 hc4
          have am5' := am4.tr u4 hc4
          have ac5 := ac3.tr ac5' hc2
          have am5 := am3.tr am5' hc2
          have bw4' : BW mA w m4 := BW.tr bw3 bw4
          rcases u7 with ⟨rfl, ab5, p5, hp5, e5⟩ | ⟨rfl, f5⟩
          · rw [if_neg (by decide), if_pos e5.2.2.1]
            have h200 : cnt4 ≤ 200 := e5.2.2.2.2.2.1.2.2
            have v5 : VR v (gI m5 10 0 8) (gI m5 10 0 9) := by rw [u5, u6]; exact v4
            have n5 : NewOk c5 q cnt2 cnt4 B1 v := n4.ag u3
            have n2' : NewOk c3 q cnt cnt2 B1 l := n2.ag y3
            have op3 := t5.expr e3 hc2 n2' ac3
            have op5 := op3.expr e5 hc4 n5 ac5'
            have lv : ValOk c5 q cnt4 B1 l := ((ValOk.of (by omega) l2 n2').ag ac5').mono hc4
            have rv : ValOk c5 q cnt4 B1 v := ValOk.of h200 l4 n5
            rcases x_add (s := 2) (code := 6) (l := l) (r := v) (st := p) hq (by unfold SG; simp) (Or.inl v2) (Or.inl v5) v5.ne lv rv (by omega) e5 with ⟨b1, c6, m6, b2, b3, b4, b5, b6, b7, b8, b9, b10, b11, b12, b13, b14⟩ | ⟨c6, m6, z, b1, b2, b3, b4, b5⟩
            · rw [b2, b3, bd_s, bd_s]
              dsimp only
              rw [if_neg (cval_ne _ b1)]
              have op6 := (op5.add b4 b7 b9 b10 b11 b13).weak (X' := fun _ => False) (fun i hi x => by
                rcases x with ⟨(x | x) | x, x2, x3⟩ | ⟨-, x⟩
                · exact x
                · exact x2 x
                · exact x3 x
                · exact x rfl)
              have acA := ac5.tr b7 (Nat.le_trans hc2 hc4)
              have amA := am5.tr b8 (Nat.le_trans hc2 hc4)
              exact ⟨_, _, _, rfl, rfl, out 1 _ _ (s_done hS1 b4.eh t4 op6 t6 t7 (FrC.agC acA hB1) (FrM.agM amA) (AgBC.agC acA) b14 ((acA.1 7 0 3 (by decide) (by omega) (by omega) (by omega) (by omega)).trans t11) amA.2.1 (by omega) (by omega) (by omega))⟩
            · rw [b1, b2, bd_s, bd_s]
              dsimp only
              rw [if_pos rfl]
              exact ⟨_, _, _, rfl, rfl, fl (b3.from (BW.tr bw4' (Or.inl ab5))) (ac5.tr b4 (Nat.le_trans hc2 hc4)) (am5.tr b5 (Nat.le_trans hc2 hc4))⟩
          · rw [if_pos rfl, if_neg f5.not0]
            exact ⟨_, _, _, rfl, rfl, fl (f5.from bw4') ac5 am5⟩
        · rw [if_pos rfl, m_wantFL f4, bd_s, if_neg f4.not0]
          exact ⟨_, _, _, rfl, rfl, fl (f4.from bw3) (ac3.tr ac4 hc2) (am3.tr am4 hc2)⟩
      · rw [if_pos rfl, if_neg f3.not0, m_wantFL f3, bd_s, if_neg f3.not0]
        exact ⟨_, _, _, rfl, rfl, fl (f3.from bw2) ac3 am3⟩
    · rw [if_pos rfl, m_wantFL f2, bd_s, if_neg f2.not0, m_wantFL f2, bd_s, if_neg f2.not0]
      exact ⟨_, _, _, rfl, rfl, fl f2 ac2 am2⟩
  · rw [if_neg hB, Tr_enclosed, r_meets hT t3.1.1 t3.2.1.1 t3.2.1.2.2 hn8, if_neg hB, bd_s]
    dsimp only
    rw [if_pos rfl, bd_s]
    dsimp only
    rw [if_pos rfl]
    have hl3 := skip_le (T := T) t3.2.1.2.2
    have e3 := t3.pos (p' := skip T len (p + 1)) hl3
    rw [M_fail, if_pos e3.2.2.1, e3.2.1.2.1]
    exact ⟨_, _, _, rfl, rfl, fl ((FL.mk (f := 1) e3 (by decide) hl3).from (BW.rf.upd nbS5)) (agCp.tr FL.agC (Nat.le_refl _)) (agMp.tr FL.agM (Nat.le_refl _))⟩
end SO
