/-! ===== PURE: expressions, the steps ===== -/
/-- a value that is an operation's is of an operation of the block that is open, and may be used -/
def ValOk (c : Mem) (q cnt B : Nat) (v : Int32) : Prop := ∀ i, i < 200 → v = cval i → i < cnt ∧ gI c 3 (200 * q + i) 6 = nI (B - 1) ∧ gI c 3 (200 * q + i) 5 = -1 ∧ ¬ gI c 3 (200 * q + i) 1 = 2
theorem AgC.op {q cnt B : Nat} {c c' : Mem} (h : AgC q cnt B c c') {i j : Nat} (hi : i < cnt) : gI c' 3 (200 * q + i) j = gI c 3 (200 * q + i) j := h.1 3 _ j (by decide) (by omega) (by omega) (by omega) (by omega)
theorem ValOk.ag {c c' : Mem} {q cnt B : Nat} {v : Int32} (h : ValOk c q cnt B v) (ha : AgC q cnt B c c') : ValOk c' q cnt B v := by
  intro i hi hv
  obtain ⟨a, b, d, e⟩ := h i hi hv
  rw [ha.op a, ha.op a, ha.op a]
  exact ⟨a, b, d, e⟩
theorem ValOk.mono {c : Mem} {q cnt cnt' B : Nat} {v : Int32} (h : ValOk c q cnt B v) (hc : cnt ≤ cnt') : ValOk c q cnt' B v := by
  intro i hi hv
  obtain ⟨a, b⟩ := h i hi hv
  exact ⟨by omega, b⟩
theorem ValOk.of {c : Mem} {q cnt cnt' B : Nat} {v : Int32} (hc : cnt' ≤ 200) (h1 : LastV cnt cnt' v) (h2 : NewOk c q cnt cnt' B v) : ValOk c q cnt' B v := by
  intro i hi hv
  rcases h1 with ⟨-, h⟩ | ⟨h, e⟩
  · exact absurd hv (h i hi)
  · have : i = cnt' - 1 := cval_inj hi (by omega) (hv.symm.trans e)
    obtain ⟨a, b, d, -⟩ := h2 i (by omega) (by omega)
    exact ⟨by omega, a, b, d⟩
theorem ValOk.no {c : Mem} {q cnt B : Nat} {v : Int32} (h : ∀ i, i < 200 → ¬ v = cval i) : ValOk c q cnt B v := fun i hi hv => absurd hv (h i hi)
theorem RefOk.ag {c c' : Mem} {q cnt B j : Nat} (h : RefOk c q j) (ha : AgC q cnt B c c') (hj : j < cnt) : RefOk c' q j := by
  intro i hi hu
  unfold uses at hu
  rw [ha.op hj, ha.op hj] at hu
  obtain ⟨a, b, d, e⟩ := h i hi hu
  have hi2 : i < cnt := by omega
  rw [ha.op hi2, ha.op hi2, ha.op hi2, ha.op hj]
  exact ⟨a, b, d, e⟩
theorem OpR.ag {c c' m m' : Mem} {q cnt B i : Nat} (h : OpR c m q i) (ha : AgC q cnt B c c') (hm : AgM cnt m m') (hi : i < cnt) : OpR c' m' q i := by
  unfold OpR
  rw [ha.op hi, ha.op hi, ha.op hi, ha.op hi, ha.op hi, ha.op hi, hm.1 111 0 i (by omega) (by omega) (by omega) (by omega) (by omega), hm.1 112 0 (2 * i) (by omega) (by omega) (by omega) (by omega) (by omega), hm.1 113 0 (2 * i) (by omega) (by omega) (by omega) (by omega) (by omega), hm.1 112 0 (2 * i + 1) (by omega) (by omega) (by omega) (by omega) (by omega), hm.1 113 0 (2 * i + 1) (by omega) (by omega) (by omega) (by omega) (by omega), hm.1 114 0 i (by omega) (by omega) (by omega) (by omega) (by omega), hm.1 115 0 i (by omega) (by omega) (by omega) (by omega) (by omega)]
  exact h
theorem OpsR.ag {c c' m m' : Mem} {q cnt B : Nat} (h : OpsR c m q cnt) (ha : AgC q cnt B c c') (hm : AgM cnt m m') : OpsR c' m' q cnt :=
  fun i hi => ⟨(h i hi).1.ag ha hm hi, (h i hi).2.ag ha hi⟩
theorem TapeC.ag {T : Nat → Nat} {len q cnt B : Nat} {c c' : Mem} (h : TapeC c T len) (ha : AgC q cnt B c c') : TapeC c' T len :=
  ⟨(ha.1 6 0 1 (by decide) (by omega) (by omega) (by omega) (by omega)).trans h.1, fun j hj => (ha.1 20 0 j (by decide) (by omega) (by omega) (by omega) (by omega)).trans (h.2 j hj)⟩
theorem TapeM.ag {T : Nat → Nat} {len cnt : Nat} {m m' : Mem} (h : TapeM m T len) (ha : AgM cnt m m') : TapeM m' T len :=
  ⟨(ha.1 10 0 2 (by omega) (by omega) (by omega) (by omega) (by omega)).trans h.1, fun j hj => (ha.1 101 0 j (by omega) (by omega) (by omega) (by omega) (by omega)).trans (h.2 j hj)⟩
theorem pushC_ag {q cnt B : Nat} {c : Mem} {s l r : Int32} (hcnt : cnt < 200) : AgC q cnt B c (pushC c q cnt B s l r) := by
  refine ⟨fun k i j g1 g2 g3 g4 g5 => ?_, rfl⟩
  have h3 : ∀ t, t ≠ 0 → ¬ (k = 3 ∧ i = 200 * q + cnt ∧ j = t) := fun t ht z => g4 ⟨z.1, by omega, by omega, fun w => ht (z.2.2.symm.trans w)⟩
  unfold pushC putOp
  rw [gn_I g3, gn_I g5, gn_I (h3 _ (by decide)), gn_I (h3 _ (by decide)), gn_I (h3 _ (by decide)), gn_I (h3 _ (by decide)), gn_I (h3 _ (by decide)), gn_I (h3 _ (by decide))]
theorem pushM_ag {cnt : Nat} {m m1 : Mem} {code s1 v1 : Int32} (ho : OthB m m1) : AgM cnt m (pushM m1 cnt code s1 v1) := by
  refine ⟨fun k i j g1 g2 g3 g4 g5 => ?_, ?_, ho.2⟩
  · unfold pushM
    rw [gn_I (by omega), gn_I (by omega), gn_I (by omega), gn_I (by omega), gn_I (by omega), gn_I (by omega), gn_I (by omega), gn_I (by omega), gn_I (by omega), gn_I (by omega)]
    exact ho.1 k i j (by omega) g2
  · show gI m1 10 0 7 = _
    exact ho.1 10 0 7 (by decide) (by decide)
theorem ho_s {m m1 : Mem} (ho : OthB m m1) {j : Nat} (hj : j ≠ 16 ∧ j ≠ 22 ∧ j ≠ 24) : gI m1 10 0 j = gI m 10 0 j := ho.1 10 0 j (by decide) (by omega)
section XADD
variable {T : Nat → Nat} {len q n : Nat} {c m w : Mem} {p cnt br B : Nat}
theorem x_add {s code l r s1 v1 : Int32} {st : Nat} (hq : q < 2) (hs : SG s code) (hl : VR0 l s1 v1) (hr : VR0 r (gI m 10 0 8) (gI m 10 0 9)) (hr9 : ¬ r = -209) (hlv : ValOk c q cnt B l) (hrv : ValOk c q cnt B r) (hst : st ≤ len) (h : ER T len q n c m w p cnt br B) :
    (cnt < 200 ∧ ∃ c' m', Tr_add n s l r (nI st) c = some (cval cnt, c') ∧ M_emit n code (nI st) s1 v1 m = some (nI cnt, m') ∧ ER T len q n c' m' w p (cnt + 1) br B ∧ gI m' 10 0 8 = 3 ∧ gI m' 10 0 9 = nI cnt ∧ AgC q cnt B c c' ∧ AgM cnt m m' ∧ gI c' 3 (200 * q + cnt) 1 = s ∧ gI c' 3 (200 * q + cnt) 3 = l ∧ gI c' 3 (200 * q + cnt) 4 = r ∧ gI c' 3 (200 * q + cnt) 5 = -1 ∧ gI c' 3 (200 * q + cnt) 6 = nI (B - 1) ∧ AgB w m') ∨
    (∃ c' m' z, Tr_add n s l r (nI st) c = some (-209, c') ∧ M_emit n code (nI st) s1 v1 m = some (z, m') ∧ FL T len c' m' m w ∧ AgC q cnt B c c' ∧ AgM cnt m m') := by
  obtain ⟨⟨h1, h1'⟩, ⟨h2, h2', h2l⟩, h3, ⟨h4, h4', h4l⟩, h5, ⟨h6, h6', h6l⟩, ⟨h7, h7a, h7b, h7c⟩, h8, h9, h10⟩ := h
  obtain ⟨m1, n1, n2, n3, n4⟩ := id h8
  have hfull : Pg_isFull n q c = some (if cnt = 200 then 1 else 0) := by
    have e0 : (nI cnt = (200 : Int32)) = (cnt = 200) := q_eq (b := 200) (by omega) (by decide)
    rw [Pg_isFull, h6]
    simp only [e0]
    by_cases z : cnt = 200
    · rw [if_pos z, if_pos z]
    · rw [if_neg z, if_neg z]
  have start : Tr_add n s l r (nI st) c = if cnt = 200 then some (-209, sI (sI c 7 0 5 3) 7 0 6 (nI st)) else (Pg_addOperation n q s l r c).bind fun z4 => (if z4.1 < 400 then (Od_ofValue n (gI z4.2 3 z4.1 0)).bind fun z6 => some (z6, z4.2) else none) := by
    rw [Tr_add, if_neg hr9, h5, bd_s, if_pos hq, hfull, bd_s]
    by_cases z : cnt = 200
    · rw [if_pos z, if_pos z, if_neg (by decide), Tr_refuse]
      rfl
    · rw [if_neg z, if_neg z, if_pos rfl, bd_s, if_pos hq]
  by_cases hz : cnt = 200
  · right
    rw [start, if_pos hz, m_emitFull h3 (by rw [h6', hz])]
    refine ⟨_, _, _, rfl, rfl, ⟨⟨3, by decide, by decide, ?_, ?_⟩, ⟨st, hst, gs_I _ _ _ _ _, gs_I _ _ _ _ _⟩, h1', ⟨p, h2l, h2'⟩, Or.inl ⟨⟨rfl, rfl, rfl, rfl⟩, fun _ _ _ _ => ?_⟩⟩, ?_, ?_⟩
    · rw [gn_I (by decide), gs_I]; rfl
    · rw [gn_I (by decide), gs_I]; rfl
    · rw [gn_I (by omega), gn_I (by omega)]
    · exact (AgC.upd (by decide)).tr (AgC.upd (by decide)) (Nat.le_refl _)
    · exact (AgM.upd (by decide)).tr (AgM.upd (by decide)) (Nat.le_refl _)
  · left
    have hcnt : cnt < 200 := by omega
    refine ⟨hcnt, pushC c q cnt B s l r, pushM m1 cnt code s1 v1, ?_, m_emit h3 h6' hcnt n1 (by rw [ho_s n3 (by decide)]; exact h6'), ?_, ?_, gs_I _ _ _ _ _, pushC_ag hcnt, pushM_ag n3, ?_, ?_, ?_, ?_, ?_, ?_⟩
    · rw [start, if_neg hz, c_addOp h6 hcnt h7 h7a h7b, bd_s]
      dsimp only
      rw [if_pos (by omega)]
      have e : gI (pushC c q cnt B s l r) 3 (200 * q + cnt) 0 = nI cnt := by
        have a : gI (pushC c q cnt B s l r) 3 (200 * q + cnt) 0 = gI c 3 (200 * q + cnt) 0 := by
          unfold pushC putOp
          rw [gn_I (by omega), gn_I (by omega), gn_I (by omega), gn_I (by omega), gn_I (by omega), gn_I (by omega), gn_I (by omega), gn_I (by omega)]
        rw [a, h10.1 _ (by omega)]
        congr 1
        omega
      rw [e]
      rfl
    · have f1 : gI (pushC c q cnt B s l r) 3 (200 * q + cnt) 1 = s := by
        unfold pushC putOp
        rw [gn_I (by omega), gn_I (by omega), gn_I (by omega), gn_I (by omega), gn_I (by omega), gn_I (by omega), gn_I (by omega), gs_I]
      have f2 : gI (pushC c q cnt B s l r) 3 (200 * q + cnt) 2 = kd s := by
        unfold pushC putOp
        rw [gn_I (by omega), gn_I (by omega), gn_I (by omega), gn_I (by omega), gs_I]
      have f3 : gI (pushC c q cnt B s l r) 3 (200 * q + cnt) 3 = l := by
        unfold pushC putOp
        rw [gn_I (by omega), gn_I (by omega), gn_I (by omega), gn_I (by omega), gn_I (by omega), gn_I (by omega), gs_I]
      have f4 : gI (pushC c q cnt B s l r) 3 (200 * q + cnt) 4 = r := by
        unfold pushC putOp
        rw [gn_I (by omega), gn_I (by omega), gn_I (by omega), gn_I (by omega), gn_I (by omega), gs_I]
      have f5 : gI (pushC c q cnt B s l r) 3 (200 * q + cnt) 5 = -1 := by
        unfold pushC putOp
        rw [gn_I (by omega), gn_I (by omega), gn_I (by omega), gs_I]
      have f6 : gI (pushC c q cnt B s l r) 3 (200 * q + cnt) 6 = nI (B - 1) := by
        unfold pushC putOp
        rw [gn_I (by omega), gn_I (by omega), gs_I]
      have e1 : gI (pushM m1 cnt code s1 v1) 111 0 cnt = code := by
        unfold pushM
        rw [gn_I (by omega), gn_I (by omega), gn_I (by omega), gn_I (by omega), gn_I (by omega), gn_I (by omega), gn_I (by omega), gn_I (by omega), gs_I]
      have e2 : gI (pushM m1 cnt code s1 v1) 112 0 (2 * cnt) = s1 := by
        unfold pushM
        rw [gn_I (by omega), gn_I (by omega), gn_I (by omega), gn_I (by omega), gn_I (by omega), gn_I (by omega), gn_I (by omega), gs_I]
      have e3 : gI (pushM m1 cnt code s1 v1) 113 0 (2 * cnt) = v1 := by
        unfold pushM
        rw [gn_I (by omega), gn_I (by omega), gn_I (by omega), gn_I (by omega), gn_I (by omega), gn_I (by omega), gs_I]
      have e4 : gI (pushM m1 cnt code s1 v1) 112 0 (2 * cnt + 1) = gI m 10 0 8 := by
        unfold pushM
        rw [gn_I (by omega), gn_I (by omega), gn_I (by omega), gn_I (by omega), gn_I (by omega), gs_I]
        exact ho_s n3 (by decide)
      have e5 : gI (pushM m1 cnt code s1 v1) 113 0 (2 * cnt + 1) = gI m 10 0 9 := by
        unfold pushM
        rw [gn_I (by omega), gn_I (by omega), gn_I (by omega), gn_I (by omega), gs_I]
        exact ho_s n3 (by decide)
      have e6 : gI (pushM m1 cnt code s1 v1) 114 0 cnt = -1 := by
        unfold pushM
        rw [gn_I (by omega), gn_I (by omega), gn_I (by omega), gs_I]
      have e7 : gI (pushM m1 cnt code s1 v1) 115 0 cnt = nI (B - 1) := by
        unfold pushM
        rw [gn_I (by omega), gn_I (by omega), gs_I, ← n2.1.2.1]
        exact h7c
      refine ⟨⟨h1.ag (pushC_ag hcnt), h1'.ag (pushM_ag (cnt := cnt) n3)⟩, ⟨h2, (ho_s n3 (by decide)).trans h2', h2l⟩, (ho_s n3 (by decide)).trans h3, ⟨h4, (ho_s n3 (by decide)).trans h4', h4l.1, h4l.2.1, h4l.2.2.1, (ho_s n3 (by decide)).trans h4l.2.2.2⟩, h5, ⟨gs_I _ _ _ _ _, rfl, by omega⟩, ⟨?_, h7a, h7b, h7c⟩, NBx.self (w := w) ?_ ?_, ?_, ?_, ?_⟩
      · unfold pushC
        rw [gn_I (by omega)]
        exact h7
      · exact n4
      · exact ⟨n2.1, fun k j g1 g2 => by
          unfold pushM
          rw [gn_I (by omega), gn_I (by omega), gn_I (by omega), gn_I (by omega), gn_I (by omega), gn_I (by omega), gn_I (by omega), gn_I (by omega), gn_I (by omega), gn_I (by omega)]
          exact n2.2 k j g1 g2⟩
      · intro i hi
        rcases Nat.lt_or_eq_of_le (Nat.le_of_lt_succ hi) with g | g
        · exact (h9.ag (pushC_ag hcnt) (pushM_ag n3)) i g
        · subst g
          refine ⟨?_, ?_⟩
          · unfold OpR
            rw [f1, f2, f3, f4, f5, f6, e1, e2, e3, e4, e5, e6, e7]
            exact ⟨hs, rfl, hl, hr, rfl, Or.inl rfl, rfl⟩
          · intro z hz hu
            unfold uses at hu
            rw [f3, f4] at hu
            have k : z < i ∧ gI c 3 (200 * q + z) 6 = nI (B - 1) ∧ gI c 3 (200 * q + z) 5 = -1 ∧ ¬ gI c 3 (200 * q + z) 1 = 2 := hu.elim (fun e => hlv z hz e) (fun e => hrv z hz e)
            obtain ⟨a, b, d, e⟩ := k
            rw [(pushC_ag hcnt).op a, (pushC_ag hcnt).op a, (pushC_ag hcnt).op a, f6]
            exact ⟨a, b, d, e⟩
      · intro o ho
        have a : gI (pushC c q cnt B s l r) 3 o 0 = gI c 3 o 0 := by
          unfold pushC putOp
          rw [gn_I (by omega), gn_I (by omega), gn_I (by omega), gn_I (by omega), gn_I (by omega), gn_I (by omega), gn_I (by omega), gn_I (by omega)]
        rw [a]
        exact h10.1 o ho
      · obtain ⟨f, k1, k2, k3⟩ := h10.2
        refine ⟨f, by omega, ?_, ?_⟩
        · unfold pushC putOp
          rw [gn_I (by omega), gn_I (by omega), gn_I (by omega), gn_I (by omega), gn_I (by omega), gn_I (by omega), gn_I (by omega), gn_I (by omega)]
          exact k2
        · unfold pushC putOp
          rw [gn_I (by omega), gs_I, k3, show nI (cnt - f) + 1 = nI (cnt - f + 1) from nI_1 _, show cnt - f + 1 = cnt + 1 - f by omega]
    · unfold pushM
      rw [gn_I (by omega), gs_I]
    · unfold pushC putOp
      rw [gn_I (by omega), gn_I (by omega), gn_I (by omega), gn_I (by omega), gn_I (by omega), gn_I (by omega), gn_I (by omega), gs_I]
    · unfold pushC putOp
      rw [gn_I (by omega), gn_I (by omega), gn_I (by omega), gn_I (by omega), gn_I (by omega), gn_I (by omega), gs_I]
    · unfold pushC putOp
      rw [gn_I (by omega), gn_I (by omega), gn_I (by omega), gn_I (by omega), gn_I (by omega), gs_I]
    · unfold pushC putOp
      rw [gn_I (by omega), gn_I (by omega), gn_I (by omega), gs_I]
    · unfold pushC putOp
      rw [gn_I (by omega), gn_I (by omega), gs_I]
    · exact ⟨n2.1, fun k j g1 g2 => by
        unfold pushM
        rw [gn_I (by omega), gn_I (by omega), gn_I (by omega), gn_I (by omega), gn_I (by omega), gn_I (by omega), gn_I (by omega), gn_I (by omega), gn_I (by omega), gn_I (by omega)]
        exact n2.2 k j g1 g2⟩
end XADD
