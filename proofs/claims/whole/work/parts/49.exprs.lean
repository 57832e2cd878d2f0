/-! ===== PURE: expressions on both sides ===== -/
theorem r_meets {T : Nat → Nat} {len n p : Nat} {c : Mem} {a : Int32} (hT : TapeT T len) (h1 : TapeC c T len) (h2 : gI c 5 0 1 = nI p) (h3 : p ≤ len) (hn : 800 ≤ n) : Tr_meets n a c = some (if byt T len (skip T len p) = a then (1, sI c 5 0 1 (nI (skip T len p))) else (0, sI (sI (sI c 5 0 1 (nI (skip T len p))) 7 0 5 1) 7 0 6 (nI (skip T len p)))) := by
  rw [Tr_meets, r_look hT h1 h2 h3 hn, bd_s]
  dsimp only
  by_cases h : byt T len (skip T len p) = a
  · rw [if_pos h, if_pos h]
  · rw [if_neg h, if_neg h, Tr_refuse]
    simp only [lt9, bd_s]
    first
      | rw [if_pos (by decide), gs_I]
      | rw [gs_I]
theorem r_passes {T : Nat → Nat} {len n p : Nat} {c : Mem} {a : Int32} (hT : TapeT T len) (h1 : TapeC c T len) (h2 : gI c 5 0 1 = nI p) (h3 : p ≤ len) (hn : 800 ≤ n) : Tr_passes n a c = some (if byt T len (skip T len p) = a then (1, sI c 5 0 1 (nI (skip T len p + 1))) else (0, sI (sI (sI c 5 0 1 (nI (skip T len p))) 7 0 5 1) 7 0 6 (nI (skip T len p)))) := by
  rw [Tr_passes, r_meets hT h1 h2 h3 hn, bd_s]
  by_cases h : byt T len (skip T len p) = a
  · rw [if_pos h, if_pos h]
    dsimp only
    rw [if_neg (by decide), Rd_pass]
    simp only [lt9, bd_s]
    rw [gs_I, sI_sI, show nI (skip T len p) + 1 = nI (skip T len p + 1) from nI_1 _]
  · rw [if_neg h, if_neg h]
    dsimp only
    rw [if_pos rfl]
theorem m_want {T : Nat → Nat} {len n p : Nat} {m : Mem} {a : Int32} (hT : TapeT T len) (hf : gI m 10 0 3 = 0) (h1 : TapeM m T len) (h2 : gI m 10 0 5 = nI p) (h3 : p ≤ len) (hn : 800 ≤ n) : M_want n a m = some (if byt T len (skip T len p) = a then sI m 10 0 5 (nI (skip T len p + 1)) else sI (sI (sI m 10 0 5 (nI (skip T len p))) 10 0 3 1) 10 0 4 (nI (skip T len p))) := by
  rw [M_want, if_pos hf, m_next hT h1 h2 h3 hn, bd_s]
  dsimp only
  by_cases h : byt T len (skip T len p) = a
  · rw [if_pos h, if_pos h, lt9, gs_I, sI_sI, show nI (skip T len p) + 1 = nI (skip T len p + 1) from nI_1 _]
  · rw [if_neg h, if_neg h, M_fail, if_pos (by rw [gn_I (by decide)]; exact hf)]
    simp only [lt9, bd_s]
    rw [gs_I]
theorem m_wantBad {n : Nat} {m : Mem} {a : Int32} (hf : ¬ gI m 10 0 3 = 0) : M_want n a m = some m := by rw [M_want, if_neg hf]
theorem byt_lt {T : Nat → Nat} {len p a : Nat} (h : byt T len p = nI a) (ha : a < 2 ^ 31) : p < len := by
  by_cases z : p < len
  · exact z
  · rw [byt_out z] at h
    have := q_eqm (a := a) ha
    rw [← h] at this
    exact (this.mp rfl).elim
theorem FL.not0 {T : Nat → Nat} {len : Nat} {c m m0 w : Mem} (h : FL T len c m m0 w) : ¬ gI m 10 0 3 = 0 := by
  obtain ⟨⟨f, h1, h2, -, h4⟩, -⟩ := h
  rw [h4]
  exact nI_ne0 (by omega) (by omega)
theorem FL.notle {T : Nat → Nat} {len : Nat} {c m m0 w : Mem} (h : FL T len c m m0 w) : ¬ gI m 10 0 3 ≤ 0 := by
  obtain ⟨⟨f, h1, h2, -, h4⟩, -⟩ := h
  rw [h4]
  exact nI_nle (by omega) (by omega)
theorem FL.updM {T : Nat → Nat} {len t : Nat} {c m m0 w : Mem} {v : Int32} (h : FL T len c m m0 w) (ht : t = 6 ∨ t = 7 ∨ t = 8 ∨ t = 9) : FL T len c (sI m 10 0 t v) m0 w := by
  obtain ⟨⟨f, h1, h2, h3, h4⟩, ⟨z, z1, z2, z3⟩, h5, ⟨y, y1, y2⟩, h6⟩ := h
  have hn : nbS t := by unfold nbS; omega
  exact ⟨⟨f, h1, h2, h3, by rw [gn_I (by omega)]; exact h4⟩, ⟨z, z1, z2, by rw [gn_I (by omega)]; exact z3⟩, ⟨by rw [gn_I (by omega)]; exact h5.1, h5.2⟩, ⟨y, y1, by rw [gn_I (by omega)]; exact y2⟩, BW.upd h6 hn⟩
theorem FL.updP {T : Nat → Nat} {len p : Nat} {c m m0 w : Mem} (h : FL T len c m m0 w) (hp : p ≤ len) : FL T len c (sI m 10 0 5 (nI p)) m0 w := by
  obtain ⟨⟨f, h1, h2, h3, h4⟩, ⟨z, z1, z2, z3⟩, h5, -, h6⟩ := h
  exact ⟨⟨f, h1, h2, h3, h4⟩, ⟨z, z1, z2, z3⟩, h5, ⟨p, hp, gs_I _ _ _ _ _⟩, BW.upd h6 nbS5⟩
theorem FL.from {T : Nat → Nat} {len : Nat} {c m m0 m1 w : Mem} (h : FL T len c m m1 w) (hb : BW m0 w m1) : FL T len c m m0 w := by
  obtain ⟨h1, h2, h5, h7, h6⟩ := h
  exact ⟨h1, h2, h5, h7, BW.tr hb h6⟩
section XE
variable {T : Nat → Nat} {len q n : Nat} {c m w : Mem} {p cnt br B : Nat}
/-- a fault that both sides note in the same place -/
theorem FL.mk {f z : Nat} (h : ER T len q n c m w p cnt br B) (hf : 1 ≤ f ∧ f < 4) (hz : z ≤ len) : FL T len (sI (sI c 7 0 5 (nI f)) 7 0 6 (nI z)) (sI (sI m 10 0 3 (nI f)) 10 0 4 (nI z)) m w := by
  obtain ⟨⟨h1, h1'⟩, ⟨h2, h2', h2l⟩, h3, h4, h5, h6, h7, h8, h9, h10⟩ := h
  refine ⟨⟨f, hf.2, hf.1, ?_, ?_⟩, ⟨z, hz, gs_I _ _ _ _ _, gs_I _ _ _ _ _⟩, h1', ⟨p, h2l, h2'⟩, (BW.rf.upd nbS3).upd nbS4⟩
  · rw [gn_I (by decide), gs_I]
  · rw [gn_I (by decide), gs_I]
theorem FL.agC {f z : Nat} : AgC q cnt B c (sI (sI c 7 0 5 (nI f)) 7 0 6 (nI z)) := (AgC.upd (by decide)).tr (AgC.upd (by decide)) (Nat.le_refl _)
theorem FL.agM {f z : Nat} : AgM cnt m (sI (sI m 10 0 3 (nI f)) 10 0 4 (nI z)) := (AgM.upd (by decide)).tr (AgM.upd (by decide)) (Nat.le_refl _)
theorem agCp {v : Int32} : AgC q cnt B c (sI c 5 0 1 v) := AgC.upd (by decide)
theorem agMp {v : Int32} : AgM cnt m (sI m 10 0 5 v) := AgM.upd (by decide)
/-- what went before an ending -/
theorem EQ.chain {c1 m1 c2 m2 : Mem} {p1 cnt0 cnt1 : Nat} {v : Int32} (h : EQ T len q n c1 m1 w p1 cnt0 cnt1 br B v c2 m2) (hp : p ≤ p1) (hc : cnt ≤ cnt1) (hC : AgC q cnt B c c1) (hM : AgM cnt m m1) (hB : BW m w m1) : EQ T len q n c m w p cnt0 cnt br B v c2 m2 := by
  rcases h with ⟨p', cnt', a1, a2, a3, a4, a5, a6, a7, a8, a9, a10⟩ | ⟨a1, a2, a3, a4⟩
  · exact Or.inl ⟨p', cnt', a1, by omega, by omega, a4, a5, a6, hC.tr a7 hc, hM.tr a8 hc, hB.tr a9, a10⟩
  · exact Or.inr ⟨a1, a2.from hB, hC.tr a3 hc, hM.tr a4 hc⟩
/-- a fault at the place, noted by both sides, behind an advance -/
theorem EQ.bad {f z cnt0 : Nat} (h : ER T len q n c m w p cnt br B) (hf : 1 ≤ f ∧ f < 4) (hz : z ≤ len) : EQ T len q n c m w p cnt0 cnt br B (-209) (sI (sI c 7 0 5 (nI f)) 7 0 6 (nI z)) (sI (sI m 10 0 3 (nI f)) 10 0 4 (nI z)) := Or.inr ⟨rfl, FL.mk h hf hz, FL.agC, FL.agM⟩
theorem NewOk.ag {cnt0 cnt1 : Nat} {v : Int32} {c' : Mem} (h : NewOk c q cnt0 cnt1 B v) (ha : AgC q cnt1 B c c') : NewOk c' q cnt0 cnt1 B v := by
  intro i g1 g2
  obtain ⟨a, b, d, e⟩ := h i g1 g2
  rw [ha.op g2, ha.op g2, ha.op g2]
  refine ⟨a, b, d, e.elim Or.inl (fun ⟨j, j1, j2, j3⟩ => Or.inr ⟨j, j1, j2, ?_⟩)⟩
  unfold uses
  rw [ha.op j2, ha.op j2]
  exact j3
/-- an operation of two sides joins what they made -/
theorem NewOk.bin {cnt0 cnt1 cnt2 : Nat} {l r : Int32} {c' : Mem} (h1 : NewOk c q cnt0 cnt1 B l) (h2 : NewOk c q cnt1 cnt2 B r) (h01 : cnt0 ≤ cnt1) (h12 : cnt1 ≤ cnt2) (ha : AgC q cnt2 B c c') (e1 : ¬ gI c' 3 (200 * q + cnt2) 1 = 2) (e3 : gI c' 3 (200 * q + cnt2) 3 = l) (e4 : gI c' 3 (200 * q + cnt2) 4 = r) (e5 : gI c' 3 (200 * q + cnt2) 5 = -1) (e6 : gI c' 3 (200 * q + cnt2) 6 = nI (B - 1)) : NewOk c' q cnt0 (cnt2 + 1) B (cval cnt2) := by
  intro i g1 g2
  rcases Nat.lt_or_ge i cnt1 with k | k
  · obtain ⟨a, b, d, e⟩ := h1 i g1 k
    have hi : i < cnt2 := by omega
    rw [ha.op hi, ha.op hi, ha.op hi]
    refine ⟨a, b, d, Or.inr ?_⟩
    rcases e with e | ⟨j, j1, j2, j3⟩
    · exact ⟨cnt2, hi, by omega, Or.inl (by rw [e3, e])⟩
    · refine ⟨j, j1, by omega, ?_⟩
      unfold uses
      rw [ha.op (by omega), ha.op (by omega)]
      exact j3
  · rcases Nat.lt_or_ge i cnt2 with k2 | k2
    · obtain ⟨a, b, d, e⟩ := h2 i k k2
      rw [ha.op k2, ha.op k2, ha.op k2]
      refine ⟨a, b, d, Or.inr ?_⟩
      rcases e with e | ⟨j, j1, j2, j3⟩
      · exact ⟨cnt2, k2, by omega, Or.inr (by rw [e4, e])⟩
      · refine ⟨j, j1, by omega, ?_⟩
        unfold uses
        rw [ha.op (by omega), ha.op (by omega)]
        exact j3
    · have : i = cnt2 := by omega
      subst this
      exact ⟨e6, e5, e1, Or.inl rfl⟩
theorem NewOk.nil {cnt0 : Nat} {v : Int32} : NewOk c q cnt0 cnt0 B v := fun i g1 g2 => by omega
theorem SG.ne2 {s code : Int32} (hs : SG s code) (h2 : ¬ code = 6) : ¬ s = 2 := by
  rcases hs with ⟨rfl, rfl⟩ | ⟨rfl, rfl⟩ | ⟨rfl, rfl⟩ | ⟨rfl, rfl⟩ | ⟨rfl, rfl⟩ | ⟨rfl, rfl⟩ | ⟨rfl, rfl⟩ | ⟨rfl, rfl⟩ <;> first | exact absurd rfl h2 | decide
/-- a sign between two sides: the left one is done, the right one ends somehow -/
theorem x_bin {s code l r s1 v1 : Int32} {st cnt0 : Nat} {c2 m2 : Mem} (hq : q < 2) (hs : SG s code) (h2 : ¬ code = 6) (hst : st ≤ len) (hl : VR l s1 v1) (hc0 : cnt0 ≤ cnt) (hLl : LastV cnt0 cnt l) (hNl : NewOk c q cnt0 cnt B l) (hc200 : cnt ≤ 200) (hr : EQ T len q n c m w p cnt cnt br B r c2 m2) :
    ∃ v c3 m3, Tr_add n s l r (nI st) c2 = some (v, c3) ∧ M_join n code (nI st) s1 v1 m2 = some m3 ∧ EQ T len q n c m w p cnt0 cnt br B v c3 m3 := by
  rcases hr with ⟨p', cnt', a1, a2, a3, a4, a5, a6, a7, a8, a9, a10⟩ | ⟨rfl, a2, a3, a4⟩
  · have hf : gI m2 10 0 3 = 0 := a1.2.2.1
    have h200 : cnt' ≤ 200 := a1.2.2.2.2.2.1.2.2
    have hNl' := hNl.ag a7
    rcases x_add (st := st) hq hs (Or.inl hl) (Or.inl a4) a4.ne ((ValOk.of hc200 hLl hNl).ag a7 |>.mono a3) (ValOk.of h200 a5 a6) hst a1 with ⟨b1, c3, m3, b2, b3, b4, b5, b6, b7, b8, b9, b10, b11, b12, b13, b14⟩ | ⟨c3, m3, z, b1, b2, b3, b4, b5⟩
    · refine ⟨cval cnt', c3, m3, b2, ?_, Or.inl ⟨p', cnt' + 1, b4, a2, by omega, ?_, Or.inr ⟨by omega, rfl⟩, NewOk.bin hNl' a6 hc0 a3 b7 (by rw [b9]; exact hs.ne2 h2) b10 b11 b12 b13, a7.tr b7 a3, a8.tr b8 a3, a9.tr (Or.inr b14), fun _ => b14⟩⟩
      · rw [M_join, if_pos hf, b3, bd_s]
      · rw [b5, b6]
        exact Or.inr (Or.inr ⟨cnt', b1, rfl, rfl, rfl⟩)
    · refine ⟨-209, c3, m3, b1, ?_, Or.inr ⟨rfl, b3.from a9, a7.tr b4 a3, a8.tr b5 a3⟩⟩
      rw [M_join, if_pos hf, b2, bd_s]
  · refine ⟨-209, c2, m2, ?_, ?_, Or.inr ⟨rfl, a2, a3, a4⟩⟩
    · rw [Tr_add, if_pos rfl]
    · rw [M_join, if_neg a2.not0]
end XE
