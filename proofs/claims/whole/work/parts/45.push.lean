/-! ===== PURE: one more operation, on both sides ===== -/
/-- the kind of a sign -/
def kd (s : Int32) : Int32 := if s = 1 then 2 else if s = 2 then 2 else if s = 3 then 3 else if s = 42 then 1 else 0
theorem kd_of {n : Nat} {s : Int32} : Op_kindOf n s = some (kd s) := by
  rw [Op_kindOf]
  unfold kd
  by_cases h1 : s = 1
  · rw [if_pos h1, if_pos h1]
  · rw [if_neg h1, if_neg h1]
    by_cases h2 : s = 2
    · rw [if_pos h2, if_pos h2]
    · rw [if_neg h2, if_neg h2]
      by_cases h3 : s = 3
      · rw [if_pos h3, if_pos h3]
      · rw [if_neg h3, if_neg h3]
        by_cases h4 : s = 42
        · rw [if_pos h4, if_pos h4]
        · rw [if_neg h4, if_neg h4]
/-- the operation o of the class gets its contents -/
def putOp (c : Mem) (o : Nat) (s l r b : Int32) : Mem :=
  sI (sI (sI (sI (sI (sI c 3 o 1 s) 3 o 3 l) 3 o 4 r) 3 o 2 (kd s)) 3 o 5 (-1)) 3 o 6 b
/-- one more operation of program q, in its last block -/
def pushC (c : Mem) (q cnt B : Nat) (s l r : Int32) : Mem :=
  sI (sI (putOp c (200 * q + cnt) s l r (nI (B - 1))) 0 (175 * q + (B - 1)) 1 (gI c 0 (175 * q + (B - 1)) 1 + 1)) 4 q 2 (nI (cnt + 1))
theorem c_addOp {n q cnt B : Nat} {c : Mem} {s l r : Int32} (hc : gI c 4 q 2 = nI cnt) (hcnt : cnt < 200) (hB : gI c 4 q 3 = nI B) (hB1 : 1 ≤ B) (hB2 : B ≤ 175) : Pg_addOperation n q s l r c = some (200 * q + cnt, pushC c q cnt B s l r) := by
  rw [Pg_addOperation, hc, ix_nI (N := 200) hcnt (by decide), bd_s, Op_become]
  simp only [lt9, kd_of, bd_s]
  have e1 : gI (sI (sI (sI (sI (sI c 3 (200 * q + cnt) 1 s) 3 (200 * q + cnt) 3 l) 3 (200 * q + cnt) 4 r) 3 (200 * q + cnt) 2 (kd s)) 3 (200 * q + cnt) 5 (-1)) 4 q 3 - 1 = nI (B - 1) := by
    show gI c 4 q 3 - 1 = _
    rw [hB]
    exact pk_sub (a := B) (b := 1) hB1
  rw [e1]
  have e2 : gI (sI (sI (sI (sI (sI (sI c 3 (200 * q + cnt) 1 s) 3 (200 * q + cnt) 3 l) 3 (200 * q + cnt) 4 r) 3 (200 * q + cnt) 2 (kd s)) 3 (200 * q + cnt) 5 (-1)) 3 (200 * q + cnt) 6 (nI (B - 1))) 4 q 3 - 1 = nI (B - 1) := e1
  rw [e2, ix_nI (N := 175) (by omega) (by decide), bd_s]
  have e3 : gI (sI (sI (sI (sI (sI (sI (sI c 3 (200 * q + cnt) 1 s) 3 (200 * q + cnt) 3 l) 3 (200 * q + cnt) 4 r) 3 (200 * q + cnt) 2 (kd s)) 3 (200 * q + cnt) 5 (-1)) 3 (200 * q + cnt) 6 (nI (B - 1))) 0 (175 * q + (B - 1)) 1 (gI (sI (sI (sI (sI (sI (sI c 3 (200 * q + cnt) 1 s) 3 (200 * q + cnt) 3 l) 3 (200 * q + cnt) 4 r) 3 (200 * q + cnt) 2 (kd s)) 3 (200 * q + cnt) 5 (-1)) 3 (200 * q + cnt) 6 (nI (B - 1))) 0 (175 * q + (B - 1)) 1 + 1)) 4 q 2 + 1 = nI (cnt + 1) := by
    show gI c 4 q 2 + 1 = _
    rw [hc, nI_1]
  rw [e3]
  rfl
/-- one more operation of the reference -/
def pushM (m : Mem) (cnt : Nat) (code s1 v1 : Int32) : Mem :=
  sI (sI (sI (sI (sI (sI (sI (sI (sI (sI m 10 0 10 (nI (cnt + 1))) 111 0 cnt code) 112 0 (2 * cnt) s1) 113 0 (2 * cnt) v1) 112 0 (2 * cnt + 1) (gI m 10 0 8)) 113 0 (2 * cnt + 1) (gI m 10 0 9)) 114 0 cnt (-1)) 115 0 cnt (gI m 10 0 22)) 10 0 8 3) 10 0 9 (nI cnt)
theorem m_emit {n cnt : Nat} {m m1 : Mem} {code wh s1 v1 : Int32} (hf : gI m 10 0 3 = 0) (hc : gI m 10 0 10 = nI cnt) (hcnt : cnt < 200) (hnb : M_needBlock n m = some m1) (hc1 : gI m1 10 0 10 = nI cnt) : M_emit n code wh s1 v1 m = some (nI cnt, pushM m1 cnt code s1 v1) := by
  have e0 : (nI cnt = (200 : Int32)) = (cnt = 200) := q_eq (b := 200) (by omega) (by decide)
  rw [M_emit]
  simp only [lt9]
  rw [if_pos hf, hc]
  simp only [e0]
  rw [if_neg (by omega), if_pos (by rw [hf]; decide), hnb, bd_s]
  rw [hc1]
  have e2 : (2 : Int32) * nI cnt = nI (2 * cnt) := pk_mul 2 cnt
  have e3 : nI (2 * cnt) + (1 : Int32) = nI (2 * cnt + 1) := nI_1 _
  rw [e2, e3, ix_nI (N := 200) hcnt (by decide), ix_nI (n := 2 * cnt) (N := 400) (by omega) (by decide), ix_nI (n := 2 * cnt + 1) (N := 400) (by omega) (by decide)]
  simp only [bd_s]
  show some (nI cnt, _) = _
  rw [show nI cnt + 1 = nI (cnt + 1) from nI_1 _]
  rfl
theorem m_emitFull {n : Nat} {m : Mem} {code wh s1 v1 : Int32} (hf : gI m 10 0 3 = 0) (hc : gI m 10 0 10 = nI 200) : M_emit n code wh s1 v1 m = some (0, sI (sI m 10 0 3 3) 10 0 4 wh) := by
  rw [M_emit]
  simp only [lt9]
  rw [if_pos hf, if_pos (by rw [hc]; rfl), M_fail, if_pos hf]
  simp only [lt9, bd_s]
  rw [if_neg]
  show ¬ gI (sI (sI m 10 0 3 3) 10 0 4 wh) 10 0 3 ≤ 0
  rw [gn_I (by decide), gs_I]
  decide
theorem m_emitBad {n : Nat} {m : Mem} {code wh s1 v1 : Int32} (hf : ¬ gI m 10 0 3 ≤ 0) : M_emit n code wh s1 v1 m = some (0, m) := by
  have h0 : ¬ gI m 10 0 3 = 0 := fun h => hf (by rw [h]; decide)
  rw [M_emit]
  simp only [lt9]
  rw [if_neg h0, if_neg hf]
