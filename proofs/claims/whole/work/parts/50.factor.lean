/-! ===== PURE: brackets, numbers, factors ===== -/
def M_encl (rM : Mem → Option Mem) (n : Nat) (cl : Int32) (g : Mem) : Option Mem := (M_open n g).bind fun g1 => (rM g1).bind fun g2 => (M_want n cl g2).bind fun g3 => some (sI g3 10 0 6 (gI g3 10 0 6 - 1))
theorem m_open {n br P : Nat} {g : Mem} (hb : gI g 10 0 6 = nI br) (hbr : br < 20) (hp : gI g 10 0 5 = nI P) : M_open n g = some (sI (sI g 10 0 6 (nI (br + 1))) 10 0 5 (nI (P + 1))) := by
  have e0 : (nI br = (20 : Int32)) = (br = 20) := q_eq (b := 20) (by omega) (by decide)
  rw [M_open]
  simp only [lt9]
  rw [hb]
  simp only [e0]
  rw [if_neg (by omega), gn_I (by decide), hp, show nI br + 1 = nI (br + 1) from nI_1 _, show nI P + 1 = nI (P + 1) from nI_1 _]
theorem m_openBad {n P : Nat} {g : Mem} (hb : gI g 10 0 6 = nI 20) (hf : gI g 10 0 3 = 0) (hp : gI g 10 0 5 = nI P) : M_open n g = some (sI (sI (sI (sI g 10 0 3 3) 10 0 4 (nI P)) 10 0 6 (nI 21)) 10 0 5 (nI (P + 1))) := by
  rw [M_open]
  simp only [lt9]
  rw [if_pos (by rw [hb]; rfl), M_fail, if_pos hf]
  simp only [lt9, bd_s]
  rw [gn_I (a := 10) (b := 0) (c := 6) (by decide), gn_I (a := 10) (b := 0) (c := 6) (by decide), hb, gn_I (a := 10) (b := 0) (c := 5) (by decide), gn_I (a := 10) (b := 0) (c := 5) (by decide), gn_I (a := 10) (b := 0) (c := 5) (by decide), hp]
  rw [show nI P + 1 = nI (P + 1) from nI_1 _]
  rfl
section XF
variable {T : Nat → Nat} {len q n b0 : Nat} {c m w : Mem} {p cnt br B : Nat} {rC : Mem → Option (Int32 × Mem)} {rM : Mem → Option Mem}
theorem x_encl {opv cl : Int32} (hT : TapeT T len) (hn : 800 ≤ n) (hX : EXP T len q n b0 rC rM) (hF : FEX T len rM) (hb : b0 ≤ br + 1) (h : ER T len q n c m w p cnt br B) (ho : byt T len (skip T len p) = opv) (hcl0 : ¬ cl = -1) (hlt : skip T len p < len) :
    ∃ v c' m', Tr_enclosed rC n opv cl c = some (v, c') ∧ M_encl rM n cl (sI m 10 0 5 (nI (skip T len p))) = some m' ∧ EQ T len q n c m w p cnt cnt br B v c' m' := by
  have hp := skip_ge T len p
  have h1 := h.pos (p' := skip T len p) (by omega)
  generalize hP : skip T len p = P at *
  have mt : Tr_meets n opv c = some (1, sI c 5 0 1 (nI P)) := by
    rw [r_meets hT h.1.1 h.2.1.1 h.2.1.2.2 hn, hP, if_pos ho]
  have agC1 : AgC q cnt B c (sI c 5 0 1 (nI P)) := agCp
  have agM1 : AgM cnt m (sI m 10 0 5 (nI P)) := agMp
  have hbc : gI (sI c 5 0 1 (nI P)) 7 0 4 = nI br := h1.2.2.2.1.1
  have hbm : gI (sI m 10 0 5 (nI P)) 10 0 6 = nI br := h1.2.2.2.1.2.1
  have hb20 := h.2.2.2.1.2.2
  have e0 : (nI br = (20 : Int32)) = (br = 20) := q_eq (b := 20) (by omega) (by decide)
  generalize hc1 : sI c 5 0 1 (nI P) = c1 at *
  generalize hm1 : sI m 10 0 5 (nI P) = m1 at *
  have pc1 : gI c1 5 0 1 = nI P := h1.2.1.1
  have pm1 : gI m1 10 0 5 = nI P := h1.2.1.2.1
  have bw1 : BW m w m1 := by rw [← hm1]; exact BW.rf.upd nbS5
  rw [Tr_enclosed, mt, bd_s]
  dsimp only
  rw [if_neg (by decide), hbc]
  simp only [e0]
  by_cases hz : br = 20
  · rw [if_pos hz, Tr_refuseHere, Tr_refuse]
    simp only [lt9, bd_s]
    rw [if_pos (by decide), bd_s, pc1]
    have z := (EQ.bad (cnt0 := cnt) h1 (f := 3) (z := P) (by decide) (by omega)).chain hp (Nat.le_refl _) agC1 agM1 bw1
    refine ⟨_, _, sI (sI (sI (sI (sI (sI m1 10 0 3 3) 10 0 4 (nI P)) 10 0 6 (nI 21)) 10 0 5 (nI (P + 1))) 10 0 5 (nI (skip T len (P + 1)))) 10 0 6 (nI 21 - 1), rfl, ?_, ?_⟩
    · have op := m_openBad (n := n) (g := m1) (P := P) (by rw [hbm, hz]) h1.2.2.1 pm1
      rw [M_encl, op, bd_s]
      have ft : ∀ (x y z : Int32), gI (sI (sI (sI (sI m1 10 0 3 3) 10 0 4 x) 10 0 6 y) 10 0 5 z) 10 0 3 = 3 := fun x y z => by rw [gn_I (by decide), gn_I (by decide), gn_I (by decide), gs_I]
      rw [hF (sI (sI (sI (sI m1 10 0 3 3) 10 0 4 (nI P)) 10 0 6 (nI 21)) 10 0 5 (nI (P + 1))) (P + 1) (by rw [ft]; decide) h1.1.2 (gs_I _ _ _ _ _) (by omega), bd_s, m_wantBad (by rw [gn_I (by decide), ft]; decide), bd_s]
      have e6 : ∀ x, gI (sI (sI (sI (sI (sI m1 10 0 3 3) 10 0 4 (nI P)) 10 0 6 (nI 21)) 10 0 5 (nI (P + 1))) 10 0 5 x) 10 0 6 = nI 21 := fun x => by rw [gn_I (by decide), gn_I (by decide), gs_I]
      rw [e6]
    · rcases z with ⟨p', cnt', a1, -⟩ | ⟨a1, a2, a3, a4⟩
      · exfalso
        have := a1.2.2.1
        rw [gn_I (by decide), gs_I] at this
        exact absurd this (by decide)
      · refine Or.inr ⟨rfl, (((a2.updM (t := 6) (by decide)).updP (by omega)).updP (skip_le (by omega))).updM (t := 6) (by decide), a3, ?_⟩
        exact ((((a4.tr (AgM.upd (by decide)) (Nat.le_refl _)).tr agMp (Nat.le_refl _)).tr agMp (Nat.le_refl _)).tr (AgM.upd (by decide)) (Nat.le_refl _))
  · rw [if_neg hz]
    have h2 := (h1.brk (br' := br + 1) (by omega)).pos (p' := P + 1) (by omega)
    simp only [lt9, Rd_pass, bd_s]
    rw [gn_I (a := 5) (by decide), pc1, show nI br + 1 = nI (br + 1) from nI_1 _, show nI P + 1 = nI (P + 1) from nI_1 _]
    rw [M_encl, m_open hbm (by omega) pm1, bd_s]
    have agC2 : AgC q cnt B c (sI (sI c1 7 0 4 (nI (br + 1))) 5 0 1 (nI (P + 1))) := (agC1.tr (AgC.upd (by decide)) (Nat.le_refl _)).tr agCp (Nat.le_refl _)
    have agM2 : AgM cnt m (sI (sI m1 10 0 6 (nI (br + 1))) 10 0 5 (nI (P + 1))) := (agM1.tr (AgM.upd (by decide)) (Nat.le_refl _)).tr agMp (Nat.le_refl _)
    have bw2 : BW m w (sI (sI m1 10 0 6 (nI (br + 1))) 10 0 5 (nI (P + 1))) := (bw1.upd nbS6).upd nbS5
    generalize sI (sI c1 7 0 4 (nI (br + 1))) 5 0 1 (nI (P + 1)) = c2 at *
    generalize sI (sI m1 10 0 6 (nI (br + 1))) 10 0 5 (nI (P + 1)) = m2 at *
    obtain ⟨v, c3, m3, x1, x2, x3⟩ := hX c2 m2 w (P + 1) cnt (br + 1) B h2 hb
    rw [x1, x2, bd_s, bd_s]
    dsimp only
    rcases x3 with ⟨p', cnt', a1, a2, a3, a4, a5, a6, a7, a8, a9, a10⟩ | ⟨a1, a2, a3, a4⟩
    · rw [if_neg a4.ne, r_passes hT a1.1.1 a1.2.1.1 a1.2.1.2.2 hn, bd_s, m_want hT a1.2.2.1 a1.1.2 a1.2.1.2.1 a1.2.1.2.2 hn, bd_s]
      have hp2 := skip_ge T len p'
      have hp3 := skip_le (T := T) a1.2.1.2.2
      by_cases hcl : byt T len (skip T len p') = cl
      · rw [if_pos hcl, if_pos hcl]
        dsimp only
        rw [if_neg (by decide)]
        have hlt2 : skip T len p' < len := by
          by_cases z : skip T len p' < len
          · exact z
          · exact absurd (by rw [← hcl, byt_out z]) hcl0
        have a1' := a1.pos (p' := skip T len p' + 1) (by omega)
        have hb3 : gI (sI c3 5 0 1 (nI (skip T len p' + 1))) 7 0 4 - 1 = nI br := by rw [a1'.2.2.2.1.1]; exact nI_pred _
        have hb4 : gI (sI m3 10 0 5 (nI (skip T len p' + 1))) 10 0 6 - 1 = nI br := by rw [a1'.2.2.2.1.2.1]; exact nI_pred _
        rw [hb3, hb4]
        refine ⟨_, _, _, rfl, rfl, Or.inl ⟨skip T len p' + 1, cnt', a1'.brk hb20.1, by omega, a3, a4, a5, a6, ?_, ?_, ?_, fun z => (a10 z).tr ((AgB.upd nbS5).tr (AgB.upd nbS6))⟩⟩
        · exact ((agC2.tr a7 (Nat.le_refl _)).tr agCp (Nat.le_refl _)).tr (AgC.upd (by decide)) (Nat.le_refl _)
        · exact ((agM2.tr a8 (Nat.le_refl _)).tr agMp (Nat.le_refl _)).tr (AgM.upd (by decide)) (Nat.le_refl _)
        · exact ((bw2.tr a9).upd nbS5).upd nbS6
      · rw [if_neg hcl, if_neg hcl]
        dsimp only
        rw [if_pos rfl]
        have a1' := a1.pos (p' := skip T len p') hp3
        have fl := FL.mk a1' (f := 1) (z := skip T len p') (by decide) hp3
        refine ⟨_, _, _, rfl, rfl, Or.inr ⟨rfl, ?_, ?_, ?_⟩⟩
        · exact (fl.updM (t := 6) (by decide)).from ((bw2.tr a9).upd nbS5)
        · exact ((agC2.tr a7 (Nat.le_refl _)).tr agCp (Nat.le_refl _)).tr (FL.agC (cnt := cnt)) (Nat.le_refl _)
        · exact (((agM2.tr a8 (Nat.le_refl _)).tr agMp (Nat.le_refl _)).tr (FL.agM (cnt := cnt)) (Nat.le_refl _)).tr (AgM.upd (by decide)) (Nat.le_refl _)
    · rw [if_pos a1, m_wantBad a2.not0, bd_s]
      refine ⟨_, _, _, rfl, rfl, Or.inr ⟨rfl, (a2.updM (t := 6) (by decide)).from bw2, agC2.tr a3 (Nat.le_refl _), (agM2.tr a4 (Nat.le_refl _)).tr (AgM.upd (by decide)) (Nat.le_refl _)⟩⟩
theorem LastV.num {v : Int32} {cnt : Nat} (h : ¬ v < 0) : LastV cnt cnt v := Or.inl ⟨rfl, fun i hi e => h (by rw [e]; exact (cval_lo i hi).1)⟩
theorem x_number (hT : TapeT T len) (hn : 800 ≤ n) (h : ER T len q n c m w p cnt br B) (hf : isF T len p) :
    ∃ v c' m', Tr_number n c = some (v, c') ∧ M_number n m = some m' ∧ EQ T len q n c m w p cnt cnt br B v c' m' := by
  have hg := numR_gt (v := 0) hf
  have h1 := h.pos (p' := (numR T len p 0).1) hg.2
  rw [Tr_number, r_readNumber hT h.1.1 h.2.1.1 h.2.1.2.2 hn, bd_s, M_number, m_numL hT h.1.2 h.2.1.2.1 h.2.1.2.2 hn, bd_s]
  dsimp only
  have e1 := num_c (v := (numR T len p 0).2) (w := 2147483648) (by decide) (by decide)
  have e2 := num_c (v := (numR T len p 0).2) (w := 9999999999) (by decide) (by decide)
  simp only [e1, e2, lt9]
  by_cases hv : (numR T len p 0).2 ≤ 2147483647
  · rw [if_pos hv, if_pos hv, num_i hv (by decide), num_i hv (by decide)]
    have hv0 : ¬ nI (numR T len p 0).2 < 0 := nI_pos (by omega)
    refine ⟨_, _, _, rfl, rfl, Or.inl ⟨(numR T len p 0).1, cnt, h1.opS.opV, hg.1, Nat.le_refl _, Or.inl ⟨hv0, ?_, gs_I _ _ _ _ _⟩, LastV.num hv0, NewOk.nil, agCp, ?_, ?_, fun z => absurd z (Nat.lt_irrefl _)⟩⟩
    · rw [gn_I (by decide), gs_I]
    · exact (agMp.tr (AgM.upd (by decide)) (Nat.le_refl _)).tr (AgM.upd (by decide)) (Nat.le_refl _)
    · exact ((BW.rf.upd nbS5).upd nbS8).upd nbS9
  · rw [if_neg hv, if_neg hv, Tr_refuse, M_fail, if_pos (by rw [gn_I (by decide)]; exact h.2.2.1)]
    simp only [lt9, bd_s]
    rw [h.2.1.1, h.2.1.2.1]
    have fl := FL.mk h1 (f := 2) (z := p) (by decide) h.2.1.2.2
    refine ⟨_, _, _, rfl, rfl, Or.inr ⟨rfl, ((fl.updM (t := 8) (by decide)).updM (t := 9) (by decide)).from (BW.rf.upd nbS5), agCp.tr (FL.agC (cnt := cnt)) (Nat.le_refl _), ?_⟩⟩
    exact ((agMp.tr (FL.agM (cnt := cnt)) (Nat.le_refl _)).tr (AgM.upd (by decide)) (Nat.le_refl _)).tr (AgM.upd (by decide)) (Nat.le_refl _)
theorem wd_le {T : Nat → Nat} {len p : Nat} : wd T len p ≤ 5 := by
  unfold wd
  repeat' split
  all_goals omega
theorem isL_not_isF {T : Nat → Nat} {len p : Nat} (h : isL T len p) : ¬ isF T len p := fun z => by have := h.2.1; have := z.2.2; omega
theorem x_factor (hT : TapeT T len) (hq : q < 2) (hn : 800 ≤ n) (hX : EXP T len q n b0 rC rM) (hF : FEX T len rM) (hb : b0 ≤ br + 1) (h : ER T len q n c m w p cnt br B) :
    ∃ v c' m', Tr_factor rC n c = some (v, c') ∧ M_factor rM n m = some m' ∧ EQ T len q n c m w p cnt cnt br B v c' m' := by
  have hp := skip_ge T len p
  have hpl := skip_le (T := T) h.2.1.2.2
  have h1 := h.pos (p' := skip T len p) hpl
  have idem : skip T len (skip T len p) = skip T len p := skip_idem
  rw [Tr_factor, r_look hT h.1.1 h.2.1.1 h.2.1.2.2 hn, bd_s, M_factor, m_next hT h.1.2 h.2.1.2.1 h.2.1.2.2 hn, bd_s]
  dsimp only
  generalize hP : skip T len p = P at *
  have agC1 : AgC q cnt B c (sI c 5 0 1 (nI P)) := agCp
  have agM1 : AgM cnt m (sI m 10 0 5 (nI P)) := agMp
  have bw1 : BW m w (sI m 10 0 5 (nI P)) := BW.rf.upd nbS5
  generalize hc1 : sI c 5 0 1 (nI P) = c1 at *
  generalize hm1 : sI m 10 0 5 (nI P) = m1 at *
  have pc1 : gI c1 5 0 1 = nI P := h1.2.1.1
  have pm1 : gI m1 10 0 5 = nI P := h1.2.1.2.1
  have same1 : sI c1 5 0 1 (nI P) = c1 := sI_same pc1
  have same2 : sI m1 10 0 5 (nI P) = m1 := sI_same pm1
  have fin : ∀ {v c' m'}, EQ T len q n c1 m1 w P cnt cnt br B v c' m' → EQ T len q n c m w p cnt cnt br B v c' m' := fun z => z.chain hp (Nat.le_refl _) agC1 agM1 bw1
  have hfle : gI m1 10 0 3 ≤ 0 := by rw [h1.2.2.1]; decide
  have hwd : M_word n m1 = some (nI (wd T len P), m1) := by rw [m_word hT h1.1.2 pm1 hpl hn, idem, same2]
  have bad : ∀ {x}, M_fail n 1 (gI m1 10 0 5) m1 = x → x = some (sI (sI m1 10 0 3 (nI 1)) 10 0 4 (nI P)) := by
    intro x hx
    rw [← hx, M_fail, if_pos h1.2.2.1, pm1]
    rfl
  have refu : (Tr_refuseHere n 1 c1).bind (fun z7 => some ((-209 : Int32), z7.2)) = some (-209, sI (sI c1 7 0 5 (nI 1)) 7 0 6 (nI P)) := by
    rw [Tr_refuseHere, Tr_refuse]
    simp only [lt9, bd_s]
    rw [if_pos (by decide), bd_s, pc1]
    rfl
  have ev4 : (nI (wd T len P) = (4 : Int32)) = (wd T len P = 4) := q_eq (b := 4) (by have := wd_le (T := T) (len := len) (p := P); omega) (by decide)
  have ev5 : (nI (wd T len P) = (5 : Int32)) = (wd T len P = 5) := q_eq (b := 5) (by have := wd_le (T := T) (len := len) (p := P); omega) (by decide)
  have sF : Rd_seesFigure n c1 = some (zF T len P, c1) := by rw [r_seesFigure hT h1.1.1 pc1 hpl hn, idem, same1]
  have sM : Rd_seesWord n 2 c1 = some (if wd T len P = 5 then 1 else 0, c1) := by rw [r_seesWord hT h1.1.1 pc1 hpl hn (by decide), idem, same1]; rfl
  have sV : Rd_seenVariable n c1 = some (if wd T len P = 4 then nI (T P - 97) else -1, c1) := by rw [r_seenVariable hT h1.1.1 pc1 hpl hn, idem, same1]
  rw [if_pos hfle]
  simp only [lt9, m_isF hT, m_isL hT, bd_s, hwd, sF, ev4, ev5]
  by_cases hA : byt T len P = 40
  · have hlt : P < len := byt_lt (a := 40) hA (by decide)
    have hT40 : T P = 40 := by rw [byt_in hlt] at hA; exact (nI_eq (b := 40) (by have := hT.2 P hlt; omega) (by decide)).mp hA
    have hnF : ¬ isF T len P := fun z => by have := z.2.1; omega
    rw [if_pos hA, if_pos (zF_0.mpr hnF), if_pos hA]
    obtain ⟨v, c', m', x1, x2, x3⟩ := x_encl (opv := 40) (cl := 41) hT hn hX hF hb h1 (by rw [idem]; exact hA) (by decide) (by rw [idem]; exact hlt)
    rw [idem, same2] at x2
    rw [x1, bd_s]
    refine ⟨v, c', m', rfl, ?_, fin x3⟩
    rw [← x2, M_encl]
  · rw [if_neg hA]
    by_cases hFg : isF T len P
    · rw [if_neg (fun z => zF_0.mp z hFg), if_neg (fun z => zF_0.mp z hFg)]
      obtain ⟨v, c', m', x1, x2, x3⟩ := x_number hT hn h1 hFg
      rw [x1, x2]
      exact ⟨v, c', m', rfl, rfl, fin x3⟩
    · rw [if_pos (zF_0.mpr hFg), if_pos (zF_0.mpr hFg), if_neg hA, sM, bd_s]
      dsimp only
      by_cases h5 : wd T len P = 5
      · have hL : isL T len P := wd_let (by omega)
        have nL : ¬ zL T len P = 0 := fun z => zL_0.mp z hL
        rw [if_pos h5, if_neg (by decide), if_neg nL, if_neg (show ¬ wd T len P = 4 by omega), if_neg nL, if_pos h5]
        have hPl := hL.1
        have h2 := h1.pos (p' := P + 1) (by omega)
        rw [Tr_read, Rd_pass, pc1, pm1]
        simp only [lt9, bd_s]
        rw [show nI P + 1 = nI (P + 1) from nI_1 _]
        have agC2 : AgC q cnt B c1 (sI c1 5 0 1 (nI (P + 1))) := agCp
        have agM2 : AgM cnt m1 (sI m1 10 0 5 (nI (P + 1))) := agMp
        have bw2 : BW m1 w (sI m1 10 0 5 (nI (P + 1))) := BW.rf.upd nbS5
        have fin2 : ∀ {v c' m'}, EQ T len q n (sI c1 5 0 1 (nI (P + 1))) (sI m1 10 0 5 (nI (P + 1))) w (P + 1) cnt cnt br B v c' m' → EQ T len q n c m w p cnt cnt br B v c' m' := fun z => fin (z.chain (by omega) (Nat.le_refl _) agC2 agM2 bw2)
        generalize sI c1 5 0 1 (nI (P + 1)) = c2 at *
        generalize sI m1 10 0 5 (nI (P + 1)) = m2 at *
        rw [m_next hT h2.1.2 h2.2.1.2.1 h2.2.1.2.2 hn, bd_s]
        dsimp only
        by_cases hB : byt T len (skip T len (P + 1)) = 91
        · rw [if_pos hB]
          have hlt : skip T len (P + 1) < len := byt_lt (a := 91) hB (by decide)
          obtain ⟨v, c3, m3, x1, x2, x3⟩ := x_encl (opv := 91) (cl := 93) hT hn hX hF hb h2 hB (by decide) hlt
          rw [x1, bd_s]
          dsimp only
          have e2 : ((M_open n (sI m2 10 0 5 (nI (skip T len (P + 1))))).bind fun g16 => (rM g16).bind fun g17 => (M_want n 93 g17).bind fun g18 => (M_emit n 5 (nI P) (gI (sI g18 10 0 6 (gI g18 10 0 6 - 1)) 10 0 8) (gI (sI g18 10 0 6 (gI g18 10 0 6 - 1)) 10 0 9) (sI (sI g18 10 0 6 (gI g18 10 0 6 - 1)) 10 0 8 0)).bind fun z21 => some z21.2) = (M_encl rM n 93 (sI m2 10 0 5 (nI (skip T len (P + 1))))).bind fun g19 => (M_emit n 5 (nI P) (gI g19 10 0 8) (gI g19 10 0 9) (sI g19 10 0 8 0)).bind fun z21 => some z21.2 := by
            unfold M_encl
            cases M_open n (sI m2 10 0 5 (nI (skip T len (P + 1)))) with
            | none => rfl
            | some a =>
              rw [bd_s, bd_s]
              cases rM a with
              | none => rfl
              | some b =>
                rw [bd_s, bd_s]
                cases M_want n 93 b with
                | none => rfl
                | some d => rfl
          rw [e2, x2, bd_s]
          rcases x3 with ⟨p', cnt', a1, a2, a3, a4, a5, a6, a7, a8, a9, a10⟩ | ⟨rfl, a2, a3, a4⟩
          · rw [if_neg a4.ne]
            have a1' := a1.opS (v := 0)
            rcases x_add (s := 1) (code := 5) (st := P) (s1 := gI m3 10 0 8) (v1 := gI m3 10 0 9) (r := 0) hq (by unfold SG; simp) (Or.inl a4) (Or.inr ⟨rfl, gs_I _ _ _ _ _⟩) (by decide) (ValOk.of a1.2.2.2.2.2.1.2.2 a5 a6) (ValOk.no (fun i hi e => absurd (cval_lo i hi).1 (by rw [← e]; decide))) (by omega) a1' with ⟨b1, c4, m4, b2, b3, b4, b5, b6, b7, b8, b9, b10, b11, b12, b13, b14⟩ | ⟨c4, m4, z, b1, b2, b3, b4, b5⟩
            · rw [b2, b3]
              refine ⟨_, _, _, rfl, rfl, fin2 (Or.inl ⟨p', cnt' + 1, b4, a2, by omega, ?_, Or.inr ⟨by omega, rfl⟩, NewOk.bin a6 NewOk.nil a3 (Nat.le_refl _) b7 (by rw [b9]; decide) b10 b11 b12 b13, a7.tr b7 a3, (a8.tr (AgM.upd (by decide)) (Nat.le_refl _)).tr b8 a3, (a9.upd (v := 0) nbS8).tr (Or.inr b14), fun _ => b14⟩)⟩
              rw [b5, b6]
              exact Or.inr (Or.inr ⟨cnt', b1, rfl, rfl, rfl⟩)
            · rw [b1, b2]
              exact ⟨_, _, _, rfl, rfl, fin2 (Or.inr ⟨rfl, b3.from (a9.upd (v := 0) nbS8), a7.tr b4 a3, (a8.tr (AgM.upd (by decide)) (Nat.le_refl _)).tr b5 a3⟩)⟩
          · rw [if_pos rfl, m_emitBad (by rw [gn_I (by decide)]; exact a2.notle), bd_s]
            exact ⟨_, _, _, rfl, rfl, fin2 (Or.inr ⟨rfl, a2.updM (t := 8) (by decide), a3, a4.tr (AgM.upd (by decide)) (Nat.le_refl _)⟩)⟩
        · rw [if_neg hB, Tr_enclosed, r_meets hT h2.1.1 h2.2.1.1 h2.2.1.2.2 hn, if_neg hB, bd_s]
          dsimp only
          rw [if_pos rfl, bd_s]
          dsimp only
          rw [if_pos rfl]
          have hl3 := skip_le (T := T) h2.2.1.2.2
          have h3 := h2.pos (p' := skip T len (P + 1)) hl3
          rw [M_fail, if_pos h3.2.2.1, h3.2.1.2.1]
          refine ⟨_, _, _, rfl, rfl, fin2 ((EQ.bad (cnt0 := cnt) h3 (f := 1) (z := skip T len (P + 1)) (by decide) hl3).chain (skip_ge T len _) (Nat.le_refl _) agCp agMp (BW.rf.upd nbS5))⟩
      · rw [if_neg h5, if_pos rfl, sV, bd_s]
        dsimp only
        by_cases h4 : wd T len P = 4
        · have hL : isL T len P := wd_let (by omega)
          have nL : ¬ zL T len P = 0 := fun z => zL_0.mp z hL
          have hT1 := (wd_var.mp h4).2
          have hT2 := hL.2.1
          have hPl := hL.1
          rw [if_pos h4, if_neg nL, if_pos h4, if_neg (fun z => (q_eqm (a := T P - 97) (by omega)).mp z), byt_in hPl]
          have eV : nI (T P) - 97 = nI (T P - 97) := pk_sub (a := T P) (b := 97) hT2
          rw [Rd_pass, pc1, Od_ofVariable, eV]
          simp only [lt9, bd_s]
          rw [gn_I (a := 10) (b := 0) (c := 5) (by decide), gn_I (a := 10) (b := 0) (c := 5) (by decide), pm1, show nI P + 1 = nI (P + 1) from nI_1 _]
          have h2 := (h1.opS (v := 2)).opV (v := nI (T P - 97))
          have h3 := h2.pos (p' := P + 1) (by omega)
          refine ⟨_, _, _, rfl, rfl, fin (Or.inl ⟨P + 1, cnt, h3, by omega, Nat.le_refl _, Or.inr (Or.inl ⟨T P - 97, by omega, rfl, ?_, ?_⟩), Or.inl ⟨rfl, fun i hi e => cval_cvar hi (show T P - 97 < 8 by omega) e.symm⟩, NewOk.nil, agCp, ?_, ?_, fun z => absurd z (Nat.lt_irrefl _)⟩)⟩
          · rw [gn_I (by decide), gn_I (by decide), gs_I]
          · rw [gn_I (by decide), gs_I]
          · exact ((AgM.upd (by decide)).tr (AgM.upd (by decide)) (Nat.le_refl _)).tr agMp (Nat.le_refl _)
          · exact ((BW.rf.upd nbS8).upd nbS9).upd nbS5
        · rw [if_neg h4, if_pos rfl, refu]
          have key : (if zL T len P = 0 then if zL T len P = 0 then (M_fail n 1 (gI m1 10 0 5) m1).bind fun g11 => some g11 else if wd T len P = 5 then ((M_next n (sI m1 10 0 5 (gI m1 10 0 5 + 1))).bind fun z15 => if z15.1 = 91 then ((M_open n z15.2).bind fun g16 => (rM g16).bind fun g17 => (M_want n 93 g17).bind fun g18 => (M_emit n 5 (gI m1 10 0 5) (gI (sI g18 10 0 6 (gI g18 10 0 6 - 1)) 10 0 8) (gI (sI g18 10 0 6 (gI g18 10 0 6 - 1)) 10 0 9) (sI (sI g18 10 0 6 (gI g18 10 0 6 - 1)) 10 0 8 0)).bind fun z21 => some z21.2) else ((M_fail n 1 (gI z15.2 10 0 5) z15.2).bind fun g22 => some g22)) else ((M_fail n 1 (gI m1 10 0 5) m1).bind fun g13 => some g13) else if wd T len P = 4 then some (sI (sI (sI m1 10 0 8 2) 10 0 9 (byt T len P - 97)) 10 0 5 (gI (sI (sI m1 10 0 8 2) 10 0 9 (byt T len P - 97)) 10 0 5 + 1)) else if zL T len P = 0 then (M_fail n 1 (gI m1 10 0 5) m1).bind fun g11 => some g11 else if wd T len P = 5 then ((M_next n (sI m1 10 0 5 (gI m1 10 0 5 + 1))).bind fun z15 => if z15.1 = 91 then ((M_open n z15.2).bind fun g16 => (rM g16).bind fun g17 => (M_want n 93 g17).bind fun g18 => (M_emit n 5 (gI m1 10 0 5) (gI (sI g18 10 0 6 (gI g18 10 0 6 - 1)) 10 0 8) (gI (sI g18 10 0 6 (gI g18 10 0 6 - 1)) 10 0 9) (sI (sI g18 10 0 6 (gI g18 10 0 6 - 1)) 10 0 8 0)).bind fun z21 => some z21.2) else ((M_fail n 1 (gI z15.2 10 0 5) z15.2).bind fun g22 => some g22)) else ((M_fail n 1 (gI m1 10 0 5) m1).bind fun g13 => some g13)) = some (sI (sI m1 10 0 3 (nI 1)) 10 0 4 (nI P)) := by
            rw [bad rfl, bd_s]
            by_cases z0 : zL T len P = 0
            · rw [if_pos z0, if_pos z0]
            · rw [if_neg z0, if_neg h4, if_neg z0, if_neg h5]
          exact ⟨_, _, _, rfl, key, fin (EQ.bad (cnt0 := cnt) h1 (f := 1) (z := P) (by decide) hpl)⟩
end XF
