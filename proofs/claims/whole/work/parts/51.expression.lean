/-! ===== PURE: terms, sums, expressions ===== -/
section XT
variable {T : Nat → Nat} {len q n b0 : Nat} {c m w : Mem} {p cnt br B : Nat} {rC : Mem → Option (Int32 × Mem)} {rM : Mem → Option Mem}
theorem x_termLoop (hT : TapeT T len) (hq : q < 2) (hn : 800 ≤ n) (hX : EXP T len q n b0 rC rM) (hF : FEX T len rM) (hb : b0 ≤ br + 1) {cS mS : Mem} {pS cS0 : Nat} : ∀ (k t p cnt : Nat) (v : Int32) (c m : Mem), ER T len q n c m w p cnt br B → pS < p → cS0 ≤ cnt → VR v (gI m 10 0 8) (gI m 10 0 9) → LastV cS0 cnt v → NewOk c q cS0 cnt B v → AgC q cS0 B cS c → AgM cS0 mS m → BW mS w m → (cS0 < cnt → AgB w m) → t ≤ p → len - p < k →
    ∃ r v' c' m', Tr_term_L7 n rC k v (nI t) c = some r ∧ (r = .inl (v', c') ∨ r = .inr (v', c')) ∧ M_term_L4 n rM k m = some m' ∧ EQ T len q n cS mS w pS cS0 cS0 br B v' c' m' := by
  have hl := hT.1
  intro k
  induction k with
  | zero => intro t p cnt v c m h g1 g2 g3 g4 g5 g6 g7 g8 gB g9 g10; omega
  | succ k ih =>
    intro t p cnt v c m h g1 g2 g3 g4 g5 g6 g7 g8 gB g9 g10
    have hp := skip_ge T len p
    have hpl := skip_le (T := T) h.2.1.2.2
    have ple := h.2.1.2.2
    have e7 : ((700 : Int32) ≤ nI t) = (700 ≤ t) := q_le (a := 700) (by decide) (by omega)
    rw [Tr_term_L7, M_term_L4, if_pos h.2.2.1, m_next hT h.1.2 h.2.1.2.1 ple hn, bd_s]
    simp only [e7]
    have done : ∀ (p' : Nat), p' = skip T len p → EQ T len q n cS mS w pS cS0 cS0 br B v (sI c 5 0 1 (nI p')) (sI m 10 0 5 (nI p')) := by
      intro p' hp'
      subst hp'
      exact Or.inl ⟨skip T len p, cnt, h.pos hpl, by omega, g2, g3, g4, g5, g6.tr agCp (Nat.le_refl _), g7.tr agMp (Nat.le_refl _), g8.upd nbS5, fun z => (gB z).tr (AgB.upd nbS5)⟩
    by_cases h7 : 700 ≤ t
    · have hpe : p = len := by omega
      have hs : skip T len p = p := skip_end (by omega)
      rw [if_pos h7, hs, if_neg (by rw [byt_out (by omega)]; decide)]
      have := done p hs.symm
      rw [sI_same h.2.1.1] at this
      exact ⟨_, _, _, _, rfl, Or.inr rfl, rfl, this⟩
    · rw [if_neg h7, if_neg g3.ne, r_look hT h.1.1 h.2.1.1 ple hn, bd_s]
      dsimp only
      have h1 := h.pos hpl
      by_cases h42 : byt T len (skip T len p) = 42
      · have hlt := byt_lt (a := 42) h42 (by decide)
        rw [if_pos h42, if_pos h42, Rd_pass]
        simp only [lt9, bd_s]
        rw [gs_I, gs_I, sI_sI, sI_sI, show nI (skip T len p) + 1 = nI (skip T len p + 1) from nI_1 _]
        have h2 := h.pos (p' := skip T len p + 1) (by omega)
        have agC2 : AgC q cS0 B cS (sI c 5 0 1 (nI (skip T len p + 1))) := g6.tr (agCp (cnt := cnt)) g2
        have agM2 : AgM cS0 mS (sI m 10 0 5 (nI (skip T len p + 1))) := g7.tr (agMp (cnt := cnt)) g2
        have bw2 : BW mS w (sI m 10 0 5 (nI (skip T len p + 1))) := g8.upd nbS5
        have g3' : VR v (gI (sI m 10 0 5 (nI (skip T len p))) 10 0 8) (gI (sI m 10 0 5 (nI (skip T len p))) 10 0 9) := g3
        have g5' : NewOk (sI c 5 0 1 (nI (skip T len p + 1))) q cS0 cnt B v := g5.ag agCp
        have e8 : gI (sI m 10 0 5 (nI (skip T len p))) 10 0 8 = gI m 10 0 8 := rfl
        have e9 : gI (sI m 10 0 5 (nI (skip T len p))) 10 0 9 = gI m 10 0 9 := rfl
        rw [e8, e9]
        generalize sI c 5 0 1 (nI (skip T len p + 1)) = c2 at *
        generalize sI m 10 0 5 (nI (skip T len p + 1)) = m2 at *
        obtain ⟨r, c3, m3, x1, x2, x3⟩ := x_factor hT hq hn hX hF hb h2
        rw [x1, x2, bd_s, bd_s]
        dsimp only
        obtain ⟨v4, c4, m4, y1, y2, y3⟩ := x_bin (s := 42) (code := 2) (st := skip T len p) hq (by unfold SG; simp) (by decide) hpl g3 g2 g4 g5' h.2.2.2.2.2.1.2.2 x3
        rw [y1, y2, bd_s, bd_s]
        dsimp only
        rw [show nI t + 1 = nI (t + 1) from nI_1 _]
        rcases y3 with ⟨p', cnt', a1, a2, a3, a4, a5, a6, a7, a8, a9, a10⟩ | ⟨rfl, a2, a3, a4⟩
        · exact ih (t + 1) p' cnt' v4 c4 m4 a1 (by omega) (by omega) a4 a5 a6 (agC2.tr a7 g2) (agM2.tr a8 g2) (bw2.tr a9) a10 (by omega) (by have := a1.2.1.2.2; omega)
        · have hk : k = (k - 1) + 1 := by omega
          have e7' : ((700 : Int32) ≤ nI (t + 1)) = (700 ≤ t + 1) := q_le (a := 700) (by decide) (by omega)
          rw [hk, Tr_term_L7, M_term_L4, if_neg a2.not0]
          refine ⟨.inr (-209, c4), -209, c4, m4, ?_, Or.inr rfl, rfl, Or.inr ⟨rfl, a2.from bw2, agC2.tr a3 g2, agM2.tr a4 g2⟩⟩
          by_cases z : (700 : Int32) ≤ nI (t + 1)
          · rw [if_pos z]
          · rw [if_neg z, if_pos rfl]
      · rw [if_neg h42, if_neg h42]
        exact ⟨_, _, _, _, rfl, Or.inl rfl, rfl, done _ rfl⟩
theorem x_term (hT : TapeT T len) (hq : q < 2) (hn : 800 ≤ n) (hX : EXP T len q n b0 rC rM) (hF : FEX T len rM) (hb : b0 ≤ br + 1) (h : ER T len q n c m w p cnt br B) :
    ∃ v c' m', Tr_term rC n c = some (v, c') ∧ M_term rM n m = some m' ∧ EQ T len q n c m w p cnt cnt br B v c' m' := by
  have hl := hT.1
  obtain ⟨v, c1, m1, x1, x2, x3⟩ := x_factor hT hq hn hX hF hb h
  rw [Tr_term, M_term, x1, x2, bd_s, bd_s]
  dsimp only
  rcases x3 with ⟨p', cnt', a1, a2, a3, a4, a5, a6, a7, a8, a9, a10⟩ | ⟨rfl, a2, a3, a4⟩
  · obtain ⟨r, v', c', m', y1, y2, y3, y4⟩ := x_termLoop hT hq hn hX hF hb n 0 p' cnt' v c1 m1 a1 a2 a3 a4 a5 a6 a7 a8 a9 a10 (Nat.zero_le _) (by omega)
    rw [nI_0] at y1
    rw [y1, y3, bd_s, bd_s]
    rcases y2 with rfl | rfl
    · exact ⟨_, _, _, rfl, rfl, y4⟩
    · exact ⟨_, _, _, rfl, rfl, y4⟩
  · have hk : n = (n - 1) + 1 := by omega
    have l1 : Tr_term_L7 n rC n (-209) 0 c1 = some (.inr (-209, c1)) := by
      rw [hk, Tr_term_L7, if_neg (by decide), if_pos rfl]
    have l2 : M_term_L4 n rM n m1 = some m1 := by
      rw [hk, M_term_L4, if_neg a2.not0]
    rw [l1, l2, bd_s, bd_s]
    exact ⟨_, _, _, rfl, rfl, Or.inr ⟨rfl, a2, a3, a4⟩⟩
theorem x_sumLoop (hT : TapeT T len) (hq : q < 2) (hn : 800 ≤ n) (hX : EXP T len q n b0 rC rM) (hF : FEX T len rM) (hb : b0 ≤ br + 1) {cS mS : Mem} {pS cS0 : Nat} : ∀ (k t p cnt : Nat) (v : Int32) (c m : Mem), ER T len q n c m w p cnt br B → pS < p → cS0 ≤ cnt → VR v (gI m 10 0 8) (gI m 10 0 9) → LastV cS0 cnt v → NewOk c q cS0 cnt B v → AgC q cS0 B cS c → AgM cS0 mS m → BW mS w m → (cS0 < cnt → AgB w m) → t ≤ p → len - p < k →
    ∃ r v' c' m', Tr_sum_L7 n rC k v (nI t) c = some r ∧ (r = .inl (v', c') ∨ r = .inr (v', c')) ∧ M_sum_L4 n rM k m = some m' ∧ EQ T len q n cS mS w pS cS0 cS0 br B v' c' m' := by
  have hl := hT.1
  intro k
  induction k with
  | zero => intro t p cnt v c m h g1 g2 g3 g4 g5 g6 g7 g8 gB g9 g10; omega
  | succ k ih =>
    intro t p cnt v c m h g1 g2 g3 g4 g5 g6 g7 g8 gB g9 g10
    have hp := skip_ge T len p
    have hpl := skip_le (T := T) h.2.1.2.2
    have ple := h.2.1.2.2
    have e7 : ((700 : Int32) ≤ nI t) = (700 ≤ t) := q_le (a := 700) (by decide) (by omega)
    have h1 := h.pos hpl
    have nx2 : M_next n (sI m 10 0 5 (nI (skip T len p))) = some (byt T len (skip T len p), sI m 10 0 5 (nI (skip T len p))) := by
      rw [m_next hT h1.1.2 h1.2.1.2.1 hpl hn, skip_idem, sI_sI]
    rw [Tr_sum_L7, M_sum_L4, if_pos h.2.2.1, m_next hT h.1.2 h.2.1.2.1 ple hn, bd_s]
    simp only [e7, lt9, nx2, bd_s]
    have done : ∀ (p' : Nat), p' = skip T len p → EQ T len q n cS mS w pS cS0 cS0 br B v (sI c 5 0 1 (nI p')) (sI m 10 0 5 (nI p')) := by
      intro p' hp'
      subst hp'
      exact Or.inl ⟨skip T len p, cnt, h.pos hpl, by omega, g2, g3, g4, g5, g6.tr agCp (Nat.le_refl _), g7.tr agMp (Nat.le_refl _), g8.upd nbS5, fun z => (gB z).tr (AgB.upd nbS5)⟩
    by_cases h7 : 700 ≤ t
    · have hpe : p = len := by omega
      have hs : skip T len p = p := skip_end (by omega)
      have hb1 : byt T len p = -1 := byt_out (by omega)
      rw [if_pos h7, hs, hb1, if_neg (by decide), if_neg (by decide)]
      have := done p hs.symm
      rw [sI_same h.2.1.1] at this
      exact ⟨_, _, _, _, rfl, Or.inr rfl, rfl, this⟩
    · rw [if_neg h7, if_neg g3.ne, r_look hT h.1.1 h.2.1.1 ple hn, bd_s]
      dsimp only
      have step : ∀ (s code : Int32), SG s code → ¬ code = 6 → byt T len (skip T len p) = s → skip T len p < len →
          (∃ r v' c' m', (Rd_pass n 1 (sI c 5 0 1 (nI (skip T len p)))).bind (fun g8 => (Tr_term rC n g8).bind fun z9 => (Tr_add n (byt T len (skip T len p)) v z9.1 (gI (sI c 5 0 1 (nI (skip T len p))) 5 0 1) z9.2).bind fun z10 => Tr_sum_L7 n rC k z10.1 (nI t + 1) z10.2) = some r ∧ (r = .inl (v', c') ∨ r = .inr (v', c')) ∧
            (M_term rM n (sI (sI m 10 0 5 (nI (skip T len p))) 10 0 5 (gI (sI m 10 0 5 (nI (skip T len p))) 10 0 5 + 1))).bind (fun g12 => (M_join n code (gI (sI m 10 0 5 (nI (skip T len p))) 10 0 5) (gI (sI m 10 0 5 (nI (skip T len p))) 10 0 8) (gI (sI m 10 0 5 (nI (skip T len p))) 10 0 9) g12).bind fun g13 => M_sum_L4 n rM k g13) = some m' ∧ EQ T len q n cS mS w pS cS0 cS0 br B v' c' m') := by
        intro s code hs h6 hbs hlt
        rw [hbs, Rd_pass]
        simp only [lt9, bd_s]
        rw [gs_I, gs_I, sI_sI, sI_sI, show nI (skip T len p) + 1 = nI (skip T len p + 1) from nI_1 _]
        have h2 := h.pos (p' := skip T len p + 1) (by omega)
        have agC2 : AgC q cS0 B cS (sI c 5 0 1 (nI (skip T len p + 1))) := g6.tr (agCp (cnt := cnt)) g2
        have agM2 : AgM cS0 mS (sI m 10 0 5 (nI (skip T len p + 1))) := g7.tr (agMp (cnt := cnt)) g2
        have bw2 : BW mS w (sI m 10 0 5 (nI (skip T len p + 1))) := g8.upd nbS5
        have g5' : NewOk (sI c 5 0 1 (nI (skip T len p + 1))) q cS0 cnt B v := g5.ag agCp
        have e8 : gI (sI m 10 0 5 (nI (skip T len p))) 10 0 8 = gI m 10 0 8 := rfl
        have e9 : gI (sI m 10 0 5 (nI (skip T len p))) 10 0 9 = gI m 10 0 9 := rfl
        rw [e8, e9]
        generalize sI c 5 0 1 (nI (skip T len p + 1)) = c2 at *
        generalize sI m 10 0 5 (nI (skip T len p + 1)) = m2 at *
        obtain ⟨r, c3, m3, x1, x2, x3⟩ := x_term hT hq hn hX hF hb h2
        rw [x1, x2, bd_s, bd_s]
        dsimp only
        obtain ⟨v4, c4, m4, y1, y2, y3⟩ := x_bin (s := s) (code := code) (st := skip T len p) hq hs h6 hpl g3 g2 g4 g5' h.2.2.2.2.2.1.2.2 x3
        rw [y1, y2, bd_s, bd_s]
        dsimp only
        rw [show nI t + 1 = nI (t + 1) from nI_1 _]
        rcases y3 with ⟨p', cnt', a1, a2, a3, a4, a5, a6, a7, a8, a9, a10⟩ | ⟨rfl, a2, a3, a4⟩
        · exact ih (t + 1) p' cnt' v4 c4 m4 a1 (by omega) (by omega) a4 a5 a6 (agC2.tr a7 g2) (agM2.tr a8 g2) (bw2.tr a9) a10 (by omega) (by have := a1.2.1.2.2; omega)
        · have hk : k = (k - 1) + 1 := by omega
          rw [hk, Tr_sum_L7, M_sum_L4, if_neg a2.not0]
          refine ⟨.inr (-209, c4), -209, c4, m4, ?_, Or.inr rfl, rfl, Or.inr ⟨rfl, a2.from bw2, agC2.tr a3 g2, agM2.tr a4 g2⟩⟩
          by_cases z : (700 : Int32) ≤ nI (t + 1)
          · rw [if_pos z]
          · rw [if_neg z, if_pos rfl]
      have ba : M_byteAt n (gI (sI m 10 0 5 (nI (skip T len p))) 10 0 5) (sI m 10 0 5 (nI (skip T len p))) = some (byt T len (skip T len p)) := by
        rw [gs_I, m_byteAt hT h1.1.2 (by omega)]
      rw [ba, bd_s]
      by_cases h43 : byt T len (skip T len p) = 43
      · have hlt := byt_lt (a := 43) h43 (by decide)
        rw [if_pos h43, if_pos h43, if_pos h43]
        exact step 43 0 (by unfold SG; simp) (by decide) h43 hlt
      · rw [if_neg h43, if_neg h43]
        by_cases h45 : byt T len (skip T len p) = 45
        · have hlt := byt_lt (a := 45) h45 (by decide)
          rw [if_pos h45, if_pos h45, if_neg h43]
          exact step 45 1 (by unfold SG; simp) (by decide) h45 hlt
        · rw [if_neg h45, if_neg h45]
          exact ⟨_, _, _, _, rfl, Or.inl rfl, rfl, done _ rfl⟩
theorem x_sum (hT : TapeT T len) (hq : q < 2) (hn : 800 ≤ n) (hX : EXP T len q n b0 rC rM) (hF : FEX T len rM) (hb : b0 ≤ br + 1) (h : ER T len q n c m w p cnt br B) :
    ∃ v c' m', Tr_sum rC n c = some (v, c') ∧ M_sum rM n m = some m' ∧ EQ T len q n c m w p cnt cnt br B v c' m' := by
  have hl := hT.1
  obtain ⟨v, c1, m1, x1, x2, x3⟩ := x_term hT hq hn hX hF hb h
  rw [Tr_sum, M_sum, x1, x2, bd_s, bd_s]
  dsimp only
  rcases x3 with ⟨p', cnt', a1, a2, a3, a4, a5, a6, a7, a8, a9, a10⟩ | ⟨rfl, a2, a3, a4⟩
  · obtain ⟨r, v', c', m', y1, y2, y3, y4⟩ := x_sumLoop hT hq hn hX hF hb n 0 p' cnt' v c1 m1 a1 a2 a3 a4 a5 a6 a7 a8 a9 a10 (Nat.zero_le _) (by omega)
    rw [nI_0] at y1
    rw [y1, y3, bd_s, bd_s]
    rcases y2 with rfl | rfl
    · exact ⟨_, _, _, rfl, rfl, y4⟩
    · exact ⟨_, _, _, rfl, rfl, y4⟩
  · have hk : n = (n - 1) + 1 := by omega
    have l1 : Tr_sum_L7 n rC n (-209) 0 c1 = some (.inr (-209, c1)) := by
      rw [hk, Tr_sum_L7, if_neg (by decide), if_pos rfl]
    have l2 : M_sum_L4 n rM n m1 = some m1 := by
      rw [hk, M_sum_L4, if_neg a2.not0]
    rw [l1, l2, bd_s, bd_s]
    exact ⟨_, _, _, rfl, rfl, Or.inr ⟨rfl, a2, a3, a4⟩⟩
theorem x_expr (hT : TapeT T len) (hq : q < 2) (hn : 800 ≤ n) (hX : EXP T len q n b0 rC rM) (hF : FEX T len rM) (hb : b0 ≤ br + 1) (h : ER T len q n c m w p cnt br B) :
    ∃ v c' m', Tr_expression_b rC n c = some (v, c') ∧ M_expression_b rM n m = some m' ∧ EQ T len q n c m w p cnt cnt br B v c' m' := by
  have hl := hT.1
  obtain ⟨v, c1, m1, x1, x2, x3⟩ := x_sum hT hq hn hX hF hb h
  rw [Tr_expression_b, M_expression_b, x1, x2, bd_s, bd_s]
  dsimp only
  rcases x3 with ⟨p', cnt', a1, a2, a3, a4, a5, a6, a7, a8, a9, a10⟩ | ⟨rfl, a2, a3, a4⟩
  · have hp := skip_ge T len p'
    have ple := a1.2.1.2.2
    have hpl := skip_le (T := T) ple
    have h1 := a1.pos hpl
    have nx2 : M_next n (sI m1 10 0 5 (nI (skip T len p'))) = some (byt T len (skip T len p'), sI m1 10 0 5 (nI (skip T len p'))) := by
      rw [m_next hT h1.1.2 h1.2.1.2.1 hpl hn, skip_idem, sI_sI]
    have ba : M_byteAt n (gI (sI m1 10 0 5 (nI (skip T len p'))) 10 0 5) (sI m1 10 0 5 (nI (skip T len p'))) = some (byt T len (skip T len p')) := by
      rw [gs_I, m_byteAt hT h1.1.2 (by omega)]
    rw [if_neg a4.ne, if_pos a1.2.2.1, r_look hT a1.1.1 a1.2.1.1 ple hn, m_next hT a1.1.2 a1.2.1.2.1 ple hn, bd_s, bd_s]
    simp only [lt9, nx2, ba, bd_s]
    have step : ∀ (s code : Int32), SG s code → ¬ code = 6 → byt T len (skip T len p') = s → skip T len p' < len →
        (∃ v' c' m', (Rd_pass n 1 (sI c1 5 0 1 (nI (skip T len p')))).bind (fun g4 => (Tr_sum rC n g4).bind fun z5 => (Tr_add n (byt T len (skip T len p')) v z5.1 (gI (sI c1 5 0 1 (nI (skip T len p'))) 5 0 1) z5.2).bind fun z6 => some (z6.1, z6.2)) = some (v', c') ∧
          (M_sum rM n (sI (sI m1 10 0 5 (nI (skip T len p'))) 10 0 5 (gI (sI m1 10 0 5 (nI (skip T len p'))) 10 0 5 + 1))).bind (fun g10 => (M_join n code (gI (sI m1 10 0 5 (nI (skip T len p'))) 10 0 5) (gI (sI m1 10 0 5 (nI (skip T len p'))) 10 0 8) (gI (sI m1 10 0 5 (nI (skip T len p'))) 10 0 9) g10).bind fun g11 => some g11) = some m' ∧ EQ T len q n c m w p cnt cnt br B v' c' m') := by
      intro s code hs h6 hbs hlt
      rw [hbs, Rd_pass]
      simp only [lt9, bd_s]
      rw [gs_I, gs_I, sI_sI, sI_sI, show nI (skip T len p') + 1 = nI (skip T len p' + 1) from nI_1 _]
      have h2 := a1.pos (p' := skip T len p' + 1) (by omega)
      have agC2 : AgC q cnt B c (sI c1 5 0 1 (nI (skip T len p' + 1))) := a7.tr (agCp (cnt := cnt')) a3
      have agM2 : AgM cnt m (sI m1 10 0 5 (nI (skip T len p' + 1))) := a8.tr (agMp (cnt := cnt')) a3
      have bw2 : BW m w (sI m1 10 0 5 (nI (skip T len p' + 1))) := a9.upd nbS5
      have a6' : NewOk (sI c1 5 0 1 (nI (skip T len p' + 1))) q cnt cnt' B v := a6.ag agCp
      have e8 : gI (sI m1 10 0 5 (nI (skip T len p'))) 10 0 8 = gI m1 10 0 8 := rfl
      have e9 : gI (sI m1 10 0 5 (nI (skip T len p'))) 10 0 9 = gI m1 10 0 9 := rfl
      rw [e8, e9]
      generalize sI c1 5 0 1 (nI (skip T len p' + 1)) = c2 at *
      generalize sI m1 10 0 5 (nI (skip T len p' + 1)) = m2 at *
      obtain ⟨r, c3, m3, x1, x2, x3⟩ := x_sum hT hq hn hX hF hb h2
      rw [x1, x2, bd_s, bd_s]
      dsimp only
      obtain ⟨v4, c4, m4, y1, y2, y3⟩ := x_bin (s := s) (code := code) (st := skip T len p') hq hs h6 hpl a4 a3 a5 a6' a1.2.2.2.2.2.1.2.2 x3
      rw [y1, y2, bd_s, bd_s]
      exact ⟨_, _, _, rfl, rfl, y3.chain (by omega) a3 agC2 agM2 bw2⟩
    by_cases h60 : byt T len (skip T len p') = 60
    · have hlt := byt_lt (a := 60) h60 (by decide)
      rw [if_pos h60, if_pos h60, if_pos h60]
      exact step 60 3 (by unfold SG; simp) (by decide) h60 hlt
    · rw [if_neg h60, if_neg h60]
      by_cases h61 : byt T len (skip T len p') = 61
      · have hlt := byt_lt (a := 61) h61 (by decide)
        rw [if_pos h61, if_pos h61, if_neg h60]
        exact step 61 4 (by unfold SG; simp) (by decide) h61 hlt
      · rw [if_neg h61, if_neg h61]
        exact ⟨_, _, _, rfl, rfl, Or.inl ⟨skip T len p', cnt', h1, by omega, a3, a4, a5, a6, a7.tr agCp a3, a8.tr agMp a3, a9.upd nbS5, fun z => (a10 z).tr (AgB.upd nbS5)⟩⟩
  · rw [if_pos rfl, if_neg a2.not0]
    exact ⟨_, _, _, rfl, rfl, Or.inr ⟨rfl, a2, a3, a4⟩⟩
end XT
/-- with a fault behind it, an expression of the reference looks for the next byte, no more -/
theorem x_bad {T : Nat → Nat} {len n d : Nat} (hT : TapeT T len) (hn : 800 ≤ n) (hd : 1 ≤ d) : FEX T len (M_expression n d) := by
  intro m p h1 h2 h3 h4
  obtain ⟨d, rfl⟩ : ∃ e, d = e + 1 := ⟨d - 1, by omega⟩
  have h0 : ¬ gI m 10 0 3 = 0 := fun z => h1 (by rw [z]; decide)
  have h0' : ¬ gI (sI m 10 0 5 (nI (skip T len p))) 10 0 3 = 0 := by rw [gn_I (by decide)]; exact h0
  have h1' : ¬ gI (sI m 10 0 5 (nI (skip T len p))) 10 0 3 ≤ 0 := by rw [gn_I (by decide)]; exact h1
  have hk : n = (n - 1) + 1 := by omega
  have f : M_factor (M_expression n d) n m = some (sI m 10 0 5 (nI (skip T len p))) := by
    rw [M_factor, m_next hT h2 h3 h4 hn, bd_s]
    dsimp only
    rw [if_neg h1']
  have t : M_term (M_expression n d) n m = some (sI m 10 0 5 (nI (skip T len p))) := by
    have l2 : M_term_L4 n (M_expression n d) n (sI m 10 0 5 (nI (skip T len p))) = some (sI m 10 0 5 (nI (skip T len p))) := by
      rw [hk, M_term_L4, if_neg h0']
    rw [M_term, f, bd_s, l2, bd_s]
  have s : M_sum (M_expression n d) n m = some (sI m 10 0 5 (nI (skip T len p))) := by
    have l2 : M_sum_L4 n (M_expression n d) n (sI m 10 0 5 (nI (skip T len p))) = some (sI m 10 0 5 (nI (skip T len p))) := by
      rw [hk, M_sum_L4, if_neg h0']
    rw [M_sum, t, bd_s, l2, bd_s]
  rw [M_expression, M_expression_b, s, bd_s, if_neg h0']
/-- expressions answer alike, at every depth that the brackets leave -/
theorem x_all {T : Nat → Nat} {len q n : Nat} (hT : TapeT T len) (hq : q < 2) (hn : 800 ≤ n) : ∀ d : Nat, EXP T len q n (22 - d) (Tr_expression n d) (M_expression n d) := by
  intro d
  induction d with
  | zero =>
    intro c m w p cnt br B h hb
    have := h.2.2.2.1.2.2
    omega
  | succ d ih =>
    intro c m w p cnt br B h hb
    have hb20 := h.2.2.2.1.2.2
    rw [Tr_expression, M_expression]
    exact x_expr hT hq hn ih (x_bad hT hn (by omega)) (by omega) h
