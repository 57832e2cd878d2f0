/-! ===== PURE: statements ===== -/
section SS
variable {T : Nat → Nat} {len q n x : Nat} {c0 m0 c m : Mem} {p cnt bc B J K h wf wc W : Nat} {lab : Nat → Nat ⊕ Nat} {rk : Nat → Nat} {op : Bool}
theorem OUT.mono {s s' W' : Nat} {r : Int32} {c' m' : Mem} (ho : OUT T len q n c0 m0 c m p cnt bc B J K h wf wc W lab op s r c' m') (hs : s' ≤ s) (hW : W ≤ W') : OUT T len q n c0 m0 c m p cnt bc B J K h wf wc W' lab op s' r c' m' := by
  rcases ho with ⟨ho, p', cnt', B', J', K', h', wc', lab', rk', op', x1, x2, x3, x4, x5⟩ | ⟨ho, hf⟩
  · exact Or.inl ⟨ho, p', cnt', B', J', K', h', wc', lab', rk', op', x1, x2, by omega, x4, x5⟩
  · exact Or.inr ⟨ho, hf.mono hW⟩
theorem OUT.r01 {s : Nat} {r : Int32} {c' m' : Mem} (ho : OUT T len q n c0 m0 c m p cnt bc B J K h wf wc W lab op s r c' m') : r = 0 ∨ r = 1 := ho.elim (fun z => Or.inr z.1) (fun z => Or.inl z.1)
theorem s_statement {d : Nat} (hT : TapeT T len) (hq : q < 2) (hn : 2000 ≤ n) (ih : STS T len q n d) (hd1 : 1 ≤ d) (hd2 : d ≤ 20) (hd : 11 ≤ bc + d) (hS : SR T len q n c0 m0 c m p cnt bc B J K h wf wc lab rk op) (hp : skip T len p = p) (hl : isL T len p) :
    ∃ r c' m', Tr_statement (Tr_statements n d) n c = some (r, c') ∧ OUT T len q n c0 m0 c m p cnt bc B J K h wf wc (700 + 3 * (d + 1)) lab op 1 r c' m' ∧
      ∀ K : Mem → Option Mem, (if nI (wd T len p) = 4 then (M_assignment n m).bind fun g10 => K g10 else if nI (wd T len p) = 5 then (M_writing n m).bind fun g9 => K g9 else if nI (wd T len p) = 1 then (M_choice (M_statements n d) n m).bind fun g8 => K g8 else if nI (wd T len p) = 3 then (M_loop (M_statements n d) n m).bind fun g7 => K g7 else (M_fail n 1 (gI m 10 0 5) m).bind fun g6 => K g6) = K m' := by
  have hlen := hT.1
  have hn8 : 800 ≤ n := by omega
  have ple := hS.2.1.2.2
  have hwd := wd_le (T := T) (len := len) (p := p)
  have hinv := hS.2.2.2.2.2.2.2.2.2.2.1
  have sw : ∀ w, w < 4 → Rd_seesWord n w c = some (if wd T len p = wof w then 1 else 0, c) := fun w hw => by
    rw [r_seesWord hT hS.1.1 hS.2.1.1 ple hn8 hw, hp, sI_same hS.2.1.1]
  have sv : Rd_seenVariable n c = some (if wd T len p = 4 then nI (T p - 97) else -1, c) := by
    rw [r_seenVariable hT hS.1.1 hS.2.1.1 ple hn8, hp, sI_same hS.2.1.1]
  have ev : ∀ k, k < 6 → (nI (wd T len p) = nI k) = (wd T len p = k) := fun k hk => q_eq (by omega) (by omega)
  have e4 : (nI (wd T len p) = 4) = (wd T len p = 4) := ev 4 (by decide)
  have e5 : (nI (wd T len p) = 5) = (wd T len p = 5) := ev 5 (by decide)
  have e1 : (nI (wd T len p) = 1) = (wd T len p = 1) := ev 1 (by decide)
  have e3 : (nI (wd T len p) = 3) = (wd T len p = 3) := ev 3 (by decide)
  have hlet := lets_le (T := T) ple
  simp only [e4, e5, e1, e3]
  rw [Tr_statement, sw 0 (by decide), bd_s]
  dsimp only
  by_cases h1 : wd T len p = 1
  · obtain ⟨r, c', m', x1, x2, x3⟩ := s_if hT hq hn ih hd1 hd2 hd hS (by have := wd_len.1 h1; omega)
    rw [if_pos (show wd T len p = wof 0 from h1), if_neg (by decide), x1, bd_s]
    dsimp only
    rw [if_pos x3.r01]
    refine ⟨_, _, m', rfl, x3, fun K => ?_⟩
    rw [if_neg (by omega), if_neg (by omega), if_pos h1, x2, bd_s]
  · rw [if_neg (show ¬ wd T len p = wof 0 from h1), if_pos rfl, sw 1 (by decide), bd_s]
    dsimp only
    by_cases h3 : wd T len p = 3
    · obtain ⟨r, c', m', x1, x2, x3⟩ := s_while hT hq hn ih hd1 hd2 hd hS (by have := wd_len.2.2.1 h3; omega)
      rw [if_pos (show wd T len p = wof 1 from h3), if_neg (by decide), x1, bd_s]
      dsimp only
      rw [if_pos x3.r01]
      refine ⟨_, _, m', rfl, x3, fun K => ?_⟩
      rw [if_neg (by omega), if_neg (by omega), if_neg h1, if_pos h3, x2, bd_s]
    · rw [if_neg (show ¬ wd T len p = wof 1 from h3), if_pos rfl, sw 2 (by decide), bd_s]
      dsimp only
      by_cases h5 : wd T len p = 5
      · obtain ⟨r, c', m', x1, x2, x3⟩ := s_write (W := 700 + 3 * (d + 1)) hT hq hn hS hl.1 (by omega)
        rw [if_pos (show wd T len p = wof 2 from h5), if_neg (by decide), x1, bd_s]
        dsimp only
        rw [if_pos x3.r01]
        refine ⟨_, _, m', rfl, x3.mono (by decide) (Nat.le_refl _), fun K => ?_⟩
        rw [if_neg (by omega), if_pos h5, x2, bd_s]
      · rw [if_neg (show ¬ wd T len p = wof 2 from h5), if_pos rfl, sv, bd_s]
        dsimp only
        by_cases h4 : wd T len p = 4
        · have hv := (wd_var.mp h4).2
          have h97 := hl.2.1
          obtain ⟨r, c', m', x1, x2, x3⟩ := s_assign (a := T p - 97) (W := 700 + 3 * (d + 1)) hT hq hn hS hp hl.1 (by omega) (by omega) (by omega)
          rw [if_pos h4, if_neg (nI_nm (by omega)), x1, bd_s]
          dsimp only
          rw [if_pos x3.r01]
          refine ⟨_, _, m', rfl, x3.mono (by decide) (Nat.le_refl _), fun K => ?_⟩
          rw [if_pos h4, x2, bd_s]
        · rw [if_neg h4, if_pos rfl, Tr_refuseHere, Tr_refuse]
          simp only [lt9, bd_s]
          rw [if_pos (by decide), bd_s]
          dsimp only
          rw [if_pos (by decide), hS.2.1.1]
          have fls := FLS.mk0 (f := 1) (z := p) (W := 700 + 3 * (d + 1)) ⟨hS.1, hS.2.1, hS.2.2.1, hS.2.2.2.1, hS.2.2.2.2.2.1, hS.2.2.2.2.2.2.1⟩ (hS.2.2.2.2.2.2.2.1.safe (by omega)) hS.2.2.2.2.2.2.2.2.2.1 (by decide) ple
          refine ⟨_, _, _, rfl, Or.inr ⟨rfl, fls⟩, fun K => ?_⟩
          rw [if_neg h4, if_neg h5, if_neg h1, if_neg h3, M_fail, if_pos hS.2.2.1, hS.2.1.2.1]
          rfl
theorem s_loop {d : Nat} {cS mS : Mem} {pS cntS BS JS KS hS0 wcS : Nat} {labS : Nat → Nat ⊕ Nat} {opS : Bool} (hT : TapeT T len) (hq : q < 2) (hn : 2000 ≤ n) (ih : STS T len q n d) (hd1 : 1 ≤ d) (hd2 : d ≤ 20) (hd : 11 ≤ bc + d) (href : ∀ j t, j < JS → labS j = .inr t → t < JS) (hh : hS0 < JS) : ∀ (k t p cnt B J K h wc : Nat) (lab : Nat → Nat ⊕ Nat) (rk : Nat → Nat) (op : Bool) (c m : Mem), SR T len q n c0 m0 c m p cnt bc B J K h wf wc lab rk op → SP q cS mS BS JS KS hS0 wf labS opS c m B J K h lab op → pS ≤ p → cntS ≤ cnt → pS + wc ≤ p + wcS → t ≤ p → len - p < k →
    ∃ z c' m', Tr_statements_L2 n (Tr_statements n d) k (nI t) c = some (if z = 1 then .inr c' else .inl c') ∧ M_statements_L0 n (M_statements n d) k m = some m' ∧ OUT T len q n c0 m0 cS mS pS cntS bc BS JS KS hS0 wf wcS (700 + 3 * (d + 1)) labS opS 0 z c' m' := by
  have hlen := hT.1
  have hn8 : 800 ≤ n := by omega
  intro k
  induction k with
  | zero => intro t p cnt B J K h wc lab rk op c m a1 a2 a3 a4 a5 a6 a7; omega
  | succ k ihk =>
    intro t p cnt B J K h wc lab rk op c m hS hP g1 g2 g3 g4 g5
    have ple := hS.2.1.2.2
    have hp := skip_ge T len p
    have hpl := skip_le (T := T) ple
    have e7 : ((700 : Int32) ≤ nI t) = (700 ≤ t) := q_le (a := 700) (by decide) (by omega)
    have S1 := hS.pos hp hpl
    have P1 : SP q cS mS BS JS KS hS0 wf labS opS (sI c 5 0 1 (nI (skip T len p))) (sI m 10 0 5 (nI (skip T len p))) B J K h lab op := hP.tr href hh (SP.rf hS.2.2.2.2.2.2.2.1 (AgBC.upd (Or.inr (Or.inl rfl))) (fun k hk => gn_I (by omega)))
    have done : OUT T len q n c0 m0 cS mS pS cntS bc BS JS KS hS0 wf wcS (700 + 3 * (d + 1)) labS opS 0 1 (sI c 5 0 1 (nI (skip T len p))) (sI m 10 0 5 (nI (skip T len p))) := Or.inl ⟨rfl, skip T len p, cnt, B, J, K, h, wc, lab, rk, op, S1, P1, by omega, g2, by omega⟩
    rw [Tr_statements_L2, M_statements_L0, if_pos hS.2.2.1, m_next hT hS.1.2 hS.2.1.2.1 ple hn8, bd_s]
    simp only [e7]
    rw [m_isL hT, bd_s]
    by_cases h7 : 700 ≤ t
    · have hpe : p = len := by omega
      have hs : skip T len p = p := skip_end (by omega)
      have nl : zL T len (skip T len p) = 0 := zL_0.mpr (fun z => by have := z.1; omega)
      rw [if_pos h7, if_pos nl]
      refine ⟨1, _, _, ?_, rfl, done⟩
      rw [if_pos rfl, hs, sI_same hS.2.1.1]
    · rw [if_neg h7, r_seesLetter hT hS.1.1 hS.2.1.1 ple hn8, bd_s]
      dsimp only
      by_cases hz : zL T len (skip T len p) = 0
      · rw [if_pos hz, if_pos hz]
        exact ⟨1, _, _, by rw [if_pos rfl], rfl, done⟩
      · have hL : isL T len (skip T len p) := by
          by_cases y : isL T len (skip T len p)
          · exact y
          · exact absurd (zL_0.mpr y) hz
        have hlt := hL.1
        obtain ⟨r, c', m', x1, x2, x3⟩ := s_statement hT hq hn ih hd1 hd2 hd S1 skip_idem hL
        rw [if_neg hz, if_neg hz, x1, bd_s, m_word hT S1.1.2 S1.2.1.2.1 hpl hn8, bd_s, skip_idem, sI_sI]
        dsimp only
        rw [x3 (fun g => M_statements_L0 n (M_statements n d) k g)]
        rcases x2 with ⟨rfl, p', cnt', B', J', K', h', wc', lab', rk', op', y1, y2, y3, y4, y5⟩ | ⟨rfl, f⟩
        · rw [if_neg (by decide), show nI t + 1 = nI (t + 1) from nI_1 _]
          exact ihk (t + 1) p' cnt' B' J' K' h' wc' lab' rk' op' c' m' y1 (P1.tr href hh y2) (by omega) (by omega) (by omega) (by omega) (by omega)
        · rw [if_pos rfl]
          obtain ⟨k, rfl⟩ : ∃ e, k = e + 1 := ⟨k - 1, by omega⟩
          refine ⟨0, c', m', by rw [if_neg (by decide)], ?_, Or.inr ⟨rfl, f⟩⟩
          rw [M_statements_L0, if_neg f.not0]
theorem s_all (hT : TapeT T len) (hq : q < 2) (hn : 2000 ≤ n) : ∀ d, d ≤ 21 → STS T len q n d := by
  intro d
  induction d with
  | zero =>
    intro _ c0 m0 c m p cnt bc B J K h wf wc lab rk op hS hb
    have := hS.2.2.2.2.1.2.2
    omega
  | succ d ih =>
    intro h21 c0 m0 c m p cnt bc B J K h wf wc lab rk op hS hb
    have hlen := hT.1
    have hbc := hS.2.2.2.2.1.2.2
    have ple := hS.2.1.2.2
    obtain ⟨z, c', m', x1, x2, x3⟩ := s_loop (cS := c) (mS := m) (pS := p) (cntS := cnt) (BS := B) (JS := J) (KS := K) (hS0 := h) (wcS := wc) (labS := lab) (opS := op) hT hq hn (ih (by omega)) (by omega) (by omega) (by omega) hS.ref hS.2.2.2.2.2.2.2.2.2.2.2 n 0 p cnt B J K h wc lab rk op c m hS (SP.rf hS.2.2.2.2.2.2.2.1 AgBC.rf (fun _ _ => rfl)) (Nat.le_refl _) (Nat.le_refl _) (Nat.le_refl _) (Nat.zero_le _) (by omega)
    rw [Tr_statements, M_statements, Tr_statements_b, M_statements_b]
    rw [nI_0] at x1
    rw [x1, x2, bd_s, bd_s]
    rcases x3.r01 with rfl | rfl
    · rw [if_neg (by decide)]
      exact ⟨_, _, _, rfl, rfl, x3⟩
    · rw [if_pos rfl]
      exact ⟨_, _, _, rfl, rfl, x3⟩
end SS
