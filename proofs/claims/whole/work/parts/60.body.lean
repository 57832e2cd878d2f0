/-! ===== PURE: statements: bodies ===== -/
/-- statements at a depth answer alike -/
def STS (T : Nat → Nat) (len q n d : Nat) : Prop := ∀ (c0 m0 c m : Mem) (p cnt bc B J K h wf wc : Nat) (lab : Nat → Nat ⊕ Nat) (rk : Nat → Nat) (op : Bool), SR T len q n c0 m0 c m p cnt bc B J K h wf wc lab rk op → 12 ≤ bc + d →
  ∃ r c' m', Tr_statements n d c = some (r, c') ∧ M_statements n d m = some m' ∧ OUT T len q n c0 m0 c m p cnt bc B J K h wf wc (700 + 3 * d) lab op 0 r c' m'
theorem m_stBad {n d : Nat} {g : Mem} (hn : 1 ≤ n) (hd : 1 ≤ d) (hf : ¬ gI g 10 0 3 = 0) : M_statements n d g = some g := by
  obtain ⟨d, rfl⟩ : ∃ e, d = e + 1 := ⟨d - 1, by omega⟩
  have hk : n = (n - 1) + 1 := by omega
  have l0 : M_statements_L0 n (M_statements n d) n g = some g := by
    rw [hk, M_statements_L0, if_neg hf]
  rw [M_statements, M_statements_b, l0, bd_s]
def inJ (rc : Mem → Option Mem) (n : Nat) (g : Mem) : Option Mem := (M_want n 123 g).bind fun g5 => (rc (sI g5 10 0 7 (gI g5 10 0 7 + 1))).bind fun g7 => (M_want n 125 g7).bind fun g8 => some (sI g8 10 0 7 (gI g8 10 0 7 - 1))
theorem m_in {rc : Mem → Option Mem} {n : Nat} {g : Mem} : M_inBraces rc n g = if gI g 10 0 3 = 0 then (M_next n g).bind fun z2 => if z2.1 = 123 then if gI z2.2 10 0 7 = 10 then (M_fail n 3 (gI z2.2 10 0 5) z2.2).bind fun g3 => inJ rc n g3 else inJ rc n z2.2 else inJ rc n z2.2 else inJ rc n g := rfl
theorem inJ_bad {n d : Nat} {g : Mem} (hn : 1 ≤ n) (hd : 1 ≤ d) (hf : ¬ gI g 10 0 3 = 0) : inJ (M_statements n d) n g = some (sI (sI g 10 0 7 (gI g 10 0 7 + 1)) 10 0 7 (gI (sI g 10 0 7 (gI g 10 0 7 + 1)) 10 0 7 - 1)) := by
  have h1 : ¬ gI (sI g 10 0 7 (gI g 10 0 7 + 1)) 10 0 3 = 0 := by rw [gn_I (by decide)]; exact hf
  rw [inJ, m_wantBad hf, bd_s, m_stBad hn hd h1, bd_s, m_wantBad h1, bd_s]
section SBD
variable {T : Nat → Nat} {len q n x : Nat} {c0 m0 c m : Mem} {p cnt bc B J K h wf wc W : Nat} {lab : Nat → Nat ⊕ Nat} {rk : Nat → Nat} {op : Bool}
theorem SP.ag {c1 m1 c2 m2 c' m' : Mem} {B' J' K' h' : Nat} {lab' : Nat → Nat ⊕ Nat} {op' : Bool} (hs : SP q c1 m1 B J K h wf lab op c2 m2 B' J' K' h' lab' op') (e1 : ∀ b s, sd c1 q b s = sd c q b s) (e2 : ∀ j, gI c1 21 0 j = gI c 21 0 j) (e3 : ∀ k, k < wf → gI m1 123 0 k = gI m 123 0 k) (e4 : ∀ b s, sd c' q b s = sd c2 q b s) (e5 : ∀ j, gI c' 21 0 j = gI c2 21 0 j) (e6 : ∀ k, k < wf → gI m' 123 0 k = gI m2 123 0 k) : SP q c m B J K h wf lab op c' m' B' J' K' h' lab' op' := by
  obtain ⟨a1, a2, a3, a4, a5, a6, a7, a8, a9, a10⟩ := hs
  refine ⟨a1, a2, a3, a4, fun b hb ho s hs => ?_, fun b s j hs ho hb hj e => a6 b s j hs ho hb hj ((e4 b s).symm.trans e), fun k hk => (e6 k hk).trans ((a7 k hk).trans (e3 k hk)), a8, a9, fun j hj z => ?_⟩
  · rw [e4, a5 b hb ho s hs, e1]
  · rw [e5, a10 j hj (by rw [e2]; exact z), e2]
theorem EH.pos {p' : Nat} (he : EH T len q c m p cnt) (hp : p' ≤ len) : EH T len q (sI c 5 0 1 (nI p')) (sI m 10 0 5 (nI p')) p' cnt := by
  obtain ⟨h1, h2, h3, h4, h5, h6⟩ := he
  exact ⟨h1, ⟨gs_I _ _ _ _ _, gs_I _ _ _ _ _, hp⟩, h3, h4, h5, h6⟩
theorem FLS.mk0 {f z : Nat} (he : EH T len q c m p cnt) (hs : SafeM m wf W) (hfr : FrC q c0 c ∧ FrM m0 m) (hf : 1 ≤ f ∧ f < 4) (hz : z ≤ len) : FLS T len q c0 m0 (sI (sI c 7 0 5 (nI f)) 7 0 6 (nI z)) (sI (sI m 10 0 3 (nI f)) 10 0 4 (nI z)) wf W := by
  obtain ⟨⟨h1, h1'⟩, ⟨h2, h2', h2l⟩, h3, h4, h5, h6⟩ := he
  refine ⟨⟨f, hf.2, hf.1, ?_, ?_⟩, ⟨z, hz, gs_I _ _ _ _ _, gs_I _ _ _ _ _⟩, h1', ⟨p, h2l, h2'⟩, (hs.agB (AgB.upd nbS3)).agB (AgB.upd nbS4), (hfr.1.tr (FrC.upd (by omega))).tr (FrC.upd (by omega)), (hfr.2.tr (FrM.upd (by decide))).tr (FrM.upd (by decide))⟩
  · rw [gn_I (by decide), gs_I]
  · rw [gn_I (by decide), gs_I]
theorem FLS.upd7 {v : Int32} (hf : FLS T len q c0 m0 c m wf W) : FLS T len q c0 m0 c (sI m 10 0 7 v) wf W := by
  obtain ⟨a1, a2, a3, a4, a5, a6, a7⟩ := hf
  exact ⟨a1, a2, a3, a4, a5.agB (AgB.upd nbS7), a6, a7.tr (FrM.upd (by decide))⟩
theorem SR.close {p' : Nat} (hS : SR T len q n c0 m0 c m p cnt (bc + 1) B J K h wf wc lab rk op) (h1 : p + 1 ≤ p') (h2 : p' ≤ len) : SR T len q n c0 m0 (sI (sI c 5 0 1 (nI p')) 7 0 3 (nI bc)) (sI (sI m 10 0 5 (nI p')) 10 0 7 (nI bc)) p' cnt bc B J K h wf wc lab rk op := by
  obtain ⟨a1, a2, a3, a4, a5, a6, a7, a8, a9, ⟨a10, a11⟩, a12, a13⟩ := hS
  refine ⟨a1, ⟨?_, ?_, h2⟩, a3, a4, ⟨gs_I _ _ _ _ _, gs_I _ _ _ _ _, by omega⟩, a6, a7, (a8.ag (AgBC.upd (Or.inr (Or.inl rfl))) (AgB.upd nbS5)).ag (AgBC.upd (Or.inr (Or.inr rfl))) (AgB.upd nbS7), (a9.same (fun k i j z => gn_I (by omega)) (fun k i j z1 z2 => gn_I (by omega))).same (fun k i j z => gn_I (by omega)) (fun k i j z1 z2 => gn_I (by omega)), ⟨(a10.tr (FrC.upd (by omega))).tr (FrC.upd (by omega)), (a11.tr (FrM.upd (by decide))).tr (FrM.upd (by decide))⟩, ⟨by omega, by omega, by omega⟩, a13⟩
  · rw [gn_I (by decide), gs_I]
  · rw [gn_I (by decide), gs_I]
theorem s_body {t d : Nat} (hT : TapeT T len) (hn : 2000 ≤ n) (ih : STS T len q n d) (hd1 : 1 ≤ d) (hd : 11 ≤ bc + d) (he : EH T len q c m p cnt) (hb : gI c 7 0 3 = nI bc ∧ gI m 10 0 7 = nI bc ∧ bc ≤ 10) (hx : BN (stnd c t) m q B J K t wf wc lab rk) (ho : OPS c m q cnt B false (fun _ => False)) (hfr : FrC q c0 c ∧ FrM m0 m) (hnum : 4 * B ≤ p + 1 ∧ 5 * (J - 1) ≤ 2 * (p + 1 + (bc + 1)) ∧ wc ≤ p) :
    ∃ r c' m', Tr_body (Tr_statements n d) n (nI t) c = some (r, c') ∧ M_inBraces (M_statements n d) n m = some m' ∧
      ((r = 1 ∧ ∃ p' cnt' B' J' K' h' wc' lab' rk' op', SR T len q n c0 m0 c' m' p' cnt' bc B' J' K' h' wf wc' lab' rk' op' ∧ SP q c m B J K t wf lab false c' m' B' J' K' h' lab' op' ∧ p + 2 ≤ p' ∧ cnt ≤ cnt' ∧ p + wc' + 2 ≤ p' + wc) ∨ (r = 0 ∧ FLS T len q c0 m0 c' m' wf (700 + 3 * d))) := by
  have hlen := hT.1
  have hn8 : 800 ≤ n := by omega
  have ple := he.2.1.2.2
  have hp := skip_ge T len p
  have hpl := skip_le (T := T) ple
  have safe : SafeM m wf (700 + 3 * d) := BX.safe (Or.inr ⟨rfl, hx⟩ : BX (stnd c t) m q B J K t wf wc lab rk false) (by omega)
  have he1 := he.pos hpl
  have safe1 : SafeM (sI m 10 0 5 (nI (skip T len p))) wf (700 + 3 * d) := safe.agB (AgB.upd nbS5)
  have hfr1 : FrC q c0 (sI c 5 0 1 (nI (skip T len p))) ∧ FrM m0 (sI m 10 0 5 (nI (skip T len p))) := ⟨hfr.1.tr (FrC.upd (by omega)), hfr.2.tr (FrM.upd (by decide))⟩
  rw [Tr_body, m_in, r_meets hT he.1.1 he.2.1.1 ple hn8, if_pos he.2.2.1, m_next hT he.1.2 he.2.1.2.1 ple hn8, bd_s, bd_s]
  dsimp only
  by_cases hA : byt T len (skip T len p) = 123
  · have hlt := byt_lt (a := 123) hA (by decide)
    rw [if_pos hA, if_pos hA]
    dsimp only
    have b1 : gI (sI c 5 0 1 (nI (skip T len p))) 7 0 3 = nI bc := hb.1
    have b2 : gI (sI m 10 0 5 (nI (skip T len p))) 10 0 7 = nI bc := hb.2.1
    have e10 : (nI bc = (10 : Int32)) = (bc = 10) := q_eq (b := 10) (by omega) (by decide)
    rw [if_neg (by decide), b1, b2]
    simp only [e10]
    by_cases hz : bc = 10
    · rw [if_pos hz, if_pos hz, Tr_refuseHere, Tr_refuse, M_fail, if_pos he1.2.2.1, he1.2.1.1, he1.2.1.2.1]
      simp only [lt9, bd_s]
      have fls := FLS.mk0 (f := 3) (z := skip T len p) he1 safe1 hfr1 (by decide) hpl
      have ib := inJ_bad (n := n) (d := d) (by omega) hd1 fls.not0
      rw [if_pos (Or.inl True.intro), bd_s]
      dsimp only
      rw [if_pos (Or.inl rfl), show inJ (M_statements n d) n (sI (sI (sI m 10 0 5 (nI (skip T len p))) 10 0 3 3) 10 0 4 (nI (skip T len p))) = _ from ib]
      exact ⟨_, _, _, rfl, rfl, Or.inr ⟨rfl, fls.upd7.upd7⟩⟩
    · rw [if_neg hz, if_neg hz, inJ]
      simp only [lt9, Rd_pass, bd_s]
      rw [m_want hT he1.2.2.1 he1.1.2 he1.2.1.2.1 hpl hn8, skip_idem, if_pos hA, bd_s, sI_sI]
      have p1 : gI (sI (sI c 5 0 1 (nI (skip T len p))) 7 0 3 (nI bc + 1)) 5 0 1 = nI (skip T len p) := he1.2.1.1
      have b3 : gI (sI m 10 0 5 (nI (skip T len p + 1))) 10 0 7 = nI bc := hb.2.1
      rw [p1, b3, show nI (skip T len p) + 1 = nI (skip T len p + 1) from nI_1 _, show nI bc + 1 = nI (bc + 1) from nI_1 _, r_stand, bd_s]
      have bag : AgBC (stnd c t) (stnd (sI (sI (sI c 5 0 1 (nI (skip T len p))) 7 0 3 (nI (bc + 1))) 5 0 1 (nI (skip T len p + 1))) t) := AgBC.stndF (((AgBC.upd (by omega)).tr (AgBC.upd (by omega))).tr (AgBC.upd (by omega)))
      have frc : FrC q c (stnd (sI (sI (sI c 5 0 1 (nI (skip T len p))) 7 0 3 (nI (bc + 1))) 5 0 1 (nI (skip T len p + 1))) t) := (((FrC.upd (by omega)).tr (FrC.upd (by omega))).tr (FrC.upd (by omega))).tr FrC.stndF
      have frm : FrM m (sI (sI m 10 0 5 (nI (skip T len p + 1))) 10 0 7 (nI (bc + 1))) := (FrM.upd (by decide)).tr (FrM.upd (by decide))
      have hS : SR T len q n c0 m0 (stnd (sI (sI (sI c 5 0 1 (nI (skip T len p))) 7 0 3 (nI (bc + 1))) 5 0 1 (nI (skip T len p + 1))) t) (sI (sI m 10 0 5 (nI (skip T len p + 1))) 10 0 7 (nI (bc + 1))) (skip T len p + 1) cnt (bc + 1) B J K t wf wc lab rk false := by
        refine ⟨he.1, ⟨?_, ?_, by omega⟩, he.2.2.1, he.2.2.2.1, ⟨?_, gs_I _ _ _ _ _, by omega⟩, he.2.2.2.2.1, he.2.2.2.2.2, BX.ag (Or.inr ⟨rfl, hx⟩) bag ((AgB.upd nbS5).tr (AgB.upd nbS7)), ?_, ⟨hfr.1.tr frc, hfr.2.tr frm⟩, ⟨by omega, by omega, by omega⟩, hx.2.1.2.1⟩
        · rw [stndO (by decide), gs_I]
        · rw [gn_I (by decide), gs_I]
        · rw [stndO (by decide), gn_I (by decide), gs_I]
        · refine ho.same (fun k i j z => ?_) (fun k i j z1 z2 => ?_)
          · rw [stndO (by omega), gn_I (by omega), gn_I (by omega), gn_I (by omega)]
          · rw [gn_I (by omega), gn_I (by omega)]
      have esd : ∀ b s, sd (stnd (sI (sI (sI c 5 0 1 (nI (skip T len p))) 7 0 3 (nI (bc + 1))) 5 0 1 (nI (skip T len p + 1))) t) q b s = sd c q b s := fun b s => by
        unfold sd
        rw [stndO (by omega), gn_I (by omega), gn_I (by omega), gn_I (by omega)]
      have e21 : ∀ j, gI (stnd (sI (sI (sI c 5 0 1 (nI (skip T len p))) 7 0 3 (nI (bc + 1))) 5 0 1 (nI (skip T len p + 1))) t) 21 0 j = gI c 21 0 j := fun j => by
        rw [stndO (by omega), gn_I (by omega), gn_I (by omega), gn_I (by omega)]
      have e123 : ∀ k, k < wf → gI (sI (sI m 10 0 5 (nI (skip T len p + 1))) 10 0 7 (nI (bc + 1))) 123 0 k = gI m 123 0 k := fun k _ => by
        rw [gn_I (by omega), gn_I (by omega)]
      obtain ⟨r, c2, m2, x1, x2, x3⟩ := ih _ _ _ _ _ _ _ _ _ _ _ _ _ _ _ _ hS (by omega)
      generalize stnd (sI (sI (sI c 5 0 1 (nI (skip T len p))) 7 0 3 (nI (bc + 1))) 5 0 1 (nI (skip T len p + 1))) t = cS at *
      generalize sI (sI m 10 0 5 (nI (skip T len p + 1))) 10 0 7 (nI (bc + 1)) = mS at *
      rw [x1, x2, bd_s, bd_s]
      dsimp only
      rcases x3 with ⟨rfl, p2, cnt2, B2, J2, K2, h2, wc2, lab2, rk2, op2, y1, y2, y3, y4, y5⟩ | ⟨rfl, f2⟩
      · have p2le := y1.2.1.2.2
        have hp2 := skip_ge T len p2
        have hpl2 := skip_le (T := T) p2le
        rw [if_neg (by decide), r_passes hT y1.1.1 y1.2.1.1 p2le hn8, m_want hT y1.2.2.1 y1.1.2 y1.2.1.2.1 p2le hn8, bd_s, bd_s]
        by_cases hC : byt T len (skip T len p2) = 125
        · have hlt2 := byt_lt (a := 125) hC (by decide)
          rw [if_pos hC, if_pos hC]
          dsimp only
          have b5 : gI (sI c2 5 0 1 (nI (skip T len p2 + 1))) 7 0 3 = nI (bc + 1) := y1.2.2.2.2.1.1
          have b6 : gI (sI m2 10 0 5 (nI (skip T len p2 + 1))) 10 0 7 = nI (bc + 1) := y1.2.2.2.2.1.2.1
          rw [if_neg (by decide), b5, b6, show nI (bc + 1) - 1 = nI bc from nI_pred _]
          refine ⟨_, _, _, rfl, rfl, Or.inl ⟨rfl, skip T len p2 + 1, cnt2, B2, J2, K2, h2, wc2, lab2, rk2, op2, y1.close (by omega) (by omega), ?_, by omega, y4, by omega⟩⟩
          refine y2.ag esd e21 e123 (fun b s => ?_) (fun j => ?_) (fun k hk => ?_)
          · unfold sd
            rw [gn_I (by omega), gn_I (by omega)]
          · rw [gn_I (by omega), gn_I (by omega)]
          · rw [gn_I (by omega), gn_I (by omega)]
        · rw [if_neg hC, if_neg hC]
          dsimp only
          rw [if_pos rfl]
          have hS2 := y1.pos hp2 hpl2
          have fls := FLS.mk0 (f := 1) (z := skip T len p2) (W := 700 + 3 * d) ⟨hS2.1, hS2.2.1, hS2.2.2.1, hS2.2.2.2.1, hS2.2.2.2.2.2.1, hS2.2.2.2.2.2.2.1⟩ (hS2.2.2.2.2.2.2.2.1.safe (by have := hS2.2.2.2.2.2.2.2.2.2.2.1.2.2; omega)) hS2.2.2.2.2.2.2.2.2.2.1 (by decide) hpl2
          exact ⟨_, _, _, rfl, rfl, Or.inr ⟨rfl, fls.upd7⟩⟩
      · rw [if_pos rfl, m_wantBad f2.not0, bd_s]
        exact ⟨_, _, _, rfl, rfl, Or.inr ⟨rfl, f2.upd7⟩⟩
  · rw [if_neg hA, if_neg hA]
    dsimp only
    rw [if_pos rfl]
    have fls := FLS.mk0 (f := 1) (z := skip T len p) he1 safe1 hfr1 (by decide) hpl
    have hw : M_want n 123 (sI m 10 0 5 (nI (skip T len p))) = some (sI (sI (sI m 10 0 5 (nI (skip T len p))) 10 0 3 (nI 1)) 10 0 4 (nI (skip T len p))) := by
      rw [m_want hT he1.2.2.1 he1.1.2 he1.2.1.2.1 hpl hn8, skip_idem, if_neg hA, sI_sI]
      rfl
    rw [inJ, hw, bd_s, m_stBad (by omega) hd1 fls.upd7.not0, bd_s, m_wantBad fls.upd7.not0, bd_s]
    exact ⟨_, _, _, rfl, rfl, Or.inr ⟨rfl, fls.upd7.upd7⟩⟩
end SBD
