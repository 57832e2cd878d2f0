/-! ===== PURE: laying: all blocks ===== -/
def tn (v : Int32) : Nat := v.toInt.toNat
theorem tn_n {s : Nat} (h : s < 2 ^ 31) : tn (nI s) = s := by
  unfold tn
  rw [nI_toInt h]
  exact Int.toNat_natCast s
theorem FrU.bl {c c' : Mem} {q b f e : Nat} (h : FrU c c' q f e) : FrBl c c' q b f e := ⟨fun a i j x1 x2 x3 x4 x5 => h.1 a i j (by omega), fun k i j _ => by unfold gR; rw [h.2], by unfold gL; rw [h.2]⟩
theorem FrG.bl {c c' : Mem} {q b f e : Nat} (h : FrG c c' q f e) : FrBl c c' q b f e := ⟨fun a i j x1 x2 x3 x4 x5 => h.1 a i j (by omega) x4, fun k i j _ => by unfold gR; rw [h.2], by unfold gL; rw [h.2]⟩
theorem uses_ag {c c' : Mem} {q i j : Nat} (fc : FrL c c') : uses c' q j i = uses c q j i := by
  unfold uses
  rw [fc.1 3 _ 3 (by omega) (by omega) (by decide) (by decide) (by omega), fc.1 3 _ 4 (by omega) (by omega) (by decide) (by decide) (by omega)]
theorem chosen_ag {c c' : Mem} {q b i : Nat} (fc : FrL c c') : chosen c' q b i = chosen c q b i := by
  unfold chosen
  rw [fc.1 0 _ 2 (by omega) (by omega) (by decide) (by decide) (by omega), fc.1 0 _ 3 (by omega) (by omega) (by decide) (by decide) (by omega)]
theorem HM.ag {c c' : Mem} {q b f g : Nat} {st : Nat → Nat} {cy H o : Nat} (fc : FrL c c') (h : HM c' q b f g st cy H o) : HM c q b f g st cy H o := by
  refine ⟨h.1, fun y => (h.2 y).trans ?_⟩
  rw [chosen_ag fc]
  simp only [uses_ag fc]
theorem HM.cg {c : Mem} {q b f g : Nat} {st st' : Nat → Nat} {cy H o : Nat} (e : ∀ j, f ≤ j → j < f + g → st j = st' j) (h : HM c q b f g st cy H o) : HM c q b f g st' cy H o := by
  refine ⟨h.1, fun y => (h.2 y).trans ⟨fun w => ⟨fun j j1 j2 hu => ?_, w.2⟩, fun w => ⟨fun j j1 j2 hu => ?_, w.2⟩⟩⟩
  · rw [← e j j1 j2]; exact w.1 j j1 j2 hu
  · rw [e j j1 j2]; exact w.1 j j1 j2 hu
theorem RS.cg {S S' : Nat → Prop} {en en' H H' rg : Nat → Nat} {o : Nat} (hS : ∀ j, S j ↔ S' j) (h : ∀ j, S j → en j = en' j ∧ H j = H' j) (ho : S o) (hr : RS S en H rg o) : RS S' en' H' rg o := by
  have e : ∀ r, clash S en H rg o r ↔ clash S' en' H' rg o r := fun r => by
    obtain ⟨o1, o2⟩ := h o ho
    constructor
    · rintro ⟨a, j, b1', b2, b3, b4⟩
      obtain ⟨j1, j2⟩ := h j b1'
      refine ⟨by rw [← o1, ← o2]; exact a, j, (hS j).mp b1', ?_, b3, by rw [← o1, ← j2]; exact b4⟩
      unfold bef at *
      rw [← o1, ← j1]; exact b2
    · rintro ⟨a, j, b1', b2, b3, b4⟩
      have b1'' := (hS j).mpr b1'
      obtain ⟨j1, j2⟩ := h j b1''
      refine ⟨by rw [o1, o2]; exact a, j, b1'', ?_, b3, by rw [o1, j2]; exact b4⟩
      unfold bef at *
      rw [o1, j1]; exact b2
  exact ⟨fun r hr' => (e r).mp (hr.1 r hr'), fun w => hr.2 ((e _).mpr w)⟩
/-- the registers of a block that is laid, in the class -/
def GB (c0 c : Mem) (q b f g : Nat) (L st : Nat → Nat) (cy : Nat) (H rg : Nat → Nat) : Prop := ∀ o, f ≤ o → o < f + g → HM c0 q b f g st cy (H o) o ∧ (fl c0 q o = true → gI c 3 (200 * q + o) 11 = nI (rg o) ∧ rg o < 200 ∧ RS (fun j => (f ≤ j ∧ j < f + g) ∧ fl c0 q j = true) (fun j => st j + L j) H rg o) ∧ (fl c0 q o = false → gI c 3 (200 * q + o) 11 = -1)
section LY
variable {n q cnt B b f g : Nat} {c m : Mem} {lat mn : Nat → Nat}
theorem lay_one (hn : 2000 ≤ n) (hq : q < 2) (hb : b < B) (hP : PR c m q cnt B) (hL : LatR c m lat mn) (hG : RG c q cnt b f g) :
    ∃ c1 c2 c3 c4 c5 c6 m2 st cy H rg, Ly_prepare n q (175 * q + b) c = some c1 ∧ Ly_measureHeights n q (175 * q + b) c1 = some c2 ∧ Ly_rank n q (175 * q + b) c2 = some c3 ∧ Ly_beginAll n q (175 * q + b) c3 = some c4 ∧ Ly_noteUses n q (175 * q + b) c4 = some c5 ∧ Ly_bindRegisters n q (175 * q + b) c5 = some c6 ∧ M_layBlock n (nI b) m = some m2 ∧ LB c6 m2 q b f g (lt_ c q lat) st cy ∧ GB c c6 q b f g (lt_ c q lat) st cy H rg ∧ FrBl c c6 q b f (f + g) ∧ FrBlM m m2 b f (f + g) := by
  have hcnt := hP.1.2.2.2.2.1
  have hB := hP.1.2.2.2.2.2
  have hfg := hG.2.2.1
  obtain ⟨c1, c2, c3, c4, m2, st, cy, a1, a2, a3, a4, a5, a6, a7, a8, a9, a10⟩ := lay_block hn hq (show b < 175 by omega) hP hL hG
  obtain ⟨⟨k1, k2, k3, k4⟩, k5⟩ := a6
  have hP4 := hP.ag a9.fl FrLM.rf
  have hG4 := hG.ag a9.fl
  obtain ⟨c5, b1', b2, b3⟩ := r_note (n := n) (cy := cy) (st := st) hn hq hb hP4 hG4 (fun o h1 h2 => ⟨(k5 o h1 h2).1, by have := (k5 o h1 h2).2.2.1; omega⟩) ⟨k1, k3, k4⟩ (fun o h1 h2 => (a7 o h1 h2).2)
  obtain ⟨H, hH⟩ := Classical.axiomOfChoice (fun o => show ∃ H, f ≤ o → o < f + g → gI c5 3 (200 * q + o) 14 = pm H ∧ HM c4 q b f g st cy H o by
    by_cases w : f ≤ o ∧ o < f + g
    · obtain ⟨H, h⟩ := b3 o w.1 w.2
      exact ⟨H, fun _ _ => h⟩
    · exact ⟨0, fun w1 w2 => absurd ⟨w1, w2⟩ w⟩)
  have f5 : FrBl c c5 q b f (f + g) := a9.tr b2.bl
  have hG5 := hG.ag f5.fl
  have s5 : ∀ o j, j ≠ 14 → gI c5 3 (200 * q + o) j = gI c4 3 (200 * q + o) j := fun o j hj => b2.1 3 _ j (by omega)
  obtain ⟨c6, rg, d1, d2, d3⟩ := r_registers (n := n) (en := fun o => st o + lt_ c q lat o) (H := H) (cy := cy) hn hq hcnt hG5 ⟨(b2.1 0 _ 6 (by omega)).trans k1, k4⟩ (fun o h1 h2 => by
    obtain ⟨u1, u2, u3, u4, u5, u6, u7, u8⟩ := k5 o h1 h2
    obtain ⟨w1, w2⟩ := hH o h1 h2
    rw [s5 o 9 (by decide), s5 o 7 (by decide), u1, u4, nI_add]
    exact ⟨rfl, w1, by omega, w2.1⟩) (fun o h1 h2 => by
    obtain ⟨u1, u2, u3, u4, u5, u6, u7, u8⟩ := k5 o h1 h2
    exact ⟨by omega, u3⟩) (fun o h1 h2 => (s5 o 11 (by decide)).trans (a7 o h1 h2).1) (fun i hi => (b2.1 26 _ _ (by omega)).trans (a8 i hi))
  have s6 : ∀ o j, j ≠ 11 → j ≠ 14 → gI c6 3 (200 * q + o) j = gI c4 3 (200 * q + o) j := fun o j hj hj' => (d2.1 3 _ j (by omega) (by decide)).trans (s5 o j hj')
  refine ⟨c1, c2, c3, c4, c5, c6, m2, st, cy, H, rg, a1, a2, a3, a4, b1', d1, a5, ⟨⟨?_, k2, k3, k4⟩, fun o h1 h2 => ?_⟩, fun o h1 h2 => ⟨(hH o h1 h2).2.ag a9.fl, ?_⟩, f5.tr d2.bl, a10⟩
  · rw [d2.1 0 _ 6 (by omega) (by decide), b2.1 0 _ 6 (by omega)]; exact k1
  · rw [s6 o 9 (by decide) (by decide), s6 o 7 (by decide) (by decide), s6 o 8 (by decide) (by decide), s6 o 10 (by decide) (by decide)]
    exact k5 o h1 h2
  · have := d3 o h1 h2
    simp only [fl_ag f5.fl] at this
    exact this
/-- a block that is done -/
def DN (c0 c m : Mem) (q cnt b : Nat) (L : Nat → Nat) : Prop := ∀ f g, RG c0 q cnt b f g → ∃ st cy H rg, LB c m q b f g L st cy ∧ GB c0 c q b f g L st cy H rg
theorem DN.ag {c0 c c' m m' : Mem} {L : Nat → Nat} {b' f' g' : Nat} (hG : RG c0 q cnt b' f' g') (hcnt : cnt ≤ 200) (hb : b < 175) (hb' : b' < 175) (ne : b ≠ b') (h : DN c0 c m q cnt b L) (fc : FrBl c c' q b' f' (f' + g')) (fm : FrBlM m m' b' f' (f' + g')) : DN c0 c' m' q cnt b L := by
  intro f g hG0
  obtain ⟨st, cy, H, rg, ⟨k1, k2⟩, k3⟩ := h f g hG0
  have out : ∀ o, f ≤ o → o < f + g → ¬ (f' ≤ o ∧ o < f' + g') := fun o h1 h2 w => by
    have := hG0.2.2.1
    have e1 := (hG0.2.2.2 o (by omega)).mpr ⟨h1, h2⟩
    have e2 := (hG.2.2.2 o (by omega)).mpr w
    exact ne ((nI_eq (by omega) (by omega)).mp (e1.symm.trans e2))
  have sc : ∀ o j, f ≤ o → o < f + g → gI c' 3 (200 * q + o) j = gI c 3 (200 * q + o) j := fun o j h1 h2 => by
    have := out o h1 h2
    exact fc.1 3 _ j (by omega) (by omega) (by decide) (by decide) (by omega)
  have sm : ∀ a o, (a = 139 ∨ a = 140 ∨ a = 141) → f ≤ o → o < f + g → gI m' a 0 o = gI m a 0 o := fun a o ha h1 h2 => by
    have := out o h1 h2
    exact fm.1 a 0 o (by omega) (by omega)
  refine ⟨st, cy, H, rg, ⟨?_, fun o h1 h2 => ?_⟩, fun o h1 h2 => ?_⟩
  · rw [fc.1 0 _ 6 (by omega) (by omega) (by decide) (by decide) (by omega), fm.1 143 0 b (by omega) (by omega)]
    exact k1
  · rw [sc o 9 h1 h2, sc o 7 h1 h2, sc o 8 h1 h2, sc o 10 h1 h2, sm 140 o (by omega) h1 h2, sm 139 o (by omega) h1 h2, sm 141 o (by omega) h1 h2]
    exact k2 o h1 h2
  · rw [sc o 11 h1 h2]
    exact k3 o h1 h2
theorem lay_L {c0 m0 : Mem} (hn : 2000 ≤ n) (hq : q < 2) (hP0 : PR c0 m0 q cnt B) (hL0 : LatR c0 m0 lat mn) : ∀ (k b : Nat) (c m : Mem), FrL c0 c → FrLM m0 m → b ≤ B → (∀ b', b' < b → DN c0 c m q cnt b' (lt_ c0 q lat)) → B - b < k →
    ∃ c2 m2, Ly_lay_L2 n q k (nI b) c = some c2 ∧ M_lay_L2 n k (nI b) m = some m2 ∧ FrL c0 c2 ∧ FrLM m0 m2 ∧ ∀ b', b' < B → DN c0 c2 m2 q cnt b' (lt_ c0 q lat) := by
  have hcnt := hP0.1.2.2.2.2.1
  have hB := hP0.1.2.2.2.2.2
  intro k
  induction k with
  | zero => intro b c m a1 a2 a3 a4 a5; omega
  | succ k ih =>
    intro b c m a1 a2 a3 a4 a5
    have hP := hP0.ag a1 a2
    have hL := hL0.ag a1 a2
    have q1 : (nI B ≤ nI b) = (B ≤ b) := q_le (by omega) (by omega)
    rw [Ly_lay_L2, M_lay_L2, hP.1.2.1, hP.1.2.2.2.1]
    simp only [q1]
    by_cases z : B ≤ b
    · have : b = B := by omega
      subst this
      rw [if_pos z, if_pos z]
      exact ⟨c, m, rfl, rfl, a1, a2, a4⟩
    · obtain ⟨f, g, r1, r2, r3, r4⟩ := (hP.2.2.1 b (by omega)).1
      have hG : RG c q cnt b f g := ⟨r1, r2, r3, r4⟩
      obtain ⟨c1, c2, c3, c4, c5, c6, m2, st, cy, H, rg, d1, d2, d3, d4, d5, d6, d7, d8, d9, d10, d11⟩ := lay_one (n := n) hn hq (show b < B by omega) hP hL hG
      rw [if_neg z, if_neg z, ix_nI (N := 175) (by omega) (by decide), bd_s, d1, bd_s, d2, bd_s, d3, bd_s, d4, bd_s, d5, bd_s, d6, bd_s, d7, bd_s, show nI b + 1 = nI (b + 1) from nI_1 _]
      have lte : lt_ c q lat = lt_ c0 q lat := by
        funext o
        unfold lt_
        rw [a1.1 3 _ 1 (by omega) (by omega) (by decide) (by decide) (by omega)]
      have back : ∀ b' f g, RG c0 q cnt b' f g → RG c q cnt b' f g := fun b' f g h => h.ag a1
      have hG0 : RG c0 q cnt b f g := by
        refine ⟨?_, ?_, r3, fun i hi => ?_⟩
        · rw [← a1.1 0 _ 0 (by omega) (by omega) (by decide) (by decide) (by omega)]; exact r1
        · rw [← a1.1 0 _ 1 (by omega) (by omega) (by decide) (by decide) (by omega)]; exact r2
        · rw [← a1.1 3 _ 6 (by omega) (by omega) (by decide) (by decide) (by omega)]; exact r4 i hi
      refine ih (b + 1) c6 m2 (a1.tr d10.fl) (a2.tr d11.fl) (by omega) (fun b' hb' => ?_) (by omega)
      by_cases e : b' = b
      · subst e
        intro f' g' hG'
        have ff : f' = f := (nI_eq (by have := hG'.2.2.1; omega) (by omega)).mp (hG'.1.symm.trans hG0.1)
        have gg : g' = g := (nI_eq (by have := hG'.2.2.1; omega) (by omega)).mp (hG'.2.1.symm.trans hG0.2.1)
        subst ff gg
        refine ⟨st, cy, H, rg, by rw [← lte]; exact d8, fun o h1 h2 => ?_⟩
        obtain ⟨w1, w2⟩ := d9 o h1 h2
        refine ⟨w1.ag a1, ?_⟩
        rw [← lte]
        simp only [fl_ag a1] at w2
        exact w2
      · exact (a4 b' (by omega)).ag hG0 hcnt (by omega) (by omega) e d10 d11
/-- what is told of a program that is laid -/
def LAYR (c m : Mem) (q cnt B : Nat) : Prop := (∀ b, b < B → gI m 143 0 b = gI c 0 (175 * q + b) 6 ∧ ∃ cy, gI c 0 (175 * q + b) 6 = nI cy ∧ 1 ≤ cy ∧ cy ≤ 804) ∧ ∀ o, o < cnt → gI m 139 0 o = gI c 3 (200 * q + o) 8 ∧ gI m 140 0 o = gI c 3 (200 * q + o) 9 ∧ gI m 141 0 o = gI c 3 (200 * q + o) 10 ∧ gI m 142 0 o = gI c 3 (200 * q + o) 11 ∧ (∃ u, u < 300 ∧ gI c 3 (200 * q + o) 10 = nI u) ∧ (gI c 3 (200 * q + o) 11 = -1 ∨ ∃ r, r < 200 ∧ gI c 3 (200 * q + o) 11 = nI r)
theorem lay_all (hn : 2000 ≤ n) (hq : q < 2) (hP : PR c m q cnt B) (hL : LatR c m lat mn) : ∃ c2 m2, Ly_lay n q c = some c2 ∧ (M_lay_L2 n n 0 m).bind (fun r5 => M_bindRegisters n r5) = some m2 ∧ FrL c c2 ∧ FrLM m m2 ∧ LAYR c2 m2 q cnt B := by
  have hcnt := hP.1.2.2.2.2.1
  have hB := hP.1.2.2.2.2.2
  obtain ⟨c2, m1, a1, a2, a3, a4, a5⟩ := lay_L (n := n) hn hq hP hL n 0 c m FrL.rf FrLM.rf (Nat.zero_le _) (fun b hb => by omega) (by omega)
  rw [nI_0] at a1 a2
  have hP1 := hP.ag FrL.rf a4
  have hL1 := hL.ag FrL.rf a4
  -- every operation is in a block that is laid
  have rec_ : ∀ o, o < cnt → ∃ b f g, b < B ∧ RG c q cnt b f g ∧ f ≤ o ∧ o < f + g := fun o ho => by
    obtain ⟨-, -, -, -, -, -, -, -, -, b, hb, e⟩ := hP.2.1 o ho
    obtain ⟨f, g, r1, r2, r3, r4⟩ := (hP.2.2.1 b hb).1
    have := (r4 o ho).mp e
    exact ⟨b, f, g, hb, ⟨r1, r2, r3, r4⟩, this.1, this.2⟩
  have T : ∀ b f g, b < B → RG c q cnt b f g → ∃ cy H rg, LB c2 m1 q b f g (lt_ c q lat) (fun o => tn (gI m1 140 0 o)) cy ∧ GB c c2 q b f g (lt_ c q lat) (fun o => tn (gI m1 140 0 o)) cy H rg := fun b f g hb hG => by
    obtain ⟨st, cy, H, rg, ⟨k1, k2⟩, k3⟩ := a5 b hb f g hG
    have e : ∀ o, f ≤ o → o < f + g → st o = tn (gI m1 140 0 o) := fun o h1 h2 => by
      obtain ⟨u1, u2, u3, -⟩ := k2 o h1 h2
      rw [u2, tn_n (by omega)]
    refine ⟨cy, H, rg, ⟨k1, fun o h1 h2 => ?_⟩, fun o h1 h2 => ?_⟩
    · dsimp only
      rw [← e o h1 h2]
      exact k2 o h1 h2
    · obtain ⟨w1, w2, w3⟩ := k3 o h1 h2
      refine ⟨w1.cg e, fun hf => ?_, w3⟩
      obtain ⟨v1, v2, v3⟩ := w2 hf
      exact ⟨v1, v2, v3.cg (fun j => Iff.rfl) (fun j hj => ⟨by dsimp only; rw [e j hj.1.1 hj.1.2], rfl⟩) ⟨⟨h1, h2⟩, hf⟩⟩
  -- when values are held, for all
  obtain ⟨Hg, hHg⟩ := Classical.axiomOfChoice (fun o => show ∃ H, o < cnt → H < 2 ^ 20 ∧ ∀ b f g cy, b < B → RG c q cnt b f g → f ≤ o → o < f + g → gI m1 143 0 b = nI cy → cy ≤ 804 → HM c q b f g (fun o => tn (gI m1 140 0 o)) cy H o by
    by_cases ho : o < cnt
    · obtain ⟨b, f, g, hb, hG, h1, h2⟩ := rec_ o ho
      obtain ⟨cy, H, rg, k1, k2⟩ := T b f g hb hG
      refine ⟨H o, fun _ => ⟨(k2 o h1 h2).1.1, fun b' f' g' cy' hb' hG' h1' h2' hcy' hle => ?_⟩⟩
      have bb : b' = b := (nI_eq (by omega) (by omega)).mp (((hG'.2.2.2 o ho).mpr ⟨h1', h2'⟩).symm.trans ((hG.2.2.2 o ho).mpr ⟨h1, h2⟩))
      subst bb
      have ff : f' = f := (nI_eq (by omega) (by omega)).mp (hG'.1.symm.trans hG.1)
      have gg : g' = g := (nI_eq (by have := hG'.2.2.1; omega) (by have := hG.2.2.1; omega)).mp (hG'.2.1.symm.trans hG.2.1)
      have cc : cy' = cy := (nI_eq (by omega) (by have := k1.1.2.2.2; omega)).mp (hcy'.symm.trans k1.1.2.1)
      subst ff gg cc
      exact (k2 o h1 h2).1
    · exact ⟨0, fun h => absurd h ho⟩)
  have hEG : EG c m1 q cnt n (fun o => tn (gI m1 140 0 o) + lt_ c q lat o) Hg := by
    refine ⟨hcnt, hP1.1.2.2.1, fun o ho => ?_⟩
    obtain ⟨b, f, g, hb, hG, h1, h2⟩ := rec_ o ho
    obtain ⟨cy, H, rg, ⟨⟨y1, y2, y3, y4⟩, k1⟩, k2⟩ := T b f g hb hG
    obtain ⟨u1, u2, u3, -⟩ := k1 o h1 h2
    obtain ⟨p1, p2', p3, p4, p5, p6, p7, p8, p9, p10⟩ := hP1.2.1 o ho
    obtain ⟨hg1, hg2⟩ := hHg o ho
    have hg3 := hg2 b f g cy hb hG h1 h2 y2 y4
    dsimp only at u1 u2 u3
    refine ⟨by dsimp only; omega, hg1, fun m' hm' => ?_, p5, by rw [← p5]; exact p6.imp id (fun ⟨v, v1, v2, _⟩ => ⟨v, v1, v2⟩), fun e => ?_⟩
    · have hP' := hP1.ag FrL.rf hm'.fl
      have hL' := hL1.ag FrL.rf hm'.fl
      refine ⟨?_, ?_⟩
      · rw [m_endOf hP' hL' ho, hm'.1 140 0 o (by decide) (by decide), u2, nI_add]
      · obtain ⟨H', e1, e2⟩ := m_held (n := n) (m := m') (st := fun o => tn (gI m1 140 0 o)) (cy := cy) hn hb hP' hG ⟨h1, h2⟩ (fun j j1 j2 => by
          obtain ⟨w1, w2, w3, -⟩ := k1 j j1 j2
          dsimp only at w1 w2 w3 ⊢
          exact ⟨(hm'.1 140 0 j (by decide) (by decide)).trans w2, by omega⟩) ⟨(hm'.1 143 0 b (by decide) (by decide)).trans y2, y3, y4⟩
        rw [e1, e2.uq hg3]
    · rw [← p5] at e
      have h0 := hg3.2 0
      constructor
      · intro hH
        refine Classical.byContradiction (fun w => hH ?_)
        have w : gI c 3 (200 * q + o) 1 = 2 := Classical.byContradiction w
        refine Nat.le_zero.mp (h0.mpr ⟨fun j j1 j2 hu => ?_, fun hc => ?_⟩)
        · obtain ⟨-, -, -, -, -, -, -, v8, -⟩ := hP1.2.1 j (by have := hG.2.2.1; omega)
          exact absurd w (v8 o (by omega) hu).2.2.2
        · have := ((hP1.2.2.1 b hb).2.2.2.1 hc.1).2 o (by omega) hc.2
          exact absurd w this.2.2.2
      · intro hs hH
        obtain ⟨z1, z2⟩ := h0.mp (Nat.le_of_eq hH)
        have inb := (hG.2.2.2 o ho).mpr ⟨h1, h2⟩
        rcases p9 e hs with ⟨j, j1, j2, j3⟩ | ⟨b', b1', b2, b3, b4⟩
        · obtain ⟨-, -, -, -, -, -, -, v8, -⟩ := hP1.2.1 j j2
          obtain ⟨w1, w2, -⟩ := v8 o (by omega) j3
          have := (hG.2.2.2 j j2).mp (w2.symm.trans inb)
          have := z1 j this.1 this.2 j3
          omega
        · have bb : b' = b := (nI_eq (by omega) (by omega)).mp (b2.symm.trans inb)
          subst bb
          have := z2 ⟨b3, b4⟩
          omega
  obtain ⟨rg, m2, b1', b2, b3⟩ := m_registers (n := n) hn hEG
  refine ⟨c2, m2, by rw [Ly_lay, a1, bd_s], by rw [a2, bd_s, b1'], a3, a4.tr b2.fl, fun b hb => ?_, fun o ho => ?_⟩
  · obtain ⟨f, g, r1, r2, r3, r4⟩ := (hP.2.2.1 b hb).1
    obtain ⟨cy, H, rg', ⟨⟨y1, y2, y3, y4⟩, k1⟩, k2⟩ := T b f g hb ⟨r1, r2, r3, r4⟩
    rw [b2.1 143 0 b (by decide) (by decide), y1, y2]
    exact ⟨rfl, cy, rfl, y3, y4⟩
  · obtain ⟨b, f, g, hb, hG, h1, h2⟩ := rec_ o ho
    obtain ⟨cy, H, rg', ⟨⟨y1, y2, y3, y4⟩, k1⟩, k2⟩ := T b f g hb hG
    obtain ⟨u1, u2, u3, u4, u5, u6, u7, u8⟩ := k1 o h1 h2
    rw [b2.1 139 0 o (by decide) (by decide), b2.1 140 0 o (by decide) (by decide), b2.1 141 0 o (by decide) (by decide)]
    obtain ⟨w1, w2, w3⟩ := k2 o h1 h2
    obtain ⟨v1, v2⟩ := b3 o ho
    refine ⟨u6, u2.trans u1.symm, u7, ?_, u8, ?_⟩
    rotate_left
    · cases hf : fl c q o with
      | false => exact Or.inl (w3 hf)
      | true => exact Or.inr ⟨rg' o, (w2 hf).2.1, (w2 hf).1⟩
    cases hf : fl c q o with
    | false => rw [v2 hf, w3 hf]
    | true =>
      have hfg := hG.2.2.1
      rw [(v1 hf).1, (w2 hf).1]
      congr 1
      have bo : gI m1 130 0 o = nI b := (hP1.blk hG ho).mpr ⟨h1, h2⟩
      have S1 : ∀ j, Sm c m1 q cnt o j ↔ (f ≤ j ∧ j < f + g) ∧ fl c q j = true := fun j => by
        unfold Sm
        rw [bo]
        constructor
        · rintro ⟨⟨j1, j2⟩, j3⟩
          rw [hP1.blk hG j1] at j3
          exact ⟨j3, j2⟩
        · rintro ⟨j1, j2⟩
          exact ⟨⟨by omega, j2⟩, (hP1.blk hG (by omega)).mpr j1⟩
      have Hh : ∀ j, f ≤ j → j < f + g → H j = Hg j := fun j j1 j2 => (k2 j j1 j2).1.uq ((hHg j (by omega)).2 b f g cy hb hG j1 j2 y2 y4)
      refine (RS.uq (S := fun j => (f ≤ j ∧ j < f + g) ∧ fl c q j = true) (en := fun o => tn (gI m1 140 0 o) + lt_ c q lat o) (H := Hg) (rg := rg) (rg' := rg') (fun j hj => by omega) (fun i hi => ?_) (fun i hi => ?_) _ o ⟨⟨h1, h2⟩, hf⟩ (Nat.lt_succ_self _))
      · have hic : i < cnt := by omega
        have := ((b3 i hic).1 hi.2).2.2
        have bi : gI m1 130 0 i = gI m1 130 0 o := by rw [bo]; exact (hP1.blk hG hic).mpr hi.1
        have Si : ∀ j, Sm c m1 q cnt i j ↔ (f ≤ j ∧ j < f + g) ∧ fl c q j = true := fun j => by
          rw [← S1 j]
          unfold Sm
          rw [bi]
        exact this.cg Si (fun j _ => ⟨rfl, rfl⟩) ((Si i).mpr hi)
      · exact ((k2 i hi.1.1 hi.1.2).2.1 hi.2).2.2.cg (fun j => Iff.rfl) (fun j hj => ⟨rfl, Hh j hj.1.1 hj.1.2⟩) hi
end LY
