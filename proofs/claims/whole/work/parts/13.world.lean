/-! ===== THE TWO WORLDS: the class's things and the reference's, and the ends of a method with what its function answers ===== -/
def fixC : List (Nat × Nat) := [(9, 0), (6, 0), (20, 0), (7, 0), (5, 0), (8, 0), (21, 0), (22, 0), (1, 0), (23, 0), (24, 0), (25, 0), (26, 0), (27, 0), (2, 0), (28, 0), (29, 0), (30, 0), (4, 0), (4, 1), (31, 0), (31, 1), (32, 0), (32, 1)]
def idsC : List (Nat × Nat) := fixC ++ ((List.range 400).map (fun o => (3, o)) ++ (List.range 350).map (fun b => (0, b)))
def idsM : List (Nat × Nat) := [(10, 0), (101, 0), (111, 0), (112, 0), (113, 0), (114, 0), (115, 0), (117, 0), (118, 0), (119, 0), (120, 0), (121, 0), (123, 0), (126, 0), (127, 0), (128, 0), (129, 0), (130, 0), (132, 0), (133, 0), (134, 0), (135, 0), (136, 0), (137, 0), (138, 0), (139, 0), (140, 0), (141, 0), (142, 0), (143, 0), (144, 0), (145, 0), (146, 0), (150, 0)]
theorem iC_f {z : Nat × Nat} (h : z ∈ fixC) : z ∈ idsC := List.mem_append_left _ h
theorem iC_3 {o : Nat} (h : o < 400) : (3, o) ∈ idsC := List.mem_append_right _ (List.mem_append_left _ (List.mem_map.mpr ⟨o, List.mem_range.mpr h, rfl⟩))
theorem iC_0 {b : Nat} (h : b < 350) : (0, b) ∈ idsC := List.mem_append_right _ (List.mem_append_right _ (List.mem_map.mpr ⟨b, List.mem_range.mpr h, rfl⟩))
theorem iC_4 {q : Nat} (h : q < 2) : (4, q) ∈ idsC := by
  rcases (show q = 0 ∨ q = 1 by omega) with rfl | rfl
  · exact iC_f (by decide)
  · exact iC_f (by decide)
theorem iC_31 {q : Nat} (h : q < 2) : (31, q) ∈ idsC := by
  rcases (show q = 0 ∨ q = 1 by omega) with rfl | rfl
  · exact iC_f (by decide)
  · exact iC_f (by decide)
theorem iC_32 {q : Nat} (h : q < 2) : (32, q) ∈ idsC := by
  rcases (show q = 0 ∨ q = 1 by omega) with rfl | rfl
  · exact iC_f (by decide)
  · exact iC_f (by decide)
theorem iC_9 : (9, 0) ∈ idsC := iC_f (by decide)
theorem iC_6 : (6, 0) ∈ idsC := iC_f (by decide)
theorem iC_20 : (20, 0) ∈ idsC := iC_f (by decide)
theorem iC_7 : (7, 0) ∈ idsC := iC_f (by decide)
theorem iC_5 : (5, 0) ∈ idsC := iC_f (by decide)
theorem iC_8 : (8, 0) ∈ idsC := iC_f (by decide)
theorem iC_21 : (21, 0) ∈ idsC := iC_f (by decide)
theorem iC_22 : (22, 0) ∈ idsC := iC_f (by decide)
theorem iC_1 : (1, 0) ∈ idsC := iC_f (by decide)
theorem iC_23 : (23, 0) ∈ idsC := iC_f (by decide)
theorem iC_24 : (24, 0) ∈ idsC := iC_f (by decide)
theorem iC_25 : (25, 0) ∈ idsC := iC_f (by decide)
theorem iC_26 : (26, 0) ∈ idsC := iC_f (by decide)
theorem iC_27 : (27, 0) ∈ idsC := iC_f (by decide)
theorem iC_2 : (2, 0) ∈ idsC := iC_f (by decide)
theorem iC_28 : (28, 0) ∈ idsC := iC_f (by decide)
theorem iC_29 : (29, 0) ∈ idsC := iC_f (by decide)
theorem iC_30 : (30, 0) ∈ idsC := iC_f (by decide)
theorem iM_10 : (10, 0) ∈ idsM := by decide
theorem iM_101 : (101, 0) ∈ idsM := by decide
theorem iM_111 : (111, 0) ∈ idsM := by decide
theorem iM_112 : (112, 0) ∈ idsM := by decide
theorem iM_113 : (113, 0) ∈ idsM := by decide
theorem iM_114 : (114, 0) ∈ idsM := by decide
theorem iM_115 : (115, 0) ∈ idsM := by decide
theorem iM_117 : (117, 0) ∈ idsM := by decide
theorem iM_118 : (118, 0) ∈ idsM := by decide
theorem iM_119 : (119, 0) ∈ idsM := by decide
theorem iM_120 : (120, 0) ∈ idsM := by decide
theorem iM_121 : (121, 0) ∈ idsM := by decide
theorem iM_123 : (123, 0) ∈ idsM := by decide
theorem iM_126 : (126, 0) ∈ idsM := by decide
theorem iM_127 : (127, 0) ∈ idsM := by decide
theorem iM_128 : (128, 0) ∈ idsM := by decide
theorem iM_129 : (129, 0) ∈ idsM := by decide
theorem iM_130 : (130, 0) ∈ idsM := by decide
theorem iM_132 : (132, 0) ∈ idsM := by decide
theorem iM_133 : (133, 0) ∈ idsM := by decide
theorem iM_134 : (134, 0) ∈ idsM := by decide
theorem iM_135 : (135, 0) ∈ idsM := by decide
theorem iM_136 : (136, 0) ∈ idsM := by decide
theorem iM_137 : (137, 0) ∈ idsM := by decide
theorem iM_138 : (138, 0) ∈ idsM := by decide
theorem iM_139 : (139, 0) ∈ idsM := by decide
theorem iM_140 : (140, 0) ∈ idsM := by decide
theorem iM_141 : (141, 0) ∈ idsM := by decide
theorem iM_142 : (142, 0) ∈ idsM := by decide
theorem iM_143 : (143, 0) ∈ idsM := by decide
theorem iM_144 : (144, 0) ∈ idsM := by decide
theorem iM_145 : (145, 0) ∈ idsM := by decide
theorem iM_146 : (146, 0) ∈ idsM := by decide
theorem iM_150 : (150, 0) ∈ idsM := by decide
theorem C_0 : gCls 0 RX0 TX0 7 tyX0 := ⟨by decide, rfl, by decide +kernel, tyX0_ok, nmX0, rfl⟩
theorem C_1 : gCls 1 RX1 TX1 6 tyX1 := ⟨by decide, rfl, by decide +kernel, tyX1_ok, nmX1, rfl⟩
theorem C_2 : gCls 2 RX2 TX2 6 tyX2 := ⟨by decide, rfl, by decide +kernel, tyX2_ok, nmX2, rfl⟩
theorem C_3 : gCls 3 RX4 TX4 15 tyX4 := ⟨by decide, rfl, by decide +kernel, tyX4_ok, nmX4, rfl⟩
theorem C_4 : gCls 4 RX5 TX5 4 tyX5 := ⟨by decide, rfl, by decide +kernel, tyX5_ok, nmX5, rfl⟩
theorem C_5 : gCls 5 RX6 TX6 2 tyX6 := ⟨by decide, rfl, by decide +kernel, tyX6_ok, nmX6, rfl⟩
theorem C_6 : gCls 6 RX7 TX7 2 tyX7 := ⟨by decide, rfl, by decide +kernel, tyX7_ok, nmX7, rfl⟩
theorem C_7 : gCls 7 RX8 TX8 7 tyX8 := ⟨by decide, rfl, by decide +kernel, tyX8_ok, nmX8, rfl⟩
theorem C_8 : gCls 8 RX9 TX9 6 tyX9 := ⟨by decide, rfl, by decide +kernel, tyX9_ok, nmX9, rfl⟩
theorem C_9 : gCls 9 RX10 TX10 6 tyX10 := ⟨by decide, rfl, by decide +kernel, tyX10_ok, nmX10, rfl⟩
theorem C_10 : gCls 10 RX11 TX11 51 tyX11 := ⟨by decide, rfl, by decide +kernel, tyX11_ok, nmX11, rfl⟩
theorem ol_2 : ∀ j2, (gly 2)[j2]? = some 1 → j2 = 5 := by
  intro j2 h
  have hl : j2 < 6 := (List.getElem?_eq_some_iff.mp h).1
  match j2, hl, h with
  | 5, _, _ => rfl
theorem ol_10 : ∀ j2, (gly 10)[j2]? = some 1 → j2 = 48 := by
  have key : ∀ j2, j2 < 51 → (gly 10)[j2]? = some 1 → j2 = 48 := by decide +kernel
  intro j2 h
  exact key j2 (List.getElem?_eq_some_iff.mp h).1 h
theorem v_3 {q j : Nat} {x : Int32} (hq : q < 2) (h : ix x 200 = some j) : 200 * q + j < 400 := by
  have := ix_lt h
  omega
theorem v_0 {q j : Nat} {x : Int32} (hq : q < 2) (h : ix x 175 = some j) : 175 * q + j < 350 := by
  have := ix_lt h
  omega
theorem zn {v : Int32} (h : v = 0 ∨ v = 1) : narrow .boolean (.int v) = .int v := by
  rcases h with rfl | rfl <;> rfl
theorem zv {v : Int32} (h : v = 0 ∨ v = 1) : vp_nar .boolean v = v := by
  rcases h with rfl | rfl <;> rfl
def imax (x y : Int32) : Int32 := if x < y then y else x
def lmin (x y : Int64) : Int64 := if y < x then y else x
theorem sw_out {x : Int32} {lo n : Nat} (h1 : lo = 0) (h2 : n < 1000) (h : ∀ k, k < n → ¬ x = Int32.ofNat k) : x.toInt < (lo : Int) ∨ ((n : Int) - 1) < x.toInt := by
  subst h1
  rcases Int.lt_or_le x.toInt 0 with q | q
  · exact Or.inl q
  · right
    rcases Int.lt_or_le ((n : Int) - 1) x.toInt with r | r
    · exact r
    · exfalso
      refine h x.toInt.toNat (by omega) ?_
      obtain ⟨j, hj, rfl⟩ := nI_of (x := x) (fun z => by have := Int32.lt_iff_toInt_lt.mp z; simp at this; omega)
      rw [nI_toInt hj]
      rfl
section GROW2
variable {p : Program} {l : Launch} {en : Env} {R : Room} {s : State} {m : MethodId} {args : Array Value} {below : List Frame} {meth : Method} {c : Code} {H : Heap} {locs : List Loc} {cells slots : Nat} {Q : State → Prop}
variable {cc : ByteArray} {nL pc : Nat} {ls : Array Slot} {rest st0 : List Value} {own : String} {D : va_G} {X : va_W} {ids : List (Nat × Nat)} {E : gE} {A : Nat → Prop} {g g1 g' : Mem} {k i : Nat} {C : String} {T : u_T} {N : Nat} {ty : Nat → FieldType} {index : Nat}
theorem g_iretW {v r : Int32} (G : CallFix p m c cc nL s args gtbl own) (hr : meth.sig.returnType = some .int) (hk : meth.locks = false) (hf : (some (v, g) : Option (Int32 × Mem)) = some (r, g')) (hw : GW D X ids E (gA X ids E s.heap.size) s g H locs) (hdg : decode cc pc = .ok (.ireturn, 1)) :
    W p l en R s m args below meth c H locs 0 0 (MQ below (gQ (some (.int r)) (GP D X ids E g') (gA X ids E s.heap.size)) args s 0 0 (gA X ids E s.heap.size)) (F0 m pc ls [.int v]) := by
  cases hf
  exact g_iret G hr hk hw hdg
theorem g_iretR {v r : Int32} (G : CallFix p m c cc nL s args gtbl own) (hr : meth.sig.returnType = some .int) (hk : meth.locks = false) (hf : (some v : Option Int32) = some r) (hw : GW D X ids E (gA X ids E s.heap.size) s g H locs) (hdg : decode cc pc = .ok (.ireturn, 1)) :
    W p l en R s m args below meth c H locs 0 0 (MQ below (gQ (some (.int r)) (GP D X ids E g) (gA X ids E s.heap.size)) args s 0 0 (gA X ids E s.heap.size)) (F0 m pc ls [.int v]) := by
  cases hf
  exact g_iret G hr hk hw hdg
theorem g_zretW {v r : Int32} {rt : FieldType} (G : CallFix p m c cc nL s args gtbl own) (hr : meth.sig.returnType = some rt) (hn : narrow rt (.int v) = .int v) (hk : meth.locks = false) (hf : (some (v, g) : Option (Int32 × Mem)) = some (r, g')) (hw : GW D X ids E (gA X ids E s.heap.size) s g H locs) (hdg : decode cc pc = .ok (.ireturn, 1)) :
    W p l en R s m args below meth c H locs 0 0 (MQ below (gQ (some (.int r)) (GP D X ids E g') (gA X ids E s.heap.size)) args s 0 0 (gA X ids E s.heap.size)) (F0 m pc ls [.int v]) := by
  cases hf
  exact g_zret G hr hn hk hw hdg
theorem g_zretR {v r : Int32} {rt : FieldType} (G : CallFix p m c cc nL s args gtbl own) (hr : meth.sig.returnType = some rt) (hn : narrow rt (.int v) = .int v) (hk : meth.locks = false) (hf : (some v : Option Int32) = some r) (hw : GW D X ids E (gA X ids E s.heap.size) s g H locs) (hdg : decode cc pc = .ok (.ireturn, 1)) :
    W p l en R s m args below meth c H locs 0 0 (MQ below (gQ (some (.int r)) (GP D X ids E g) (gA X ids E s.heap.size)) args s 0 0 (gA X ids E s.heap.size)) (F0 m pc ls [.int v]) := by
  cases hf
  exact g_zret G hr hn hk hw hdg
theorem g_lretR {v r : Int64} (G : CallFix p m c cc nL s args gtbl own) (hr : meth.sig.returnType = some .long) (hk : meth.locks = false) (hf : (some v : Option Int64) = some r) (hw : GW D X ids E (gA X ids E s.heap.size) s g H locs) (hdg : decode cc pc = .ok (.lreturn, 1)) :
    W p l en R s m args below meth c H locs 0 0 (MQ below (gQ (some (.long r)) (GP D X ids E g) (gA X ids E s.heap.size)) args s 0 0 (gA X ids E s.heap.size)) (F0 m pc ls [.long v]) := by
  cases hf
  exact g_lret G hr hk hw hdg
theorem g_lretW {v r : Int64} (G : CallFix p m c cc nL s args gtbl own) (hr : meth.sig.returnType = some .long) (hk : meth.locks = false) (hf : (some (v, g) : Option (Int64 × Mem)) = some (r, g')) (hw : GW D X ids E (gA X ids E s.heap.size) s g H locs) (hdg : decode cc pc = .ok (.lreturn, 1)) :
    W p l en R s m args below meth c H locs 0 0 (MQ below (gQ (some (.long r)) (GP D X ids E g') (gA X ids E s.heap.size)) args s 0 0 (gA X ids E s.heap.size)) (F0 m pc ls [.long v]) := by
  cases hf
  exact g_lret G hr hk hw hdg
theorem g_vretW (G : CallFix p m c cc nL s args gtbl own) (hr : meth.sig.returnType = none) (hk : meth.locks = false) (hf : (some g : Option Mem) = some g') (hw : GW D X ids E (gA X ids E s.heap.size) s g H locs) (hdg : decode cc pc = .ok (.return_, 1)) :
    W p l en R s m args below meth c H locs 0 0 (MQ below (gQ none (GP D X ids E g') (gA X ids E s.heap.size)) args s 0 0 (gA X ids E s.heap.size)) (F0 m pc ls []) := by
  cases hf
  exact g_vret G hr hk hw hdg
theorem g_vretR (G : CallFix p m c cc nL s args gtbl own) (hr : meth.sig.returnType = none) (hk : meth.locks = false) (hw : GW D X ids E (gA X ids E s.heap.size) s g H locs) (hdg : decode cc pc = .ok (.return_, 1)) :
    W p l en R s m args below meth c H locs 0 0 (MQ below (gQ none (GP D X ids E g) (gA X ids E s.heap.size)) args s 0 0 (gA X ids E s.heap.size)) (F0 m pc ls []) := g_vret G hr hk hw hdg
theorem g_aretW {v r : Nat} {nm : String} (G : CallFix p m c cc nL s args gtbl own) (hr : meth.sig.returnType = some (.object nm)) (hk : meth.locks = false) (hf : (some (v, g) : Option (Nat × Mem)) = some (r, g')) (hw : GW D X ids E (gA X ids E s.heap.size) s g H locs) (hdg : decode cc pc = .ok (.areturn, 1)) :
    W p l en R s m args below meth c H locs 0 0 (MQ below (gQ (some (.ref (E.1 k r))) (GP D X ids E g') (gA X ids E s.heap.size)) args s 0 0 (gA X ids E s.heap.size)) (F0 m pc ls [.ref (E.1 k v)]) := by
  cases hf
  exact g_aret G hr hk hw hdg
theorem g_callV1 {y : MethodName} {cy : ByteArray} {maxLy n fr lo : Nat} {ret : Option FieldType} {As : List Value} {v : Value} (G : CallFix p m c cc nL s args gtbl own) (hw : GW D X ids E A s g H locs) (hA : ∀ q, gA X ids E H.size q → A q) (hC : gCls k C T N ty) (hid : (k, i) ∈ ids) (hy : gV own index C y cy maxLy ret n) (hM : gMet l y cy maxLy ret fr lo D X ids E (.ref (E.1 k i) :: As) g (some v) g1)
    (hls : ls.size = nL) (hn : As.length = n) (hst : st0 = As.reverse ++ .ref (E.1 k i) :: rest) (hrest : (rest.map fun v => v.category).sum ≤ 8) (hfr : fr + 1 ≤ R.frames) (hlo : 8 + (maxLy + 11) + lo ≤ R.locals) (hcs : cells ≤ R.cells ∧ slots ≤ R.slots) (hdg : decode cc pc = .ok (.invokevirtual index, 3))
    (kk : ∀ (H1 : Heap) (locs1 : List Loc), GW D X ids E A s g1 H1 locs1 → W p l en R s m args below meth c H1 locs1 cells slots Q (F0 m (pc + 3) ls (v :: rest))) : W p l en R s m args below meth c H locs cells slots Q (F0 m pc ls st0) := g_callV G hw hA hC hid hy hM hls hn hst hrest hfr hlo hcs hdg kk
theorem g_callV0 {y : MethodName} {cy : ByteArray} {maxLy n fr lo : Nat} {ret : Option FieldType} {As : List Value} (G : CallFix p m c cc nL s args gtbl own) (hw : GW D X ids E A s g H locs) (hA : ∀ q, gA X ids E H.size q → A q) (hC : gCls k C T N ty) (hid : (k, i) ∈ ids) (hy : gV own index C y cy maxLy ret n) (hM : gMet l y cy maxLy ret fr lo D X ids E (.ref (E.1 k i) :: As) g none g1)
    (hls : ls.size = nL) (hn : As.length = n) (hst : st0 = As.reverse ++ .ref (E.1 k i) :: rest) (hrest : (rest.map fun v => v.category).sum ≤ 8) (hfr : fr + 1 ≤ R.frames) (hlo : 8 + (maxLy + 11) + lo ≤ R.locals) (hcs : cells ≤ R.cells ∧ slots ≤ R.slots) (hdg : decode cc pc = .ok (.invokevirtual index, 3))
    (kk : ∀ (H1 : Heap) (locs1 : List Loc), GW D X ids E A s g1 H1 locs1 → W p l en R s m args below meth c H1 locs1 cells slots Q (F0 m (pc + 3) ls rest)) : W p l en R s m args below meth c H locs cells slots Q (F0 m pc ls st0) := g_callV G hw hA hC hid hy hM hls hn hst hrest hfr hlo hcs hdg kk
theorem g_callS1 {y : MethodName} {cy : ByteArray} {maxLy n fr lo : Nat} {ret : Option FieldType} {As : List Value} {v : Value} (G : CallFix p m c cc nL s args gtbl own) (hw : GW D X ids E A s g H locs) (hA : ∀ q, gA X ids E H.size q → A q) (hy : gS own index y cy maxLy ret n) (hM : gMet l y cy maxLy ret fr lo D X ids E As g (some v) g1)
    (hls : ls.size = nL) (hn : As.length = n) (hst : st0 = As.reverse ++ rest) (hrest : (rest.map fun v => v.category).sum ≤ 8) (hfr : fr + 1 ≤ R.frames) (hlo : 8 + (maxLy + 11) + lo ≤ R.locals) (hcs : cells ≤ R.cells ∧ slots ≤ R.slots) (hdg : decode cc pc = .ok (.invokestatic index, 3))
    (kk : ∀ (H1 : Heap) (locs1 : List Loc), GW D X ids E A s g1 H1 locs1 → W p l en R s m args below meth c H1 locs1 cells slots Q (F0 m (pc + 3) ls (v :: rest))) : W p l en R s m args below meth c H locs cells slots Q (F0 m pc ls st0) := g_callS G hw hA hy hM hls hn hst hrest hfr hlo hcs hdg kk
/-- Math.max, Math.min -/
def gMx (own : String) (index : Nat) : Prop := Cond.methodLink own index Lib.Math.max.name ∈ gtbl ∧ Cond.static Lib.Math.max.name ∈ gtbl ∧ Cond.initialized "java/lang/Math" ∈ gtbl ∧ Cond.code Lib.Math.max.name Lib.Math.max.code 2 (some .int) ∈ gtbl
def gMn (own : String) (index : Nat) : Prop := Cond.methodLink own index Lib.MathLoose.min_long.x ∈ gtbl ∧ Cond.static Lib.MathLoose.min_long.x ∈ gtbl ∧ Cond.initialized "java/lang/Math" ∈ gtbl ∧ Cond.code Lib.MathLoose.min_long.x Lib.MathLoose.min_long.code 4 (some .long) ∈ gtbl
theorem g_max {x y : Int32} (G : CallFix p m c cc nL s args gtbl own) (hls : ls.size = nL) (hm : gMx own index) (hrest : (rest.map fun v => v.category).sum ≤ 8) (hdg : decode cc pc = .ok (.invokestatic index, 3))
    (hfr : 1 ≤ R.frames) (hlo : 24 ≤ R.locals) (hc : cells ≤ R.cells) (hs : slots ≤ R.slots)
    (kk : W p l en R s m args below meth c H locs cells slots Q (F0 m (pc + 3) ls (.int (imax x y) :: rest))) : W p l en R s m args below meth c H locs cells slots Q (F0 m pc ls (.int y :: .int x :: rest)) := by
  have hts := G.2.2.2.2
  exact va_mmax G.1 G.2.1 (G.2.2.1.trans hls.symm) G.2.2.2.1 (hts _ hm.1) (hts _ hm.2.1) (hts _ hm.2.2.1) (hts _ hm.2.2.2) hfr (by omega) hc hs hdg kk
theorem g_minl {x y : Int64} (G : CallFix p m c cc nL s args gtbl own) (hls : ls.size = nL) (hm : gMn own index) (hrest : (rest.map fun v => v.category).sum ≤ 8) (hdg : decode cc pc = .ok (.invokestatic index, 3))
    (hfr : 1 ≤ R.frames) (hlo : 26 ≤ R.locals) (hc : cells ≤ R.cells) (hs : slots ≤ R.slots)
    (kk : W p l en R s m args below meth c H locs cells slots Q (F0 m (pc + 3) ls (.long (lmin x y) :: rest))) : W p l en R s m args below meth c H locs cells slots Q (F0 m pc ls (.long y :: .long x :: rest)) := by
  have hts := G.2.2.2.2
  exact va_mmin_long G.1 G.2.1 (G.2.2.1.trans hls.symm) G.2.2.2.1 (hts _ hm.1) (hts _ hm.2.1) (hts _ hm.2.2.1) (hts _ hm.2.2.2) hfr (by omega) hc hs hdg kk
end GROW2
