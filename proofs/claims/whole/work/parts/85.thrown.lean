/-! ===== METHODS THAT THROW ===== -/
def sIAE : String := "java/lang/IllegalArgumentException"
def sIOB : String := "java/lang/IndexOutOfBoundsException"
def nX2 : List String := ["java/lang/RuntimeException", "java/lang/Exception"]
theorem thr_ng0 : ∀ w ∈ (vx_at0 RX10 55 sIAE nX2).filter (fun w => !goodWord w), w ∈ [Cond.castable sIAE sIAE, Cond.declares (Bundle.init0 "java/lang/RuntimeException"), Cond.declares (Bundle.init0 "java/lang/Exception"), Cond.declares (Bundle.init0 Bundle.tN)] := by decide +kernel
theorem thr_ng1 : ∀ w ∈ (vx_at0 RX10 107 sIOB nX2).filter (fun w => !goodWord w), w ∈ [Cond.castable sIOB sIOB, Cond.declares (Bundle.init0 "java/lang/RuntimeException"), Cond.declares (Bundle.init0 "java/lang/Exception"), Cond.declares (Bundle.init0 Bundle.tN)] := by decide +kernel
theorem thr_in0 : ∀ w ∈ (vx_at0 RX10 55 sIAE nX2).filter goodWord, w ∈ gtbl := fun w h => List.mem_filter.mpr ⟨(show ∀ w ∈ (vx_at0 RX10 55 sIAE nX2).filter goodWord, w ∈ lw_tbl by decide +kernel) w h, (List.mem_filter.mp h).2⟩
theorem thr_in1 : ∀ w ∈ (vx_at0 RX10 107 sIOB nX2).filter goodWord, w ∈ gtbl := fun w h => List.mem_filter.mpr ⟨(show ∀ w ∈ (vx_at0 RX10 107 sIOB nX2).filter goodWord, w ∈ lw_tbl by decide +kernel) w h, (List.mem_filter.mp h).2⟩
theorem thr_ot0 : ∀ w ∈ Cond.classLink RX10 53 sIAE :: Cond.initialized sIAE :: vx_at0 RX10 55 sIAE nX2, vx_ot w = true := by decide +kernel
theorem thr_ot1 : ∀ w ∈ Cond.classLink RX10 105 sIOB :: Cond.initialized sIOB :: vx_at0 RX10 107 sIOB nX2, vx_ot w = true := by decide +kernel
theorem thr_lk0 : Cond.classLink RX10 53 sIAE ∈ gtbl ∧ Cond.initialized sIAE ∈ gtbl := by decide +kernel
theorem thr_lk1 : Cond.classLink RX10 105 sIOB ∈ gtbl ∧ Cond.initialized sIOB ∈ gtbl := by decide +kernel
/-- what a throw needs of the heap, outside of what A may change -/
def STK (A : Nat → Prop) (U : State) : Prop := vx_Zq Bundle.tN "UNASSIGNED_STACK" Bundle.steD A U U.heap ∧ vx_Zq Bundle.tN "SUPPRESSED_SENTINEL" Bundle.listD A U U.heap ∧ va_Nw (.castable sIAE sIAE) U ∧ va_Nw (.castable sIOB sIOB) U ∧ va_Nw (.declares (Bundle.init0 "java/lang/RuntimeException")) U ∧ va_Nw (.declares (Bundle.init0 "java/lang/Exception")) U ∧ va_Nw (.declares (Bundle.init0 Bundle.tN)) U ∧ va_Nc sIAE sIOB U
theorem va_Nw_warmD {y : MethodName} {s U : State} (hW : s.WarmedH U.vm) (hZ : va_Nw (.declares y) s) : va_Nw (.declares y) U := va_tabs (A := #[]) rfl (rfl : (s.setVm U.vm).vm = U.vm) (by rw [Cond.declares_setVm hW.alike]; exact hZ)
theorem STK_blind {A : Nat → Prop} {a : Array Value} {U : State} {fr : JFrame} {mk : MethodId} (h : STK A U) : STK A (U.calling fr mk a) := by
  obtain ⟨h1, h2, h3, h4, h5, h6, h7, h8⟩ := h
  exact ⟨vx_Zq.moved (u := U) (Vm.Alike.refl U.vm) h1, vx_Zq.moved (u := U) (Vm.Alike.refl U.vm) h2, va_tabs (u := U) (A := #[]) rfl rfl h3, va_tabs (u := U) (A := #[]) rfl rfl h4, va_tabs (u := U) (A := #[]) rfl rfl h5, va_tabs (u := U) (A := #[]) rfl rfl h6, va_tabs (u := U) (A := #[]) rfl rfl h7, va_Nc.moved (u := U) (Vm.Alike.refl U.vm) h8⟩
theorem STK_call {A B : Nat → Prop} {s U : State} {H : Heap} {locs : List Loc} (h : STK A s) (hS : va_S A s.heap H locs) (hAB : ∀ q, B q → A q) (hU : U.heap = H) (hW : s.WarmedH U.vm) : STK B U := by
  obtain ⟨h1, h2, h3, h4, h5, h6, h7, h8⟩ := h
  refine ⟨?_, ?_, va_Nw.warmC hW h3, va_Nw.warmC hW h4, va_Nw_warmD hW h5, va_Nw_warmD hW h6, va_Nw_warmD hW h7, va_Nc.moved hW.alike h8⟩
  · rw [hU]
    exact ((h1.kept hS.2.1).moved hW.alike).narrow hAB
  · rw [hU]
    exact ((h2.kept hS.2.1).moved hW.alike).narrow hAB
/-- how a method leaves by a throw: the memory is as it was -/
def gXC (D : va_G) (X : va_W) (ids : List (Nat × Nat)) (e : gE) (m : Mem) (A : Nat → Prop) (nm : String) : String → State → State → Prop := vx_X (S := Unit) (fun _ => True) (fun E' _ t => E' = nm ∧ GP D X ids e m t) A
/-- a method's contract where it throws: from the memory m with these arguments it throws a thing of the class nm -/
def gMetT (l : Launch) (y : MethodName) (cc : ByteArray) (maxL : Nat) (ret : Option FieldType) (fr lo : Nat) (D : va_G) (X : va_W) (ids : List (Nat × Nat)) (e : gE) (av : List Value) (m : Mem) (nm : String) : Prop :=
  ∀ sz : Nat, vx_Met l y (.code y cc maxL ret :: gtbl) { frames := fr, cells := 1, slots := 6, locals := lo } (va_Pc av (fun U => U.heap.size = sz ∧ GP D X ids e m U ∧ GSA e (gA X ids e sz) U ∧ STK (gA X ids e sz) U)) (fun _ _ _ _ => False) (gXC D X ids e m (gA X ids e sz) nm) 1 6 (gA X ids e sz)
theorem gt_codeT {l : Launch} {y : MethodName} {cc : ByteArray} {maxL : Nat} {ret : Option FieldType} {fr lo : Nat} {D : va_G} {X : va_W} {ids : List (Nat × Nat)} {E : gE} {av : List Value} {g : Mem} {nm : String} (hy : plainName y.cls = true) (hlen : (lg_sl av).length ≤ maxL)
    (body : ∀ (p : Program) (en : Env) (s : State) (m : MethodId) (below : List Frame) (meth : Method) (c : Code) (ls : Array Slot), CallFix p m c cc maxL s av.toArray gtbl y.cls → meth.locks = false → (∀ x ∈ c.exceptionTable.toList, False) → GW D X ids E (gA X ids E s.heap.size) s g s.heap [] → STK (gA X ids E s.heap.size) s → lv_has ls maxL (lv_args 0 av) →
      W p l en { frames := fr, cells := 1, slots := 6, locals := lo } s m av.toArray below meth c s.heap [] 0 0 (vx_MQ below (fun _ _ _ _ => False) (gXC D X ids E g (gA X ids E s.heap.size) nm) av.toArray s 1 6 (gA X ids E s.heap.size)) (F0 m 0 ls [])) :
    gMetT l y cc maxL ret fr lo D X ids E av g nm := by
  intro sz
  refine vx_ofW (cc := cc) (maxL := maxL) (ret := ret) hy rfl ?_
  intro p e s m args below meth c s₁ B hml htab hv
  obtain ⟨rfl, hsz, ⟨hP, hK, hD0⟩, hE, hT⟩ := hv
  have hts := atoms_spec (ws := .code y cc maxL ret :: gtbl) B.pre
  have hown : s.vm.findClass y.cls = some m.cls := findClass_of_methodNamed B.named
  have hlocks := B.notSynchronized
  subst hsz
  have hl := lv_entry av (n := maxL) hlen
  rw [lg_entry_eq]
  exact body p e s m below meth c _ ⟨B.exec, B.bytes, hml, hown, fun w h => hts w (List.mem_cons_of_mem _ h)⟩ hlocks htab ⟨hK, hP, ⟨hD0.1, fun k q hk => gA_in hk⟩, va_S.rf, hE⟩ hT hl
section GTHROW
variable {p : Program} {l : Launch} {en : Env} {R : Room} {s : State} {m : MethodId} {args : Array Value} {below : List Frame} {meth : Method} {c : Code} {H : Heap} {locs : List Loc}
variable {cc : ByteArray} {nL pc : Nat} {ls : Array Slot} {rest : List Value} {D : va_G} {X : va_W} {ids : List (Nat × Nat)} {E : gE} {g : Mem}
theorem gXC_of {nm : String} (hw : GW D X ids E (gA X ids E s.heap.size) s g H locs) (t : State) (hA : s.vm.Alike t.vm) (hz : H.size ≤ t.heap.size) (hq : ∀ q : Nat, q < H.size → t.heap[q]? = H[q]?) : gXC D X ids E g (gA X ids E s.heap.size) nm nm s t :=
  ⟨(), trivial, ⟨rfl, hw.2.1.kept (fun k q hk => hq q.1 (vx_lt hw.2.1 hk)), va_K.moved hA hw.1, hw.2.2.1.weaken (fun _ _ _ _ => trivial)⟩, Nat.le_trans hw.2.2.2.1.1 hz, fun q h1 h2 => (hq q (Nat.lt_of_lt_of_le h1 hw.2.2.2.1.1)).trans (hw.2.2.2.1.2.1 q h1 h2)⟩
/-- 'throw new IllegalArgumentException()' -/
theorem g_throwA (hlf : l.stackTraces = false) (G : CallFix p m c cc nL s args gtbl RX10) (hk : meth.locks = false) (ht : ∀ x ∈ c.exceptionTable.toList, False) (hw : GW D X ids E (gA X ids E s.heap.size) s g H locs) (hT : STK (gA X ids E s.heap.size) s) (hls : ls.size = nL) (hfr : 5 < R.frames) (hlo : (rest.map fun v => v.category).sum + 81 ≤ R.locals) (hR : R.cells = 1 ∧ R.slots = 6)
    (d0 : decode cc pc = .ok (.new 53, 3)) (d3 : decode cc (pc + 3) = .ok (.dup, 1)) (d4 : decode cc (pc + 4) = .ok (.invokespecial 55, 3)) (d7 : decode cc (pc + 7) = .ok (.athrow, 1)) :
    W p l en R s m args below meth c H locs 0 0 (vx_MQ below (fun _ _ _ _ => False) (gXC D X ids E g (gA X ids E s.heap.size) sIAE) args s 1 6 (gA X ids E s.heap.size)) (F0 m pc ls rest) :=
  vx_throw0 (names := nX2) G.1 G.2.1 hlf G.2.2.2.1 (by decide) (by decide) (G.2.2.2.2 _ thr_lk0.1) (G.2.2.2.2 _ thr_lk0.2) (vx_hat (fun w h => G.2.2.2.2 _ (thr_in0 w h)) thr_ng0 (vx_c (va_Nw.use rfl hT.2.2.1) (vx_c (va_Nw.use rfl hT.2.2.2.2.1) (vx_c (va_Nw.use rfl hT.2.2.2.2.2.1) (vx_c (va_Nw.use rfl hT.2.2.2.2.2.2.1) vx_n))))) thr_ot0 hT.1 hT.2.1 hw.2.2.2.1 (hls.trans G.2.2.1.symm) d0 d3 d4 d7 (fun x hx => (ht x hx).elim) hfr hlo (by rw [hR.1]; exact Nat.le_refl _) (by rw [hR.2]; exact Nat.le_refl _) hk (fun t h1 h2 h3 => gXC_of hw t h1 h2 h3) hw.2.2.2.1.2.2 (Nat.le_refl _) (Nat.le_refl _)
/-- 'throw new IndexOutOfBoundsException()' -/
theorem g_throwB (hlf : l.stackTraces = false) (G : CallFix p m c cc nL s args gtbl RX10) (hk : meth.locks = false) (ht : ∀ x ∈ c.exceptionTable.toList, False) (hw : GW D X ids E (gA X ids E s.heap.size) s g H locs) (hT : STK (gA X ids E s.heap.size) s) (hls : ls.size = nL) (hfr : 5 < R.frames) (hlo : (rest.map fun v => v.category).sum + 81 ≤ R.locals) (hR : R.cells = 1 ∧ R.slots = 6)
    (d0 : decode cc pc = .ok (.new 105, 3)) (d3 : decode cc (pc + 3) = .ok (.dup, 1)) (d4 : decode cc (pc + 4) = .ok (.invokespecial 107, 3)) (d7 : decode cc (pc + 7) = .ok (.athrow, 1)) :
    W p l en R s m args below meth c H locs 0 0 (vx_MQ below (fun _ _ _ _ => False) (gXC D X ids E g (gA X ids E s.heap.size) sIOB) args s 1 6 (gA X ids E s.heap.size)) (F0 m pc ls rest) :=
  vx_throw0 (names := nX2) G.1 G.2.1 hlf G.2.2.2.1 (by decide) (by decide) (G.2.2.2.2 _ thr_lk1.1) (G.2.2.2.2 _ thr_lk1.2) (vx_hat (fun w h => G.2.2.2.2 _ (thr_in1 w h)) thr_ng1 (vx_c (va_Nw.use rfl hT.2.2.2.1) (vx_c (va_Nw.use rfl hT.2.2.2.2.1) (vx_c (va_Nw.use rfl hT.2.2.2.2.2.1) (vx_c (va_Nw.use rfl hT.2.2.2.2.2.2.1) vx_n))))) thr_ot1 hT.1 hT.2.1 hw.2.2.2.1 (hls.trans G.2.2.1.symm) d0 d3 d4 d7 (fun x hx => (ht x hx).elim) hfr hlo (by rw [hR.1]; exact Nat.le_refl _) (by rw [hR.2]; exact Nat.le_refl _) hk (fun t h1 h2 h3 => gXC_of hw t h1 h2 h3) hw.2.2.2.1.2.2 (Nat.le_refl _) (Nat.le_refl _)
end GTHROW
