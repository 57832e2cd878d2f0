/-! ===== A METHOD'S START, ITS ENDS, AND CALLS ===== -/
theorem gt_code {l : Launch} {y : MethodName} {cc : ByteArray} {maxL : Nat} {ret : Option FieldType} {fr lo : Nat} {D : va_G} {X : va_W} {ids : List (Nat × Nat)} {E : gE} {av : List Value} {g g' : Mem} {rv : Option Value} (hy : plainName y.cls = true) (hlen : (lg_sl av).length ≤ maxL)
    (body : ∀ (p : Program) (en : Env) (s : State) (m : MethodId) (below : List Frame) (meth : Method) (c : Code) (ls : Array Slot), CallFix p m c cc maxL s av.toArray gtbl y.cls → meth.sig.returnType = ret → meth.locks = false → GW D X ids E (gA X ids E s.heap.size) s g s.heap [] → lv_has ls maxL (lv_args 0 av) →
      W p l en { frames := fr, cells := 0, slots := 0, locals := lo } s m av.toArray below meth c s.heap [] 0 0 (MQ below (gQ rv (GP D X ids E g') (gA X ids E s.heap.size)) av.toArray s 0 0 (gA X ids E s.heap.size)) (F0 m 0 ls [])) :
    gMet l y cc maxL ret fr lo D X ids E av g rv g' := by
  intro sz
  refine Met.ofW (cc := cc) (maxL := maxL) (ret := ret) hy rfl ?_
  intro p e s m args below meth c s₁ B hml hv
  obtain ⟨rfl, hsz, ⟨hP, hK, hD0⟩, hE⟩ := hv
  have hts := atoms_spec (ws := .code y cc maxL ret :: gtbl) B.pre
  have hown : s.vm.findClass y.cls = some m.cls := findClass_of_methodNamed B.named
  have hlocks := B.notSynchronized
  subst hsz
  have hl := lv_entry av (n := maxL) hlen
  rw [lg_entry_eq]
  exact body p e s m below meth c _ ⟨B.exec, B.bytes, hml, hown, fun w h => hts w (List.mem_cons_of_mem _ h)⟩ B.returns hlocks ⟨hK, hP, ⟨hD0.1, fun k q hk => gA_in hk⟩, va_S.rf, hE⟩ hl
theorem GSA_blind {E : gE} {A : Nat → Prop} {a : Array Value} {U : State} {fr : JFrame} {mk : MethodId} (h : GSA E A U) : GSA E A (U.calling fr mk a) := by
  obtain ⟨h1, ⟨r1, r2, r3, r4⟩, h2, h3⟩ := h
  exact ⟨vk_S.moved (u := U) (Vm.Alike.refl U.vm) h1, ⟨vk_R.same (u := U) rfl r1, vk_R.same (u := U) rfl r2, vk_R.same (u := U) rfl r3, vk_R.same (u := U) rfl r4⟩, va_Z.moved (u := U) (Vm.Alike.refl U.vm) h2, va_Zq.moved (u := U) (Vm.Alike.refl U.vm) h3⟩
theorem GSA_call {E : gE} {A B : Nat → Prop} {s U : State} {H : Heap} {locs : List Loc} (h : GSA E A s) (hS : va_S A s.heap H locs) (hAB : ∀ q, B q → A q) (hU : U.heap = H) (hW : s.WarmedH U.vm) : GSA E B U := by
  obtain ⟨h1, ⟨r1, r2, r3, r4⟩, h2, h3⟩ := h
  refine ⟨?_, ⟨r1.warm hW, r2.warm hW, r3.warm hW, r4.warm hW⟩, ?_, ?_⟩
  · rw [hU]
    exact ((h1.kept hS.2.1).moved hW.alike).narrow hAB
  · rw [hU]
    exact ((h2.kept hS.2.1).moved hW.alike).narrow hAB
  · rw [hU]
    exact ((h3.kept hS.2.1).moved hW.alike).narrow hAB
section GCALL
variable {p : Program} {l : Launch} {en : Env} {R : Room} {s : State} {m : MethodId} {args : Array Value} {below : List Frame} {meth : Method} {c : Code} {H : Heap} {locs : List Loc} {cells slots : Nat} {Q : State → Prop}
variable {cc : ByteArray} {nL pc : Nat} {ls : Array Slot} {rest st0 : List Value} {own : String} {D : va_G} {X : va_W} {ids : List (Nat × Nat)} {E : gE} {A : Nat → Prop} {g g1 : Mem} {k i : Nat} {C : String} {T : u_T} {N : Nat} {ty : Nat → FieldType} {index : Nat}
theorem gQ_end {rv : Option Value} {t : State} (hw : GW D X ids E (gA X ids E s.heap.size) s g H locs) (ht : t.heap = H) (hW : s.WarmedH t.vm) : gQ rv (GP D X ids E g) (gA X ids E s.heap.size) args s (.returned rv) t :=
  ⟨⟨rfl, by rw [← ht] at hw; exact ⟨hw.2.1, va_K.moved hW.alike hw.1, hw.2.2.1.weaken (fun _ _ _ _ => trivial)⟩⟩, hw.2.2.2.1.F ht⟩
theorem g_iret {v : Int32} (G : CallFix p m c cc nL s args gtbl own) (hr : meth.sig.returnType = some .int) (hk : meth.locks = false) (hw : GW D X ids E (gA X ids E s.heap.size) s g H locs) (hdg : decode cc pc = .ok (.ireturn, 1)) :
    W p l en R s m args below meth c H locs 0 0 (MQ below (gQ (some (.int v)) (GP D X ids E g) (gA X ids E s.heap.size)) args s 0 0 (gA X ids E s.heap.size)) (F0 m pc ls [.int v]) :=
  W.iret (v := v) G.1 G.2.1 hr (fun t ht hW => gQ_end hw ht hW) hw.2.2.2.1.2.2 hdg hk
theorem g_zret {v : Int32} {rt : FieldType} (G : CallFix p m c cc nL s args gtbl own) (hr : meth.sig.returnType = some rt) (hn : narrow rt (.int v) = .int v) (hk : meth.locks = false) (hw : GW D X ids E (gA X ids E s.heap.size) s g H locs) (hdg : decode cc pc = .ok (.ireturn, 1)) :
    W p l en R s m args below meth c H locs 0 0 (MQ below (gQ (some (.int v)) (GP D X ids E g) (gA X ids E s.heap.size)) args s 0 0 (gA X ids E s.heap.size)) (F0 m pc ls [.int v]) :=
  W.zret (v := v) G.1 G.2.1 hr hn (fun t ht hW => gQ_end hw ht hW) hw.2.2.2.1.2.2 hdg hk
theorem g_lret {v : Int64} (G : CallFix p m c cc nL s args gtbl own) (hr : meth.sig.returnType = some .long) (hk : meth.locks = false) (hw : GW D X ids E (gA X ids E s.heap.size) s g H locs) (hdg : decode cc pc = .ok (.lreturn, 1)) :
    W p l en R s m args below meth c H locs 0 0 (MQ below (gQ (some (.long v)) (GP D X ids E g) (gA X ids E s.heap.size)) args s 0 0 (gA X ids E s.heap.size)) (F0 m pc ls [.long v]) :=
  W.lret (v := v) G.1 G.2.1 hr (fun t ht hW => gQ_end hw ht hW) hw.2.2.2.1.2.2 hdg hk
theorem g_vret (G : CallFix p m c cc nL s args gtbl own) (hr : meth.sig.returnType = none) (hk : meth.locks = false) (hw : GW D X ids E (gA X ids E s.heap.size) s g H locs) (hdg : decode cc pc = .ok (.return_, 1)) :
    W p l en R s m args below meth c H locs 0 0 (MQ below (gQ none (GP D X ids E g) (gA X ids E s.heap.size)) args s 0 0 (gA X ids E s.heap.size)) (F0 m pc ls []) :=
  W.vret G.1 G.2.1 hr (fun t ht hW => gQ_end hw ht hW) hw.2.2.2.1.2.2 hdg hk
theorem g_aret {a : Nat} {nm : String} (G : CallFix p m c cc nL s args gtbl own) (hr : meth.sig.returnType = some (.object nm)) (hk : meth.locks = false) (hw : GW D X ids E (gA X ids E s.heap.size) s g H locs) (hdg : decode cc pc = .ok (.areturn, 1)) :
    W p l en R s m args below meth c H locs 0 0 (MQ below (gQ (some (.ref a)) (GP D X ids E g) (gA X ids E s.heap.size)) args s 0 0 (gA X ids E s.heap.size)) (F0 m pc ls [.ref a]) :=
  W.aret (v := .ref a) G.1 G.2.1 hr (Or.inl ⟨_, rfl⟩) (Or.inr ⟨_, rfl⟩) (fun t ht hW => gQ_end hw ht hW) hw.2.2.2.1.2.2 hdg hk
theorem g_call {A0 A1 : Nat → Prop} {H0 : Heap} {a : Array Value} {mc ms : Nat} {free : Addr → Prop} {rv : Option Value} {B : State → Prop} (hr : va_Run p l en R s m args below meth c H locs cells slots mc ms (F0 m pc ls st0) rest (gQ rv B A1 a) free) (hS : va_S A0 H0 H locs) (hA : ∀ q, q < H.size → A1 q → A0 q) (hf : ∀ q, free q → A0 q)
    (kk : ∀ (t : State) (H1 : Heap) (locs1 : List Loc), t.heap = H1 → s.vm.Alike t.vm → B t → H.size ≤ H1.size → (∀ q : Nat, q < H.size → ¬ A1 q → H1[q]? = H[q]?) → va_S A0 H0 H1 locs1 → W p l en R s m args below meth c H1 locs1 (cells + mc) (slots + ms) Q (F0 m (pc + 3) ls (rv.toList ++ rest))) : W p l en R s m args below meth c H locs cells slots Q (F0 m pc ls st0) := by
  intro T hT X
  obtain ⟨v, st₀, t, T', L, h0, X', hL, e1, e2, ⟨⟨hv, hb⟩, hz, hk⟩, st⟩ := hr T hT X
  cases hv
  rw [h0] at hz hk
  obtain ⟨t2, a1, b1⟩ := kk t T'.heap (locs ++ L) e1.symm (by rw [← e2]; exact X'.warmed.alike) hb (by rw [e1]; exact hz) (fun q h1 h2 => by rw [e1]; exact hk q h1 h2)
    ⟨Nat.le_trans hS.1 (by rw [e1]; exact hz), fun q h1 h2 => by rw [e1, hk q (Nat.lt_of_lt_of_le h1 hS.1) (fun z => h2 (hA q (Nat.lt_of_lt_of_le h1 hS.1) z))]; exact hS.2.1 q h1 h2, fun q hq => by
      rcases List.mem_append.mp hq with h | h
      · exact hS.2.2 q h
      · exact hf _ (hL q h)⟩ T' rfl X'
  exact ⟨t2, st t2 a1, b1⟩
/-- what the tables say of a call of y by its name on an object of class C -/
def gV (own : String) (index : Nat) (C : String) (y : MethodName) (cy : ByteArray) (maxL : Nat) (ret : Option FieldType) (n : Nat) : Prop :=
  Cond.methodLink own index y ∈ gtbl ∧ Cond.instanceMethod y ∈ gtbl ∧ Cond.selects C y y ∈ gtbl ∧ Cond.initialized C ∈ gtbl ∧ Cond.code y cy maxL ret ∈ gtbl ∧ y.cls = C ∧ y.cls ≠ "java/lang/invoke/MethodHandle" ∧ y.cls ≠ "java/lang/invoke/VarHandle" ∧ (parseMethodDescriptor y.desc).map (fun d => d.parameters.length) = some n
/-- of a static call -/
def gS (own : String) (index : Nat) (y : MethodName) (cy : ByteArray) (maxL : Nat) (ret : Option FieldType) (n : Nat) : Prop :=
  Cond.methodLink own index y ∈ gtbl ∧ Cond.static y ∈ gtbl ∧ Cond.initialized y.cls ∈ gtbl ∧ Cond.code y cy maxL ret ∈ gtbl ∧ y.cls ≠ "java/lang/invoke/MethodHandle" ∧ y.cls ≠ "java/lang/invoke/VarHandle" ∧ (parseMethodDescriptor y.desc).map (fun d => d.parameters.length) = some n
theorem GP_blind {av : List Value} {sz : Nat} : FrameBlind (va_Pc av (fun U => U.heap.size = sz ∧ GP D X ids E g U ∧ GSA E (gA X ids E sz) U)) := by
  intro a U fr mk h
  obtain ⟨h1, h2, h3, h4⟩ := h
  exact ⟨h1, h2, GP.moved (u := U) rfl (Vm.Alike.refl U.vm) h3, GSA_blind h4⟩
theorem GW_pre {av : List Value} {U : State} (hw : GW D X ids E A s g H locs) (hA : ∀ q, gA X ids E H.size q → A q) (hU : U.heap = H) (hW : s.WarmedH U.vm) : va_Pc av (fun U => U.heap.size = H.size ∧ GP D X ids E g U ∧ GSA E (gA X ids E H.size) U) av.toArray U :=
  ⟨rfl, by rw [hU], ⟨by rw [hU]; exact hw.2.1, va_K.moved hW.alike hw.1, hw.2.2.1.weaken (fun _ _ _ _ => trivial)⟩, GSA_call hw.2.2.2.2 hw.2.2.2.1 hA hU hW⟩
theorem GW_recv (hw : GW D X ids E A s g H locs) (hC : gCls k C T N ty) (hid : (k, i) ∈ ids) : ∃ cell : Cell, H[E.1 k i]? = some cell ∧ cell.vm.isStatics = false ∧ s.vm.findClass C = some cell.cls := by
  obtain ⟨q, hq, he⟩ := gws_get (X := X) (e := E) (m := g) hid
  rw [gcell_obj hC] at he
  exact va_recv hw.1 hw.2.1 (ci := k) (q0 := X.length + q) hC.2.1 he
theorem GW_back {A1 : Nat → Prop} {t : State} {H1 : Heap} {locs1 : List Loc} (hw : GW D X ids E A s g H locs) (ht : t.heap = H1) (hvm : s.vm.Alike t.vm) (hB : GP D X ids E g1 t) (hA : va_D A (X ++ gws ids E g)) (hS : va_S A s.heap H1 locs1) : GW D X ids E A s g1 H1 locs1 := by
  refine ⟨hw.1, by rw [← ht]; exact hB.1, ⟨hB.2.2.1, fun k q hk => ?_⟩, hS, hw.2.2.2.2⟩
  rcases Nat.lt_or_ge k X.length with hl | hl
  · refine hA.2 k q ?_
    rw [List.getElem?_append_left hl] at hk ⊢
    exact hk
  · rw [List.getElem?_append_right hl] at hk
    unfold gws at hk
    rw [List.getElem?_map] at hk
    cases hz : ids[k - X.length]? with
    | none => rw [hz] at hk; cases hk
    | some z =>
      rw [hz] at hk
      cases hk
      exact hA.2 k (E.1 z.1 z.2, gcell E g z.1 z.2) (by
        rw [List.getElem?_append_right hl]
        unfold gws
        rw [List.getElem?_map, hz]
        rfl)
theorem g_callV {y : MethodName} {cy : ByteArray} {maxLy n fr lo : Nat} {ret : Option FieldType} {As : List Value} {rv : Option Value} (G : CallFix p m c cc nL s args gtbl own) (hw : GW D X ids E A s g H locs) (hA : ∀ q, gA X ids E H.size q → A q) (hC : gCls k C T N ty) (hid : (k, i) ∈ ids) (hy : gV own index C y cy maxLy ret n) (hM : gMet l y cy maxLy ret fr lo D X ids E (.ref (E.1 k i) :: As) g rv g1)
    (hls : ls.size = nL) (hn : As.length = n) (hst : st0 = As.reverse ++ .ref (E.1 k i) :: rest) (hrest : (rest.map fun v => v.category).sum ≤ 8) (hfr : fr + 1 ≤ R.frames) (hlo : 8 + (maxLy + 11) + lo ≤ R.locals) (hcs : cells ≤ R.cells ∧ slots ≤ R.slots) (hdg : decode cc pc = .ok (.invokevirtual index, 3))
    (kk : ∀ (H1 : Heap) (locs1 : List Loc), GW D X ids E A s g1 H1 locs1 → W p l en R s m args below meth c H1 locs1 cells slots Q (F0 m (pc + 3) ls (rv.toList ++ rest))) : W p l en R s m args below meth c H locs cells slots Q (F0 m pc ls st0) := by
  obtain ⟨y1, y2, y3, y4, y5, y6, y7, y8, y9⟩ := hy
  have hts := G.2.2.2.2
  refine g_call (va_runV (As := As) (rest := rest) G (hM H.size) ⟨callB_of n hts (gt_good (fun w h => h) y5) rfl rfl rfl (by rw [y6]; exact hts _ y4) (hts _ y1) ⟨y7, y8, y9⟩ ⟨hfr, hlo⟩, hts _ y2, hts _ y3⟩ ⟨GP_blind, GW_recv hw hC hid, fun U hU hW => GW_pre hw hA hU hW⟩ rfl hn hls hst (lv_room hrest) hdg hcs) hw.2.2.2.1 (fun q _ h => hA q h) hA (fun t H1 locs1 ht hvm hB hz1 hk1 hS => ?_)
  exact kk H1 locs1 (GW_back (A1 := A) hw ht hvm hB hw.2.2.1 hS)
theorem g_callS {y : MethodName} {cy : ByteArray} {maxLy n fr lo : Nat} {ret : Option FieldType} {As : List Value} {rv : Option Value} (G : CallFix p m c cc nL s args gtbl own) (hw : GW D X ids E A s g H locs) (hA : ∀ q, gA X ids E H.size q → A q) (hy : gS own index y cy maxLy ret n) (hM : gMet l y cy maxLy ret fr lo D X ids E As g rv g1)
    (hls : ls.size = nL) (hn : As.length = n) (hst : st0 = As.reverse ++ rest) (hrest : (rest.map fun v => v.category).sum ≤ 8) (hfr : fr + 1 ≤ R.frames) (hlo : 8 + (maxLy + 11) + lo ≤ R.locals) (hcs : cells ≤ R.cells ∧ slots ≤ R.slots) (hdg : decode cc pc = .ok (.invokestatic index, 3))
    (kk : ∀ (H1 : Heap) (locs1 : List Loc), GW D X ids E A s g1 H1 locs1 → W p l en R s m args below meth c H1 locs1 cells slots Q (F0 m (pc + 3) ls (rv.toList ++ rest))) : W p l en R s m args below meth c H locs cells slots Q (F0 m pc ls st0) := by
  obtain ⟨y1, y3, y4, y5, y7, y8, y9⟩ := hy
  have hts := G.2.2.2.2
  refine g_call (va_runS (As := As) (rest := rest) G (hM H.size) ⟨callB_of n hts (gt_good (fun w h => h) y5) rfl rfl rfl (hts _ y4) (hts _ y1) ⟨y7, y8, y9⟩ ⟨hfr, hlo⟩, hts _ y3⟩ ⟨GP_blind, fun U hU hW => GW_pre hw hA hU hW⟩ rfl hn hls hst (lv_room hrest) hdg hcs) hw.2.2.2.1 (fun q _ h => hA q h) hA (fun t H1 locs1 ht hvm hB hz1 hk1 hS => ?_)
  exact kk H1 locs1 (GW_back (A1 := A) hw ht hvm hB hw.2.2.1 hS)
end GCALL
