/-! ===== CONSTRUCTORS: worlds that grow ===== -/
theorem ra_uq {U : State} {c1 c2 : ClassId} {ty : FieldType} (h1 : va_RA U c1 ty) (h2 : va_RA U c2 ty) : c1 = c2 := by
  cases ty with
  | object C =>
    obtain ⟨_, _, _, _, _, a⟩ := h1
    obtain ⟨_, _, _, _, _, b⟩ := h2
    exact Option.some.inj (a.symm.trans b)
  | _ => exact Option.some.inj (Eq.trans (Eq.symm h1) h2)
def AOs (U : State) : Prop := va_AO "CycleSynthesis$Operation" U ∧ va_AO "CycleSynthesis$Block" U ∧ va_Nw (.methodLinkNest RX5 17 yX4_init "CycleSynthesis") U ∧ va_Nw (.methodLinkNest RX5 28 yX0_init "CycleSynthesis") U
theorem AOs_blind {a : Array Value} {U : State} {fr : JFrame} {mk : MethodId} (h : AOs U) : AOs (U.calling fr mk a) := ⟨va_AO.moved (u := U) (Vm.Alike.refl U.vm) h.1, va_AO.moved (u := U) (Vm.Alike.refl U.vm) h.2.1, va_Nw.same (u := U) rfl rfl h.2.2.1, va_Nw.same (u := U) rfl rfl h.2.2.2⟩
theorem AOs_warm {s U : State} (hW : s.WarmedH U.vm) (h : AOs s) : AOs U := ⟨va_AO.moved hW.alike h.1, va_AO.moved hW.alike h.2.1, va_Nw.warmM hW h.2.2.1, va_Nw.warmM hW h.2.2.2⟩
/-- within a constructor: the heap holds the list W1 -/
def NW (D : va_G) (E : gE) (A : Nat → Prop) (s : State) (W1 : va_W) (H : Heap) (locs : List Loc) : Prop := va_K D vwCl (gtys E) s ∧ va_P D vwCl W1 H ∧ va_D A W1 ∧ va_S A s.heap H locs ∧ (∀ q : Nat, s.heap.size ≤ q → A q) ∧ AOs s
def nB (D : va_G) (W0 : va_W) (sz : Nat) (post : va_W → Prop) : State → Prop := fun t => ∃ W2, post W2 ∧ va_P D vwCl W2 t.heap ∧ va_D (va_A W0 sz) W2
/-- a constructor's contract: from the list W0 it makes one of those that post tells -/
def nMet (l : Launch) (y : MethodName) (cc : ByteArray) (maxL : Nat) (fr lo mc ms : Nat) (D : va_G) (E : gE) (av : List Value) (W0 : va_W) (post : va_W → Prop) : Prop :=
  ∀ sz : Nat, Met l y (.code y cc maxL none :: gtbl) { frames := fr, cells := mc, slots := ms, locals := lo } (va_Pc av (fun U => U.heap.size = sz ∧ va_P D vwCl W0 U.heap ∧ va_K D vwCl (gtys E) U ∧ va_D (fun _ => True) W0 ∧ AOs U)) (gQ none (nB D W0 sz post) (va_A W0 sz)) mc ms (va_A W0 sz)
theorem nt_code {l : Launch} {y : MethodName} {cc : ByteArray} {maxL fr lo mc ms : Nat} {D : va_G} {E : gE} {av : List Value} {W0 : va_W} {post : va_W → Prop} (hy : plainName y.cls = true) (hyn : y.name = "<init>") (hlen : (lg_sl av).length ≤ maxL)
    (body : ∀ (p : Program) (en : Env) (s : State) (m : MethodId) (below : List Frame) (meth : Method) (c : Code) (ls : Array Slot), CallFix p m c cc maxL s av.toArray gtbl y.cls → meth.sig.returnType = none → meth.locks = false → meth.name = "<init>" → NW D E (va_A W0 s.heap.size) s W0 s.heap [] → lv_has ls maxL (lv_args 0 av) →
      W p l en { frames := fr, cells := mc, slots := ms, locals := lo } s m av.toArray below meth c s.heap [] 0 0 (MQ below (gQ none (nB D W0 s.heap.size post) (va_A W0 s.heap.size)) av.toArray s mc ms (va_A W0 s.heap.size)) (F0 m 0 ls [])) :
    nMet l y cc maxL fr lo mc ms D E av W0 post := by
  intro sz
  refine Met.ofW (cc := cc) (maxL := maxL) (ret := none) hy rfl ?_
  intro p e s m args below meth c s₁ B hml hv
  obtain ⟨rfl, hsz, hP, hK, hD0, hO⟩ := hv
  have hts := atoms_spec (ws := .code y cc maxL none :: gtbl) B.pre
  have hown : s.vm.findClass y.cls = some m.cls := findClass_of_methodNamed B.named
  have hlocks := B.notSynchronized
  have hin : meth.name = "<init>" := (name_of_methodNamed B.named B.method).1.trans hyn
  subst hsz
  have hl := lv_entry av (n := maxL) hlen
  rw [lg_entry_eq]
  exact body p e s m below meth c _ ⟨B.exec, B.bytes, hml, hown, fun w h => hts w (List.mem_cons_of_mem _ h)⟩ B.returns hlocks hin ⟨hK, hP, hD0.self, va_S.rf, fun q h => Or.inr h, hO⟩ hl
/-- a call of a constructor, as the tables have it -/
def gN (own : String) (index : Nat) (y : MethodName) (cy : ByteArray) (maxL : Nat) (n : Nat) : Prop :=
  Cond.methodLink own index y ∈ gtbl ∧ Cond.instanceMethod y ∈ gtbl ∧ Cond.initialized y.cls ∈ gtbl ∧ Cond.code y cy maxL none ∈ gtbl ∧ y.name = "<init>" ∧ y.cls ≠ "java/lang/invoke/MethodHandle" ∧ y.cls ≠ "java/lang/invoke/VarHandle" ∧ (parseMethodDescriptor y.desc).map (fun d => d.parameters.length) = some n
def gNN (y : MethodName) (cy : ByteArray) (maxL : Nat) (n : Nat) : Prop :=
  Cond.instanceMethod y ∈ gtbl ∧ Cond.initialized y.cls ∈ gtbl ∧ Cond.code y cy maxL none ∈ gtbl ∧ y.name = "<init>" ∧ y.cls ≠ "java/lang/invoke/MethodHandle" ∧ y.cls ≠ "java/lang/invoke/VarHandle" ∧ (parseMethodDescriptor y.desc).map (fun d => d.parameters.length) = some n
theorem n_at {X L : va_W} {j : Nat} {v : Nat × va_E} (h : L[j]? = some v) : (X ++ L)[X.length + j]? = some v := by
  rw [List.getElem?_append_right (by omega), show X.length + j - X.length = j by omega]
  exact h
theorem n_set {X L : va_W} {j : Nat} {v : Nat × va_E} : (X ++ L).set (X.length + j) v = X ++ L.set j v := by
  rw [List.set_append, if_neg (by omega), show X.length + j - X.length = j by omega]
section NROWS
variable {p : Program} {l : Launch} {en : Env} {R : Room} {s : State} {m : MethodId} {args : Array Value} {below : List Frame} {meth : Method} {c : Code} {H : Heap} {locs : List Loc} {cells slots : Nat} {Q : State → Prop}
variable {cc : ByteArray} {nL pc : Nat} {ls : Array Slot} {rest st0 : List Value} {own : String} {D : va_G} {X L W1 W0 : va_W} {E : gE} {A : Nat → Prop} {k : Nat} {C : String} {T : u_T} {N : Nat} {ty : Nat → FieldType} {index : Nat} {a : Nat} {fs : List Value}
theorem n_vret {post : va_W → Prop} {mc ms : Nat} (G : CallFix p m c cc nL s args gtbl own) (hr : meth.sig.returnType = none) (hk : meth.locks = false) (hw : NW D E (va_A W0 s.heap.size) s W1 H locs) (hp : post W1) (hc : cells ≤ mc) (hs : slots ≤ ms) (hdg : decode cc pc = .ok (.return_, 1)) :
    W p l en R s m args below meth c H locs cells slots (MQ below (gQ none (nB D W0 s.heap.size post) (va_A W0 s.heap.size)) args s mc ms (va_A W0 s.heap.size)) (F0 m pc ls []) :=
  W.widen hc hs (W.vret G.1 G.2.1 hr (fun t ht hW => ⟨⟨rfl, W1, hp, by rw [ht]; exact hw.2.1, hw.2.2.1⟩, hw.2.2.2.1.F ht⟩) hw.2.2.2.1.2.2 hdg hk)
theorem n_newa {n : Int32} {N' : Nat} (G : CallFix p m c cc nL s args gtbl own) (hw : NW D E A s W1 H locs) (harr : Cond.arrayClass .int ∈ gtbl) (hn : ¬ n < 0) (hN : n.toNatClampNeg = N') (hb : N' * 4 ≤ 536870912) (hc : cells + 1 ≤ R.cells) (hs : slots + N' ≤ R.slots) (hdg : decode cc pc = .ok (.newarray .int, 2))
    (kk : ∀ (q : Nat) (H1 : Heap), NW D E A s (W1 ++ [(q, .inl (E.2.1, N', .inl (fun _ => 0)))]) H1 locs → W p l en R s m args below meth c H1 locs (cells + 1) (slots + N') Q (F0 m (pc + 2) ls (.ref q :: rest))) : W p l en R s m args below meth c H locs cells slots Q (F0 m pc ls (.int n :: rest)) := by
  refine va_newa (atype := .int) (a0 := (N', .inl (fun _ => 0))) G.1 G.2.1 (G.2.2.2.2 _ harr) rfl hw.1 hw.2.1 hw.2.2.1 hw.2.2.2.1 hw.2.2.2.2.1 (fun _ => rfl) hn hN hb hc hs hdg (fun q cA H1 hK hP hD hS => ?_)
  have e : cA = E.2.1 := ra_uq (hK.2 5 _ rfl).2 (hK.2 0 _ rfl).2
  subst e
  exact kk q H1 ⟨hw.1, hP, hD, hS, hw.2.2.2.2⟩
theorem n_newz {n : Int32} {N' : Nat} (G : CallFix p m c cc nL s args gtbl own) (hw : NW D E A s W1 H locs) (harr : Cond.arrayClass .boolean ∈ gtbl) (hn : ¬ n < 0) (hN : n.toNatClampNeg = N') (hb : N' * 1 ≤ 536870912) (hc : cells + 1 ≤ R.cells) (hs : slots + N' ≤ R.slots) (hdg : decode cc pc = .ok (.newarray .boolean, 2))
    (kk : ∀ (q : Nat) (H1 : Heap), NW D E A s (W1 ++ [(q, .inl (E.2.2.1, N', .inl (fun _ => 0)))]) H1 locs → W p l en R s m args below meth c H1 locs (cells + 1) (slots + N') Q (F0 m (pc + 2) ls (.ref q :: rest))) : W p l en R s m args below meth c H locs cells slots Q (F0 m pc ls (.int n :: rest)) := by
  refine va_newa (atype := .boolean) (a0 := (N', .inl (fun _ => 0))) G.1 G.2.1 (G.2.2.2.2 _ harr) rfl hw.1 hw.2.1 hw.2.2.1 hw.2.2.2.1 hw.2.2.2.2.1 (fun _ => rfl) hn hN hb hc hs hdg (fun q cA H1 hK hP hD hS => ?_)
  have e : cA = E.2.2.1 := ra_uq (hK.2 5 _ rfl).2 (hK.2 1 _ rfl).2
  subst e
  exact kk q H1 ⟨hw.1, hP, hD, hS, hw.2.2.2.2⟩
theorem n_newq {n : Int32} {N' : Nat} {cE : ClassId} (t0 : Nat) (ht : (gtys E)[t0]? = some (cE, .object C)) (ht5 : t0 < 5) (G : CallFix p m c cc nL s args gtbl own) (hw : NW D E A s W1 H locs) (hlk : Cond.classLink own index C ∈ gtbl) (hov : va_AO C s) (hn : ¬ n < 0) (hN : n.toNatClampNeg = N') (hb : N' * 4 ≤ 536870912) (hc : cells + 1 ≤ R.cells) (hs : slots + N' ≤ R.slots) (hdg : decode cc pc = .ok (.anewarray index, 3))
    (kk : ∀ (q : Nat) (H1 : Heap), NW D E A s (W1 ++ [(q, .inl (cE, N', .inr (.inr (.inr (.inr (fun _ => none))))))]) H1 locs → W p l en R s m args below meth c H1 locs (cells + 1) (slots + N') Q (F0 m (pc + 3) ls (.ref q :: rest))) : W p l en R s m args below meth c H locs cells slots Q (F0 m pc ls (.int n :: rest)) := by
  refine va_newq G.1 G.2.1 G.2.2.2.1 (G.2.2.2.2 _ hlk) hov hw.1 hw.2.1 hw.2.2.1 hw.2.2.2.1 hw.2.2.2.2.1 hn hN hb hc hs hdg (fun q cA H1 hK hP hD hS => ?_)
  have e : cA = cE := ra_uq (hK.2 5 _ rfl).2 (hK.2 t0 _ (by rw [List.getElem?_append_left (show t0 < (gtys E).length from ht5)]; exact ht)).2
  subst e
  exact kk q H1 ⟨hw.1, hP, hD, hS, hw.2.2.2.2⟩
theorem n_new (G : CallFix p m c cc nL s args gtbl own) (hw : NW D E A s W1 H locs) (hC : gCls k C T N ty) (hlk : Cond.classLink own index C ∈ gtbl) (hit : Cond.instantiable C N ∈ gtbl) (hini : Cond.initialized C ∈ gtbl) (hfs : ∀ j, j < N → defaultValue (ty j) = vp_V fs j) (hc : cells + 1 ≤ R.cells) (hs : slots + N ≤ R.slots) (hdg : decode cc pc = .ok (.new index, 3))
    (kk : ∀ (q : Nat) (H1 : Heap), NW D E A s (W1 ++ [(q, .inr (k, fs))]) H1 locs → W p l en R s m args below meth c H1 locs (cells + 1) (slots + N) Q (F0 m (pc + 3) ls (.ref q :: rest))) : W p l en R s m args below meth c H locs cells slots Q (F0 m pc ls rest) :=
  va_new G.1 G.2.1 G.2.2.2.2 hC.2.2.1 ty hC.2.2.2.1 G.2.2.2.1 (G.2.2.2.2 _ hlk) (G.2.2.2.2 _ hit) (G.2.2.2.2 _ hini) hw.1 hw.2.1 hw.2.2.1 hw.2.2.2.1 hw.2.2.2.2.1 hC.2.1 hfs hc hs hdg (fun q H1 hP hD hS => kk q H1 ⟨hw.1, hP, hD, hS, hw.2.2.2.2⟩)
theorem n_putF (j : Nat) (G : CallFix p m c cc nL s args gtbl own) (hin : meth.name = "<init>") (hw : NW D E A s W1 H locs) (hC : gCls k C T N ty) (q0 : Nat) (he : W1[q0]? = some (a, .inr (k, fs))) (hj : j < N) (hl : Cond.fieldLink own index (T j).1 (T j).2.1 (T j).2.2.1 ∈ gtbl) (hfin : (T j).2.2.2 = true) (hdecl : (T j).1 = own) {v : Value} (hn : narrow (ty j) v = v) (hfit : fits (ty j) v = true) (hlen : j < fs.length) (hdg : decode cc pc = .ok (.putfield index, 3))
    (kk : ∀ (H1 : Heap) (locs1 : List Loc), NW D E A s (W1.set q0 (a, .inr (k, fs.set j v))) H1 locs1 → W p l en R s m args below meth c H1 locs1 cells slots Q (F0 m (pc + 3) ls rest)) : W p l en R s m args below meth c H locs cells slots Q (F0 m pc ls (v :: .ref a :: rest)) :=
  va_putF (D := D) (ci := k) (v := v) (ty := ty j) (C := C) (T := T) (N := N) G.1 G.2.1 G.2.2.2.2 hC.2.2.1 ty hC.2.2.2.1 hC.2.2.2.2.1 G.2.2.2.1 hw.1 hw.2.1 hw.2.2.1 hw.2.2.2.1 q0 he hC.2.1 j hj (G.2.2.2.2 _ hl) (fun _ h9 => h9) hfin hin hdecl (hC.2.2.2.1 j hj) hn hfit hlen hdg (fun H1 locs1 hP hD hS => kk H1 locs1 ⟨hw.1, hP, hD, hS, hw.2.2.2.2⟩)
theorem n_put (j : Nat) (G : CallFix p m c cc nL s args gtbl own) (hw : NW D E A s W1 H locs) (hC : gCls k C T N ty) (q0 : Nat) (he : W1[q0]? = some (a, .inr (k, fs))) (hj : j < N) (hl : Cond.fieldLink own index (T j).1 (T j).2.1 (T j).2.2.1 ∈ gtbl) (hfin : (T j).2.2.2 = false) {v : Value} (hn : narrow (ty j) v = v) (hfit : fits (ty j) v = true) (hlen : j < fs.length) (hdg : decode cc pc = .ok (.putfield index, 3))
    (kk : ∀ (H1 : Heap) (locs1 : List Loc), NW D E A s (W1.set q0 (a, .inr (k, fs.set j v))) H1 locs1 → W p l en R s m args below meth c H1 locs1 cells slots Q (F0 m (pc + 3) ls rest)) : W p l en R s m args below meth c H locs cells slots Q (F0 m pc ls (v :: .ref a :: rest)) :=
  va_put (D := D) (ci := k) (v := v) (ty := ty j) (C := C) (T := T) (N := N) G.1 G.2.1 G.2.2.2.2 hC.2.2.1 ty hC.2.2.2.1 hC.2.2.2.2.1 G.2.2.2.1 hw.1 hw.2.1 hw.2.2.1 hw.2.2.2.1 q0 he hC.2.1 j hj (G.2.2.2.2 _ hl) (fun _ h9 => h9) hfin (hC.2.2.2.1 j hj) hn hfit hlen hdg (fun H1 locs1 hP hD hS => kk H1 locs1 ⟨hw.1, hP, hD, hS, hw.2.2.2.2⟩)
theorem n_get (j : Nat) {v : Value} (G : CallFix p m c cc nL s args gtbl own) (hw : NW D E A s W1 H locs) (hC : gCls k C T N ty) (q0 : Nat) (he : W1[q0]? = some (a, .inr (k, fs))) (hj : j < N) (hl : Cond.fieldLink own index (T j).1 (T j).2.1 (T j).2.2.1 ∈ gtbl) (hv : fs[j]? = some v) (hdg : decode cc pc = .ok (.getfield index, 3))
    (kk : W p l en R s m args below meth c H locs cells slots Q (F0 m (pc + 3) ls (v :: rest))) : W p l en R s m args below meth c H locs cells slots Q (F0 m pc ls (.ref a :: rest)) :=
  va_get (D := D) (ci := k) (v := v) (C := C) (T := T) (N := N) G.1 G.2.1 G.2.2.2.2 hC.2.2.1 G.2.2.2.1 hw.1 hw.2.1 q0 he hC.2.1 j hj (G.2.2.2.2 _ hl) (fun _ h9 => h9) hv hdg kk
theorem n_iast {N' : Nat} {f : Nat → Int32} {i x : Int32} (G : CallFix p m c cc nL s args gtbl own) (hw : NW D E A s W1 H locs) (q0 : Nat) (he : W1[q0]? = some (a, .inl (E.2.1, N', .inl f))) (hi : vp_in i N') (hdg : decode cc pc = .ok (.iastore, 1))
    (kk : ∀ (H1 : Heap) (locs1 : List Loc), NW D E A s (W1.set q0 (a, .inl (E.2.1, N', .inl (upd f i.toNatClampNeg x)))) H1 locs1 → W p l en R s m args below meth c H1 locs1 cells slots Q (F0 m (pc + 1) ls rest)) : W p l en R s m args below meth c H locs cells slots Q (F0 m pc ls (.int x :: .int i :: .ref a :: rest)) :=
  va_iast G.1 G.2.1 hw.1 hw.2.1 hw.2.2.1 hw.2.2.2.1 q0 0 he rfl hi hdg (fun H1 locs1 hP hD hS => kk H1 locs1 ⟨hw.1, hP, hD, hS, hw.2.2.2.2⟩)
theorem n_qast {N' v qk t0 ci : Nat} {cE : ClassId} {vs : List Value} {r : vw_C} {f : Nat → Option Nat} {i : Int32} (G : CallFix p m c cc nL s args gtbl own) (hw : NW D E A s W1 H locs) (q0 : Nat) (he : W1[q0]? = some (a, .inl (cE, N', .inr (.inr (.inr (.inr f)))))) (ht : (gtys E)[t0]? = some (cE, .object r.1)) (hv : W1[qk]? = some (v, .inr (ci, vs))) (hcl : vwCl[ci]? = some r) (hi : vp_in i N') (hdg : decode cc pc = .ok (.aastore, 1))
    (kk : ∀ (H1 : Heap) (locs1 : List Loc), NW D E A s (W1.set q0 (a, .inl (cE, N', .inr (.inr (.inr (.inr (va_up f i.toNatClampNeg (some v)))))))) H1 locs1 → W p l en R s m args below meth c H1 locs1 cells slots Q (F0 m (pc + 1) ls rest)) : W p l en R s m args below meth c H locs cells slots Q (F0 m pc ls (.ref v :: .int i :: .ref a :: rest)) :=
  va_astq G.1 G.2.1 hw.1 hw.2.1 hw.2.2.1 hw.2.2.2.1 q0 t0 qk ci he ht hv hcl hi hdg (fun H1 locs1 hP hD hS => kk H1 locs1 ⟨hw.1, hP, hD, hS, hw.2.2.2.2⟩)
theorem n_call {y : MethodName} {cy : ByteArray} {maxLy n fr lo mc ms b : Nat} {As : List Value} {post : va_W → Prop} (G : CallFix p m c cc nL s args gtbl own) (hw : NW D E A s W1 H locs) (hy : gN own index y cy maxLy n) (hM : nMet l y cy maxLy fr lo mc ms D E (.ref b :: As) W1 post)
    (hls : ls.size = nL) (hn : As.length = n) (hst : st0 = As.reverse ++ .ref b :: rest) (hrest : (rest.map fun v => v.category).sum ≤ 8) (hfr : fr + 1 ≤ R.frames) (hlo : 8 + (maxLy + 11) + lo ≤ R.locals) (hcs : cells + mc ≤ R.cells ∧ slots + ms ≤ R.slots) (hdg : decode cc pc = .ok (.invokespecial index, 3))
    (kk : ∀ (W2 : va_W) (H1 : Heap) (locs1 : List Loc), post W2 → NW D E A s W2 H1 locs1 → W p l en R s m args below meth c H1 locs1 (cells + mc) (slots + ms) Q (F0 m (pc + 3) ls rest)) : W p l en R s m args below meth c H locs cells slots Q (F0 m pc ls st0) := by
  obtain ⟨y1, y2, y4, y5, yn, y7, y8, y9⟩ := hy
  have hts := G.2.2.2.2
  have hA : ∀ q, va_A W1 H.size q → A q := fun q hq => by
    rcases hq with ⟨k, c, hk⟩ | hq
    · exact hw.2.2.1.2 k _ hk
    · exact hw.2.2.2.2.1 q (Nat.le_trans hw.2.2.2.1.1 hq)
  have bl : FrameBlind (va_Pc (.ref b :: As) (fun U => U.heap.size = H.size ∧ va_P D vwCl W1 U.heap ∧ va_K D vwCl (gtys E) U ∧ va_D (fun _ => True) W1 ∧ AOs U)) := by
    intro a U fr mk h
    obtain ⟨h1, h2, h3, h4, h5, h6⟩ := h
    exact ⟨h1, h2, h3, va_K.moved (u := U) (Vm.Alike.refl U.vm) h4, h5, AOs_blind h6⟩
  refine g_call (va_runI (As := As) (rest := rest) G (hM H.size) ⟨callB_of n hts (gt_good (fun w h => h) y5) rfl rfl rfl (hts _ y4) (hts _ y1) ⟨y7, y8, y9⟩ ⟨hfr, hlo⟩, yn, hts _ y2⟩ ⟨bl, fun U hU hW => ⟨rfl, by rw [hU], by rw [hU]; exact hw.2.1, va_K.moved hW.alike hw.1, hw.2.2.1.weaken (fun _ _ _ _ => trivial), AOs_warm hW hw.2.2.2.2.2⟩⟩ rfl hn hls hst (lv_room hrest) hdg hcs) hw.2.2.2.1 (fun q _ h => hA q h) hA (fun t H1 locs1 ht hvm hB hz1 hk1 hS => ?_)
  obtain ⟨W2, b1', b2, b3⟩ := hB
  exact kk W2 H1 locs1 b1' ⟨hw.1, by rw [← ht]; exact b2, b3.weaken (fun _ _ _ h => hA _ h), hS, hw.2.2.2.2⟩
theorem n_callN {host : String} {y : MethodName} {cy : ByteArray} {maxLy n fr lo mc ms b : Nat} {As : List Value} {post : va_W → Prop} (G : CallFix p m c cc nL s args gtbl own) (hw : NW D E A s W1 H locs) (hy : gNN y cy maxLy n) (hlk : va_Nw (.methodLinkNest own index y host) s) (hM : nMet l y cy maxLy fr lo mc ms D E (.ref b :: As) W1 post)
    (hls : ls.size = nL) (hn : As.length = n) (hst : st0 = As.reverse ++ .ref b :: rest) (hrest : (rest.map fun v => v.category).sum ≤ 8) (hfr : fr + 1 ≤ R.frames) (hlo : 8 + (maxLy + 11) + lo ≤ R.locals) (hcs : cells + mc ≤ R.cells ∧ slots + ms ≤ R.slots) (hdg : decode cc pc = .ok (.invokespecial index, 3))
    (kk : ∀ (W2 : va_W) (H1 : Heap) (locs1 : List Loc), post W2 → NW D E A s W2 H1 locs1 → W p l en R s m args below meth c H1 locs1 (cells + mc) (slots + ms) Q (F0 m (pc + 3) ls rest)) : W p l en R s m args below meth c H locs cells slots Q (F0 m pc ls st0) := by
  obtain ⟨y2, y4, y5, yn, y7, y8, y9⟩ := hy
  have hts := G.2.2.2.2
  have hA : ∀ q, va_A W1 H.size q → A q := fun q hq => by
    rcases hq with ⟨k, c, hk⟩ | hq
    · exact hw.2.2.1.2 k _ hk
    · exact hw.2.2.2.2.1 q (Nat.le_trans hw.2.2.2.1.1 hq)
  have bl : FrameBlind (va_Pc (.ref b :: As) (fun U => U.heap.size = H.size ∧ va_P D vwCl W1 U.heap ∧ va_K D vwCl (gtys E) U ∧ va_D (fun _ => True) W1 ∧ AOs U)) := by
    intro a U fr mk h
    obtain ⟨h1, h2, h3, h4, h5, h6⟩ := h
    exact ⟨h1, h2, h3, va_K.moved (u := U) (Vm.Alike.refl U.vm) h4, h5, AOs_blind h6⟩
  refine g_call (va_runIN (As := As) (rest := rest) G (hM H.size) ⟨va_cnB n hts (gt_good (fun w h => h) y5) rfl rfl rfl hlk (hts _ y4) ⟨y7, y8, y9⟩ ⟨hfr, hlo⟩, yn, hts _ y2⟩ ⟨bl, fun U hU hW => ⟨rfl, by rw [hU], by rw [hU]; exact hw.2.1, va_K.moved hW.alike hw.1, hw.2.2.1.weaken (fun _ _ _ _ => trivial), AOs_warm hW hw.2.2.2.2.2⟩⟩ rfl hn hls hst (lv_room hrest) hdg hcs) hw.2.2.2.1 (fun q _ h => hA q h) hA (fun t H1 locs1 ht hvm hB hz1 hk1 hS => ?_)
  obtain ⟨W2, b1', b2, b3⟩ := hB
  exact kk W2 H1 locs1 b1' ⟨hw.1, by rw [← ht]; exact b2, b3.weaken (fun _ _ _ h => hA _ h), hS, hw.2.2.2.2⟩
end NROWS
