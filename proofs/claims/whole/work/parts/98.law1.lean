/-! ===== THE LAW: its world, and calls out of it ===== -/
def lwW (E : gE) (o : Nat) (f : Nat → Int64) (mm cm : Mem) : va_W := outC E o f :: (gws idsM E mm ++ gws idsC E cm)
def lwF (E : gE) (o : Nat) : List Nat := o :: (idsM.map (fun z => E.1 z.1 z.2) ++ idsC.map (fun z => E.1 z.1 z.2))
theorem lwW_fst {E : gE} {o : Nat} {f : Nat → Int64} {mm cm : Mem} : (lwW E o f mm cm).map Prod.fst = lwF E o := by
  unfold lwW lwF gws outC
  rw [List.map_cons, List.map_append, List.map_map, List.map_map]
  rfl
/-- within the law: the heap holds the row for the answers and both memories -/
def LWs (D : va_G) (E : gE) (A : Nat → Prop) (s : State) (o : Nat) (f : Nat → Int64) (mm cm : Mem) (H : Heap) (locs : List Loc) : Prop := va_K D vwCl (gtys E) s ∧ va_P D vwCl (lwW E o f mm cm) H ∧ va_D A (lwW E o f mm cm) ∧ va_S A s.heap H locs ∧ GSA E A s ∧ STK A s ∧ ∀ q : Nat, s.heap.size ≤ q → A q
theorem lw_D {A : Nat → Prop} {E : gE} {o : Nat} {f f2 : Nat → Int64} {mm m2 cm c2 : Mem} (h : va_D A (lwW E o f mm cm)) {B : Nat → Prop} (h2 : va_D B (lwW E o f2 m2 c2)) : va_D A (lwW E o f2 m2 c2) := by
  rw [va_nodup] at h h2 ⊢
  refine ⟨h2.1, fun q hq => ?_⟩
  have h3 : q.1 ∈ (lwW E o f2 m2 c2).map Prod.fst := List.mem_map.mpr ⟨q, hq, rfl⟩
  rw [lwW_fst, ← lwW_fst (f := f) (mm := mm) (cm := cm)] at h3
  obtain ⟨z, hz, e⟩ := List.mem_map.mp h3
  rw [← e]
  exact h.2 z hz
theorem lw_perm {E : gE} {o : Nat} {f : Nat → Int64} {mm cm : Mem} : (lwW E o f mm cm).Perm ((outC E o f :: gws idsC E cm) ++ gws idsM E mm) := List.Perm.cons _ List.perm_append_comm
section LAWF
variable {p : Program} {l : Launch} {en : Env} {R : Room} {s : State} {m : MethodId} {args : Array Value} {below : List Frame} {meth : Method} {c : Code} {H : Heap} {locs : List Loc} {cells slots : Nat} {Q : State → Prop}
variable {cc : ByteArray} {nL pc : Nat} {ls : Array Slot} {rest st0 : List Value} {own : String} {D : va_G} {E : gE} {A : Nat → Prop} {o : Nat} {f f2 : Nat → Int64} {mm cm m2 c2 : Mem} {index : Nat}
theorem LWs.C (h : LWs D E A s o f mm cm H locs) : GW D (outC E o f :: gws idsM E mm) idsC E A s cm H locs := ⟨h.1, h.2.1, h.2.2.1, h.2.2.2.1, h.2.2.2.2.1⟩
theorem LWs.M (h : LWs D E A s o f mm cm H locs) : GW D (outC E o f :: gws idsC E cm) idsM E A s mm H locs := ⟨h.1, h.2.1.perm lw_perm, h.2.2.1.perm lw_perm, h.2.2.2.1, h.2.2.2.2.1⟩
theorem LWs.ofC {H1 : Heap} {locs1 : List Loc} (h0 : LWs D E A s o f mm cm H locs) (h : GW D (outC E o f2 :: gws idsM E mm) idsC E A s c2 H1 locs1) : LWs D E A s o f2 mm c2 H1 locs1 := ⟨h.1, h.2.1, h.2.2.1, h.2.2.2.1, h0.2.2.2.2⟩
theorem LWs.ofM {H1 : Heap} {locs1 : List Loc} (h0 : LWs D E A s o f mm cm H locs) (h : GW D (outC E o f2 :: gws idsC E cm) idsM E A s m2 H1 locs1) : LWs D E A s o f2 m2 cm H1 locs1 := ⟨h.1, h.2.1.perm lw_perm.symm, h.2.2.1.perm lw_perm.symm, h.2.2.2.1, h0.2.2.2.2⟩
theorem gA_of {X : va_W} {ids : List (Nat × Nat)} {g : Mem} (hD : va_D A (X ++ gws ids E g)) (hA : ∀ q, H.size ≤ q → A q) : ∀ q, gA X ids E H.size q → A q := by
  intro q hq
  rcases hq with (⟨k, c, hk⟩ | ⟨z, hz, rfl⟩) | hq
  · refine hD.2 k (q, c) ?_
    rw [List.getElem?_append_left (List.getElem?_eq_some_iff.mp hk).1]
    exact hk
  · obtain ⟨j, hj⟩ := List.getElem?_of_mem hz
    exact hD.2 (X.length + j) (E.1 z.1 z.2, gcell E g z.1 z.2) (by
      rw [List.getElem?_append_right (by omega), show X.length + j - X.length = j by omega]
      unfold gws
      rw [List.getElem?_map, hj]
      rfl)
  · exact hA q hq
theorem LWs.up (h : LWs D E A s o f mm cm H locs) : ∀ q, H.size ≤ q → A q := fun q hq => h.2.2.2.2.2.2 q (Nat.le_trans h.2.2.2.1.1 hq)
/-- the tables' words of a static call of a method with an exception table -/
def gSW (own : String) (index : Nat) (y : MethodName) (cy : ByteArray) (maxL : Nat) (hh : List (Nat × Nat × Nat × Nat)) (n : Nat) : Prop :=
  Cond.methodLink own index y ∈ gtbl ∧ Cond.static y ∈ gtbl ∧ Cond.initialized y.cls ∈ gtbl ∧ Cond.codeWith y cy maxL (some .int) hh ∈ gtbl ∧ y.cls ≠ "java/lang/invoke/MethodHandle" ∧ y.cls ≠ "java/lang/invoke/VarHandle" ∧ (parseMethodDescriptor y.desc).map (fun d => d.parameters.length) = some n
theorem l_help {y : MethodName} {cy : ByteArray} {maxLy n fr lo : Nat} {hh : List (Nat × Nat × Nat × Nat)} {As : List Value} {rv : Int32} (G : CallFix p m c cc nL s args gtbl own) (hw : LWs D E A s o f mm cm H locs) (hy : gSW own index y cy maxLy hh n) (hM : hMet l y cy maxLy hh fr lo D (outC E o f :: gws idsM E mm) E As cm rv (GP D (outC E o f2 :: gws idsM E mm) idsC E c2))
    (hls : ls.size = nL) (hn : As.length = n) (hst : st0 = As.reverse ++ rest) (hrest : (rest.map fun v => v.category).sum ≤ 8) (hfr : fr + 1 ≤ R.frames) (hlo : 8 + (maxLy + 11) + lo ≤ R.locals) (hcs : cells + 1 ≤ R.cells ∧ slots + 6 ≤ R.slots) (hdg : decode cc pc = .ok (.invokestatic index, 3))
    (kk : ∀ (H1 : Heap) (locs1 : List Loc), LWs D E A s o f2 mm c2 H1 locs1 → W p l en R s m args below meth c H1 locs1 (cells + 1) (slots + 6) Q (F0 m (pc + 3) ls (.int rv :: rest))) : W p l en R s m args below meth c H locs cells slots Q (F0 m pc ls st0) := by
  obtain ⟨y1, y3, y4, y5, y7, y8, y9⟩ := hy
  have hts := G.2.2.2.2
  have hA := gA_of (H := H) hw.C.2.2.1 hw.up
  have cw : vx_CSW R s args own index y cy maxLy (some .int) hh (.codeWith y cy maxLy (some .int) hh :: gtbl) { frames := fr, cells := 1, slots := 6, locals := lo } 1 6 n :=
    ⟨⟨rfl, rfl, hfr, hlo, pay_in hts (gt_good (fun w h => h) y5), List.mem_cons_self⟩, hts _ y5, hts _ y4, ⟨y7, y8⟩, fun sig h => by rw [h] at y9; exact (Option.some.inj y9).symm, hts _ y1, hts _ y3⟩
  have hr := vx_runSX (e := en) (locs := locs) (cells := cells) (slots := slots) (below := below) (meth := meth) (As := As) (rest := rest) (g := F0 m pc ls st0) G (hM H.size) cw ⟨GPT_blind, fun U hU hW => GWT_pre hw.C hw.2.2.2.2.2.1 hA hU hW⟩ rfl hn hls hst (lv_room hrest) hdg hcs
  intro T hTh X'
  rcases hr T hTh X' with ⟨v, st₀, t, T', L, h0, X'', hL, e1, e2, ⟨⟨hv, hb⟩, hF⟩, st⟩ | ⟨q, st₀, t, T', L, E', ce, h0, X'', hL, e1, e2, hX, st⟩
  · cases hv
    obtain ⟨k1, k2, k3⟩ := vx_keep h0 e1 hw.2.2.2.1 (fun q _ h => hA q h) hA hL hF
    have hw' : LWs D E A s o f2 mm c2 T'.heap (locs ++ L) := ⟨hw.1, by rw [e1]; exact hb.1, lw_D hw.2.2.1 hb.2.2, k3, hw.2.2.2.2⟩
    obtain ⟨t2, a1, b1⟩ := kk T'.heap (locs ++ L) hw' T' rfl X''
    exact ⟨t2, st t2 a1, b1⟩
  · exact hX.elim
theorem l_C {y : MethodName} {cy : ByteArray} {maxLy n fr lo : Nat} {ret : Option FieldType} {As : List Value} {rv : Option Value} (G : CallFix p m c cc nL s args gtbl own) (hw : LWs D E A s o f mm cm H locs) (hy : gV own index RX10 y cy maxLy ret n) (hM : gMet l y cy maxLy ret fr lo D (outC E o f :: gws idsM E mm) idsC E (.ref (E.1 9 0) :: As) cm rv c2)
    (hls : ls.size = nL) (hn : As.length = n) (hst : st0 = As.reverse ++ .ref (E.1 9 0) :: rest) (hrest : (rest.map fun v => v.category).sum ≤ 8) (hfr : fr + 1 ≤ R.frames) (hlo : 8 + (maxLy + 11) + lo ≤ R.locals) (hcs : cells ≤ R.cells ∧ slots ≤ R.slots) (hdg : decode cc pc = .ok (.invokevirtual index, 3))
    (kk : ∀ (H1 : Heap) (locs1 : List Loc), LWs D E A s o f mm c2 H1 locs1 → W p l en R s m args below meth c H1 locs1 cells slots Q (F0 m (pc + 3) ls (rv.toList ++ rest))) : W p l en R s m args below meth c H locs cells slots Q (F0 m pc ls st0) :=
  g_callV G hw.C (gA_of hw.C.2.2.1 hw.up) C_9 iC_9 hy hM hls hn hst hrest hfr hlo hcs hdg (fun H1 locs1 h => kk H1 locs1 (hw.ofC h))
theorem l_M {y : MethodName} {cy : ByteArray} {maxLy n fr lo : Nat} {ret : Option FieldType} {As : List Value} {rv : Option Value} (G : CallFix p m c cc nL s args gtbl own) (hw : LWs D E A s o f mm cm H locs) (hy : gV own index RX11 y cy maxLy ret n) (hM : gMet l y cy maxLy ret fr lo D (outC E o f :: gws idsC E cm) idsM E (.ref (E.1 10 0) :: As) mm rv m2)
    (hls : ls.size = nL) (hn : As.length = n) (hst : st0 = As.reverse ++ .ref (E.1 10 0) :: rest) (hrest : (rest.map fun v => v.category).sum ≤ 8) (hfr : fr + 1 ≤ R.frames) (hlo : 8 + (maxLy + 11) + lo ≤ R.locals) (hcs : cells ≤ R.cells ∧ slots ≤ R.slots) (hdg : decode cc pc = .ok (.invokevirtual index, 3))
    (kk : ∀ (H1 : Heap) (locs1 : List Loc), LWs D E A s o f m2 cm H1 locs1 → W p l en R s m args below meth c H1 locs1 cells slots Q (F0 m (pc + 3) ls (rv.toList ++ rest))) : W p l en R s m args below meth c H locs cells slots Q (F0 m pc ls st0) :=
  g_callV G hw.M (gA_of hw.M.2.2.1 hw.up) C_10 iM_10 hy hM hls hn hst hrest hfr hlo hcs hdg (fun H1 locs1 h => kk H1 locs1 (hw.ofM h))
/-- a constructor that needs the written texts -/
theorem n_callG {y : MethodName} {cy : ByteArray} {maxLy n fr lo mc ms b : Nat} {As : List Value} {W1 : va_W} {post : va_W → Prop} (G : CallFix p m c cc nL s args gtbl own) (hw : NW D E A s W1 H locs) (hE : GSA E A s) (hy : gN own index y cy maxLy n) (hM : nMetG l y cy maxLy fr lo mc ms D E (.ref b :: As) W1 post)
    (hls : ls.size = nL) (hn : As.length = n) (hst : st0 = As.reverse ++ .ref b :: rest) (hrest : (rest.map fun v => v.category).sum ≤ 8) (hfr : fr + 1 ≤ R.frames) (hlo : 8 + (maxLy + 11) + lo ≤ R.locals) (hcs : cells + mc ≤ R.cells ∧ slots + ms ≤ R.slots) (hdg : decode cc pc = .ok (.invokespecial index, 3))
    (kk : ∀ (W2 : va_W) (H1 : Heap) (locs1 : List Loc), post W2 → NW D E A s W2 H1 locs1 → W p l en R s m args below meth c H1 locs1 (cells + mc) (slots + ms) Q (F0 m (pc + 3) ls rest)) : W p l en R s m args below meth c H locs cells slots Q (F0 m pc ls st0) := by
  obtain ⟨y1, y2, y4, y5, yn, y7, y8, y9⟩ := hy
  have hts := G.2.2.2.2
  have hA : ∀ q, va_A W1 H.size q → A q := fun q hq => by
    rcases hq with ⟨k, c, hk⟩ | hq
    · exact hw.2.2.1.2 k _ hk
    · exact hw.2.2.2.2.1 q (Nat.le_trans hw.2.2.2.1.1 hq)
  have bl : FrameBlind (va_Pc (.ref b :: As) (fun U => U.heap.size = H.size ∧ va_P D vwCl W1 U.heap ∧ va_K D vwCl (gtys E) U ∧ va_D (fun _ => True) W1 ∧ AOs U ∧ GSA E (va_A W1 H.size) U)) := by
    intro a U fr mk h
    obtain ⟨h1, h2, h3, h4, h5, h6, h7⟩ := h
    exact ⟨h1, h2, h3, va_K.moved (u := U) (Vm.Alike.refl U.vm) h4, h5, AOs_blind h6, GSA_blind h7⟩
  refine g_call (va_runI (As := As) (rest := rest) G (hM H.size) ⟨callB_of n hts (gt_good (fun w h => h) y5) rfl rfl rfl (hts _ y4) (hts _ y1) ⟨y7, y8, y9⟩ ⟨hfr, hlo⟩, yn, hts _ y2⟩ ⟨bl, fun U hU hW => ⟨rfl, by rw [hU], by rw [hU]; exact hw.2.1, va_K.moved hW.alike hw.1, hw.2.2.1.weaken (fun _ _ _ _ => trivial), AOs_warm hW hw.2.2.2.2.2, GSA_call hE hw.2.2.2.1 hA hU hW⟩⟩ rfl hn hls hst (lv_room hrest) hdg hcs) hw.2.2.2.1 (fun q _ h => hA q h) hA (fun t H1 locs1 ht hvm hB hz1 hk1 hS => ?_)
  obtain ⟨W2, b1', b2, b3⟩ := hB
  exact kk W2 H1 locs1 b1' ⟨hw.1, by rw [← ht]; exact b2, b3.weaken (fun _ _ _ h => hA _ h), hS, hw.2.2.2.2⟩
theorem n_newl {n : Int32} {N' : Nat} {W1 : va_W} (G : CallFix p m c cc nL s args gtbl own) (hw : NW D E A s W1 H locs) (harr : Cond.arrayClass .long ∈ gtbl) (hn : ¬ n < 0) (hN : n.toNatClampNeg = N') (hb : N' * 8 ≤ 536870912) (hc : cells + 1 ≤ R.cells) (hs : slots + N' ≤ R.slots) (hdg : decode cc pc = .ok (.newarray .long, 2))
    (kk : ∀ (q : Nat) (H1 : Heap), NW D E A s (W1 ++ [(q, .inl (E.2.2.2.2.2.1, N', .inr (.inl (fun _ => 0))))]) H1 locs → W p l en R s m args below meth c H1 locs (cells + 1) (slots + N') Q (F0 m (pc + 2) ls (.ref q :: rest))) : W p l en R s m args below meth c H locs cells slots Q (F0 m pc ls (.int n :: rest)) := by
  refine va_newa (atype := .long) (a0 := (N', .inr (.inl (fun _ => 0)))) G.1 G.2.1 (G.2.2.2.2 _ harr) rfl hw.1 hw.2.1 hw.2.2.1 hw.2.2.2.1 hw.2.2.2.2.1 (fun _ => rfl) hn hN hb hc hs hdg (fun q cA H1 hK hP hD hS => ?_)
  have e : cA = E.2.2.2.2.2.1 := ra_uq (hK.2 5 _ rfl).2 (hK.2 4 _ rfl).2
  subst e
  exact kk q H1 ⟨hw.1, hP, hD, hS, hw.2.2.2.2⟩
/-- what both sides have thrown, and the answers -/
theorem l_tail {P iT : Nat} {og : Int} {k b6 iv : Int32} {b : Nat} (G : CallFix p m c cc 7 s args gtbl own) (hw : LWs D E A s o f mm cm H locs) (hl : lv_has ls 7 [(6, .int b6), (5, .int k), (4, .int iv), (3, .ref o), (2, .ref (E.1 10 0)), (1, .ref (E.1 9 0)), (0, .ref b)]) (hk : gI mm 10 0 0 = k) (hr : k = 0 → f 0 = b6.toInt64) (hy : gV own iT RX11 yX11_thrown cX11_thrown 1 (some .int) 0) (hR : 1 ≤ R.frames ∧ 20 ≤ R.locals ∧ cells ≤ R.cells ∧ slots ≤ R.slots)
    (d0 : decode cc P = .ok (.aload_n 2, 1)) (d1 : decode cc (P + 1) = .ok (.invokevirtual iT, 3)) (d4 : decode cc (P + 4) = .ok (.iload 5, 2)) (d6 : decode cc (P + 6) = .ok (.if_icmp .eq 5, 3)) (d11 : decode cc (P + 11) = .ok (.iload 5, 2)) (d13 : decode cc (P + 13) = .ok (.ifCond .ne 15, 3)) (d16 : decode cc (P + 16) = .ok (.aload_n 3, 1)) (d17 : decode cc (P + 17) = .ok (.iconst 0, 1)) (d18 : decode cc (P + 18) = .ok (.laload, 1)) (d19 : decode cc (P + 19) = .ok (.iload 6, 2)) (d21 : decode cc (P + 21) = .ok (.i2l, 1)) (d22 : decode cc (P + 22) = .ok (.lcmp, 1)) (d23 : decode cc (P + 23) = .ok (.ifCond .eq 5, 3)) (d28 : decode cc (P + 28) = .ok (.goto og, 3)) (hog : ((P + 28 : Nat) : Int) + og = ((866 : Nat) : Int))
    (kk : ∀ (H1 : Heap) (locs1 : List Loc), LWs D E A s o f mm cm H1 locs1 → W p l en R s m args below meth c H1 locs1 cells slots Q (F0 m 866 ls [])) : W p l en R s m args below meth c H locs cells slots Q (F0 m P ls []) := by
  refine lv_aload_n G.1 G.2.1 d0 rfl (lv_at hl 4 rfl) ?_
  refine l_M (As := []) (rest := []) G hw hy (c_M_thrown l D (outC E o f :: gws idsC E cm) E 0 mm k (by rw [M_thrown, hk])) hl.1 rfl rfl (Nat.le_of_ble_eq_true rfl) hR.1 hR.2.1 ⟨hR.2.2.1, hR.2.2.2⟩ d1 (fun H locs hw => ?_)
  refine lv_iload G.1 G.2.1 d4 (lv_at hl 1 rfl) ?_
  refine lv_icmp_eq (tgt := P + 11) G.1 G.2.1 d6 (by omega) (fun _ => ?_) (fun h => absurd rfl h)
  refine lv_iload G.1 G.2.1 d11 (lv_at hl 1 rfl) ?_
  have hend : W p l en R s m args below meth c H locs cells slots Q (F0 m (P + 28) ls []) := lv_goto (tgt := 866) G.1 G.2.1 d28 hog (kk H locs hw)
  refine lv_if_ne (tgt := P + 28) G.1 G.2.1 d13 (by omega) (fun _ => hend) (fun h0 => ?_)
  refine lv_aload_n G.1 G.2.1 d16 rfl (lv_at hl 3 rfl) ?_
  refine lv_iconst (v := (0 : Int32)) G.1 G.2.1 d17 (by decide) ?_
  refine va_lald G.1 G.2.1 hw.1 hw.2.1 0 4 (cA := E.2.2.2.2.2.1) (n := 1) (f := f) rfl rfl (by unfold vp_in; decide) d18 ?_
  refine lv_iload G.1 G.2.1 d19 (lv_at hl 0 rfl) ?_
  refine lv_i2l G.1 G.2.1 d21 rfl ?_
  refine W.lcmp G.1 G.2.1 d22 ?_
  have e : lg_cmp (f (0 : Int32).toNatClampNeg) b6.toInt64 = 0 := by
    rw [show (0 : Int32).toNatClampNeg = 0 from rfl, hr h0]
    unfold lg_cmp
    simp
  refine lv_if_eq (tgt := P + 28) G.1 G.2.1 d23 (by omega) (fun _ => hend) (fun h => absurd e h)
end LAWF
