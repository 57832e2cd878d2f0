/-! ===== THE LAW'S HELPERS: a call, and what it throws is caught (the walks are printed by program) ===== -/
/-- the row for the answers -/
def outC (E : gE) (o : Nat) (f : Nat → Int64) : Nat × va_E := (o, .inl (E.2.2.2.2.2.1, 1, .inr (.inl f)))
/-- a helper's contract: it answers rv and leaves what B says -/
def hMet (l : Launch) (y : MethodName) (cc : ByteArray) (maxL : Nat) (hh : List (Nat × Nat × Nat × Nat)) (fr lo : Nat) (D : va_G) (X : va_W) (e : gE) (av : List Value) (m : Mem) (rv : Int32) (B : State → Prop) : Prop :=
  ∀ sz : Nat, vx_Met l y (.codeWith y cc maxL (some .int) hh :: gtbl) { frames := fr, cells := 1, slots := 6, locals := lo } (va_Pc av (fun U => U.heap.size = sz ∧ GP D X idsC e m U ∧ GSA e (gA X idsC e sz) U ∧ STK (gA X idsC e sz) U)) (gQ (some (.int rv)) B (gA X idsC e sz)) (fun _ _ _ => False) 1 6 (gA X idsC e sz)
theorem gt_codeH {l : Launch} {y : MethodName} {cc : ByteArray} {maxL : Nat} {hh : List (Nat × Nat × Nat × Nat)} {fr lo : Nat} {D : va_G} {X : va_W} {E : gE} {av : List Value} {g : Mem} {rv : Int32} {B : State → Prop} (hy : plainName y.cls = true) (hlen : (lg_sl av).length ≤ maxL)
    (body : ∀ (p : Program) (en : Env) (s : State) (m : MethodId) (below : List Frame) (meth : Method) (c : Code) (ls : Array Slot), CallFix p m c cc maxL s av.toArray gtbl y.cls → meth.sig.returnType = some .int → meth.locks = false → c.exceptionTable.toList = tableOf hh → GW D X idsC E (gA X idsC E s.heap.size) s g s.heap [] → STK (gA X idsC E s.heap.size) s → lv_has ls maxL (lv_args 0 av) →
      W p l en { frames := fr, cells := 1, slots := 6, locals := lo } s m av.toArray below meth c s.heap [] 0 0 (vx_MQ below (gQ (some (.int rv)) B (gA X idsC E s.heap.size)) (fun _ _ _ => False) av.toArray s 1 6 (gA X idsC E s.heap.size)) (F0 m 0 ls [])) :
    hMet l y cc maxL hh fr lo D X E av g rv B := by
  intro sz
  refine vx_ofWH (cc := cc) (maxL := maxL) (ret := some .int) (hh := hh) hy rfl ?_
  intro p e s m args below meth c s₁ Bd hml hv
  obtain ⟨rfl, hsz, ⟨hP, hK, hD0⟩, hE, hT⟩ := hv
  have hts := atoms_spec (ws := .codeWith y cc maxL (some .int) hh :: gtbl) Bd.pre
  have hown : s.vm.findClass y.cls = some m.cls := findClass_of_methodNamed Bd.named
  have hlocks := Bd.notSynchronized
  have htab := vx_table (x := y) Bd (hts _ List.mem_cons_self)
  subst hsz
  have hl := lv_entry av (n := maxL) hlen
  rw [lg_entry_eq]
  exact body p e s m below meth c _ ⟨Bd.exec, Bd.bytes, hml, hown, fun w h => hts w (List.mem_cons_of_mem _ h)⟩ Bd.returns hlocks htab ⟨hK, hP, ⟨hD0.1, fun k q hk => gA_in hk⟩, va_S.rf, hE⟩ hT hl
section GHELP
variable {p : Program} {l : Launch} {en : Env} {R : Room} {s : State} {m : MethodId} {args : Array Value} {below : List Frame} {meth : Method} {c : Code} {H : Heap} {locs : List Loc} {cells slots : Nat} {Q : State → Prop}
variable {cc : ByteArray} {nL pc : Nat} {ls : Array Slot} {rest : List Value} {own : String} {D : va_G} {X X1 X0 : va_W} {ids : List (Nat × Nat)} {E : gE} {A : Nat → Prop} {g : Mem}
theorem h_iret {v : Int32} (G : CallFix p m c cc nL s args gtbl own) (hr : meth.sig.returnType = some .int) (hk : meth.locks = false) (hw : GW D X1 idsC E (gA X idsC E s.heap.size) s g H locs) (hc : cells ≤ 1) (hs : slots ≤ 6) (hdg : decode cc pc = .ok (.ireturn, 1)) :
    W p l en R s m args below meth c H locs cells slots (vx_MQ below (gQ (some (.int v)) (GP D X1 idsC E g) (gA X idsC E s.heap.size)) (fun _ _ _ => False) args s 1 6 (gA X idsC E s.heap.size)) (F0 m pc ls [.int v]) := by
  refine vx_ret (W.widen (k := 1) (n := 6) hc hs (W.iret (v := v) G.1 G.2.1 hr (fun t ht hW => ⟨⟨rfl, ?_⟩, hw.2.2.2.1.F ht⟩) hw.2.2.2.1.2.2 hdg hk))
  rw [← ht] at hw
  exact ⟨hw.2.1, va_K.moved hW.alike hw.1, hw.2.2.1.weaken (fun _ _ _ _ => trivial)⟩
/-- the answer goes into the row -/
theorem h_store {o : Nat} {f : Nat → Int64} {x : Int64} (G : CallFix p m c cc nL s args gtbl own) (hw : GW D (outC E o f :: X0) ids E A s g H locs) (hdg : decode cc pc = .ok (.lastore, 1))
    (kk : ∀ (H1 : Heap) (locs1 : List Loc), GW D (outC E o (vp_updL f (0 : Int32).toNatClampNeg x) :: X0) ids E A s g H1 locs1 → W p l en R s m args below meth c H1 locs1 cells slots Q (F0 m (pc + 1) ls rest)) : W p l en R s m args below meth c H locs cells slots Q (F0 m pc ls (.long x :: .int 0 :: .ref o :: rest)) := by
  obtain ⟨h1, h2, h3, h4, h5⟩ := hw
  refine va_last G.1 G.2.1 h1 h2 h3 h4 0 4 (cA := E.2.2.2.2.2.1) (n := 1) (f := f) rfl rfl (by unfold vp_in; decide) hdg (fun H1 locs1 a1 a2 a3 => ?_)
  exact kk H1 locs1 ⟨h1, a1, a2, a3, h5⟩
end GHELP
theorem lkL13 : Cond.classLink RL 13 sIAE ∈ gtbl := by decide +kernel
theorem lkL27 : Cond.classLink RL 27 sIOB ∈ gtbl := by decide +kernel
theorem mv_L_15 : gV RL 15 RX10 yX10_units cX10_units 4 none 3 := ⟨gt_in 893 (by decide +kernel) (by decide +kernel), gt_in 894 (by decide +kernel) (by decide +kernel), gt_in 895 (by decide +kernel) (by decide +kernel), gt_in 89 (by decide +kernel) (by decide +kernel), gt_in 896 (by decide +kernel) (by decide +kernel), rfl, by decide +kernel, by decide +kernel, by decide +kernel⟩
theorem mv_L_19 : gV RL 19 RX10 yX10_told cX10_told 2 (some .int) 1 := ⟨gt_in 907 (by decide +kernel) (by decide +kernel), gt_in 908 (by decide +kernel) (by decide +kernel), gt_in 909 (by decide +kernel) (by decide +kernel), gt_in 89 (by decide +kernel) (by decide +kernel), gt_in 910 (by decide +kernel) (by decide +kernel), rfl, by decide +kernel, by decide +kernel, by decide +kernel⟩
theorem mv_L_23 : gV RL 23 RX10 yX10_block cX10_block 4 (some .int) 2 := ⟨gt_in 928 (by decide +kernel) (by decide +kernel), gt_in 929 (by decide +kernel) (by decide +kernel), gt_in 930 (by decide +kernel) (by decide +kernel), gt_in 89 (by decide +kernel) (by decide +kernel), gt_in 931 (by decide +kernel) (by decide +kernel), rfl, by decide +kernel, by decide +kernel, by decide +kernel⟩
theorem mv_L_29 : gV RL 29 RX10 yX10_operation cX10_operation 4 (some .int) 2 := ⟨gt_in 950 (by decide +kernel) (by decide +kernel), gt_in 951 (by decide +kernel) (by decide +kernel), gt_in 952 (by decide +kernel) (by decide +kernel), gt_in 89 (by decide +kernel) (by decide +kernel), gt_in 953 (by decide +kernel) (by decide +kernel), rfl, by decide +kernel, by decide +kernel, by decide +kernel⟩
theorem mv_L_32 : gV RL 32 RX10 yX10_set cX10_set 4 (some .int) 2 := ⟨gt_in 957 (by decide +kernel) (by decide +kernel), gt_in 958 (by decide +kernel) (by decide +kernel), gt_in 959 (by decide +kernel) (by decide +kernel), gt_in 89 (by decide +kernel) (by decide +kernel), gt_in 960 (by decide +kernel) (by decide +kernel), rfl, by decide +kernel, by decide +kernel, by decide +kernel⟩
theorem mv_L_35 : gV RL 35 RX10 yX10_get cX10_get 2 (some .int) 1 := ⟨gt_in 968 (by decide +kernel) (by decide +kernel), gt_in 962 (by decide +kernel) (by decide +kernel), gt_in 963 (by decide +kernel) (by decide +kernel), gt_in 89 (by decide +kernel) (by decide +kernel), gt_in 964 (by decide +kernel) (by decide +kernel), rfl, by decide +kernel, by decide +kernel, by decide +kernel⟩
theorem mv_L_38 : gV RL 38 RX10 yX10_poke cX10_poke 4 (some .int) 2 := ⟨gt_in 972 (by decide +kernel) (by decide +kernel), gt_in 973 (by decide +kernel) (by decide +kernel), gt_in 974 (by decide +kernel) (by decide +kernel), gt_in 89 (by decide +kernel) (by decide +kernel), gt_in 975 (by decide +kernel) (by decide +kernel), rfl, by decide +kernel, by decide +kernel, by decide +kernel⟩
theorem mv_L_41 : gV RL 41 RX10 yX10_peek cX10_peek 2 (some .int) 1 := ⟨gt_in 983 (by decide +kernel) (by decide +kernel), gt_in 977 (by decide +kernel) (by decide +kernel), gt_in 978 (by decide +kernel) (by decide +kernel), gt_in 89 (by decide +kernel) (by decide +kernel), gt_in 979 (by decide +kernel) (by decide +kernel), rfl, by decide +kernel, by decide +kernel, by decide +kernel⟩
theorem mv_L_44 : gV RL 44 RX10 yX10_run cX10_run 2 (some .int) 1 := ⟨gt_in 987 (by decide +kernel) (by decide +kernel), gt_in 988 (by decide +kernel) (by decide +kernel), gt_in 989 (by decide +kernel) (by decide +kernel), gt_in 89 (by decide +kernel) (by decide +kernel), gt_in 990 (by decide +kernel) (by decide +kernel), rfl, by decide +kernel, by decide +kernel, by decide +kernel⟩
theorem mv_L_7 : gV RL 7 RX10 yX10_feed cX10_feed 4 (some .int) 2 := ⟨gt_in 820 (by decide +kernel) (by decide +kernel), gt_in 821 (by decide +kernel) (by decide +kernel), gt_in 822 (by decide +kernel) (by decide +kernel), gt_in 89 (by decide +kernel) (by decide +kernel), gt_in 823 (by decide +kernel) (by decide +kernel), rfl, by decide +kernel, by decide +kernel, by decide +kernel⟩
set_option maxHeartbeats 4000000 in
set_option maxRecDepth 100000 in
theorem h_feed (l : Launch) (D : va_G) (X0 : va_W) (o : Nat) (f : Nat → Int64) (E : gE) (n : Nat) (a1 : Int32) (a2 : Int64) (g : Mem) (r : Int32) (g' : Mem) (hf : K_feed n a1 a2 g = some (r, g')) : hMet l yL_feed cL_feed 6 [(0, 11, 14, 13)] 2 47 D (outC E o f :: X0) E [.ref (E.1 9 0), .int a1, .long a2, .ref o] g 0 (GP D (outC E o (vp_updL f (0 : Int32).toNatClampNeg r.toInt64) :: X0) idsC E g') := by
  refine gt_codeH (by decide) (Nat.le_of_ble_eq_true rfl) (fun p en s m below meth c ls G hr hk ht hw hT hl => ?_)
  have hl : lv_has ls 6 [(0, .ref (E.1 9 0)), (1, .int a1), (2, .long a2), (4, .ref o)] := hl
  refine lv_aload G.1 G.2.1 dL_feed_0 (lv_at hl 3 rfl) ?_
  refine lv_iconst (v := (0 : Int32)) G.1 G.2.1 dL_feed_2 (by decide) ?_
  refine lv_aload_n G.1 G.2.1 dL_feed_3 rfl (lv_at hl 0 rfl) ?_
  refine lv_iload_n G.1 G.2.1 dL_feed_4 rfl (lv_at hl 1 rfl) ?_
  refine lv_lload_n G.1 G.2.1 dL_feed_5 rfl (lv_at hl 2 rfl) ?_
  refine g_callV1 (As := [.int a1, .long a2]) (rest := [.int 0, .ref o]) G hw (gA_mono hw.2.2.2.1.1) C_9 iC_9 mv_L_7 (c_K_feed l D (outC E o f :: X0) E n a1 a2 g r g' hf) hl.1 rfl rfl (Nat.le_of_ble_eq_true rfl) (Nat.le_of_ble_eq_true rfl) (Nat.le_of_ble_eq_true rfl) ⟨by decide, by decide⟩ dL_feed_6 (fun H locs hw => ?_)
  refine lv_i2l G.1 G.2.1 dL_feed_9 rfl ?_
  refine h_store G hw dL_feed_10 (fun H locs hw => ?_)
  refine lv_goto (tgt := 18) G.1 G.2.1 dL_feed_11 (by decide) ?_
  refine lv_iconst (v := (0 : Int32)) G.1 G.2.1 dL_feed_18 (by decide) ?_
  exact h_iret G hr hk hw (by decide) (by decide) dL_feed_19

set_option maxHeartbeats 4000000 in
set_option maxRecDepth 100000 in
theorem h_feed_T1 (l : Launch) (hlf : l.stackTraces = false) (D : va_G) (X0 : va_W) (o : Nat) (f : Nat → Int64) (E : gE) (n : Nat) (a1 : Int32) (a2 : Int64) (g : Mem) (hf : K_feed_T n a1 a2 g = some sIAE) : hMet l yL_feed cL_feed 6 [(0, 11, 14, 13)] 7 104 D (outC E o f :: X0) E [.ref (E.1 9 0), .int a1, .long a2, .ref o] g 1 (GP D (outC E o f :: X0) idsC E g) := by
  refine gt_codeH (by decide) (Nat.le_of_ble_eq_true rfl) (fun p en s m below meth c ls G hr hk ht hw hT hl => ?_)
  have hl : lv_has ls 6 [(0, .ref (E.1 9 0)), (1, .int a1), (2, .long a2), (4, .ref o)] := hl
  refine lv_aload G.1 G.2.1 dL_feed_0 (lv_at hl 3 rfl) ?_
  refine lv_iconst (v := (0 : Int32)) G.1 G.2.1 dL_feed_2 (by decide) ?_
  refine lv_aload_n G.1 G.2.1 dL_feed_3 rfl (lv_at hl 0 rfl) ?_
  refine lv_iload_n G.1 G.2.1 dL_feed_4 rfl (lv_at hl 1 rfl) ?_
  refine lv_lload_n G.1 G.2.1 dL_feed_5 rfl (lv_at hl 2 rfl) ?_
  refine g_callVT (As := [.int a1, .long a2]) (rest := [.int 0, .ref o]) G hw hT (gA_mono hw.2.2.2.1.1) C_9 iC_9 mv_L_7 (t_K_feed l hlf D (outC E o f :: X0) E n a1 a2 g sIAE hf) hl.1 rfl rfl (Nat.le_of_ble_eq_true rfl) (Nat.le_of_ble_eq_true rfl) (Nat.le_of_ble_eq_true rfl) ⟨by decide, by decide⟩ dL_feed_6 (fun H locs ce q hw h1 h2 h3 => ?_)
  refine vx_catch (own := RL) (name := sIAE) G.2.2.2.1 [] ⟨0, 11, 14, 13⟩ [] ht (fun z hz => nomatch hz) (by decide) (by decide) (G.2.2.2.2 _ lkL13) (va_Nw.use rfl hT.2.2.1) h1 h2 h3 ?_
  refine lv_astore (lv' := [(5, .ref q), (0, .ref (E.1 9 0)), (1, .int a1), (2, .long a2), (4, .ref o)]) G.1 G.2.1 dL_feed_14 hl (by decide) rfl (fun ls hl => ?_)
  refine lv_iconst (v := (1 : Int32)) G.1 G.2.1 dL_feed_16 (by decide) ?_
  exact h_iret G hr hk hw (by decide) (by decide) dL_feed_17

set_option maxHeartbeats 4000000 in
set_option maxRecDepth 100000 in
theorem h_units (l : Launch) (D : va_G) (X : va_W) (E : gE) (n : Nat) (a1 : Int32) (a2 : Int32) (a3 : Int32) (g : Mem) (g' : Mem) (hf : K_units n a1 a2 a3 g = some g') : hMet l yL_units cL_units 5 [(0, 7, 10, 13)] 8 180 D X E [.ref (E.1 9 0), .int a1, .int a2, .int a3] g 0 (GP D X idsC E g') := by
  refine gt_codeH (by decide) (Nat.le_of_ble_eq_true rfl) (fun p en s m below meth c ls G hr hk ht hw hT hl => ?_)
  have hl : lv_has ls 5 [(0, .ref (E.1 9 0)), (1, .int a1), (2, .int a2), (3, .int a3)] := hl
  refine lv_aload_n G.1 G.2.1 dL_units_0 rfl (lv_at hl 0 rfl) ?_
  refine lv_iload_n G.1 G.2.1 dL_units_1 rfl (lv_at hl 1 rfl) ?_
  refine lv_iload_n G.1 G.2.1 dL_units_2 rfl (lv_at hl 2 rfl) ?_
  refine lv_iload_n G.1 G.2.1 dL_units_3 rfl (lv_at hl 3 rfl) ?_
  refine g_callV0 (As := [.int a1, .int a2, .int a3]) (rest := []) G hw (gA_mono hw.2.2.2.1.1) C_9 iC_9 mv_L_15 (c_K_units l D X E n a1 a2 a3 g g' hf) hl.1 rfl rfl (Nat.le_of_ble_eq_true rfl) (Nat.le_of_ble_eq_true rfl) (Nat.le_of_ble_eq_true rfl) ⟨by decide, by decide⟩ dL_units_4 (fun H locs hw => ?_)
  refine lv_goto (tgt := 14) G.1 G.2.1 dL_units_7 (by decide) ?_
  refine lv_iconst (v := (0 : Int32)) G.1 G.2.1 dL_units_14 (by decide) ?_
  exact h_iret G hr hk hw (by decide) (by decide) dL_units_15

set_option maxHeartbeats 4000000 in
set_option maxRecDepth 100000 in
theorem h_units_T1 (l : Launch) (hlf : l.stackTraces = false) (D : va_G) (X : va_W) (E : gE) (n : Nat) (a1 : Int32) (a2 : Int32) (a3 : Int32) (g : Mem) (hf : K_units_T n a1 a2 a3 g = some sIAE) : hMet l yL_units cL_units 5 [(0, 7, 10, 13)] 7 104 D X E [.ref (E.1 9 0), .int a1, .int a2, .int a3] g 1 (GP D X idsC E g) := by
  refine gt_codeH (by decide) (Nat.le_of_ble_eq_true rfl) (fun p en s m below meth c ls G hr hk ht hw hT hl => ?_)
  have hl : lv_has ls 5 [(0, .ref (E.1 9 0)), (1, .int a1), (2, .int a2), (3, .int a3)] := hl
  refine lv_aload_n G.1 G.2.1 dL_units_0 rfl (lv_at hl 0 rfl) ?_
  refine lv_iload_n G.1 G.2.1 dL_units_1 rfl (lv_at hl 1 rfl) ?_
  refine lv_iload_n G.1 G.2.1 dL_units_2 rfl (lv_at hl 2 rfl) ?_
  refine lv_iload_n G.1 G.2.1 dL_units_3 rfl (lv_at hl 3 rfl) ?_
  refine g_callVT (As := [.int a1, .int a2, .int a3]) (rest := []) G hw hT (gA_mono hw.2.2.2.1.1) C_9 iC_9 mv_L_15 (t_K_units l hlf D X E n a1 a2 a3 g sIAE hf) hl.1 rfl rfl (Nat.le_of_ble_eq_true rfl) (Nat.le_of_ble_eq_true rfl) (Nat.le_of_ble_eq_true rfl) ⟨by decide, by decide⟩ dL_units_4 (fun H locs ce q hw h1 h2 h3 => ?_)
  refine vx_catch (own := RL) (name := sIAE) G.2.2.2.1 [] ⟨0, 7, 10, 13⟩ [] ht (fun z hz => nomatch hz) (by decide) (by decide) (G.2.2.2.2 _ lkL13) (va_Nw.use rfl hT.2.2.1) h1 h2 h3 ?_
  refine lv_astore (lv' := [(4, .ref q), (0, .ref (E.1 9 0)), (1, .int a1), (2, .int a2), (3, .int a3)]) G.1 G.2.1 dL_units_10 hl (by decide) rfl (fun ls hl => ?_)
  refine lv_iconst (v := (1 : Int32)) G.1 G.2.1 dL_units_12 (by decide) ?_
  exact h_iret G hr hk hw (by decide) (by decide) dL_units_13

set_option maxHeartbeats 4000000 in
set_option maxRecDepth 100000 in
theorem h_told (l : Launch) (D : va_G) (X0 : va_W) (o : Nat) (f : Nat → Int64) (E : gE) (n : Nat) (a1 : Int32) (g : Mem) (r : Int32) (hf : K_told n a1 g = some r) : hMet l yL_told cL_told 4 [(0, 9, 12, 13)] 3 68 D (outC E o f :: X0) E [.ref (E.1 9 0), .int a1, .ref o] g 0 (GP D (outC E o (vp_updL f (0 : Int32).toNatClampNeg r.toInt64) :: X0) idsC E g) := by
  refine gt_codeH (by decide) (Nat.le_of_ble_eq_true rfl) (fun p en s m below meth c ls G hr hk ht hw hT hl => ?_)
  have hl : lv_has ls 4 [(0, .ref (E.1 9 0)), (1, .int a1), (2, .ref o)] := hl
  refine lv_aload_n G.1 G.2.1 dL_told_0 rfl (lv_at hl 2 rfl) ?_
  refine lv_iconst (v := (0 : Int32)) G.1 G.2.1 dL_told_1 (by decide) ?_
  refine lv_aload_n G.1 G.2.1 dL_told_2 rfl (lv_at hl 0 rfl) ?_
  refine lv_iload_n G.1 G.2.1 dL_told_3 rfl (lv_at hl 1 rfl) ?_
  refine g_callV1 (As := [.int a1]) (rest := [.int 0, .ref o]) G hw (gA_mono hw.2.2.2.1.1) C_9 iC_9 mv_L_19 (c_K_told l D (outC E o f :: X0) E n a1 g r hf) hl.1 rfl rfl (Nat.le_of_ble_eq_true rfl) (Nat.le_of_ble_eq_true rfl) (Nat.le_of_ble_eq_true rfl) ⟨by decide, by decide⟩ dL_told_4 (fun H locs hw => ?_)
  refine lv_i2l G.1 G.2.1 dL_told_7 rfl ?_
  refine h_store G hw dL_told_8 (fun H locs hw => ?_)
  refine lv_goto (tgt := 15) G.1 G.2.1 dL_told_9 (by decide) ?_
  refine lv_iconst (v := (0 : Int32)) G.1 G.2.1 dL_told_15 (by decide) ?_
  exact h_iret G hr hk hw (by decide) (by decide) dL_told_16

set_option maxHeartbeats 4000000 in
set_option maxRecDepth 100000 in
theorem h_told_T1 (l : Launch) (hlf : l.stackTraces = false) (D : va_G) (X0 : va_W) (o : Nat) (f : Nat → Int64) (E : gE) (n : Nat) (a1 : Int32) (g : Mem) (hf : K_told_T n a1 g = some sIAE) : hMet l yL_told cL_told 4 [(0, 9, 12, 13)] 7 102 D (outC E o f :: X0) E [.ref (E.1 9 0), .int a1, .ref o] g 1 (GP D (outC E o f :: X0) idsC E g) := by
  refine gt_codeH (by decide) (Nat.le_of_ble_eq_true rfl) (fun p en s m below meth c ls G hr hk ht hw hT hl => ?_)
  have hl : lv_has ls 4 [(0, .ref (E.1 9 0)), (1, .int a1), (2, .ref o)] := hl
  refine lv_aload_n G.1 G.2.1 dL_told_0 rfl (lv_at hl 2 rfl) ?_
  refine lv_iconst (v := (0 : Int32)) G.1 G.2.1 dL_told_1 (by decide) ?_
  refine lv_aload_n G.1 G.2.1 dL_told_2 rfl (lv_at hl 0 rfl) ?_
  refine lv_iload_n G.1 G.2.1 dL_told_3 rfl (lv_at hl 1 rfl) ?_
  refine g_callVT (As := [.int a1]) (rest := [.int 0, .ref o]) G hw hT (gA_mono hw.2.2.2.1.1) C_9 iC_9 mv_L_19 (t_K_told l hlf D (outC E o f :: X0) E n a1 g sIAE hf) hl.1 rfl rfl (Nat.le_of_ble_eq_true rfl) (Nat.le_of_ble_eq_true rfl) (Nat.le_of_ble_eq_true rfl) ⟨by decide, by decide⟩ dL_told_4 (fun H locs ce q hw h1 h2 h3 => ?_)
  refine vx_catch (own := RL) (name := sIAE) G.2.2.2.1 [] ⟨0, 9, 12, 13⟩ [] ht (fun z hz => nomatch hz) (by decide) (by decide) (G.2.2.2.2 _ lkL13) (va_Nw.use rfl hT.2.2.1) h1 h2 h3 ?_
  refine lv_astore_n (lv' := [(3, .ref q), (0, .ref (E.1 9 0)), (1, .int a1), (2, .ref o)]) G.1 G.2.1 dL_told_12 rfl hl (by decide) rfl (fun ls hl => ?_)
  refine lv_iconst (v := (1 : Int32)) G.1 G.2.1 dL_told_13 (by decide) ?_
  exact h_iret G hr hk hw (by decide) (by decide) dL_told_14

set_option maxHeartbeats 4000000 in
set_option maxRecDepth 100000 in
theorem h_block (l : Launch) (D : va_G) (X0 : va_W) (o : Nat) (f : Nat → Int64) (E : gE) (n : Nat) (a1 : Int32) (a2 : Int32) (g : Mem) (r : Int32) (hf : K_block n a1 a2 g = some r) : hMet l yL_block cL_block 5 [(0, 10, 13, 27), (0, 10, 17, 13)] 1 23 D (outC E o f :: X0) E [.ref (E.1 9 0), .int a1, .int a2, .ref o] g 0 (GP D (outC E o (vp_updL f (0 : Int32).toNatClampNeg r.toInt64) :: X0) idsC E g) := by
  refine gt_codeH (by decide) (Nat.le_of_ble_eq_true rfl) (fun p en s m below meth c ls G hr hk ht hw hT hl => ?_)
  have hl : lv_has ls 5 [(0, .ref (E.1 9 0)), (1, .int a1), (2, .int a2), (3, .ref o)] := hl
  refine lv_aload_n G.1 G.2.1 dL_block_0 rfl (lv_at hl 3 rfl) ?_
  refine lv_iconst (v := (0 : Int32)) G.1 G.2.1 dL_block_1 (by decide) ?_
  refine lv_aload_n G.1 G.2.1 dL_block_2 rfl (lv_at hl 0 rfl) ?_
  refine lv_iload_n G.1 G.2.1 dL_block_3 rfl (lv_at hl 1 rfl) ?_
  refine lv_iload_n G.1 G.2.1 dL_block_4 rfl (lv_at hl 2 rfl) ?_
  refine g_callV1 (As := [.int a1, .int a2]) (rest := [.int 0, .ref o]) G hw (gA_mono hw.2.2.2.1.1) C_9 iC_9 mv_L_23 (c_K_block l D (outC E o f :: X0) E n a1 a2 g r hf) hl.1 rfl rfl (Nat.le_of_ble_eq_true rfl) (Nat.le_of_ble_eq_true rfl) (Nat.le_of_ble_eq_true rfl) ⟨by decide, by decide⟩ dL_block_5 (fun H locs hw => ?_)
  refine lv_i2l G.1 G.2.1 dL_block_8 rfl ?_
  refine h_store G hw dL_block_9 (fun H locs hw => ?_)
  refine lv_goto (tgt := 21) G.1 G.2.1 dL_block_10 (by decide) ?_
  refine lv_iconst (v := (0 : Int32)) G.1 G.2.1 dL_block_21 (by decide) ?_
  exact h_iret G hr hk hw (by decide) (by decide) dL_block_22

set_option maxHeartbeats 4000000 in
set_option maxRecDepth 100000 in
theorem h_block_T1 (l : Launch) (hlf : l.stackTraces = false) (D : va_G) (X0 : va_W) (o : Nat) (f : Nat → Int64) (E : gE) (n : Nat) (a1 : Int32) (a2 : Int32) (g : Mem) (hf : K_block_T n a1 a2 g = some sIOB) : hMet l yL_block cL_block 5 [(0, 10, 13, 27), (0, 10, 17, 13)] 7 104 D (outC E o f :: X0) E [.ref (E.1 9 0), .int a1, .int a2, .ref o] g 1 (GP D (outC E o f :: X0) idsC E g) := by
  refine gt_codeH (by decide) (Nat.le_of_ble_eq_true rfl) (fun p en s m below meth c ls G hr hk ht hw hT hl => ?_)
  have hl : lv_has ls 5 [(0, .ref (E.1 9 0)), (1, .int a1), (2, .int a2), (3, .ref o)] := hl
  refine lv_aload_n G.1 G.2.1 dL_block_0 rfl (lv_at hl 3 rfl) ?_
  refine lv_iconst (v := (0 : Int32)) G.1 G.2.1 dL_block_1 (by decide) ?_
  refine lv_aload_n G.1 G.2.1 dL_block_2 rfl (lv_at hl 0 rfl) ?_
  refine lv_iload_n G.1 G.2.1 dL_block_3 rfl (lv_at hl 1 rfl) ?_
  refine lv_iload_n G.1 G.2.1 dL_block_4 rfl (lv_at hl 2 rfl) ?_
  refine g_callVT (As := [.int a1, .int a2]) (rest := [.int 0, .ref o]) G hw hT (gA_mono hw.2.2.2.1.1) C_9 iC_9 mv_L_23 (t_K_block l hlf D (outC E o f :: X0) E n a1 a2 g sIOB hf) hl.1 rfl rfl (Nat.le_of_ble_eq_true rfl) (Nat.le_of_ble_eq_true rfl) (Nat.le_of_ble_eq_true rfl) ⟨by decide, by decide⟩ dL_block_5 (fun H locs ce q hw h1 h2 h3 => ?_)
  refine vx_catch (own := RL) (name := sIOB) G.2.2.2.1 [] ⟨0, 10, 13, 27⟩ [⟨0, 10, 17, 13⟩] ht (fun z hz => nomatch hz) (by decide) (by decide) (G.2.2.2.2 _ lkL27) (va_Nw.use rfl hT.2.2.2.1) h1 h2 h3 ?_
  refine lv_astore (lv' := [(4, .ref q), (0, .ref (E.1 9 0)), (1, .int a1), (2, .int a2), (3, .ref o)]) G.1 G.2.1 dL_block_13 hl (by decide) rfl (fun ls hl => ?_)
  refine lv_iconst (v := (1 : Int32)) G.1 G.2.1 dL_block_15 (by decide) ?_
  exact h_iret G hr hk hw (by decide) (by decide) dL_block_16

set_option maxHeartbeats 4000000 in
set_option maxRecDepth 100000 in
theorem h_block_T2 (l : Launch) (hlf : l.stackTraces = false) (D : va_G) (X0 : va_W) (o : Nat) (f : Nat → Int64) (E : gE) (n : Nat) (a1 : Int32) (a2 : Int32) (g : Mem) (hf : K_block_T n a1 a2 g = some sIAE) : hMet l yL_block cL_block 5 [(0, 10, 13, 27), (0, 10, 17, 13)] 7 104 D (outC E o f :: X0) E [.ref (E.1 9 0), .int a1, .int a2, .ref o] g 2 (GP D (outC E o f :: X0) idsC E g) := by
  refine gt_codeH (by decide) (Nat.le_of_ble_eq_true rfl) (fun p en s m below meth c ls G hr hk ht hw hT hl => ?_)
  have hl : lv_has ls 5 [(0, .ref (E.1 9 0)), (1, .int a1), (2, .int a2), (3, .ref o)] := hl
  refine lv_aload_n G.1 G.2.1 dL_block_0 rfl (lv_at hl 3 rfl) ?_
  refine lv_iconst (v := (0 : Int32)) G.1 G.2.1 dL_block_1 (by decide) ?_
  refine lv_aload_n G.1 G.2.1 dL_block_2 rfl (lv_at hl 0 rfl) ?_
  refine lv_iload_n G.1 G.2.1 dL_block_3 rfl (lv_at hl 1 rfl) ?_
  refine lv_iload_n G.1 G.2.1 dL_block_4 rfl (lv_at hl 2 rfl) ?_
  refine g_callVT (As := [.int a1, .int a2]) (rest := [.int 0, .ref o]) G hw hT (gA_mono hw.2.2.2.1.1) C_9 iC_9 mv_L_23 (t_K_block l hlf D (outC E o f :: X0) E n a1 a2 g sIAE hf) hl.1 rfl rfl (Nat.le_of_ble_eq_true rfl) (Nat.le_of_ble_eq_true rfl) (Nat.le_of_ble_eq_true rfl) ⟨by decide, by decide⟩ dL_block_5 (fun H locs ce q hw h1 h2 h3 => ?_)
  refine vx_catch (own := RL) (name := sIAE) G.2.2.2.1 [⟨0, 10, 13, 27⟩] ⟨0, 10, 17, 13⟩ [] ht (fun z hz => by rw [List.mem_singleton.mp hz]; exact Or.inr ⟨by decide, sIOB, G.2.2.2.2 _ lkL27, hT.2.2.2.2.2.2.2⟩) (by decide) (by decide) (G.2.2.2.2 _ lkL13) (va_Nw.use rfl hT.2.2.1) h1 h2 h3 ?_
  refine lv_astore (lv' := [(4, .ref q), (0, .ref (E.1 9 0)), (1, .int a1), (2, .int a2), (3, .ref o)]) G.1 G.2.1 dL_block_17 hl (by decide) rfl (fun ls hl => ?_)
  refine lv_iconst (v := (2 : Int32)) G.1 G.2.1 dL_block_19 (by decide) ?_
  exact h_iret G hr hk hw (by decide) (by decide) dL_block_20

set_option maxHeartbeats 4000000 in
set_option maxRecDepth 100000 in
theorem h_operation (l : Launch) (D : va_G) (X0 : va_W) (o : Nat) (f : Nat → Int64) (E : gE) (n : Nat) (a1 : Int32) (a2 : Int32) (g : Mem) (r : Int32) (hf : K_operation n a1 a2 g = some r) : hMet l yL_operation cL_operation 5 [(0, 10, 13, 27), (0, 10, 17, 13)] 1 23 D (outC E o f :: X0) E [.ref (E.1 9 0), .int a1, .int a2, .ref o] g 0 (GP D (outC E o (vp_updL f (0 : Int32).toNatClampNeg r.toInt64) :: X0) idsC E g) := by
  refine gt_codeH (by decide) (Nat.le_of_ble_eq_true rfl) (fun p en s m below meth c ls G hr hk ht hw hT hl => ?_)
  have hl : lv_has ls 5 [(0, .ref (E.1 9 0)), (1, .int a1), (2, .int a2), (3, .ref o)] := hl
  refine lv_aload_n G.1 G.2.1 dL_operation_0 rfl (lv_at hl 3 rfl) ?_
  refine lv_iconst (v := (0 : Int32)) G.1 G.2.1 dL_operation_1 (by decide) ?_
  refine lv_aload_n G.1 G.2.1 dL_operation_2 rfl (lv_at hl 0 rfl) ?_
  refine lv_iload_n G.1 G.2.1 dL_operation_3 rfl (lv_at hl 1 rfl) ?_
  refine lv_iload_n G.1 G.2.1 dL_operation_4 rfl (lv_at hl 2 rfl) ?_
  refine g_callV1 (As := [.int a1, .int a2]) (rest := [.int 0, .ref o]) G hw (gA_mono hw.2.2.2.1.1) C_9 iC_9 mv_L_29 (c_K_operation l D (outC E o f :: X0) E n a1 a2 g r hf) hl.1 rfl rfl (Nat.le_of_ble_eq_true rfl) (Nat.le_of_ble_eq_true rfl) (Nat.le_of_ble_eq_true rfl) ⟨by decide, by decide⟩ dL_operation_5 (fun H locs hw => ?_)
  refine lv_i2l G.1 G.2.1 dL_operation_8 rfl ?_
  refine h_store G hw dL_operation_9 (fun H locs hw => ?_)
  refine lv_goto (tgt := 21) G.1 G.2.1 dL_operation_10 (by decide) ?_
  refine lv_iconst (v := (0 : Int32)) G.1 G.2.1 dL_operation_21 (by decide) ?_
  exact h_iret G hr hk hw (by decide) (by decide) dL_operation_22

set_option maxHeartbeats 4000000 in
set_option maxRecDepth 100000 in
theorem h_operation_T1 (l : Launch) (hlf : l.stackTraces = false) (D : va_G) (X0 : va_W) (o : Nat) (f : Nat → Int64) (E : gE) (n : Nat) (a1 : Int32) (a2 : Int32) (g : Mem) (hf : K_operation_T n a1 a2 g = some sIOB) : hMet l yL_operation cL_operation 5 [(0, 10, 13, 27), (0, 10, 17, 13)] 7 104 D (outC E o f :: X0) E [.ref (E.1 9 0), .int a1, .int a2, .ref o] g 1 (GP D (outC E o f :: X0) idsC E g) := by
  refine gt_codeH (by decide) (Nat.le_of_ble_eq_true rfl) (fun p en s m below meth c ls G hr hk ht hw hT hl => ?_)
  have hl : lv_has ls 5 [(0, .ref (E.1 9 0)), (1, .int a1), (2, .int a2), (3, .ref o)] := hl
  refine lv_aload_n G.1 G.2.1 dL_operation_0 rfl (lv_at hl 3 rfl) ?_
  refine lv_iconst (v := (0 : Int32)) G.1 G.2.1 dL_operation_1 (by decide) ?_
  refine lv_aload_n G.1 G.2.1 dL_operation_2 rfl (lv_at hl 0 rfl) ?_
  refine lv_iload_n G.1 G.2.1 dL_operation_3 rfl (lv_at hl 1 rfl) ?_
  refine lv_iload_n G.1 G.2.1 dL_operation_4 rfl (lv_at hl 2 rfl) ?_
  refine g_callVT (As := [.int a1, .int a2]) (rest := [.int 0, .ref o]) G hw hT (gA_mono hw.2.2.2.1.1) C_9 iC_9 mv_L_29 (t_K_operation l hlf D (outC E o f :: X0) E n a1 a2 g sIOB hf) hl.1 rfl rfl (Nat.le_of_ble_eq_true rfl) (Nat.le_of_ble_eq_true rfl) (Nat.le_of_ble_eq_true rfl) ⟨by decide, by decide⟩ dL_operation_5 (fun H locs ce q hw h1 h2 h3 => ?_)
  refine vx_catch (own := RL) (name := sIOB) G.2.2.2.1 [] ⟨0, 10, 13, 27⟩ [⟨0, 10, 17, 13⟩] ht (fun z hz => nomatch hz) (by decide) (by decide) (G.2.2.2.2 _ lkL27) (va_Nw.use rfl hT.2.2.2.1) h1 h2 h3 ?_
  refine lv_astore (lv' := [(4, .ref q), (0, .ref (E.1 9 0)), (1, .int a1), (2, .int a2), (3, .ref o)]) G.1 G.2.1 dL_operation_13 hl (by decide) rfl (fun ls hl => ?_)
  refine lv_iconst (v := (1 : Int32)) G.1 G.2.1 dL_operation_15 (by decide) ?_
  exact h_iret G hr hk hw (by decide) (by decide) dL_operation_16

set_option maxHeartbeats 4000000 in
set_option maxRecDepth 100000 in
theorem h_operation_T2 (l : Launch) (hlf : l.stackTraces = false) (D : va_G) (X0 : va_W) (o : Nat) (f : Nat → Int64) (E : gE) (n : Nat) (a1 : Int32) (a2 : Int32) (g : Mem) (hf : K_operation_T n a1 a2 g = some sIAE) : hMet l yL_operation cL_operation 5 [(0, 10, 13, 27), (0, 10, 17, 13)] 7 104 D (outC E o f :: X0) E [.ref (E.1 9 0), .int a1, .int a2, .ref o] g 2 (GP D (outC E o f :: X0) idsC E g) := by
  refine gt_codeH (by decide) (Nat.le_of_ble_eq_true rfl) (fun p en s m below meth c ls G hr hk ht hw hT hl => ?_)
  have hl : lv_has ls 5 [(0, .ref (E.1 9 0)), (1, .int a1), (2, .int a2), (3, .ref o)] := hl
  refine lv_aload_n G.1 G.2.1 dL_operation_0 rfl (lv_at hl 3 rfl) ?_
  refine lv_iconst (v := (0 : Int32)) G.1 G.2.1 dL_operation_1 (by decide) ?_
  refine lv_aload_n G.1 G.2.1 dL_operation_2 rfl (lv_at hl 0 rfl) ?_
  refine lv_iload_n G.1 G.2.1 dL_operation_3 rfl (lv_at hl 1 rfl) ?_
  refine lv_iload_n G.1 G.2.1 dL_operation_4 rfl (lv_at hl 2 rfl) ?_
  refine g_callVT (As := [.int a1, .int a2]) (rest := [.int 0, .ref o]) G hw hT (gA_mono hw.2.2.2.1.1) C_9 iC_9 mv_L_29 (t_K_operation l hlf D (outC E o f :: X0) E n a1 a2 g sIAE hf) hl.1 rfl rfl (Nat.le_of_ble_eq_true rfl) (Nat.le_of_ble_eq_true rfl) (Nat.le_of_ble_eq_true rfl) ⟨by decide, by decide⟩ dL_operation_5 (fun H locs ce q hw h1 h2 h3 => ?_)
  refine vx_catch (own := RL) (name := sIAE) G.2.2.2.1 [⟨0, 10, 13, 27⟩] ⟨0, 10, 17, 13⟩ [] ht (fun z hz => by rw [List.mem_singleton.mp hz]; exact Or.inr ⟨by decide, sIOB, G.2.2.2.2 _ lkL27, hT.2.2.2.2.2.2.2⟩) (by decide) (by decide) (G.2.2.2.2 _ lkL13) (va_Nw.use rfl hT.2.2.1) h1 h2 h3 ?_
  refine lv_astore (lv' := [(4, .ref q), (0, .ref (E.1 9 0)), (1, .int a1), (2, .int a2), (3, .ref o)]) G.1 G.2.1 dL_operation_17 hl (by decide) rfl (fun ls hl => ?_)
  refine lv_iconst (v := (2 : Int32)) G.1 G.2.1 dL_operation_19 (by decide) ?_
  exact h_iret G hr hk hw (by decide) (by decide) dL_operation_20

set_option maxHeartbeats 4000000 in
set_option maxRecDepth 100000 in
theorem h_set (l : Launch) (D : va_G) (X0 : va_W) (o : Nat) (f : Nat → Int64) (E : gE) (n : Nat) (a1 : Int32) (a2 : Int32) (g : Mem) (r : Int32) (g' : Mem) (hf : K_set n a1 a2 g = some (r, g')) : hMet l yL_set cL_set 5 [(0, 10, 13, 27)] 2 44 D (outC E o f :: X0) E [.ref (E.1 9 0), .int a1, .int a2, .ref o] g 0 (GP D (outC E o (vp_updL f (0 : Int32).toNatClampNeg r.toInt64) :: X0) idsC E g') := by
  refine gt_codeH (by decide) (Nat.le_of_ble_eq_true rfl) (fun p en s m below meth c ls G hr hk ht hw hT hl => ?_)
  have hl : lv_has ls 5 [(0, .ref (E.1 9 0)), (1, .int a1), (2, .int a2), (3, .ref o)] := hl
  refine lv_aload_n G.1 G.2.1 dL_set_0 rfl (lv_at hl 3 rfl) ?_
  refine lv_iconst (v := (0 : Int32)) G.1 G.2.1 dL_set_1 (by decide) ?_
  refine lv_aload_n G.1 G.2.1 dL_set_2 rfl (lv_at hl 0 rfl) ?_
  refine lv_iload_n G.1 G.2.1 dL_set_3 rfl (lv_at hl 1 rfl) ?_
  refine lv_iload_n G.1 G.2.1 dL_set_4 rfl (lv_at hl 2 rfl) ?_
  refine g_callV1 (As := [.int a1, .int a2]) (rest := [.int 0, .ref o]) G hw (gA_mono hw.2.2.2.1.1) C_9 iC_9 mv_L_32 (c_K_set l D (outC E o f :: X0) E n a1 a2 g r g' hf) hl.1 rfl rfl (Nat.le_of_ble_eq_true rfl) (Nat.le_of_ble_eq_true rfl) (Nat.le_of_ble_eq_true rfl) ⟨by decide, by decide⟩ dL_set_5 (fun H locs hw => ?_)
  refine lv_i2l G.1 G.2.1 dL_set_8 rfl ?_
  refine h_store G hw dL_set_9 (fun H locs hw => ?_)
  refine lv_goto (tgt := 17) G.1 G.2.1 dL_set_10 (by decide) ?_
  refine lv_iconst (v := (0 : Int32)) G.1 G.2.1 dL_set_17 (by decide) ?_
  exact h_iret G hr hk hw (by decide) (by decide) dL_set_18

set_option maxHeartbeats 4000000 in
set_option maxRecDepth 100000 in
theorem h_set_T1 (l : Launch) (hlf : l.stackTraces = false) (D : va_G) (X0 : va_W) (o : Nat) (f : Nat → Int64) (E : gE) (n : Nat) (a1 : Int32) (a2 : Int32) (g : Mem) (hf : K_get_T n a1 g = some sIOB) : hMet l yL_set cL_set 5 [(0, 10, 13, 27)] 8 125 D (outC E o f :: X0) E [.ref (E.1 9 0), .int a1, .int a2, .ref o] g 1 (GP D (outC E o f :: X0) idsC E g) := by
  refine gt_codeH (by decide) (Nat.le_of_ble_eq_true rfl) (fun p en s m below meth c ls G hr hk ht hw hT hl => ?_)
  have hl : lv_has ls 5 [(0, .ref (E.1 9 0)), (1, .int a1), (2, .int a2), (3, .ref o)] := hl
  refine lv_aload_n G.1 G.2.1 dL_set_0 rfl (lv_at hl 3 rfl) ?_
  refine lv_iconst (v := (0 : Int32)) G.1 G.2.1 dL_set_1 (by decide) ?_
  refine lv_aload_n G.1 G.2.1 dL_set_2 rfl (lv_at hl 0 rfl) ?_
  refine lv_iload_n G.1 G.2.1 dL_set_3 rfl (lv_at hl 1 rfl) ?_
  refine lv_iload_n G.1 G.2.1 dL_set_4 rfl (lv_at hl 2 rfl) ?_
  refine g_callVT (As := [.int a1, .int a2]) (rest := [.int 0, .ref o]) G hw hT (gA_mono hw.2.2.2.1.1) C_9 iC_9 mv_L_32 (t_K_set l hlf D (outC E o f :: X0) E n a1 a2 g sIOB hf) hl.1 rfl rfl (Nat.le_of_ble_eq_true rfl) (Nat.le_of_ble_eq_true rfl) (Nat.le_of_ble_eq_true rfl) ⟨by decide, by decide⟩ dL_set_5 (fun H locs ce q hw h1 h2 h3 => ?_)
  refine vx_catch (own := RL) (name := sIOB) G.2.2.2.1 [] ⟨0, 10, 13, 27⟩ [] ht (fun z hz => nomatch hz) (by decide) (by decide) (G.2.2.2.2 _ lkL27) (va_Nw.use rfl hT.2.2.2.1) h1 h2 h3 ?_
  refine lv_astore (lv' := [(4, .ref q), (0, .ref (E.1 9 0)), (1, .int a1), (2, .int a2), (3, .ref o)]) G.1 G.2.1 dL_set_13 hl (by decide) rfl (fun ls hl => ?_)
  refine lv_iconst (v := (1 : Int32)) G.1 G.2.1 dL_set_15 (by decide) ?_
  exact h_iret G hr hk hw (by decide) (by decide) dL_set_16

set_option maxHeartbeats 4000000 in
set_option maxRecDepth 100000 in
theorem h_get (l : Launch) (D : va_G) (X0 : va_W) (o : Nat) (f : Nat → Int64) (E : gE) (n : Nat) (a1 : Int32) (g : Mem) (r : Int32) (hf : K_get n a1 g = some r) : hMet l yL_get cL_get 4 [(0, 9, 12, 27)] 1 21 D (outC E o f :: X0) E [.ref (E.1 9 0), .int a1, .ref o] g 0 (GP D (outC E o (vp_updL f (0 : Int32).toNatClampNeg r.toInt64) :: X0) idsC E g) := by
  refine gt_codeH (by decide) (Nat.le_of_ble_eq_true rfl) (fun p en s m below meth c ls G hr hk ht hw hT hl => ?_)
  have hl : lv_has ls 4 [(0, .ref (E.1 9 0)), (1, .int a1), (2, .ref o)] := hl
  refine lv_aload_n G.1 G.2.1 dL_get_0 rfl (lv_at hl 2 rfl) ?_
  refine lv_iconst (v := (0 : Int32)) G.1 G.2.1 dL_get_1 (by decide) ?_
  refine lv_aload_n G.1 G.2.1 dL_get_2 rfl (lv_at hl 0 rfl) ?_
  refine lv_iload_n G.1 G.2.1 dL_get_3 rfl (lv_at hl 1 rfl) ?_
  refine g_callV1 (As := [.int a1]) (rest := [.int 0, .ref o]) G hw (gA_mono hw.2.2.2.1.1) C_9 iC_9 mv_L_35 (c_K_get l D (outC E o f :: X0) E n a1 g r hf) hl.1 rfl rfl (Nat.le_of_ble_eq_true rfl) (Nat.le_of_ble_eq_true rfl) (Nat.le_of_ble_eq_true rfl) ⟨by decide, by decide⟩ dL_get_4 (fun H locs hw => ?_)
  refine lv_i2l G.1 G.2.1 dL_get_7 rfl ?_
  refine h_store G hw dL_get_8 (fun H locs hw => ?_)
  refine lv_goto (tgt := 15) G.1 G.2.1 dL_get_9 (by decide) ?_
  refine lv_iconst (v := (0 : Int32)) G.1 G.2.1 dL_get_15 (by decide) ?_
  exact h_iret G hr hk hw (by decide) (by decide) dL_get_16

set_option maxHeartbeats 4000000 in
set_option maxRecDepth 100000 in
theorem h_get_T1 (l : Launch) (hlf : l.stackTraces = false) (D : va_G) (X0 : va_W) (o : Nat) (f : Nat → Int64) (E : gE) (n : Nat) (a1 : Int32) (g : Mem) (hf : K_get_T n a1 g = some sIOB) : hMet l yL_get cL_get 4 [(0, 9, 12, 27)] 7 102 D (outC E o f :: X0) E [.ref (E.1 9 0), .int a1, .ref o] g 1 (GP D (outC E o f :: X0) idsC E g) := by
  refine gt_codeH (by decide) (Nat.le_of_ble_eq_true rfl) (fun p en s m below meth c ls G hr hk ht hw hT hl => ?_)
  have hl : lv_has ls 4 [(0, .ref (E.1 9 0)), (1, .int a1), (2, .ref o)] := hl
  refine lv_aload_n G.1 G.2.1 dL_get_0 rfl (lv_at hl 2 rfl) ?_
  refine lv_iconst (v := (0 : Int32)) G.1 G.2.1 dL_get_1 (by decide) ?_
  refine lv_aload_n G.1 G.2.1 dL_get_2 rfl (lv_at hl 0 rfl) ?_
  refine lv_iload_n G.1 G.2.1 dL_get_3 rfl (lv_at hl 1 rfl) ?_
  refine g_callVT (As := [.int a1]) (rest := [.int 0, .ref o]) G hw hT (gA_mono hw.2.2.2.1.1) C_9 iC_9 mv_L_35 (t_K_get l hlf D (outC E o f :: X0) E n a1 g sIOB hf) hl.1 rfl rfl (Nat.le_of_ble_eq_true rfl) (Nat.le_of_ble_eq_true rfl) (Nat.le_of_ble_eq_true rfl) ⟨by decide, by decide⟩ dL_get_4 (fun H locs ce q hw h1 h2 h3 => ?_)
  refine vx_catch (own := RL) (name := sIOB) G.2.2.2.1 [] ⟨0, 9, 12, 27⟩ [] ht (fun z hz => nomatch hz) (by decide) (by decide) (G.2.2.2.2 _ lkL27) (va_Nw.use rfl hT.2.2.2.1) h1 h2 h3 ?_
  refine lv_astore_n (lv' := [(3, .ref q), (0, .ref (E.1 9 0)), (1, .int a1), (2, .ref o)]) G.1 G.2.1 dL_get_12 rfl hl (by decide) rfl (fun ls hl => ?_)
  refine lv_iconst (v := (1 : Int32)) G.1 G.2.1 dL_get_13 (by decide) ?_
  exact h_iret G hr hk hw (by decide) (by decide) dL_get_14

set_option maxHeartbeats 4000000 in
set_option maxRecDepth 100000 in
theorem h_poke (l : Launch) (D : va_G) (X0 : va_W) (o : Nat) (f : Nat → Int64) (E : gE) (n : Nat) (a1 : Int32) (a2 : Int32) (g : Mem) (r : Int32) (g' : Mem) (hf : K_poke n a1 a2 g = some (r, g')) : hMet l yL_poke cL_poke 5 [(0, 10, 13, 27)] 2 44 D (outC E o f :: X0) E [.ref (E.1 9 0), .int a1, .int a2, .ref o] g 0 (GP D (outC E o (vp_updL f (0 : Int32).toNatClampNeg r.toInt64) :: X0) idsC E g') := by
  refine gt_codeH (by decide) (Nat.le_of_ble_eq_true rfl) (fun p en s m below meth c ls G hr hk ht hw hT hl => ?_)
  have hl : lv_has ls 5 [(0, .ref (E.1 9 0)), (1, .int a1), (2, .int a2), (3, .ref o)] := hl
  refine lv_aload_n G.1 G.2.1 dL_poke_0 rfl (lv_at hl 3 rfl) ?_
  refine lv_iconst (v := (0 : Int32)) G.1 G.2.1 dL_poke_1 (by decide) ?_
  refine lv_aload_n G.1 G.2.1 dL_poke_2 rfl (lv_at hl 0 rfl) ?_
  refine lv_iload_n G.1 G.2.1 dL_poke_3 rfl (lv_at hl 1 rfl) ?_
  refine lv_iload_n G.1 G.2.1 dL_poke_4 rfl (lv_at hl 2 rfl) ?_
  refine g_callV1 (As := [.int a1, .int a2]) (rest := [.int 0, .ref o]) G hw (gA_mono hw.2.2.2.1.1) C_9 iC_9 mv_L_38 (c_K_poke l D (outC E o f :: X0) E n a1 a2 g r g' hf) hl.1 rfl rfl (Nat.le_of_ble_eq_true rfl) (Nat.le_of_ble_eq_true rfl) (Nat.le_of_ble_eq_true rfl) ⟨by decide, by decide⟩ dL_poke_5 (fun H locs hw => ?_)
  refine lv_i2l G.1 G.2.1 dL_poke_8 rfl ?_
  refine h_store G hw dL_poke_9 (fun H locs hw => ?_)
  refine lv_goto (tgt := 17) G.1 G.2.1 dL_poke_10 (by decide) ?_
  refine lv_iconst (v := (0 : Int32)) G.1 G.2.1 dL_poke_17 (by decide) ?_
  exact h_iret G hr hk hw (by decide) (by decide) dL_poke_18

set_option maxHeartbeats 4000000 in
set_option maxRecDepth 100000 in
theorem h_poke_T1 (l : Launch) (hlf : l.stackTraces = false) (D : va_G) (X0 : va_W) (o : Nat) (f : Nat → Int64) (E : gE) (n : Nat) (a1 : Int32) (a2 : Int32) (g : Mem) (hf : K_peek_T n a1 g = some sIOB) : hMet l yL_poke cL_poke 5 [(0, 10, 13, 27)] 8 125 D (outC E o f :: X0) E [.ref (E.1 9 0), .int a1, .int a2, .ref o] g 1 (GP D (outC E o f :: X0) idsC E g) := by
  refine gt_codeH (by decide) (Nat.le_of_ble_eq_true rfl) (fun p en s m below meth c ls G hr hk ht hw hT hl => ?_)
  have hl : lv_has ls 5 [(0, .ref (E.1 9 0)), (1, .int a1), (2, .int a2), (3, .ref o)] := hl
  refine lv_aload_n G.1 G.2.1 dL_poke_0 rfl (lv_at hl 3 rfl) ?_
  refine lv_iconst (v := (0 : Int32)) G.1 G.2.1 dL_poke_1 (by decide) ?_
  refine lv_aload_n G.1 G.2.1 dL_poke_2 rfl (lv_at hl 0 rfl) ?_
  refine lv_iload_n G.1 G.2.1 dL_poke_3 rfl (lv_at hl 1 rfl) ?_
  refine lv_iload_n G.1 G.2.1 dL_poke_4 rfl (lv_at hl 2 rfl) ?_
  refine g_callVT (As := [.int a1, .int a2]) (rest := [.int 0, .ref o]) G hw hT (gA_mono hw.2.2.2.1.1) C_9 iC_9 mv_L_38 (t_K_poke l hlf D (outC E o f :: X0) E n a1 a2 g sIOB hf) hl.1 rfl rfl (Nat.le_of_ble_eq_true rfl) (Nat.le_of_ble_eq_true rfl) (Nat.le_of_ble_eq_true rfl) ⟨by decide, by decide⟩ dL_poke_5 (fun H locs ce q hw h1 h2 h3 => ?_)
  refine vx_catch (own := RL) (name := sIOB) G.2.2.2.1 [] ⟨0, 10, 13, 27⟩ [] ht (fun z hz => nomatch hz) (by decide) (by decide) (G.2.2.2.2 _ lkL27) (va_Nw.use rfl hT.2.2.2.1) h1 h2 h3 ?_
  refine lv_astore (lv' := [(4, .ref q), (0, .ref (E.1 9 0)), (1, .int a1), (2, .int a2), (3, .ref o)]) G.1 G.2.1 dL_poke_13 hl (by decide) rfl (fun ls hl => ?_)
  refine lv_iconst (v := (1 : Int32)) G.1 G.2.1 dL_poke_15 (by decide) ?_
  exact h_iret G hr hk hw (by decide) (by decide) dL_poke_16

set_option maxHeartbeats 4000000 in
set_option maxRecDepth 100000 in
theorem h_peek (l : Launch) (D : va_G) (X0 : va_W) (o : Nat) (f : Nat → Int64) (E : gE) (n : Nat) (a1 : Int32) (g : Mem) (r : Int32) (hf : K_peek n a1 g = some r) : hMet l yL_peek cL_peek 4 [(0, 9, 12, 27)] 1 21 D (outC E o f :: X0) E [.ref (E.1 9 0), .int a1, .ref o] g 0 (GP D (outC E o (vp_updL f (0 : Int32).toNatClampNeg r.toInt64) :: X0) idsC E g) := by
  refine gt_codeH (by decide) (Nat.le_of_ble_eq_true rfl) (fun p en s m below meth c ls G hr hk ht hw hT hl => ?_)
  have hl : lv_has ls 4 [(0, .ref (E.1 9 0)), (1, .int a1), (2, .ref o)] := hl
  refine lv_aload_n G.1 G.2.1 dL_peek_0 rfl (lv_at hl 2 rfl) ?_
  refine lv_iconst (v := (0 : Int32)) G.1 G.2.1 dL_peek_1 (by decide) ?_
  refine lv_aload_n G.1 G.2.1 dL_peek_2 rfl (lv_at hl 0 rfl) ?_
  refine lv_iload_n G.1 G.2.1 dL_peek_3 rfl (lv_at hl 1 rfl) ?_
  refine g_callV1 (As := [.int a1]) (rest := [.int 0, .ref o]) G hw (gA_mono hw.2.2.2.1.1) C_9 iC_9 mv_L_41 (c_K_peek l D (outC E o f :: X0) E n a1 g r hf) hl.1 rfl rfl (Nat.le_of_ble_eq_true rfl) (Nat.le_of_ble_eq_true rfl) (Nat.le_of_ble_eq_true rfl) ⟨by decide, by decide⟩ dL_peek_4 (fun H locs hw => ?_)
  refine lv_i2l G.1 G.2.1 dL_peek_7 rfl ?_
  refine h_store G hw dL_peek_8 (fun H locs hw => ?_)
  refine lv_goto (tgt := 15) G.1 G.2.1 dL_peek_9 (by decide) ?_
  refine lv_iconst (v := (0 : Int32)) G.1 G.2.1 dL_peek_15 (by decide) ?_
  exact h_iret G hr hk hw (by decide) (by decide) dL_peek_16

set_option maxHeartbeats 4000000 in
set_option maxRecDepth 100000 in
theorem h_peek_T1 (l : Launch) (hlf : l.stackTraces = false) (D : va_G) (X0 : va_W) (o : Nat) (f : Nat → Int64) (E : gE) (n : Nat) (a1 : Int32) (g : Mem) (hf : K_peek_T n a1 g = some sIOB) : hMet l yL_peek cL_peek 4 [(0, 9, 12, 27)] 7 102 D (outC E o f :: X0) E [.ref (E.1 9 0), .int a1, .ref o] g 1 (GP D (outC E o f :: X0) idsC E g) := by
  refine gt_codeH (by decide) (Nat.le_of_ble_eq_true rfl) (fun p en s m below meth c ls G hr hk ht hw hT hl => ?_)
  have hl : lv_has ls 4 [(0, .ref (E.1 9 0)), (1, .int a1), (2, .ref o)] := hl
  refine lv_aload_n G.1 G.2.1 dL_peek_0 rfl (lv_at hl 2 rfl) ?_
  refine lv_iconst (v := (0 : Int32)) G.1 G.2.1 dL_peek_1 (by decide) ?_
  refine lv_aload_n G.1 G.2.1 dL_peek_2 rfl (lv_at hl 0 rfl) ?_
  refine lv_iload_n G.1 G.2.1 dL_peek_3 rfl (lv_at hl 1 rfl) ?_
  refine g_callVT (As := [.int a1]) (rest := [.int 0, .ref o]) G hw hT (gA_mono hw.2.2.2.1.1) C_9 iC_9 mv_L_41 (t_K_peek l hlf D (outC E o f :: X0) E n a1 g sIOB hf) hl.1 rfl rfl (Nat.le_of_ble_eq_true rfl) (Nat.le_of_ble_eq_true rfl) (Nat.le_of_ble_eq_true rfl) ⟨by decide, by decide⟩ dL_peek_4 (fun H locs ce q hw h1 h2 h3 => ?_)
  refine vx_catch (own := RL) (name := sIOB) G.2.2.2.1 [] ⟨0, 9, 12, 27⟩ [] ht (fun z hz => nomatch hz) (by decide) (by decide) (G.2.2.2.2 _ lkL27) (va_Nw.use rfl hT.2.2.2.1) h1 h2 h3 ?_
  refine lv_astore_n (lv' := [(3, .ref q), (0, .ref (E.1 9 0)), (1, .int a1), (2, .ref o)]) G.1 G.2.1 dL_peek_12 rfl hl (by decide) rfl (fun ls hl => ?_)
  refine lv_iconst (v := (1 : Int32)) G.1 G.2.1 dL_peek_13 (by decide) ?_
  exact h_iret G hr hk hw (by decide) (by decide) dL_peek_14

set_option maxHeartbeats 4000000 in
set_option maxRecDepth 100000 in
theorem h_run (l : Launch) (D : va_G) (X0 : va_W) (o : Nat) (f : Nat → Int64) (E : gE) (n : Nat) (a1 : Int32) (g : Mem) (r : Int32) (g' : Mem) (hf : K_run n a1 g = some (r, g')) : hMet l yL_run cL_run 4 [(0, 9, 12, 13)] 6 132 D (outC E o f :: X0) E [.ref (E.1 9 0), .int a1, .ref o] g 0 (GP D (outC E o (vp_updL f (0 : Int32).toNatClampNeg r.toInt64) :: X0) idsC E g') := by
  refine gt_codeH (by decide) (Nat.le_of_ble_eq_true rfl) (fun p en s m below meth c ls G hr hk ht hw hT hl => ?_)
  have hl : lv_has ls 4 [(0, .ref (E.1 9 0)), (1, .int a1), (2, .ref o)] := hl
  refine lv_aload_n G.1 G.2.1 dL_run_0 rfl (lv_at hl 2 rfl) ?_
  refine lv_iconst (v := (0 : Int32)) G.1 G.2.1 dL_run_1 (by decide) ?_
  refine lv_aload_n G.1 G.2.1 dL_run_2 rfl (lv_at hl 0 rfl) ?_
  refine lv_iload_n G.1 G.2.1 dL_run_3 rfl (lv_at hl 1 rfl) ?_
  refine g_callV1 (As := [.int a1]) (rest := [.int 0, .ref o]) G hw (gA_mono hw.2.2.2.1.1) C_9 iC_9 mv_L_44 (c_K_run l D (outC E o f :: X0) E n a1 g r g' hf) hl.1 rfl rfl (Nat.le_of_ble_eq_true rfl) (Nat.le_of_ble_eq_true rfl) (Nat.le_of_ble_eq_true rfl) ⟨by decide, by decide⟩ dL_run_4 (fun H locs hw => ?_)
  refine lv_i2l G.1 G.2.1 dL_run_7 rfl ?_
  refine h_store G hw dL_run_8 (fun H locs hw => ?_)
  refine lv_goto (tgt := 15) G.1 G.2.1 dL_run_9 (by decide) ?_
  refine lv_iconst (v := (0 : Int32)) G.1 G.2.1 dL_run_15 (by decide) ?_
  exact h_iret G hr hk hw (by decide) (by decide) dL_run_16

set_option maxHeartbeats 4000000 in
set_option maxRecDepth 100000 in
theorem h_run_T1 (l : Launch) (hlf : l.stackTraces = false) (D : va_G) (X0 : va_W) (o : Nat) (f : Nat → Int64) (E : gE) (n : Nat) (a1 : Int32) (g : Mem) (hf : K_run_T n a1 g = some sIAE) : hMet l yL_run cL_run 4 [(0, 9, 12, 13)] 7 102 D (outC E o f :: X0) E [.ref (E.1 9 0), .int a1, .ref o] g 1 (GP D (outC E o f :: X0) idsC E g) := by
  refine gt_codeH (by decide) (Nat.le_of_ble_eq_true rfl) (fun p en s m below meth c ls G hr hk ht hw hT hl => ?_)
  have hl : lv_has ls 4 [(0, .ref (E.1 9 0)), (1, .int a1), (2, .ref o)] := hl
  refine lv_aload_n G.1 G.2.1 dL_run_0 rfl (lv_at hl 2 rfl) ?_
  refine lv_iconst (v := (0 : Int32)) G.1 G.2.1 dL_run_1 (by decide) ?_
  refine lv_aload_n G.1 G.2.1 dL_run_2 rfl (lv_at hl 0 rfl) ?_
  refine lv_iload_n G.1 G.2.1 dL_run_3 rfl (lv_at hl 1 rfl) ?_
  refine g_callVT (As := [.int a1]) (rest := [.int 0, .ref o]) G hw hT (gA_mono hw.2.2.2.1.1) C_9 iC_9 mv_L_44 (t_K_run l hlf D (outC E o f :: X0) E n a1 g sIAE hf) hl.1 rfl rfl (Nat.le_of_ble_eq_true rfl) (Nat.le_of_ble_eq_true rfl) (Nat.le_of_ble_eq_true rfl) ⟨by decide, by decide⟩ dL_run_4 (fun H locs ce q hw h1 h2 h3 => ?_)
  refine vx_catch (own := RL) (name := sIAE) G.2.2.2.1 [] ⟨0, 9, 12, 13⟩ [] ht (fun z hz => nomatch hz) (by decide) (by decide) (G.2.2.2.2 _ lkL13) (va_Nw.use rfl hT.2.2.1) h1 h2 h3 ?_
  refine lv_astore_n (lv' := [(3, .ref q), (0, .ref (E.1 9 0)), (1, .int a1), (2, .ref o)]) G.1 G.2.1 dL_run_12 rfl hl (by decide) rfl (fun ls hl => ?_)
  refine lv_iconst (v := (1 : Int32)) G.1 G.2.1 dL_run_13 (by decide) ?_
  exact h_iret G hr hk hw (by decide) (by decide) dL_run_14
