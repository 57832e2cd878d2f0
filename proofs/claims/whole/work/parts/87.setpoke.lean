/-! ===== A CALL THAT THROWS ===== -/
section GCALLT
variable {p : Program} {l : Launch} {en : Env} {R : Room} {s : State} {m : MethodId} {args : Array Value} {below : List Frame} {meth : Method} {c : Code} {H : Heap} {locs : List Loc} {cells slots : Nat} {Q : State → Prop}
variable {cc : ByteArray} {nL pc : Nat} {ls : Array Slot} {rest st0 : List Value} {own : String} {D : va_G} {X : va_W} {ids : List (Nat × Nat)} {E : gE} {A : Nat → Prop} {g g1 : Mem} {k i : Nat} {C : String} {T : u_T} {N : Nat} {ty : Nat → FieldType} {index : Nat}
theorem GPT_blind {av : List Value} {sz : Nat} : FrameBlind (va_Pc av (fun U => U.heap.size = sz ∧ GP D X ids E g U ∧ GSA E (gA X ids E sz) U ∧ STK (gA X ids E sz) U)) := by
  intro a U fr mk h
  obtain ⟨h1, h2, h3, h4, h5⟩ := h
  exact ⟨h1, h2, GP.moved (u := U) rfl (Vm.Alike.refl U.vm) h3, GSA_blind h4, STK_blind h5⟩
theorem GWT_pre {av : List Value} {U : State} (hw : GW D X ids E A s g H locs) (hT : STK A s) (hA : ∀ q, gA X ids E H.size q → A q) (hU : U.heap = H) (hW : s.WarmedH U.vm) : va_Pc av (fun U => U.heap.size = H.size ∧ GP D X ids E g U ∧ GSA E (gA X ids E H.size) U ∧ STK (gA X ids E H.size) U) av.toArray U :=
  ⟨rfl, by rw [hU], ⟨by rw [hU]; exact hw.2.1, va_K.moved hW.alike hw.1, hw.2.2.1.weaken (fun _ _ _ _ => trivial)⟩, GSA_call hw.2.2.2.2 hw.2.2.2.1 hA hU hW, STK_call hT hw.2.2.2.1 hA hU hW⟩
theorem g_callVT {y : MethodName} {cy : ByteArray} {maxLy n fr lo : Nat} {ret : Option FieldType} {As : List Value} {nm : String} (G : CallFix p m c cc nL s args gtbl own) (hw : GW D X ids E A s g H locs) (hT : STK A s) (hA : ∀ q, gA X ids E H.size q → A q) (hC : gCls k C T N ty) (hid : (k, i) ∈ ids) (hy : gV own index C y cy maxLy ret n) (hM : gMetT l y cy maxLy ret fr lo D X ids E (.ref (E.1 k i) :: As) g nm)
    (hls : ls.size = nL) (hn : As.length = n) (hst : st0 = As.reverse ++ .ref (E.1 k i) :: rest) (hrest : (rest.map fun v => v.category).sum ≤ 8) (hfr : fr + 1 ≤ R.frames) (hlo : 8 + (maxLy + 11) + lo ≤ R.locals) (hcs : cells + 1 ≤ R.cells ∧ slots + 6 ≤ R.slots) (hdg : decode cc pc = .ok (.invokevirtual index, 3))
    (kk : ∀ (H1 : Heap) (locs1 : List Loc) (ce : Cell) (q : Addr), GW D X ids E A s g H1 locs1 → H1[q]? = some ce → ce.vm = .none → s.vm.findClass nm = some ce.cls → vx_W p l en R s m args below meth c H1 locs1 (cells + 1) (slots + 6) Q (F0 m pc ls rest) q) : W p l en R s m args below meth c H locs cells slots Q (F0 m pc ls st0) := by
  obtain ⟨y1, y2, y3, y4, y5, y6, y7, y8, y9⟩ := hy
  have hts := G.2.2.2.2
  have hr := vx_runV (e := en) (locs := locs) (cells := cells) (slots := slots) (below := below) (meth := meth) (As := As) (rest := rest) (g := F0 m pc ls st0) G (hM H.size) ⟨callB_of n hts (gt_good (fun w h => h) y5) rfl rfl rfl (by rw [y6]; exact hts _ y4) (hts _ y1) ⟨y7, y8, y9⟩ ⟨hfr, hlo⟩, hts _ y2, hts _ y3⟩ ⟨GPT_blind, GW_recv hw hC hid, fun U hU hW => GWT_pre hw hT hA hU hW⟩ rfl hn hls hst (lv_room hrest) hdg hcs
  intro T hTh X'
  rcases hr T hTh X' with ⟨v, st₀, t, T', L, h0, X'', hL, e1, e2, hq, st⟩ | ⟨q, st₀, t, T', L, E', ce, h0, X'', hL, e1, e2, ⟨u, -, ⟨rfl, hGP⟩, hF⟩, hce, hcv, hcl, st⟩
  · exact hq.elim
  · obtain ⟨k1, k2, k3⟩ := vx_keep h0 e1 hw.2.2.2.1 (fun q _ h => hA q h) hA hL hF
    have hw' : GW D X ids E A s g T'.heap (locs ++ L) := GW_back (A1 := A) hw e1.symm (by rw [← e2]; exact X''.warmed.alike) hGP hw.2.2.1 k3
    obtain ⟨t2, a1, b1⟩ := kk T'.heap (locs ++ L) ce q hw' (by rw [e1]; exact hce) hcv hcl T' rfl X''
    exact ⟨t2, st.trans a1, b1⟩
/-- what a callee has thrown goes on to the caller -/
theorem g_out {nm : String} {ce : Cell} {q : Addr} (hk : meth.locks = false) (ht : ∀ x ∈ c.exceptionTable.toList, False) (hw : GW D X ids E (gA X ids E s.heap.size) s g H locs) (hcell : H[q]? = some ce) (hv : ce.vm = .none) (hcl : s.vm.findClass nm = some ce.cls) (hc : cells ≤ 1) (hs : slots ≤ 6) :
    vx_W p l en R s m args below meth c H locs cells slots (vx_MQ below (fun _ _ _ _ => False) (gXC D X ids E g (gA X ids E s.heap.size) nm) args s 1 6 (gA X ids E s.heap.size)) (F0 m pc ls rest) q :=
  vx_out (fun x hx => (ht x hx).elim) hk hcell hv hcl (fun t h1 h2 => gXC_of hw t h2 (by rw [h1]; exact Nat.le_refl _) (fun q _ => by rw [h1])) hw.2.2.2.1.2.2 hc hs
end GCALLT
set_option maxHeartbeats 4000000 in
set_option maxRecDepth 100000 in
theorem t_K_set (l : Launch) (hlf : l.stackTraces = false) (D : va_G) (X : va_W) (E : gE) (n : Nat) (a1 a2 : Int32) (g : Mem) (nm : String) (hf : K_get_T n a1 g = some nm) : gMetT l yX10_set cX10_set 4 (some .int) 7 102 D X idsC E [.ref (E.1 9 0), .int a1, .int a2] g nm := by
  refine gt_codeT (by decide) (Nat.le_of_ble_eq_true rfl) (fun p en s m below meth c ls G hk ht hw hT hl => ?_)
  have hl : lv_has ls 4 [(0, .ref (E.1 9 0)), (1, .int a1), (2, .int a2)] := hl
  refine lv_aload_n G.1 G.2.1 dX10_set_0 rfl (lv_at hl 0 rfl) ?_
  refine lv_iload_n G.1 G.2.1 dX10_set_1 rfl (lv_at hl 1 rfl) ?_
  refine g_callVT (As := [.int a1]) (rest := []) G hw hT (gA_mono hw.2.2.2.1.1) C_9 iC_9 mv_X10_151 (t_K_get l hlf D X E n a1 g nm hf) hl.1 rfl rfl (Nat.le_of_ble_eq_true rfl) (Nat.le_of_ble_eq_true rfl) (Nat.le_of_ble_eq_true rfl) ⟨by decide, by decide⟩ dX10_set_2 (fun H locs ce q hw h1 h2 h3 => ?_)
  exact g_out hk ht hw h1 h2 h3 (by decide) (by decide)
set_option maxHeartbeats 4000000 in
set_option maxRecDepth 100000 in
theorem t_K_poke (l : Launch) (hlf : l.stackTraces = false) (D : va_G) (X : va_W) (E : gE) (n : Nat) (a1 a2 : Int32) (g : Mem) (nm : String) (hf : K_peek_T n a1 g = some nm) : gMetT l yX10_poke cX10_poke 4 (some .int) 7 102 D X idsC E [.ref (E.1 9 0), .int a1, .int a2] g nm := by
  refine gt_codeT (by decide) (Nat.le_of_ble_eq_true rfl) (fun p en s m below meth c ls G hk ht hw hT hl => ?_)
  have hl : lv_has ls 4 [(0, .ref (E.1 9 0)), (1, .int a1), (2, .int a2)] := hl
  refine lv_aload_n G.1 G.2.1 dX10_poke_0 rfl (lv_at hl 0 rfl) ?_
  refine lv_iload_n G.1 G.2.1 dX10_poke_1 rfl (lv_at hl 1 rfl) ?_
  refine g_callVT (As := [.int a1]) (rest := []) G hw hT (gA_mono hw.2.2.2.1.1) C_9 iC_9 mv_X10_158 (t_K_peek l hlf D X E n a1 g nm hf) hl.1 rfl rfl (Nat.le_of_ble_eq_true rfl) (Nat.le_of_ble_eq_true rfl) (Nat.le_of_ble_eq_true rfl) ⟨by decide, by decide⟩ dX10_poke_2 (fun H locs ce q hw h1 h2 h3 => ?_)
  exact g_out hk ht hw h1 h2 h3 (by decide) (by decide)
