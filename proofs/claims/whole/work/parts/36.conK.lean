/-! contracts (printed by program) -/
set_option maxHeartbeats 4000000 in
set_option maxRecDepth 100000 in
theorem c_K_wipe (l : Launch) (D : va_G) (X : va_W) (E : gE) (n : Nat) (g : Mem) (r : Int32) (g' : Mem) (hf : K_wipe n g = some (r, g')) : gMet l yX10_wipe cX10_wipe 1 (some .int) 1 21 D X idsC E [.ref (E.1 9 0)] g (some (.int r)) g' := by
  rw [K_wipe] at hf
  refine gt_code (by decide) (Nat.le_of_ble_eq_true rfl) (fun p en s m below meth c ls G hr hk hw hl => ?_)
  have hl : lv_has ls 1 [(0, .ref (E.1 9 0))] := hl
  refine lv_aload_n G.1 G.2.1 dX10_wipe_0 rfl (lv_at hl 0 rfl) ?_
  refine g_getC G hw C_9 iC_9 0 6 rfl (by decide) rfl fl_X10_12 dX10_wipe_1 ?_
  obtain ⟨z1, hcz1, hf⟩ := bd_some hf
  refine g_callV1 (As := []) (rest := []) G hw (gA_mono hw.2.2.2.1.1) C_6 iC_6 mv_X10_64 (c_Tp_clear l D X E n g z1.1 z1.2 hcz1) hl.1 rfl rfl (Nat.le_of_ble_eq_true rfl) (Nat.le_of_ble_eq_true rfl) (Nat.le_of_ble_eq_true rfl) ⟨Nat.le_refl _, Nat.le_refl _⟩ dX10_wipe_4 (fun H locs hw => ?_)
  exact g_iretW G hr hk hf hw dX10_wipe_7

set_option maxHeartbeats 4000000 in
set_option maxRecDepth 100000 in
theorem c_K_compile (l : Launch) (D : va_G) (X : va_W) (E : gE) (n : Nat) (g : Mem) (r : Int32) (g' : Mem) (hf : K_compile n g = some (r, g')) : gMet l yX10_compile cX10_compile 2 (some .int) 252 5803 D X idsC E [.ref (E.1 9 0)] g (some (.int r)) g' := by
  rw [K_compile] at hf
  refine gt_code (by decide) (Nat.le_of_ble_eq_true rfl) (fun p en s m below meth c ls G hr hk hw hl => ?_)
  have hl : lv_has ls 2 [(0, .ref (E.1 9 0))] := hl
  refine lv_aload_n G.1 G.2.1 dX10_compile_0 rfl (lv_at hl 0 rfl) ?_
  refine g_getC G hw C_9 iC_9 1 7 rfl (by decide) rfl fl_X10_21 dX10_compile_1 ?_
  refine lv_aload_n G.1 G.2.1 dX10_compile_4 rfl (lv_at hl 0 rfl) ?_
  obtain ⟨p1, hep1, hf⟩ := bd_some hf
  obtain ⟨hvp1, hf⟩ := ck_some hf
  refine g_getR G hw C_9 iC_9 5 4 rfl rfl fl_X10_46 hep1 dX10_compile_5 ?_
  obtain ⟨z2, hcz2, hf⟩ := bd_some hf
  refine g_callV1 (As := [.ref (E.1 4 p1)]) (rest := []) G hw (gA_mono hw.2.2.2.1.1) C_7 iC_7 mv_X10_79 (c_Tr_translate l D X E n p1 hvp1 g z2.1 z2.2 hcz2) hl.1 rfl rfl (Nat.le_of_ble_eq_true rfl) (Nat.le_of_ble_eq_true rfl) (Nat.le_of_ble_eq_true rfl) ⟨Nat.le_refl _, Nat.le_refl _⟩ dX10_compile_8 (fun H locs hw => ?_)
  refine lv_if_ne (tgt := 16) G.1 G.2.1 dX10_compile_11 (by decide) (fun hc11 => ?_) (fun hc11 => ?_)
  · rw [if_neg hc11] at hf
    refine lv_aload_n G.1 G.2.1 dX10_compile_16 rfl (lv_at hl 0 rfl) ?_
    obtain ⟨p3, hep3, hf⟩ := bd_some hf
    obtain ⟨hvp3, hf⟩ := ck_some hf
    refine g_getR G hw C_9 iC_9 4 4 rfl rfl fl_X10_42 hep3 dX10_compile_17 ?_
    refine lv_astore_n (lv' := [(1, .ref (E.1 4 p3)), (0, .ref (E.1 9 0))]) G.1 G.2.1 dX10_compile_20 rfl hl (by decide) rfl (fun ls hl => ?_)
    refine lv_aload_n G.1 G.2.1 dX10_compile_21 rfl (lv_at hl 1 rfl) ?_
    refine lv_aload_n G.1 G.2.1 dX10_compile_22 rfl (lv_at hl 1 rfl) ?_
    obtain ⟨p4, hep4, hf⟩ := bd_some hf
    obtain ⟨hvp4, hf⟩ := ck_some hf
    refine g_getR G hw C_9 iC_9 5 4 rfl rfl fl_X10_46 hep4 dX10_compile_23 ?_
    obtain ⟨g5, eg5, hf⟩ := lt9_some hf
    refine g_putR G hw C_9 iC_9 4 4 rfl rfl fl_X10_42 rfl rfl rfl dX10_compile_26 (fun H locs hw => ?_)
    rw [← eg5] at hw
    refine lv_aload_n G.1 G.2.1 dX10_compile_29 rfl (lv_at hl 1 rfl) ?_
    refine lv_aload_n G.1 G.2.1 dX10_compile_30 rfl (lv_at hl 0 rfl) ?_
    obtain ⟨g6, eg6, hf⟩ := lt9_some hf
    refine g_putR G hw C_9 iC_9 5 4 rfl rfl fl_X10_46 rfl rfl rfl dX10_compile_31 (fun H locs hw => ?_)
    rw [← eg6] at hw
    refine lv_aload_n G.1 G.2.1 dX10_compile_34 rfl (lv_at hl 1 rfl) ?_
    refine g_getC G hw C_9 iC_9 2 1 rfl (by decide) rfl fl_X10_28 dX10_compile_35 ?_
    refine lv_aload_n G.1 G.2.1 dX10_compile_38 rfl (lv_at hl 1 rfl) ?_
    obtain ⟨p7, hep7, hf⟩ := bd_some hf
    obtain ⟨hvp7, hf⟩ := ck_some hf
    refine g_getR G hw C_9 iC_9 4 4 rfl rfl fl_X10_42 hep7 dX10_compile_39 ?_
    obtain ⟨g8, hcg8, hf⟩ := bd_some hf
    refine g_callV0 (As := [.ref (E.1 4 p7)]) (rest := []) G hw (gA_mono hw.2.2.2.1.1) C_1 iC_1 mv_X10_76 (c_Ly_lay l D X E n p7 hvp7 g6 g8 hcg8) hl.1 rfl rfl (Nat.le_of_ble_eq_true rfl) (Nat.le_of_ble_eq_true rfl) (Nat.le_of_ble_eq_true rfl) ⟨Nat.le_refl _, Nat.le_refl _⟩ dX10_compile_42 (fun H locs hw => ?_)
    refine lv_aload_n G.1 G.2.1 dX10_compile_45 rfl (lv_at hl 1 rfl) ?_
    refine g_getC G hw C_9 iC_9 3 2 rfl (by decide) rfl fl_X10_35 dX10_compile_46 ?_
    refine lv_aload_n G.1 G.2.1 dX10_compile_49 rfl (lv_at hl 1 rfl) ?_
    obtain ⟨p9, hep9, hf⟩ := bd_some hf
    obtain ⟨hvp9, hf⟩ := ck_some hf
    refine g_getR G hw C_9 iC_9 4 4 rfl rfl fl_X10_42 hep9 dX10_compile_50 ?_
    obtain ⟨g10, hcg10, hf⟩ := bd_some hf
    refine g_callV0 (As := [.ref (E.1 4 p9)]) (rest := []) G hw (gA_mono hw.2.2.2.1.1) C_2 iC_2 mv_X10_49 (c_Mc_begin l D X E n p9 hvp9 g8 g10 hcg10) hl.1 rfl rfl (Nat.le_of_ble_eq_true rfl) (Nat.le_of_ble_eq_true rfl) (Nat.le_of_ble_eq_true rfl) ⟨Nat.le_refl _, Nat.le_refl _⟩ dX10_compile_53 (fun H locs hw => ?_)
    refine lv_aload_n G.1 G.2.1 dX10_compile_56 rfl (lv_at hl 1 rfl) ?_
    obtain ⟨p11, hep11, hf⟩ := bd_some hf
    obtain ⟨hvp11, hf⟩ := ck_some hf
    refine g_getR G hw C_9 iC_9 4 4 rfl rfl fl_X10_42 hep11 dX10_compile_57 ?_
    refine g_getI G hw C_4 (iC_4 hvp11) 2 rfl fl_X10_83 dX10_compile_60 ?_
    exact g_iretW G hr hk hf hw dX10_compile_63
  · rw [if_pos hc11] at hf
    refine lv_iconst (v := (-1 : Int32)) G.1 G.2.1 dX10_compile_14 (by decide) ?_
    exact g_iretW G hr hk hf hw dX10_compile_15

set_option maxHeartbeats 4000000 in
set_option maxRecDepth 100000 in
theorem c_K_fault (l : Launch) (D : va_G) (X : va_W) (E : gE) (n : Nat) (g : Mem) (r : Int32) (hf : K_fault n g = some r) : gMet l yX10_fault cX10_fault 1 (some .int) 0 0 D X idsC E [.ref (E.1 9 0)] g (some (.int r)) g := by
  rw [K_fault] at hf
  refine gt_code (by decide) (Nat.le_of_ble_eq_true rfl) (fun p en s m below meth c ls G hr hk hw hl => ?_)
  have hl : lv_has ls 1 [(0, .ref (E.1 9 0))] := hl
  refine lv_aload_n G.1 G.2.1 dX10_fault_0 rfl (lv_at hl 0 rfl) ?_
  refine g_getC G hw C_9 iC_9 1 7 rfl (by decide) rfl fl_X10_21 dX10_fault_1 ?_
  refine g_getI G hw C_7 iC_7 5 rfl fl_X10_86 dX10_fault_4 ?_
  exact g_iretR G hr hk hf hw dX10_fault_7

set_option maxHeartbeats 4000000 in
set_option maxRecDepth 100000 in
theorem c_K_place (l : Launch) (D : va_G) (X : va_W) (E : gE) (n : Nat) (g : Mem) (r : Int32) (hf : K_place n g = some r) : gMet l yX10_place cX10_place 1 (some .int) 0 0 D X idsC E [.ref (E.1 9 0)] g (some (.int r)) g := by
  rw [K_place] at hf
  refine gt_code (by decide) (Nat.le_of_ble_eq_true rfl) (fun p en s m below meth c ls G hr hk hw hl => ?_)
  have hl : lv_has ls 1 [(0, .ref (E.1 9 0))] := hl
  refine lv_aload_n G.1 G.2.1 dX10_place_0 rfl (lv_at hl 0 rfl) ?_
  refine g_getC G hw C_9 iC_9 1 7 rfl (by decide) rfl fl_X10_21 dX10_place_1 ?_
  refine g_getI G hw C_7 iC_7 6 rfl fl_X10_89 dX10_place_4 ?_
  exact g_iretR G hr hk hf hw dX10_place_7

set_option maxHeartbeats 4000000 in
set_option maxRecDepth 100000 in
theorem c_K_restart (l : Launch) (D : va_G) (X : va_W) (E : gE) (n : Nat) (g : Mem) (g' : Mem) (hf : K_restart n g = some g') : gMet l yX10_restart cX10_restart 1 none 1 21 D X idsC E [.ref (E.1 9 0)] g none g' := by
  rw [K_restart] at hf
  refine gt_code (by decide) (Nat.le_of_ble_eq_true rfl) (fun p en s m below meth c ls G hr hk hw hl => ?_)
  have hl : lv_has ls 1 [(0, .ref (E.1 9 0))] := hl
  refine lv_aload_n G.1 G.2.1 dX10_restart_0 rfl (lv_at hl 0 rfl) ?_
  refine g_getC G hw C_9 iC_9 3 2 rfl (by decide) rfl fl_X10_35 dX10_restart_1 ?_
  refine lv_aload_n G.1 G.2.1 dX10_restart_4 rfl (lv_at hl 0 rfl) ?_
  obtain ⟨p1, hep1, hf⟩ := bd_some hf
  obtain ⟨hvp1, hf⟩ := ck_some hf
  refine g_getR G hw C_9 iC_9 4 4 rfl rfl fl_X10_42 hep1 dX10_restart_5 ?_
  obtain ⟨g2, hcg2, hf⟩ := bd_some hf
  refine g_callV0 (As := [.ref (E.1 4 p1)]) (rest := []) G hw (gA_mono hw.2.2.2.1.1) C_2 iC_2 mv_X10_49 (c_Mc_begin l D X E n p1 hvp1 g g2 hcg2) hl.1 rfl rfl (Nat.le_of_ble_eq_true rfl) (Nat.le_of_ble_eq_true rfl) (Nat.le_of_ble_eq_true rfl) ⟨Nat.le_refl _, Nat.le_refl _⟩ dX10_restart_8 (fun H locs hw => ?_)
  exact g_vretW G hr hk hf hw dX10_restart_11

set_option maxHeartbeats 4000000 in
set_option maxRecDepth 100000 in
theorem c_K_at (l : Launch) (D : va_G) (X : va_W) (E : gE) (n : Nat) (g : Mem) (r : Int32) (hf : K_at n g = some r) : gMet l yX10_at cX10_at 1 (some .int) 0 0 D X idsC E [.ref (E.1 9 0)] g (some (.int r)) g := by
  rw [K_at] at hf
  refine gt_code (by decide) (Nat.le_of_ble_eq_true rfl) (fun p en s m below meth c ls G hr hk hw hl => ?_)
  have hl : lv_has ls 1 [(0, .ref (E.1 9 0))] := hl
  refine lv_aload_n G.1 G.2.1 dX10_at_0 rfl (lv_at hl 0 rfl) ?_
  refine g_getC G hw C_9 iC_9 3 2 rfl (by decide) rfl fl_X10_35 dX10_at_1 ?_
  refine g_getI G hw C_2 iC_2 4 rfl fl_X10_167 dX10_at_4 ?_
  exact g_iretR G hr hk hf hw dX10_at_7

set_option maxHeartbeats 4000000 in
set_option maxRecDepth 100000 in
theorem c_K_cycles (l : Launch) (D : va_G) (X : va_W) (E : gE) (n : Nat) (g : Mem) (r : Int64) (hf : K_cycles n g = some r) : gMet l yX10_cycles cX10_cycles 1 (some .long) 0 0 D X idsC E [.ref (E.1 9 0)] g (some (.long r)) g := by
  rw [K_cycles] at hf
  refine gt_code (by decide) (Nat.le_of_ble_eq_true rfl) (fun p en s m below meth c ls G hr hk hw hl => ?_)
  have hl : lv_has ls 1 [(0, .ref (E.1 9 0))] := hl
  refine lv_aload_n G.1 G.2.1 dX10_cycles_0 rfl (lv_at hl 0 rfl) ?_
  refine g_getC G hw C_9 iC_9 3 2 rfl (by decide) rfl fl_X10_35 dX10_cycles_1 ?_
  refine g_getL G hw C_2 iC_2 5 rfl fl_X10_170 dX10_cycles_4 ?_
  exact g_lretR G hr hk hf hw dX10_cycles_7
