/-! contracts (printed by program) -/
set_option maxHeartbeats 4000000 in
set_option maxRecDepth 100000 in
theorem c_Bk_become (l : Launch) (D : va_G) (X : va_W) (E : gE) (n : Nat) (b0 : Nat) (a1 : Int32) (hv_b0 : b0 < 350) (g : Mem) (g' : Mem) (hf : Bk_become n b0 a1 g = some g') : gMet l yX0_become cX0_become 2 none 0 0 D X idsC E [.ref (E.1 0 b0), .int a1] g none g' := by
  rw [Bk_become] at hf
  refine gt_code (by decide) (Nat.le_of_ble_eq_true rfl) (fun p en s m below meth c ls G hr hk hw hl => ?_)
  have hl : lv_has ls 2 [(0, .ref (E.1 0 b0)), (1, .int a1)] := hl
  refine lv_aload_n G.1 G.2.1 dX0_become_0 rfl (lv_at hl 0 rfl) ?_
  refine lv_iload_n G.1 G.2.1 dX0_become_1 rfl (lv_at hl 1 rfl) ?_
  obtain ⟨g1, eg1, hf⟩ := lt9_some hf
  refine g_putI G hw C_0 (iC_0 hv_b0) 0 rfl fl_X0_9 rfl rfl rfl dX0_become_2 (fun H locs hw => ?_)
  rw [← eg1] at hw
  refine lv_aload_n G.1 G.2.1 dX0_become_5 rfl (lv_at hl 0 rfl) ?_
  refine lv_iconst (v := (0 : Int32)) G.1 G.2.1 dX0_become_6 (by decide) ?_
  obtain ⟨g2, eg2, hf⟩ := lt9_some hf
  refine g_putI G hw C_0 (iC_0 hv_b0) 1 rfl fl_X0_15 rfl rfl rfl dX0_become_7 (fun H locs hw => ?_)
  rw [← eg2] at hw
  refine lv_aload_n G.1 G.2.1 dX0_become_10 rfl (lv_at hl 0 rfl) ?_
  refine lv_iconst (v := (0 : Int32)) G.1 G.2.1 dX0_become_11 (by decide) ?_
  obtain ⟨g3, eg3, hf⟩ := lt9_some hf
  refine g_putI G hw C_0 (iC_0 hv_b0) 2 rfl fl_X0_18 rfl rfl rfl dX0_become_12 (fun H locs hw => ?_)
  rw [← eg3] at hw
  refine lv_aload_n G.1 G.2.1 dX0_become_15 rfl (lv_at hl 0 rfl) ?_
  refine lv_iconst (v := (0 : Int32)) G.1 G.2.1 dX0_become_16 (by decide) ?_
  obtain ⟨g4, eg4, hf⟩ := lt9_some hf
  refine g_putI G hw C_0 (iC_0 hv_b0) 3 rfl fl_X0_24 rfl rfl rfl dX0_become_17 (fun H locs hw => ?_)
  rw [← eg4] at hw
  refine lv_aload_n G.1 G.2.1 dX0_become_20 rfl (lv_at hl 0 rfl) ?_
  refine lv_iconst (v := (-1 : Int32)) G.1 G.2.1 dX0_become_21 (by decide) ?_
  obtain ⟨g5, eg5, hf⟩ := lt9_some hf
  refine g_putI G hw C_0 (iC_0 hv_b0) 4 rfl fl_X0_27 rfl rfl rfl dX0_become_22 (fun H locs hw => ?_)
  rw [← eg5] at hw
  refine lv_aload_n G.1 G.2.1 dX0_become_25 rfl (lv_at hl 0 rfl) ?_
  refine lv_iconst (v := (-1 : Int32)) G.1 G.2.1 dX0_become_26 (by decide) ?_
  obtain ⟨g6, eg6, hf⟩ := lt9_some hf
  refine g_putI G hw C_0 (iC_0 hv_b0) 5 rfl fl_X0_30 rfl rfl rfl dX0_become_27 (fun H locs hw => ?_)
  rw [← eg6] at hw
  exact g_vretW G hr hk hf hw dX0_become_30

set_option maxHeartbeats 4000000 in
set_option maxRecDepth 100000 in
theorem c_Op_end (l : Launch) (D : va_G) (X : va_W) (E : gE) (n : Nat) (o0 : Nat) (hv_o0 : o0 < 400) (g : Mem) (r : Int32) (hf : Op_end n o0 g = some r) : gMet l yX4_end cX4_end 1 (some .int) 0 0 D X idsC E [.ref (E.1 3 o0)] g (some (.int r)) g := by
  rw [Op_end] at hf
  refine gt_code (by decide) (Nat.le_of_ble_eq_true rfl) (fun p en s m below meth c ls G hr hk hw hl => ?_)
  have hl : lv_has ls 1 [(0, .ref (E.1 3 o0))] := hl
  refine lv_aload_n G.1 G.2.1 dX4_end_0 rfl (lv_at hl 0 rfl) ?_
  refine g_getI G hw C_3 (iC_3 hv_o0) 9 rfl fl_X4_31 dX4_end_1 ?_
  refine lv_aload_n G.1 G.2.1 dX4_end_4 rfl (lv_at hl 0 rfl) ?_
  refine g_getI G hw C_3 (iC_3 hv_o0) 7 rfl fl_X4_34 dX4_end_5 ?_
  refine lv_iadd G.1 G.2.1 dX4_end_8 ?_
  exact g_iretR G hr hk hf hw dX4_end_9

set_option maxHeartbeats 4000000 in
set_option maxRecDepth 100000 in
theorem c_Op_hasBegun (l : Launch) (D : va_G) (X : va_W) (E : gE) (n : Nat) (o0 : Nat) (hv_o0 : o0 < 400) (g : Mem) (r : Int32) (hf : Op_hasBegun n o0 g = some r) : gMet l yX4_hasBegun cX4_hasBegun 1 (some .boolean) 0 0 D X idsC E [.ref (E.1 3 o0)] g (some (.int r)) g := by
  rw [Op_hasBegun] at hf
  refine gt_code (by decide) (Nat.le_of_ble_eq_true rfl) (fun p en s m below meth c ls G hr hk hw hl => ?_)
  have hl : lv_has ls 1 [(0, .ref (E.1 3 o0))] := hl
  refine lv_aload_n G.1 G.2.1 dX4_hasBegun_0 rfl (lv_at hl 0 rfl) ?_
  refine g_getI G hw C_3 (iC_3 hv_o0) 9 rfl fl_X4_31 dX4_hasBegun_1 ?_
  refine lv_iconst (v := (-1 : Int32)) G.1 G.2.1 dX4_hasBegun_4 (by decide) ?_
  refine lv_icmp_eq (tgt := 12) G.1 G.2.1 dX4_hasBegun_5 (by decide) (fun hc5 => ?_) (fun hc5 => ?_)
  · rw [if_pos hc5] at hf
    refine lv_iconst (v := (0 : Int32)) G.1 G.2.1 dX4_hasBegun_12 (by decide) ?_
    exact g_zretR G hr rfl hk hf hw dX4_hasBegun_13
  · rw [if_neg hc5] at hf
    refine lv_iconst (v := (1 : Int32)) G.1 G.2.1 dX4_hasBegun_8 (by decide) ?_
    refine lv_goto (tgt := 13) G.1 G.2.1 dX4_hasBegun_9 (by decide) ?_
    exact g_zretR G hr rfl hk hf hw dX4_hasBegun_13

set_option maxHeartbeats 4000000 in
set_option maxRecDepth 100000 in
theorem c_Od_ofValue (l : Launch) (D : va_G) (X : va_W) (E : gE) (n : Nat) (a1 : Int32) (g : Mem) (r : Int32) (hf : Od_ofValue n a1 = some r) : gMet l yX3_ofValue cX3_ofValue 1 (some .int) 0 0 D X idsC E [.int a1] g (some (.int r)) g := by
  rw [Od_ofValue] at hf
  refine gt_code (by decide) (Nat.le_of_ble_eq_true rfl) (fun p en s m below meth c ls G hr hk hw hl => ?_)
  have hl : lv_has ls 1 [(0, .int a1)] := hl
  refine lv_bipush (v := (-9 : Int32)) G.1 G.2.1 dX3_ofValue_0 (by decide) ?_
  refine lv_iload_n G.1 G.2.1 dX3_ofValue_2 rfl (lv_at hl 0 rfl) ?_
  refine lv_isub G.1 G.2.1 dX3_ofValue_3 ?_
  exact g_iretR G hr hk hf hw dX3_ofValue_4

set_option maxHeartbeats 4000000 in
set_option maxRecDepth 100000 in
theorem c_Od_ofVariable (l : Launch) (D : va_G) (X : va_W) (E : gE) (n : Nat) (a1 : Int32) (g : Mem) (r : Int32) (hf : Od_ofVariable n a1 = some r) : gMet l yX3_ofVariable cX3_ofVariable 1 (some .int) 0 0 D X idsC E [.int a1] g (some (.int r)) g := by
  rw [Od_ofVariable] at hf
  refine gt_code (by decide) (Nat.le_of_ble_eq_true rfl) (fun p en s m below meth c ls G hr hk hw hl => ?_)
  have hl : lv_has ls 1 [(0, .int a1)] := hl
  refine lv_iconst (v := (-1 : Int32)) G.1 G.2.1 dX3_ofVariable_0 (by decide) ?_
  refine lv_iload_n G.1 G.2.1 dX3_ofVariable_1 rfl (lv_at hl 0 rfl) ?_
  refine lv_isub G.1 G.2.1 dX3_ofVariable_2 ?_
  exact g_iretR G hr hk hf hw dX3_ofVariable_3

set_option maxHeartbeats 4000000 in
set_option maxRecDepth 100000 in
theorem c_Op_uses (l : Launch) (D : va_G) (X : va_W) (E : gE) (n : Nat) (o0 : Nat) (a1 : Int32) (hv_o0 : o0 < 400) (g : Mem) (r : Int32) (hf : Op_uses n o0 a1 g = some r) : gMet l yX4_uses cX4_uses 2 (some .boolean) 0 0 D X idsC E [.ref (E.1 3 o0), .int a1] g (some (.int r)) g := by
  rw [Op_uses] at hf
  refine gt_code (by decide) (Nat.le_of_ble_eq_true rfl) (fun p en s m below meth c ls G hr hk hw hl => ?_)
  have hl : lv_has ls 2 [(0, .ref (E.1 3 o0)), (1, .int a1)] := hl
  refine lv_aload_n G.1 G.2.1 dX4_uses_0 rfl (lv_at hl 0 rfl) ?_
  refine g_getI G hw C_3 (iC_3 hv_o0) 3 rfl fl_X4_15 dX4_uses_1 ?_
  refine lv_iload_n G.1 G.2.1 dX4_uses_4 rfl (lv_at hl 1 rfl) ?_
  refine lv_icmp_eq (tgt := 16) G.1 G.2.1 dX4_uses_5 (by decide) (fun hc5 => ?_) (fun hc5 => ?_)
  · rw [if_pos hc5] at hf
    refine lv_iconst (v := (1 : Int32)) G.1 G.2.1 dX4_uses_16 (by decide) ?_
    refine lv_goto (tgt := 21) G.1 G.2.1 dX4_uses_17 (by decide) ?_
    exact g_zretR G hr rfl hk hf hw dX4_uses_21
  · rw [if_neg hc5] at hf
    refine lv_aload_n G.1 G.2.1 dX4_uses_8 rfl (lv_at hl 0 rfl) ?_
    refine g_getI G hw C_3 (iC_3 hv_o0) 4 rfl fl_X4_18 dX4_uses_9 ?_
    refine lv_iload_n G.1 G.2.1 dX4_uses_12 rfl (lv_at hl 1 rfl) ?_
    refine lv_icmp_ne (tgt := 20) G.1 G.2.1 dX4_uses_13 (by decide) (fun hc13 => ?_) (fun hc13 => ?_)
    · rw [if_neg hc13] at hf
      refine lv_iconst (v := (0 : Int32)) G.1 G.2.1 dX4_uses_20 (by decide) ?_
      exact g_zretR G hr rfl hk hf hw dX4_uses_21
    · rw [if_pos hc13] at hf
      refine lv_iconst (v := (1 : Int32)) G.1 G.2.1 dX4_uses_16 (by decide) ?_
      refine lv_goto (tgt := 21) G.1 G.2.1 dX4_uses_17 (by decide) ?_
      exact g_zretR G hr rfl hk hf hw dX4_uses_21

set_option maxHeartbeats 4000000 in
set_option maxRecDepth 100000 in
theorem c_Op_usesGiven (l : Launch) (D : va_G) (X : va_W) (E : gE) (n : Nat) (o0 : Nat) (o1 : Nat) (hv_o0 : o0 < 400) (hv_o1 : o1 < 400) (g : Mem) (r : Int32) (hf : Op_usesGiven n o0 o1 g = some r) : gMet l yX4_usesGiven cX4_usesGiven 2 (some .boolean) 1 21 D X idsC E [.ref (E.1 3 o0), .ref (E.1 3 o1)] g (some (.int r)) g := by
  rw [Op_usesGiven] at hf
  refine gt_code (by decide) (Nat.le_of_ble_eq_true rfl) (fun p en s m below meth c ls G hr hk hw hl => ?_)
  have hl : lv_has ls 2 [(0, .ref (E.1 3 o0)), (1, .ref (E.1 3 o1))] := hl
  refine lv_aload_n G.1 G.2.1 dX4_usesGiven_0 rfl (lv_at hl 1 rfl) ?_
  refine g_getI G hw C_3 (iC_3 hv_o1) 5 rfl fl_X4_28 dX4_usesGiven_1 ?_
  refine lv_iconst (v := (-1 : Int32)) G.1 G.2.1 dX4_usesGiven_4 (by decide) ?_
  refine lv_icmp_eq (tgt := 26) G.1 G.2.1 dX4_usesGiven_5 (by decide) (fun hc5 => ?_) (fun hc5 => ?_)
  · rw [if_pos hc5] at hf
    refine lv_iconst (v := (0 : Int32)) G.1 G.2.1 dX4_usesGiven_26 (by decide) ?_
    exact g_zretR G hr rfl hk hf hw dX4_usesGiven_27
  · rw [if_neg hc5] at hf
    refine lv_aload_n G.1 G.2.1 dX4_usesGiven_8 rfl (lv_at hl 0 rfl) ?_
    refine lv_aload_n G.1 G.2.1 dX4_usesGiven_9 rfl (lv_at hl 1 rfl) ?_
    refine g_getI G hw C_3 (iC_3 hv_o1) 5 rfl fl_X4_28 dX4_usesGiven_10 ?_
    obtain ⟨z1, hcz1, hf⟩ := bd_some hf
    refine g_callS1 (As := [.int (gI g 3 o1 5)]) (rest := [.ref (E.1 3 o0)]) G hw (gA_mono hw.2.2.2.1.1)  ms_X4_56 (c_Od_ofVariable l D X E n (gI g 3 o1 5) g z1 hcz1) hl.1 rfl rfl (Nat.le_of_ble_eq_true rfl) (Nat.le_of_ble_eq_true rfl) (Nat.le_of_ble_eq_true rfl) ⟨Nat.le_refl _, Nat.le_refl _⟩ dX4_usesGiven_13 (fun H locs hw => ?_)
    obtain ⟨z2, hcz2, hf⟩ := bd_some hf
    refine g_callV1 (As := [.int z1]) (rest := []) G hw (gA_mono hw.2.2.2.1.1) C_3 (iC_3 hv_o0) mv_X4_45 (c_Op_uses l D X E n o0 z1 hv_o0 g z2 hcz2) hl.1 rfl rfl (Nat.le_of_ble_eq_true rfl) (Nat.le_of_ble_eq_true rfl) (Nat.le_of_ble_eq_true rfl) ⟨Nat.le_refl _, Nat.le_refl _⟩ dX4_usesGiven_16 (fun H locs hw => ?_)
    refine lv_if_eq (tgt := 26) G.1 G.2.1 dX4_usesGiven_19 (by decide) (fun hc19 => ?_) (fun hc19 => ?_)
    · rw [if_pos hc19] at hf
      refine lv_iconst (v := (0 : Int32)) G.1 G.2.1 dX4_usesGiven_26 (by decide) ?_
      exact g_zretR G hr rfl hk hf hw dX4_usesGiven_27
    · rw [if_neg hc19] at hf
      refine lv_iconst (v := (1 : Int32)) G.1 G.2.1 dX4_usesGiven_22 (by decide) ?_
      refine lv_goto (tgt := 27) G.1 G.2.1 dX4_usesGiven_23 (by decide) ?_
      exact g_zretR G hr rfl hk hf hw dX4_usesGiven_27

set_option maxHeartbeats 4000000 in
set_option maxRecDepth 100000 in
theorem c_Op_touchesGiven (l : Launch) (D : va_G) (X : va_W) (E : gE) (n : Nat) (o0 : Nat) (o1 : Nat) (hv_o0 : o0 < 400) (hv_o1 : o1 < 400) (g : Mem) (r : Int32) (hf : Op_touchesGiven n o0 o1 g = some r) : gMet l yX4_touchesGiven cX4_touchesGiven 2 (some .boolean) 2 42 D X idsC E [.ref (E.1 3 o0), .ref (E.1 3 o1)] g (some (.int r)) g := by
  rw [Op_touchesGiven] at hf
  refine gt_code (by decide) (Nat.le_of_ble_eq_true rfl) (fun p en s m below meth c ls G hr hk hw hl => ?_)
  have hl : lv_has ls 2 [(0, .ref (E.1 3 o0)), (1, .ref (E.1 3 o1))] := hl
  refine lv_aload_n G.1 G.2.1 dX4_touchesGiven_0 rfl (lv_at hl 0 rfl) ?_
  refine lv_aload_n G.1 G.2.1 dX4_touchesGiven_1 rfl (lv_at hl 1 rfl) ?_
  obtain ⟨z1, hcz1, hf⟩ := bd_some hf
  refine g_callV1 (As := [.ref (E.1 3 o1)]) (rest := []) G hw (gA_mono hw.2.2.2.1.1) C_3 (iC_3 hv_o0) mv_X4_53 (c_Op_usesGiven l D X E n o0 o1 hv_o0 hv_o1 g z1 hcz1) hl.1 rfl rfl (Nat.le_of_ble_eq_true rfl) (Nat.le_of_ble_eq_true rfl) (Nat.le_of_ble_eq_true rfl) ⟨Nat.le_refl _, Nat.le_refl _⟩ dX4_touchesGiven_2 (fun H locs hw => ?_)
  refine lv_if_ne (tgt := 27) G.1 G.2.1 dX4_touchesGiven_5 (by decide) (fun hc5 => ?_) (fun hc5 => ?_)
  · rw [if_neg hc5] at hf
    refine lv_iconst (v := (1 : Int32)) G.1 G.2.1 dX4_touchesGiven_27 (by decide) ?_
    refine lv_goto (tgt := 32) G.1 G.2.1 dX4_touchesGiven_28 (by decide) ?_
    exact g_zretR G hr rfl hk hf hw dX4_touchesGiven_32
  · rw [if_pos hc5] at hf
    refine lv_aload_n G.1 G.2.1 dX4_touchesGiven_8 rfl (lv_at hl 0 rfl) ?_
    refine g_getI G hw C_3 (iC_3 hv_o0) 5 rfl fl_X4_28 dX4_touchesGiven_9 ?_
    refine lv_iconst (v := (-1 : Int32)) G.1 G.2.1 dX4_touchesGiven_12 (by decide) ?_
    refine lv_icmp_eq (tgt := 31) G.1 G.2.1 dX4_touchesGiven_13 (by decide) (fun hc13 => ?_) (fun hc13 => ?_)
    · rw [if_pos hc13] at hf
      refine lv_iconst (v := (0 : Int32)) G.1 G.2.1 dX4_touchesGiven_31 (by decide) ?_
      exact g_zretR G hr rfl hk hf hw dX4_touchesGiven_32
    · rw [if_neg hc13] at hf
      refine lv_aload_n G.1 G.2.1 dX4_touchesGiven_16 rfl (lv_at hl 0 rfl) ?_
      refine g_getI G hw C_3 (iC_3 hv_o0) 5 rfl fl_X4_28 dX4_touchesGiven_17 ?_
      refine lv_aload_n G.1 G.2.1 dX4_touchesGiven_20 rfl (lv_at hl 1 rfl) ?_
      refine g_getI G hw C_3 (iC_3 hv_o1) 5 rfl fl_X4_28 dX4_touchesGiven_21 ?_
      refine lv_icmp_ne (tgt := 31) G.1 G.2.1 dX4_touchesGiven_24 (by decide) (fun hc24 => ?_) (fun hc24 => ?_)
      · rw [if_neg hc24] at hf
        refine lv_iconst (v := (0 : Int32)) G.1 G.2.1 dX4_touchesGiven_31 (by decide) ?_
        exact g_zretR G hr rfl hk hf hw dX4_touchesGiven_32
      · rw [if_pos hc24] at hf
        refine lv_iconst (v := (1 : Int32)) G.1 G.2.1 dX4_touchesGiven_27 (by decide) ?_
        refine lv_goto (tgt := 32) G.1 G.2.1 dX4_touchesGiven_28 (by decide) ?_
        exact g_zretR G hr rfl hk hf hw dX4_touchesGiven_32

set_option maxHeartbeats 4000000 in
set_option maxRecDepth 100000 in
theorem c_Op_comesBehind (l : Launch) (D : va_G) (X : va_W) (E : gE) (n : Nat) (o0 : Nat) (o1 : Nat) (hv_o0 : o0 < 400) (hv_o1 : o1 < 400) (g : Mem) (r : Int32) (hf : Op_comesBehind n o0 o1 g = some r) : gMet l yX4_comesBehind cX4_comesBehind 2 (some .boolean) 3 63 D X idsC E [.ref (E.1 3 o0), .ref (E.1 3 o1)] g (some (.int r)) g := by
  rw [Op_comesBehind] at hf
  refine gt_code (by decide) (Nat.le_of_ble_eq_true rfl) (fun p en s m below meth c ls G hr hk hw hl => ?_)
  have hl : lv_has ls 2 [(0, .ref (E.1 3 o0)), (1, .ref (E.1 3 o1))] := hl
  refine lv_aload_n G.1 G.2.1 dX4_comesBehind_0 rfl (lv_at hl 0 rfl) ?_
  refine lv_aload_n G.1 G.2.1 dX4_comesBehind_1 rfl (lv_at hl 1 rfl) ?_
  refine g_getI G hw C_3 (iC_3 hv_o1) 0 rfl fl_X4_37 dX4_comesBehind_2 ?_
  obtain ⟨z1, hcz1, hf⟩ := bd_some hf
  refine g_callS1 (As := [.int (gI g 3 o1 0)]) (rest := [.ref (E.1 3 o0)]) G hw (gA_mono hw.2.2.2.1.1)  ms_X4_40 (c_Od_ofValue l D X E n (gI g 3 o1 0) g z1 hcz1) hl.1 rfl rfl (Nat.le_of_ble_eq_true rfl) (Nat.le_of_ble_eq_true rfl) (Nat.le_of_ble_eq_true rfl) ⟨Nat.le_refl _, Nat.le_refl _⟩ dX4_comesBehind_5 (fun H locs hw => ?_)
  obtain ⟨z2, hcz2, hf⟩ := bd_some hf
  refine g_callV1 (As := [.int z1]) (rest := []) G hw (gA_mono hw.2.2.2.1.1) C_3 (iC_3 hv_o0) mv_X4_45 (c_Op_uses l D X E n o0 z1 hv_o0 g z2 hcz2) hl.1 rfl rfl (Nat.le_of_ble_eq_true rfl) (Nat.le_of_ble_eq_true rfl) (Nat.le_of_ble_eq_true rfl) ⟨Nat.le_refl _, Nat.le_refl _⟩ dX4_comesBehind_8 (fun H locs hw => ?_)
  refine lv_if_ne (tgt := 62) G.1 G.2.1 dX4_comesBehind_11 (by decide) (fun hc11 => ?_) (fun hc11 => ?_)
  · rw [if_neg hc11] at hf
    refine lv_iconst (v := (1 : Int32)) G.1 G.2.1 dX4_comesBehind_62 (by decide) ?_
    refine lv_goto (tgt := 67) G.1 G.2.1 dX4_comesBehind_63 (by decide) ?_
    exact g_zretR G hr rfl hk hf hw dX4_comesBehind_67
  · rw [if_pos hc11] at hf
    refine lv_aload_n G.1 G.2.1 dX4_comesBehind_14 rfl (lv_at hl 0 rfl) ?_
    refine lv_aload_n G.1 G.2.1 dX4_comesBehind_15 rfl (lv_at hl 1 rfl) ?_
    obtain ⟨z3, hcz3, hf⟩ := bd_some hf
    refine g_callV1 (As := [.ref (E.1 3 o1)]) (rest := []) G hw (gA_mono hw.2.2.2.1.1) C_3 (iC_3 hv_o0) mv_X4_49 (c_Op_touchesGiven l D X E n o0 o1 hv_o0 hv_o1 g z3 hcz3) hl.1 rfl rfl (Nat.le_of_ble_eq_true rfl) (Nat.le_of_ble_eq_true rfl) (Nat.le_of_ble_eq_true rfl) ⟨Nat.le_refl _, Nat.le_refl _⟩ dX4_comesBehind_16 (fun H locs hw => ?_)
    refine lv_if_ne (tgt := 62) G.1 G.2.1 dX4_comesBehind_19 (by decide) (fun hc19 => ?_) (fun hc19 => ?_)
    · rw [if_neg hc19] at hf
      refine lv_iconst (v := (1 : Int32)) G.1 G.2.1 dX4_comesBehind_62 (by decide) ?_
      refine lv_goto (tgt := 67) G.1 G.2.1 dX4_comesBehind_63 (by decide) ?_
      exact g_zretR G hr rfl hk hf hw dX4_comesBehind_67
    · rw [if_pos hc19] at hf
      refine lv_aload_n G.1 G.2.1 dX4_comesBehind_22 rfl (lv_at hl 1 rfl) ?_
      refine lv_aload_n G.1 G.2.1 dX4_comesBehind_23 rfl (lv_at hl 0 rfl) ?_
      obtain ⟨z4, hcz4, hf⟩ := bd_some hf
      refine g_callV1 (As := [.ref (E.1 3 o0)]) (rest := []) G hw (gA_mono hw.2.2.2.1.1) C_3 (iC_3 hv_o1) mv_X4_53 (c_Op_usesGiven l D X E n o1 o0 hv_o1 hv_o0 g z4 hcz4) hl.1 rfl rfl (Nat.le_of_ble_eq_true rfl) (Nat.le_of_ble_eq_true rfl) (Nat.le_of_ble_eq_true rfl) ⟨Nat.le_refl _, Nat.le_refl _⟩ dX4_comesBehind_24 (fun H locs hw => ?_)
      refine lv_if_ne (tgt := 62) G.1 G.2.1 dX4_comesBehind_27 (by decide) (fun hc27 => ?_) (fun hc27 => ?_)
      · rw [if_neg hc27] at hf
        refine lv_iconst (v := (1 : Int32)) G.1 G.2.1 dX4_comesBehind_62 (by decide) ?_
        refine lv_goto (tgt := 67) G.1 G.2.1 dX4_comesBehind_63 (by decide) ?_
        exact g_zretR G hr rfl hk hf hw dX4_comesBehind_67
      · rw [if_pos hc27] at hf
        refine lv_aload_n G.1 G.2.1 dX4_comesBehind_30 rfl (lv_at hl 0 rfl) ?_
        refine g_getI G hw C_3 (iC_3 hv_o0) 1 rfl fl_X4_9 dX4_comesBehind_31 ?_
        refine lv_iconst (v := (2 : Int32)) G.1 G.2.1 dX4_comesBehind_34 (by decide) ?_
        obtain ⟨j5, ej5, hf⟩ := lt9_some hf
        have hj5 : ∀ (_u : Unit) (H : Heap) (locs : List Loc) (ls : Array Slot), j5 _u = some r → GW D X idsC E (gA X idsC E s.heap.size) s g H locs → lv_has ls 2 [(0, .ref (E.1 3 o0)), (1, .ref (E.1 3 o1))] → W p l en { frames := 3, cells := 0, slots := 0, locals := 63 } s m [.ref (E.1 3 o0), .ref (E.1 3 o1)].toArray below meth c H locs 0 0 (MQ below (gQ (some (.int r)) (GP D X idsC E g) (gA X idsC E s.heap.size)) [.ref (E.1 3 o0), .ref (E.1 3 o1)].toArray s 0 0 (gA X idsC E s.heap.size)) (F0 m 46 ls []) := by
          intro _u H locs ls hf hw hl
          rw [ej5] at hf
          dsimp only at hf
          refine lv_aload_n G.1 G.2.1 dX4_comesBehind_46 rfl (lv_at hl 1 rfl) ?_
          refine g_getI G hw C_3 (iC_3 hv_o1) 1 rfl fl_X4_9 dX4_comesBehind_47 ?_
          refine lv_iconst (v := (2 : Int32)) G.1 G.2.1 dX4_comesBehind_50 (by decide) ?_
          refine lv_icmp_ne (tgt := 66) G.1 G.2.1 dX4_comesBehind_51 (by decide) (fun hc51 => ?_) (fun hc51 => ?_)
          · rw [if_neg hc51] at hf
            refine lv_iconst (v := (0 : Int32)) G.1 G.2.1 dX4_comesBehind_66 (by decide) ?_
            exact g_zretR G hr rfl hk hf hw dX4_comesBehind_67
          · rw [if_pos hc51] at hf
            refine lv_aload_n G.1 G.2.1 dX4_comesBehind_54 rfl (lv_at hl 0 rfl) ?_
            refine g_getI G hw C_3 (iC_3 hv_o0) 2 rfl fl_X4_25 dX4_comesBehind_55 ?_
            refine lv_iconst (v := (2 : Int32)) G.1 G.2.1 dX4_comesBehind_58 (by decide) ?_
            refine lv_icmp_ne (tgt := 66) G.1 G.2.1 dX4_comesBehind_59 (by decide) (fun hc59 => ?_) (fun hc59 => ?_)
            · rw [if_neg hc59] at hf
              refine lv_iconst (v := (0 : Int32)) G.1 G.2.1 dX4_comesBehind_66 (by decide) ?_
              exact g_zretR G hr rfl hk hf hw dX4_comesBehind_67
            · rw [if_pos hc59] at hf
              refine lv_iconst (v := (1 : Int32)) G.1 G.2.1 dX4_comesBehind_62 (by decide) ?_
              refine lv_goto (tgt := 67) G.1 G.2.1 dX4_comesBehind_63 (by decide) ?_
              exact g_zretR G hr rfl hk hf hw dX4_comesBehind_67
        refine lv_icmp_ne (tgt := 46) G.1 G.2.1 dX4_comesBehind_35 (by decide) (fun hc35 => ?_) (fun hc35 => ?_)
        · rw [if_neg hc35] at hf
          exact hj5 () _ _ ls hf hw (lv_sub hl [0, 1] rfl)
        · rw [if_pos hc35] at hf
          refine lv_aload_n G.1 G.2.1 dX4_comesBehind_38 rfl (lv_at hl 1 rfl) ?_
          refine g_getI G hw C_3 (iC_3 hv_o1) 2 rfl fl_X4_25 dX4_comesBehind_39 ?_
          refine lv_iconst (v := (2 : Int32)) G.1 G.2.1 dX4_comesBehind_42 (by decide) ?_
          refine lv_icmp_eq (tgt := 62) G.1 G.2.1 dX4_comesBehind_43 (by decide) (fun hc43 => ?_) (fun hc43 => ?_)
          · rw [if_pos hc43] at hf
            refine lv_iconst (v := (1 : Int32)) G.1 G.2.1 dX4_comesBehind_62 (by decide) ?_
            refine lv_goto (tgt := 67) G.1 G.2.1 dX4_comesBehind_63 (by decide) ?_
            exact g_zretR G hr rfl hk hf hw dX4_comesBehind_67
          · rw [if_neg hc43] at hf
            exact hj5 () _ _ ls hf hw (lv_sub hl [0, 1] rfl)

set_option maxHeartbeats 4000000 in
set_option maxRecDepth 100000 in
theorem c_Op_fillsRegister (l : Launch) (D : va_G) (X : va_W) (E : gE) (n : Nat) (o0 : Nat) (hv_o0 : o0 < 400) (g : Mem) (r : Int32) (hf : Op_fillsRegister n o0 g = some r) : gMet l yX4_fillsRegister cX4_fillsRegister 1 (some .boolean) 0 0 D X idsC E [.ref (E.1 3 o0)] g (some (.int r)) g := by
  rw [Op_fillsRegister] at hf
  refine gt_code (by decide) (Nat.le_of_ble_eq_true rfl) (fun p en s m below meth c ls G hr hk hw hl => ?_)
  have hl : lv_has ls 1 [(0, .ref (E.1 3 o0))] := hl
  refine lv_aload_n G.1 G.2.1 dX4_fillsRegister_0 rfl (lv_at hl 0 rfl) ?_
  refine g_getI G hw C_3 (iC_3 hv_o0) 5 rfl fl_X4_28 dX4_fillsRegister_1 ?_
  refine lv_iconst (v := (-1 : Int32)) G.1 G.2.1 dX4_fillsRegister_4 (by decide) ?_
  refine lv_icmp_ne (tgt := 20) G.1 G.2.1 dX4_fillsRegister_5 (by decide) (fun hc5 => ?_) (fun hc5 => ?_)
  · rw [if_neg hc5] at hf
    refine lv_iconst (v := (0 : Int32)) G.1 G.2.1 dX4_fillsRegister_20 (by decide) ?_
    exact g_zretR G hr rfl hk hf hw dX4_fillsRegister_21
  · rw [if_pos hc5] at hf
    refine lv_aload_n G.1 G.2.1 dX4_fillsRegister_8 rfl (lv_at hl 0 rfl) ?_
    refine g_getI G hw C_3 (iC_3 hv_o0) 1 rfl fl_X4_9 dX4_fillsRegister_9 ?_
    refine lv_iconst (v := (2 : Int32)) G.1 G.2.1 dX4_fillsRegister_12 (by decide) ?_
    refine lv_icmp_eq (tgt := 20) G.1 G.2.1 dX4_fillsRegister_13 (by decide) (fun hc13 => ?_) (fun hc13 => ?_)
    · rw [if_pos hc13] at hf
      refine lv_iconst (v := (0 : Int32)) G.1 G.2.1 dX4_fillsRegister_20 (by decide) ?_
      exact g_zretR G hr rfl hk hf hw dX4_fillsRegister_21
    · rw [if_neg hc13] at hf
      refine lv_iconst (v := (1 : Int32)) G.1 G.2.1 dX4_fillsRegister_16 (by decide) ?_
      refine lv_goto (tgt := 21) G.1 G.2.1 dX4_fillsRegister_17 (by decide) ?_
      exact g_zretR G hr rfl hk hf hw dX4_fillsRegister_21

set_option maxHeartbeats 4000000 in
set_option maxRecDepth 100000 in
theorem c_Od_isValue (l : Launch) (D : va_G) (X : va_W) (E : gE) (n : Nat) (a1 : Int32) (g : Mem) (r : Int32) (hf : Od_isValue n a1 = some r) : gMet l yX3_isValue cX3_isValue 1 (some .boolean) 0 0 D X idsC E [.int a1] g (some (.int r)) g := by
  rw [Od_isValue] at hf
  refine gt_code (by decide) (Nat.le_of_ble_eq_true rfl) (fun p en s m below meth c ls G hr hk hw hl => ?_)
  have hl : lv_has ls 1 [(0, .int a1)] := hl
  refine lv_iload_n G.1 G.2.1 dX3_isValue_0 rfl (lv_at hl 0 rfl) ?_
  refine lv_bipush (v := (-9 : Int32)) G.1 G.2.1 dX3_isValue_1 (by decide) ?_
  refine lv_icmp_gt (tgt := 17) G.1 G.2.1 dX3_isValue_3 (by decide) (fun hc3 => ?_) (fun hc3 => ?_)
  · rw [if_pos hc3] at hf
    refine lv_iconst (v := (0 : Int32)) G.1 G.2.1 dX3_isValue_17 (by decide) ?_
    exact g_zretR G hr rfl hk hf hw dX3_isValue_18
  · rw [if_neg hc3] at hf
    refine lv_iload_n G.1 G.2.1 dX3_isValue_6 rfl (lv_at hl 0 rfl) ?_
    refine lv_sipush (v := (-209 : Int32)) G.1 G.2.1 dX3_isValue_7 (by decide) ?_
    refine lv_icmp_le (tgt := 17) G.1 G.2.1 dX3_isValue_10 (by decide) (fun hc10 => ?_) (fun hc10 => ?_)
    · rw [if_pos hc10] at hf
      refine lv_iconst (v := (0 : Int32)) G.1 G.2.1 dX3_isValue_17 (by decide) ?_
      exact g_zretR G hr rfl hk hf hw dX3_isValue_18
    · rw [if_neg hc10] at hf
      refine lv_iconst (v := (1 : Int32)) G.1 G.2.1 dX3_isValue_13 (by decide) ?_
      refine lv_goto (tgt := 18) G.1 G.2.1 dX3_isValue_14 (by decide) ?_
      exact g_zretR G hr rfl hk hf hw dX3_isValue_18

set_option maxHeartbeats 4000000 in
set_option maxRecDepth 100000 in
theorem c_Od_operationOf (l : Launch) (D : va_G) (X : va_W) (E : gE) (n : Nat) (a1 : Int32) (g : Mem) (r : Int32) (hf : Od_operationOf n a1 = some r) : gMet l yX3_operationOf cX3_operationOf 1 (some .int) 0 0 D X idsC E [.int a1] g (some (.int r)) g := by
  rw [Od_operationOf] at hf
  refine gt_code (by decide) (Nat.le_of_ble_eq_true rfl) (fun p en s m below meth c ls G hr hk hw hl => ?_)
  have hl : lv_has ls 1 [(0, .int a1)] := hl
  refine lv_bipush (v := (-9 : Int32)) G.1 G.2.1 dX3_operationOf_0 (by decide) ?_
  refine lv_iload_n G.1 G.2.1 dX3_operationOf_2 rfl (lv_at hl 0 rfl) ?_
  refine lv_isub G.1 G.2.1 dX3_operationOf_3 ?_
  exact g_iretR G hr hk hf hw dX3_operationOf_4

set_option maxHeartbeats 4000000 in
set_option maxRecDepth 100000 in
theorem c_Od_isNumber (l : Launch) (D : va_G) (X : va_W) (E : gE) (n : Nat) (a1 : Int32) (g : Mem) (r : Int32) (hf : Od_isNumber n a1 = some r) : gMet l yX3_isNumber cX3_isNumber 1 (some .boolean) 0 0 D X idsC E [.int a1] g (some (.int r)) g := by
  rw [Od_isNumber] at hf
  refine gt_code (by decide) (Nat.le_of_ble_eq_true rfl) (fun p en s m below meth c ls G hr hk hw hl => ?_)
  have hl : lv_has ls 1 [(0, .int a1)] := hl
  refine lv_iload_n G.1 G.2.1 dX3_isNumber_0 rfl (lv_at hl 0 rfl) ?_
  refine lv_if_lt (tgt := 8) G.1 G.2.1 dX3_isNumber_1 (by decide) (fun hc1 => ?_) (fun hc1 => ?_)
  · rw [if_pos hc1] at hf
    refine lv_iconst (v := (0 : Int32)) G.1 G.2.1 dX3_isNumber_8 (by decide) ?_
    exact g_zretR G hr rfl hk hf hw dX3_isNumber_9
  · rw [if_neg hc1] at hf
    refine lv_iconst (v := (1 : Int32)) G.1 G.2.1 dX3_isNumber_4 (by decide) ?_
    refine lv_goto (tgt := 9) G.1 G.2.1 dX3_isNumber_5 (by decide) ?_
    exact g_zretR G hr rfl hk hf hw dX3_isNumber_9

set_option maxHeartbeats 4000000 in
set_option maxRecDepth 100000 in
theorem c_Od_variableOf (l : Launch) (D : va_G) (X : va_W) (E : gE) (n : Nat) (a1 : Int32) (g : Mem) (r : Int32) (hf : Od_variableOf n a1 = some r) : gMet l yX3_variableOf cX3_variableOf 1 (some .int) 0 0 D X idsC E [.int a1] g (some (.int r)) g := by
  rw [Od_variableOf] at hf
  refine gt_code (by decide) (Nat.le_of_ble_eq_true rfl) (fun p en s m below meth c ls G hr hk hw hl => ?_)
  have hl : lv_has ls 1 [(0, .int a1)] := hl
  refine lv_iconst (v := (-1 : Int32)) G.1 G.2.1 dX3_variableOf_0 (by decide) ?_
  refine lv_iload_n G.1 G.2.1 dX3_variableOf_1 rfl (lv_at hl 0 rfl) ?_
  refine lv_isub G.1 G.2.1 dX3_variableOf_2 ?_
  exact g_iretR G hr hk hf hw dX3_variableOf_3

set_option maxHeartbeats 4000000 in
set_option maxRecDepth 100000 in
theorem c_Op_kindOf (l : Launch) (D : va_G) (X : va_W) (E : gE) (n : Nat) (a1 : Int32) (g : Mem) (r : Int32) (hf : Op_kindOf n a1 = some r) : gMet l yX4_kindOf cX4_kindOf 1 (some .int) 0 0 D X idsC E [.int a1] g (some (.int r)) g := by
  rw [Op_kindOf] at hf
  refine gt_code (by decide) (Nat.le_of_ble_eq_true rfl) (fun p en s m below meth c ls G hr hk hw hl => ?_)
  have hl : lv_has ls 1 [(0, .int a1)] := hl
  refine lv_iload_n G.1 G.2.1 dX4_kindOf_0 rfl (lv_at hl 0 rfl) ?_
  by_cases hs1_1 : a1 = 1
  · rw [if_pos hs1_1] at hf
    refine lv_lookup (tgt := 46) G.1 G.2.1 dX4_kindOf_1 (by decide) (by rw [hs1_1]) (by decide) ?_
    refine lv_iconst (v := (2 : Int32)) G.1 G.2.1 dX4_kindOf_46 (by decide) ?_
    exact g_iretR G hr hk hf hw dX4_kindOf_47
  · rw [if_neg hs1_1] at hf
    by_cases hs1_2 : a1 = 2
    · rw [if_pos hs1_2] at hf
      refine lv_lookup (tgt := 46) G.1 G.2.1 dX4_kindOf_1 (by decide) (by rw [hs1_2]) (by decide) ?_
      refine lv_iconst (v := (2 : Int32)) G.1 G.2.1 dX4_kindOf_46 (by decide) ?_
      exact g_iretR G hr hk hf hw dX4_kindOf_47
    · rw [if_neg hs1_2] at hf
      by_cases hs1_3 : a1 = 3
      · rw [if_pos hs1_3] at hf
        refine lv_lookup (tgt := 48) G.1 G.2.1 dX4_kindOf_1 (by decide) (by rw [hs1_3]) (by decide) ?_
        refine lv_iconst (v := (3 : Int32)) G.1 G.2.1 dX4_kindOf_48 (by decide) ?_
        exact g_iretR G hr hk hf hw dX4_kindOf_49
      · rw [if_neg hs1_3] at hf
        by_cases hs1_42 : a1 = 42
        · rw [if_pos hs1_42] at hf
          refine lv_lookup (tgt := 44) G.1 G.2.1 dX4_kindOf_1 (by decide) (by rw [hs1_42]) (by decide) ?_
          refine lv_iconst (v := (1 : Int32)) G.1 G.2.1 dX4_kindOf_44 (by decide) ?_
          exact g_iretR G hr hk hf hw dX4_kindOf_45
        · rw [if_neg hs1_42] at hf
          refine lv_lookup (tgt := 50) G.1 G.2.1 dX4_kindOf_1 (by decide) (off := 49) (by rw [lv_osw hs1_1 (by decide)]; rw [lv_osw hs1_2 (by decide)]; rw [lv_osw hs1_3 (by decide)]; rw [lv_osw hs1_42 (by decide)]; rfl) (by decide) ?_
          refine lv_iconst (v := (0 : Int32)) G.1 G.2.1 dX4_kindOf_50 (by decide) ?_
          exact g_iretR G hr hk hf hw dX4_kindOf_51

set_option maxHeartbeats 4000000 in
set_option maxRecDepth 100000 in
theorem c_Op_become (l : Launch) (D : va_G) (X : va_W) (E : gE) (n : Nat) (o0 : Nat) (a1 : Int32) (a2 : Int32) (a3 : Int32) (hv_o0 : o0 < 400) (g : Mem) (g' : Mem) (hf : Op_become n o0 a1 a2 a3 g = some g') : gMet l yX4_become cX4_become 4 none 1 20 D X idsC E [.ref (E.1 3 o0), .int a1, .int a2, .int a3] g none g' := by
  rw [Op_become] at hf
  refine gt_code (by decide) (Nat.le_of_ble_eq_true rfl) (fun p en s m below meth c ls G hr hk hw hl => ?_)
  have hl : lv_has ls 4 [(0, .ref (E.1 3 o0)), (1, .int a1), (2, .int a2), (3, .int a3)] := hl
  refine lv_aload_n G.1 G.2.1 dX4_become_0 rfl (lv_at hl 0 rfl) ?_
  refine lv_iload_n G.1 G.2.1 dX4_become_1 rfl (lv_at hl 1 rfl) ?_
  obtain ⟨g1, eg1, hf⟩ := lt9_some hf
  refine g_putI G hw C_3 (iC_3 hv_o0) 1 rfl fl_X4_9 rfl rfl rfl dX4_become_2 (fun H locs hw => ?_)
  rw [← eg1] at hw
  refine lv_aload_n G.1 G.2.1 dX4_become_5 rfl (lv_at hl 0 rfl) ?_
  refine lv_iload_n G.1 G.2.1 dX4_become_6 rfl (lv_at hl 2 rfl) ?_
  obtain ⟨g2, eg2, hf⟩ := lt9_some hf
  refine g_putI G hw C_3 (iC_3 hv_o0) 3 rfl fl_X4_15 rfl rfl rfl dX4_become_7 (fun H locs hw => ?_)
  rw [← eg2] at hw
  refine lv_aload_n G.1 G.2.1 dX4_become_10 rfl (lv_at hl 0 rfl) ?_
  refine lv_iload_n G.1 G.2.1 dX4_become_11 rfl (lv_at hl 3 rfl) ?_
  obtain ⟨g3, eg3, hf⟩ := lt9_some hf
  refine g_putI G hw C_3 (iC_3 hv_o0) 4 rfl fl_X4_18 rfl rfl rfl dX4_become_12 (fun H locs hw => ?_)
  rw [← eg3] at hw
  refine lv_aload_n G.1 G.2.1 dX4_become_15 rfl (lv_at hl 0 rfl) ?_
  refine lv_iload_n G.1 G.2.1 dX4_become_16 rfl (lv_at hl 1 rfl) ?_
  obtain ⟨z4, hcz4, hf⟩ := bd_some hf
  refine g_callS1 (As := [.int a1]) (rest := [.ref (E.1 3 o0)]) G hw (gA_mono hw.2.2.2.1.1)  ms_X4_21 (c_Op_kindOf l D X E n a1 g3 z4 hcz4) hl.1 rfl rfl (Nat.le_of_ble_eq_true rfl) (Nat.le_of_ble_eq_true rfl) (Nat.le_of_ble_eq_true rfl) ⟨Nat.le_refl _, Nat.le_refl _⟩ dX4_become_17 (fun H locs hw => ?_)
  obtain ⟨g5, eg5, hf⟩ := lt9_some hf
  refine g_putI G hw C_3 (iC_3 hv_o0) 2 rfl fl_X4_25 rfl rfl rfl dX4_become_20 (fun H locs hw => ?_)
  rw [← eg5] at hw
  refine lv_aload_n G.1 G.2.1 dX4_become_23 rfl (lv_at hl 0 rfl) ?_
  refine lv_iconst (v := (-1 : Int32)) G.1 G.2.1 dX4_become_24 (by decide) ?_
  obtain ⟨g6, eg6, hf⟩ := lt9_some hf
  refine g_putI G hw C_3 (iC_3 hv_o0) 5 rfl fl_X4_28 rfl rfl rfl dX4_become_25 (fun H locs hw => ?_)
  rw [← eg6] at hw
  exact g_vretW G hr hk hf hw dX4_become_28

set_option maxHeartbeats 4000000 in
set_option maxRecDepth 100000 in
theorem c_Pg_clear (l : Launch) (D : va_G) (X : va_W) (E : gE) (n : Nat) (p0 : Nat) (hv_p0 : p0 < 2) (g : Mem) (g' : Mem) (hf : Pg_clear n p0 g = some g') : gMet l yX5_clear cX5_clear 1 none 0 0 D X idsC E [.ref (E.1 4 p0)] g none g' := by
  rw [Pg_clear] at hf
  refine gt_code (by decide) (Nat.le_of_ble_eq_true rfl) (fun p en s m below meth c ls G hr hk hw hl => ?_)
  have hl : lv_has ls 1 [(0, .ref (E.1 4 p0))] := hl
  refine lv_aload_n G.1 G.2.1 dX5_clear_0 rfl (lv_at hl 0 rfl) ?_
  refine lv_iconst (v := (0 : Int32)) G.1 G.2.1 dX5_clear_1 (by decide) ?_
  obtain ⟨g1, eg1, hf⟩ := lt9_some hf
  refine g_putI G hw C_4 (iC_4 hv_p0) 2 rfl fl_X5_29 rfl rfl rfl dX5_clear_2 (fun H locs hw => ?_)
  rw [← eg1] at hw
  refine lv_aload_n G.1 G.2.1 dX5_clear_5 rfl (lv_at hl 0 rfl) ?_
  refine lv_iconst (v := (0 : Int32)) G.1 G.2.1 dX5_clear_6 (by decide) ?_
  obtain ⟨g2, eg2, hf⟩ := lt9_some hf
  refine g_putI G hw C_4 (iC_4 hv_p0) 3 rfl fl_X5_32 rfl rfl rfl dX5_clear_7 (fun H locs hw => ?_)
  rw [← eg2] at hw
  exact g_vretW G hr hk hf hw dX5_clear_10

set_option maxHeartbeats 4000000 in
set_option maxRecDepth 100000 in
theorem c_Pg_isFull (l : Launch) (D : va_G) (X : va_W) (E : gE) (n : Nat) (p0 : Nat) (hv_p0 : p0 < 2) (g : Mem) (r : Int32) (hf : Pg_isFull n p0 g = some r) : gMet l yX5_isFull cX5_isFull 1 (some .boolean) 0 0 D X idsC E [.ref (E.1 4 p0)] g (some (.int r)) g := by
  rw [Pg_isFull] at hf
  refine gt_code (by decide) (Nat.le_of_ble_eq_true rfl) (fun p en s m below meth c ls G hr hk hw hl => ?_)
  have hl : lv_has ls 1 [(0, .ref (E.1 4 p0))] := hl
  refine lv_aload_n G.1 G.2.1 dX5_isFull_0 rfl (lv_at hl 0 rfl) ?_
  refine g_getI G hw C_4 (iC_4 hv_p0) 2 rfl fl_X5_29 dX5_isFull_1 ?_
  refine lv_sipush (v := (200 : Int32)) G.1 G.2.1 dX5_isFull_4 (by decide) ?_
  refine lv_icmp_ne (tgt := 14) G.1 G.2.1 dX5_isFull_7 (by decide) (fun hc7 => ?_) (fun hc7 => ?_)
  · rw [if_neg hc7] at hf
    refine lv_iconst (v := (0 : Int32)) G.1 G.2.1 dX5_isFull_14 (by decide) ?_
    exact g_zretR G hr rfl hk hf hw dX5_isFull_15
  · rw [if_pos hc7] at hf
    refine lv_iconst (v := (1 : Int32)) G.1 G.2.1 dX5_isFull_10 (by decide) ?_
    refine lv_goto (tgt := 15) G.1 G.2.1 dX5_isFull_11 (by decide) ?_
    exact g_zretR G hr rfl hk hf hw dX5_isFull_15

set_option maxHeartbeats 4000000 in
set_option maxRecDepth 100000 in
theorem c_Pg_addBlock (l : Launch) (D : va_G) (X : va_W) (E : gE) (n : Nat) (p0 : Nat) (hv_p0 : p0 < 2) (g : Mem) (r : Nat) (g' : Mem) (hf : Pg_addBlock n p0 g = some (r, g')) : gMet l yX5_addBlock cX5_addBlock 2 (some (.object "CycleSynthesis$Block")) 1 21 D X idsC E [.ref (E.1 4 p0)] g (some (.ref (E.1 0 r))) g' := by
  rw [Pg_addBlock] at hf
  refine gt_code (by decide) (Nat.le_of_ble_eq_true rfl) (fun p en s m below meth c ls G hr hk hw hl => ?_)
  have hl : lv_has ls 2 [(0, .ref (E.1 4 p0))] := hl
  refine lv_aload_n G.1 G.2.1 dX5_addBlock_0 rfl (lv_at hl 0 rfl) ?_
  refine g_getC G hw C_4 (iC_4 hv_p0) 1 32 rfl (by decide) rfl fl_X5_24 dX5_addBlock_1 ?_
  refine lv_aload_n G.1 G.2.1 dX5_addBlock_4 rfl (lv_at hl 0 rfl) ?_
  refine g_getI G hw C_4 (iC_4 hv_p0) 3 rfl fl_X5_32 dX5_addBlock_5 ?_
  obtain ⟨j1, hj1, hf⟩ := bd_some hf
  refine g_bald G hw (iC_32 hv_p0) (by decide) rfl hj1 dX5_addBlock_8 ?_
  refine lv_astore_n (lv' := [(1, .ref (E.1 0 (175 * p0 + j1))), (0, .ref (E.1 4 p0))]) G.1 G.2.1 dX5_addBlock_9 rfl hl (by decide) rfl (fun ls hl => ?_)
  refine lv_aload_n G.1 G.2.1 dX5_addBlock_10 rfl (lv_at hl 0 rfl) ?_
  refine lv_aload_n G.1 G.2.1 dX5_addBlock_11 rfl (lv_at hl 1 rfl) ?_
  refine g_getI G hw C_4 (iC_4 hv_p0) 2 rfl fl_X5_29 dX5_addBlock_12 ?_
  obtain ⟨g2, hcg2, hf⟩ := bd_some hf
  refine g_callV0 (As := [.int (gI g 4 p0 2)]) (rest := []) G hw (gA_mono hw.2.2.2.1.1) C_0 (iC_0 (v_0 hv_p0 hj1)) mv_X5_35 (c_Bk_become l D X E n (175 * p0 + j1) (gI g 4 p0 2) (v_0 hv_p0 hj1) g g2 hcg2) hl.1 rfl rfl (Nat.le_of_ble_eq_true rfl) (Nat.le_of_ble_eq_true rfl) (Nat.le_of_ble_eq_true rfl) ⟨Nat.le_refl _, Nat.le_refl _⟩ dX5_addBlock_15 (fun H locs hw => ?_)
  refine lv_aload_n G.1 G.2.1 dX5_addBlock_18 rfl (lv_at hl 1 rfl) ?_
  refine lv_dup G.1 G.2.1 dX5_addBlock_19 rfl ?_
  refine g_getI G hw C_4 (iC_4 hv_p0) 3 rfl fl_X5_32 dX5_addBlock_20 ?_
  refine lv_iconst (v := (1 : Int32)) G.1 G.2.1 dX5_addBlock_23 (by decide) ?_
  refine lv_iadd G.1 G.2.1 dX5_addBlock_24 ?_
  obtain ⟨g3, eg3, hf⟩ := lt9_some hf
  refine g_putI G hw C_4 (iC_4 hv_p0) 3 rfl fl_X5_32 rfl rfl rfl dX5_addBlock_25 (fun H locs hw => ?_)
  rw [← eg3] at hw
  refine lv_aload_n G.1 G.2.1 dX5_addBlock_28 rfl (lv_at hl 0 rfl) ?_
  exact g_aretW G hr hk hf hw dX5_addBlock_29

set_option maxHeartbeats 4000000 in
set_option maxRecDepth 100000 in
theorem c_Pg_addOperation (l : Launch) (D : va_G) (X : va_W) (E : gE) (n : Nat) (p0 : Nat) (a1 : Int32) (a2 : Int32) (a3 : Int32) (hv_p0 : p0 < 2) (g : Mem) (r : Nat) (g' : Mem) (hf : Pg_addOperation n p0 a1 a2 a3 g = some (r, g')) : gMet l yX5_addOperation cX5_addOperation 5 (some (.object "CycleSynthesis$Operation")) 2 43 D X idsC E [.ref (E.1 4 p0), .int a1, .int a2, .int a3] g (some (.ref (E.1 3 r))) g' := by
  rw [Pg_addOperation] at hf
  refine gt_code (by decide) (Nat.le_of_ble_eq_true rfl) (fun p en s m below meth c ls G hr hk hw hl => ?_)
  have hl : lv_has ls 5 [(0, .ref (E.1 4 p0)), (1, .int a1), (2, .int a2), (3, .int a3)] := hl
  refine lv_aload_n G.1 G.2.1 dX5_addOperation_0 rfl (lv_at hl 0 rfl) ?_
  refine g_getC G hw C_4 (iC_4 hv_p0) 0 31 rfl (by decide) rfl fl_X5_11 dX5_addOperation_1 ?_
  refine lv_aload_n G.1 G.2.1 dX5_addOperation_4 rfl (lv_at hl 0 rfl) ?_
  refine g_getI G hw C_4 (iC_4 hv_p0) 2 rfl fl_X5_29 dX5_addOperation_5 ?_
  obtain ⟨j1, hj1, hf⟩ := bd_some hf
  refine g_oald G hw (iC_31 hv_p0) (by decide) rfl hj1 dX5_addOperation_8 ?_
  refine lv_astore (lv' := [(4, .ref (E.1 3 (200 * p0 + j1))), (0, .ref (E.1 4 p0)), (1, .int a1), (2, .int a2), (3, .int a3)]) G.1 G.2.1 dX5_addOperation_9 hl (by decide) rfl (fun ls hl => ?_)
  refine lv_aload G.1 G.2.1 dX5_addOperation_11 (lv_at hl 0 rfl) ?_
  refine lv_iload_n G.1 G.2.1 dX5_addOperation_13 rfl (lv_at hl 2 rfl) ?_
  refine lv_iload_n G.1 G.2.1 dX5_addOperation_14 rfl (lv_at hl 3 rfl) ?_
  refine lv_iload_n G.1 G.2.1 dX5_addOperation_15 rfl (lv_at hl 4 rfl) ?_
  obtain ⟨g2, hcg2, hf⟩ := bd_some hf
  refine g_callV0 (As := [.int a1, .int a2, .int a3]) (rest := []) G hw (gA_mono hw.2.2.2.1.1) C_3 (iC_3 (v_3 hv_p0 hj1)) mv_X5_39 (c_Op_become l D X E n (200 * p0 + j1) a1 a2 a3 (v_3 hv_p0 hj1) g g2 hcg2) hl.1 rfl rfl (Nat.le_of_ble_eq_true rfl) (Nat.le_of_ble_eq_true rfl) (Nat.le_of_ble_eq_true rfl) ⟨Nat.le_refl _, Nat.le_refl _⟩ dX5_addOperation_16 (fun H locs hw => ?_)
  refine lv_aload G.1 G.2.1 dX5_addOperation_19 (lv_at hl 0 rfl) ?_
  refine lv_aload_n G.1 G.2.1 dX5_addOperation_21 rfl (lv_at hl 1 rfl) ?_
  refine g_getI G hw C_4 (iC_4 hv_p0) 3 rfl fl_X5_32 dX5_addOperation_22 ?_
  refine lv_iconst (v := (1 : Int32)) G.1 G.2.1 dX5_addOperation_25 (by decide) ?_
  refine lv_isub G.1 G.2.1 dX5_addOperation_26 ?_
  obtain ⟨g3, eg3, hf⟩ := lt9_some hf
  refine g_putI G hw C_3 (iC_3 (v_3 hv_p0 hj1)) 6 rfl fl_X5_42 rfl rfl rfl dX5_addOperation_27 (fun H locs hw => ?_)
  rw [← eg3] at hw
  refine lv_aload_n G.1 G.2.1 dX5_addOperation_30 rfl (lv_at hl 1 rfl) ?_
  refine g_getC G hw C_4 (iC_4 hv_p0) 1 32 rfl (by decide) rfl fl_X5_24 dX5_addOperation_31 ?_
  refine lv_aload_n G.1 G.2.1 dX5_addOperation_34 rfl (lv_at hl 1 rfl) ?_
  refine g_getI G hw C_4 (iC_4 hv_p0) 3 rfl fl_X5_32 dX5_addOperation_35 ?_
  refine lv_iconst (v := (1 : Int32)) G.1 G.2.1 dX5_addOperation_38 (by decide) ?_
  refine lv_isub G.1 G.2.1 dX5_addOperation_39 ?_
  obtain ⟨j4, hj4, hf⟩ := bd_some hf
  refine g_bald G hw (iC_32 hv_p0) (by decide) rfl hj4 dX5_addOperation_40 ?_
  refine lv_dup G.1 G.2.1 dX5_addOperation_41 rfl ?_
  refine g_getI G hw C_0 (iC_0 (v_0 hv_p0 hj4)) 1 rfl fl_X5_44 dX5_addOperation_42 ?_
  refine lv_iconst (v := (1 : Int32)) G.1 G.2.1 dX5_addOperation_45 (by decide) ?_
  refine lv_iadd G.1 G.2.1 dX5_addOperation_46 ?_
  obtain ⟨g5, eg5, hf⟩ := lt9_some hf
  refine g_putI G hw C_0 (iC_0 (v_0 hv_p0 hj4)) 1 rfl fl_X5_44 rfl rfl rfl dX5_addOperation_47 (fun H locs hw => ?_)
  rw [← eg5] at hw
  refine lv_aload_n G.1 G.2.1 dX5_addOperation_50 rfl (lv_at hl 1 rfl) ?_
  refine lv_dup G.1 G.2.1 dX5_addOperation_51 rfl ?_
  refine g_getI G hw C_4 (iC_4 hv_p0) 2 rfl fl_X5_29 dX5_addOperation_52 ?_
  refine lv_iconst (v := (1 : Int32)) G.1 G.2.1 dX5_addOperation_55 (by decide) ?_
  refine lv_iadd G.1 G.2.1 dX5_addOperation_56 ?_
  obtain ⟨g6, eg6, hf⟩ := lt9_some hf
  refine g_putI G hw C_4 (iC_4 hv_p0) 2 rfl fl_X5_29 rfl rfl rfl dX5_addOperation_57 (fun H locs hw => ?_)
  rw [← eg6] at hw
  refine lv_aload G.1 G.2.1 dX5_addOperation_60 (lv_at hl 0 rfl) ?_
  exact g_aretW G hr hk hf hw dX5_addOperation_62

set_option maxHeartbeats 4000000 in
set_option maxRecDepth 100000 in
theorem c_Pg_allCycles (l : Launch) (D : va_G) (X : va_W) (E : gE) (n : Nat) (p0 : Nat) (hv_p0 : p0 < 2) (g : Mem) (r : Int32) (hf : Pg_allCycles n p0 g = some r) : gMet l yX5_allCycles cX5_allCycles 3 (some .int) 0 0 D X idsC E [.ref (E.1 4 p0)] g (some (.int r)) g := by
  rw [Pg_allCycles] at hf
  refine gt_code (by decide) (Nat.le_of_ble_eq_true rfl) (fun p en s m below meth c ls G hr hk hw hl => ?_)
  have hl : lv_has ls 3 [(0, .ref (E.1 4 p0))] := hl
  refine lv_iconst (v := (0 : Int32)) G.1 G.2.1 dX5_allCycles_0 (by decide) ?_
  refine lv_istore_n (lv' := [(1, .int (0 : Int32)), (0, .ref (E.1 4 p0))]) G.1 G.2.1 dX5_allCycles_1 rfl hl (by decide) rfl (fun ls hl => ?_)
  refine lv_iconst (v := (0 : Int32)) G.1 G.2.1 dX5_allCycles_2 (by decide) ?_
  refine lv_istore_n (lv' := [(2, .int (0 : Int32)), (1, .int (0 : Int32)), (0, .ref (E.1 4 p0))]) G.1 G.2.1 dX5_allCycles_3 rfl hl (by decide) rfl (fun ls hl => ?_)
  have hL4 : ∀ (k1 : Nat) (x2 : Int32) (x3 : Int32) (res1 : Int32) (H : Heap) (locs : List Loc) (ls : Array Slot), Pg_allCycles_L4 n g p0 k1 x2 x3 = some res1 → GW D X idsC E (gA X idsC E s.heap.size) s g H locs → lv_has ls 3 [(0, .ref (E.1 4 p0)), (1, .int x2), (2, .int x3)] → (∀ (H : Heap) (locs : List Loc) (ls : Array Slot), GW D X idsC E (gA X idsC E s.heap.size) s g H locs → lv_has ls 3 [(1, .int res1)] → W p l en { frames := 0, cells := 0, slots := 0, locals := 0 } s m [.ref (E.1 4 p0)].toArray below meth c H locs 0 0 (MQ below (gQ (some (.int r)) (GP D X idsC E g) (gA X idsC E s.heap.size)) [.ref (E.1 4 p0)].toArray s 0 0 (gA X idsC E s.heap.size)) (F0 m 30 ls [])) → W p l en { frames := 0, cells := 0, slots := 0, locals := 0 } s m [.ref (E.1 4 p0)].toArray below meth c H locs 0 0 (MQ below (gQ (some (.int r)) (GP D X idsC E g) (gA X idsC E s.heap.size)) [.ref (E.1 4 p0)].toArray s 0 0 (gA X idsC E s.heap.size)) (F0 m 4 ls []) := by
    intro k1
    induction k1 with
    | zero => intro x2 x3 res1 H locs ls hf; rw [Pg_allCycles_L4] at hf; cases hf
    | succ k1 ih1 =>
      intro x2 x3 res1 H locs ls hf hw hl hk1_0
      rw [Pg_allCycles_L4] at hf
      refine lv_iload_n G.1 G.2.1 dX5_allCycles_4 rfl (lv_at hl 2 rfl) ?_
      refine lv_aload_n G.1 G.2.1 dX5_allCycles_5 rfl (lv_at hl 0 rfl) ?_
      refine g_getI G hw C_4 (iC_4 hv_p0) 3 rfl fl_X5_32 dX5_allCycles_6 ?_
      refine lv_icmp_ge (tgt := 30) G.1 G.2.1 dX5_allCycles_9 (by decide) (fun hc9 => ?_) (fun hc9 => ?_)
      · rw [if_pos hc9] at hf
        obtain rfl := Option.some.inj hf
        exact hk1_0 _ _ ls hw (lv_sub hl [1] rfl)
      · rw [if_neg hc9] at hf
        refine lv_iload_n G.1 G.2.1 dX5_allCycles_12 rfl (lv_at hl 1 rfl) ?_
        refine lv_aload_n G.1 G.2.1 dX5_allCycles_13 rfl (lv_at hl 0 rfl) ?_
        refine g_getC G hw C_4 (iC_4 hv_p0) 1 32 rfl (by decide) rfl fl_X5_24 dX5_allCycles_14 ?_
        refine lv_iload_n G.1 G.2.1 dX5_allCycles_17 rfl (lv_at hl 2 rfl) ?_
        obtain ⟨j4, hj4, hf⟩ := bd_some hf
        refine g_bald G hw (iC_32 hv_p0) (by decide) rfl hj4 dX5_allCycles_18 ?_
        refine g_getI G hw C_0 (iC_0 (v_0 hv_p0 hj4)) 6 rfl fl_X5_47 dX5_allCycles_19 ?_
        refine lv_iadd G.1 G.2.1 dX5_allCycles_22 ?_
        refine lv_istore_n (lv' := [(1, .int (x2 + (gI g 0 (175 * p0 + j4) 6))), (0, .ref (E.1 4 p0)), (2, .int x3)]) G.1 G.2.1 dX5_allCycles_23 rfl hl (by decide) rfl (fun ls hl => ?_)
        refine lv_iinc (v := x3 + 1) (lv' := [(2, .int (x3 + 1)), (1, .int (x2 + (gI g 0 (175 * p0 + j4) 6))), (0, .ref (E.1 4 p0))]) G.1 G.2.1 dX5_allCycles_24 hl (k := 2) rfl rfl (by decide) rfl (fun ls hl => ?_)
        refine lv_goto (tgt := 4) G.1 G.2.1 dX5_allCycles_27 (by decide) ?_
        exact ih1 (x2 + (gI g 0 (175 * p0 + j4) 6)) (x3 + 1) _ _ _ ls hf hw (lv_sub hl [2, 1, 0] rfl) hk1_0
  obtain ⟨r5, hr5, hf⟩ := bd_some hf
  refine hL4 n (0 : Int32) (0 : Int32) r5 _ _ ls hr5 hw (lv_sub hl [2, 1, 0] rfl) ?_
  intro H locs ls hw hl
  refine lv_iload_n G.1 G.2.1 dX5_allCycles_30 rfl (lv_at hl 0 rfl) ?_
  exact g_iretR G hr hk hf hw dX5_allCycles_31

set_option maxHeartbeats 4000000 in
set_option maxRecDepth 100000 in
theorem c_Pg_usedRegisters (l : Launch) (D : va_G) (X : va_W) (E : gE) (n : Nat) (p0 : Nat) (hv_p0 : p0 < 2) (g : Mem) (r : Int32) (hf : Pg_usedRegisters n p0 g = some r) : gMet l yX5_usedRegisters cX5_usedRegisters 3 (some .int) 1 24 D X idsC E [.ref (E.1 4 p0)] g (some (.int r)) g := by
  rw [Pg_usedRegisters] at hf
  refine gt_code (by decide) (Nat.le_of_ble_eq_true rfl) (fun p en s m below meth c ls G hr hk hw hl => ?_)
  have hl : lv_has ls 3 [(0, .ref (E.1 4 p0))] := hl
  refine lv_iconst (v := (-1 : Int32)) G.1 G.2.1 dX5_usedRegisters_0 (by decide) ?_
  refine lv_istore_n (lv' := [(1, .int (-1 : Int32)), (0, .ref (E.1 4 p0))]) G.1 G.2.1 dX5_usedRegisters_1 rfl hl (by decide) rfl (fun ls hl => ?_)
  refine lv_iconst (v := (0 : Int32)) G.1 G.2.1 dX5_usedRegisters_2 (by decide) ?_
  refine lv_istore_n (lv' := [(2, .int (0 : Int32)), (1, .int (-1 : Int32)), (0, .ref (E.1 4 p0))]) G.1 G.2.1 dX5_usedRegisters_3 rfl hl (by decide) rfl (fun ls hl => ?_)
  have hL4 : ∀ (k1 : Nat) (x2 : Int32) (x3 : Int32) (res1 : Int32) (H : Heap) (locs : List Loc) (ls : Array Slot), Pg_usedRegisters_L4 n g p0 k1 x2 x3 = some res1 → GW D X idsC E (gA X idsC E s.heap.size) s g H locs → lv_has ls 3 [(0, .ref (E.1 4 p0)), (1, .int x2), (2, .int x3)] → (∀ (H : Heap) (locs : List Loc) (ls : Array Slot), GW D X idsC E (gA X idsC E s.heap.size) s g H locs → lv_has ls 3 [(1, .int res1)] → W p l en { frames := 1, cells := 0, slots := 0, locals := 24 } s m [.ref (E.1 4 p0)].toArray below meth c H locs 0 0 (MQ below (gQ (some (.int r)) (GP D X idsC E g) (gA X idsC E s.heap.size)) [.ref (E.1 4 p0)].toArray s 0 0 (gA X idsC E s.heap.size)) (F0 m 32 ls [])) → W p l en { frames := 1, cells := 0, slots := 0, locals := 24 } s m [.ref (E.1 4 p0)].toArray below meth c H locs 0 0 (MQ below (gQ (some (.int r)) (GP D X idsC E g) (gA X idsC E s.heap.size)) [.ref (E.1 4 p0)].toArray s 0 0 (gA X idsC E s.heap.size)) (F0 m 4 ls []) := by
    intro k1
    induction k1 with
    | zero => intro x2 x3 res1 H locs ls hf; rw [Pg_usedRegisters_L4] at hf; cases hf
    | succ k1 ih1 =>
      intro x2 x3 res1 H locs ls hf hw hl hk1_0
      rw [Pg_usedRegisters_L4] at hf
      refine lv_iload_n G.1 G.2.1 dX5_usedRegisters_4 rfl (lv_at hl 2 rfl) ?_
      refine lv_aload_n G.1 G.2.1 dX5_usedRegisters_5 rfl (lv_at hl 0 rfl) ?_
      refine g_getI G hw C_4 (iC_4 hv_p0) 2 rfl fl_X5_29 dX5_usedRegisters_6 ?_
      refine lv_icmp_ge (tgt := 32) G.1 G.2.1 dX5_usedRegisters_9 (by decide) (fun hc9 => ?_) (fun hc9 => ?_)
      · rw [if_pos hc9] at hf
        obtain rfl := Option.some.inj hf
        exact hk1_0 _ _ ls hw (lv_sub hl [1] rfl)
      · rw [if_neg hc9] at hf
        refine lv_iload_n G.1 G.2.1 dX5_usedRegisters_12 rfl (lv_at hl 1 rfl) ?_
        refine lv_aload_n G.1 G.2.1 dX5_usedRegisters_13 rfl (lv_at hl 0 rfl) ?_
        refine g_getC G hw C_4 (iC_4 hv_p0) 0 31 rfl (by decide) rfl fl_X5_11 dX5_usedRegisters_14 ?_
        refine lv_iload_n G.1 G.2.1 dX5_usedRegisters_17 rfl (lv_at hl 2 rfl) ?_
        obtain ⟨j4, hj4, hf⟩ := bd_some hf
        refine g_oald G hw (iC_31 hv_p0) (by decide) rfl hj4 dX5_usedRegisters_18 ?_
        refine g_getI G hw C_3 (iC_3 (v_3 hv_p0 hj4)) 11 rfl fl_X5_50 dX5_usedRegisters_19 ?_
        refine g_max (rest := []) G hl.1 mm_X5_53 (Nat.le_of_ble_eq_true rfl) dX5_usedRegisters_22 (Nat.le_of_ble_eq_true rfl) (Nat.le_of_ble_eq_true rfl) (Nat.le_refl _) (Nat.le_refl _) ?_
        refine lv_istore_n (lv' := [(1, .int (imax x2 (gI g 3 (200 * p0 + j4) 11))), (0, .ref (E.1 4 p0)), (2, .int x3)]) G.1 G.2.1 dX5_usedRegisters_25 rfl hl (by decide) rfl (fun ls hl => ?_)
        refine lv_iinc (v := x3 + 1) (lv' := [(2, .int (x3 + 1)), (1, .int (imax x2 (gI g 3 (200 * p0 + j4) 11))), (0, .ref (E.1 4 p0))]) G.1 G.2.1 dX5_usedRegisters_26 hl (k := 2) rfl rfl (by decide) rfl (fun ls hl => ?_)
        refine lv_goto (tgt := 4) G.1 G.2.1 dX5_usedRegisters_29 (by decide) ?_
        exact ih1 (imax x2 (gI g 3 (200 * p0 + j4) 11)) (x3 + 1) _ _ _ ls hf hw (lv_sub hl [2, 1, 0] rfl) hk1_0
  obtain ⟨r5, hr5, hf⟩ := bd_some hf
  refine hL4 n (-1 : Int32) (0 : Int32) r5 _ _ ls hr5 hw (lv_sub hl [2, 1, 0] rfl) ?_
  intro H locs ls hw hl
  refine lv_iload_n G.1 G.2.1 dX5_usedRegisters_32 rfl (lv_at hl 0 rfl) ?_
  refine lv_iconst (v := (1 : Int32)) G.1 G.2.1 dX5_usedRegisters_33 (by decide) ?_
  refine lv_iadd G.1 G.2.1 dX5_usedRegisters_34 ?_
  exact g_iretR G hr hk hf hw dX5_usedRegisters_35

set_option maxHeartbeats 4000000 in
set_option maxRecDepth 100000 in
theorem c_Pg_usedUnits (l : Launch) (D : va_G) (X : va_W) (E : gE) (n : Nat) (p0 : Nat) (a1 : Int32) (hv_p0 : p0 < 2) (g : Mem) (r : Int32) (hf : Pg_usedUnits n p0 a1 g = some r) : gMet l yX5_usedUnits cX5_usedUnits 4 (some .int) 1 24 D X idsC E [.ref (E.1 4 p0), .int a1] g (some (.int r)) g := by
  rw [Pg_usedUnits] at hf
  refine gt_code (by decide) (Nat.le_of_ble_eq_true rfl) (fun p en s m below meth c ls G hr hk hw hl => ?_)
  have hl : lv_has ls 4 [(0, .ref (E.1 4 p0)), (1, .int a1)] := hl
  refine lv_iconst (v := (-1 : Int32)) G.1 G.2.1 dX5_usedUnits_0 (by decide) ?_
  refine lv_istore_n (lv' := [(2, .int (-1 : Int32)), (0, .ref (E.1 4 p0)), (1, .int a1)]) G.1 G.2.1 dX5_usedUnits_1 rfl hl (by decide) rfl (fun ls hl => ?_)
  refine lv_iconst (v := (0 : Int32)) G.1 G.2.1 dX5_usedUnits_2 (by decide) ?_
  refine lv_istore_n (lv' := [(3, .int (0 : Int32)), (2, .int (-1 : Int32)), (0, .ref (E.1 4 p0)), (1, .int a1)]) G.1 G.2.1 dX5_usedUnits_3 rfl hl (by decide) rfl (fun ls hl => ?_)
  have hL4 : ∀ (k1 : Nat) (x2 : Int32) (x3 : Int32) (res1 : Int32) (H : Heap) (locs : List Loc) (ls : Array Slot), Pg_usedUnits_L4 n a1 g p0 k1 x2 x3 = some res1 → GW D X idsC E (gA X idsC E s.heap.size) s g H locs → lv_has ls 4 [(0, .ref (E.1 4 p0)), (1, .int a1), (2, .int x2), (3, .int x3)] → (∀ (H : Heap) (locs : List Loc) (ls : Array Slot), GW D X idsC E (gA X idsC E s.heap.size) s g H locs → lv_has ls 4 [(2, .int res1)] → W p l en { frames := 1, cells := 0, slots := 0, locals := 24 } s m [.ref (E.1 4 p0), .int a1].toArray below meth c H locs 0 0 (MQ below (gQ (some (.int r)) (GP D X idsC E g) (gA X idsC E s.heap.size)) [.ref (E.1 4 p0), .int a1].toArray s 0 0 (gA X idsC E s.heap.size)) (F0 m 45 ls [])) → W p l en { frames := 1, cells := 0, slots := 0, locals := 24 } s m [.ref (E.1 4 p0), .int a1].toArray below meth c H locs 0 0 (MQ below (gQ (some (.int r)) (GP D X idsC E g) (gA X idsC E s.heap.size)) [.ref (E.1 4 p0), .int a1].toArray s 0 0 (gA X idsC E s.heap.size)) (F0 m 4 ls []) := by
    intro k1
    induction k1 with
    | zero => intro x2 x3 res1 H locs ls hf; rw [Pg_usedUnits_L4] at hf; cases hf
    | succ k1 ih1 =>
      intro x2 x3 res1 H locs ls hf hw hl hk1_0
      rw [Pg_usedUnits_L4] at hf
      refine lv_iload_n G.1 G.2.1 dX5_usedUnits_4 rfl (lv_at hl 3 rfl) ?_
      refine lv_aload_n G.1 G.2.1 dX5_usedUnits_5 rfl (lv_at hl 0 rfl) ?_
      refine g_getI G hw C_4 (iC_4 hv_p0) 2 rfl fl_X5_29 dX5_usedUnits_6 ?_
      refine lv_icmp_ge (tgt := 45) G.1 G.2.1 dX5_usedUnits_9 (by decide) (fun hc9 => ?_) (fun hc9 => ?_)
      · rw [if_pos hc9] at hf
        obtain rfl := Option.some.inj hf
        exact hk1_0 _ _ ls hw (lv_sub hl [2] rfl)
      · rw [if_neg hc9] at hf
        refine lv_aload_n G.1 G.2.1 dX5_usedUnits_12 rfl (lv_at hl 0 rfl) ?_
        refine g_getC G hw C_4 (iC_4 hv_p0) 0 31 rfl (by decide) rfl fl_X5_11 dX5_usedUnits_13 ?_
        refine lv_iload_n G.1 G.2.1 dX5_usedUnits_16 rfl (lv_at hl 3 rfl) ?_
        obtain ⟨j4, hj4, hf⟩ := bd_some hf
        refine g_oald G hw (iC_31 hv_p0) (by decide) rfl hj4 dX5_usedUnits_17 ?_
        refine g_getI G hw C_3 (iC_3 (v_3 hv_p0 hj4)) 2 rfl fl_X5_59 dX5_usedUnits_18 ?_
        refine lv_iload_n G.1 G.2.1 dX5_usedUnits_21 rfl (lv_at hl 1 rfl) ?_
        refine lv_icmp_ne (tgt := 39) G.1 G.2.1 dX5_usedUnits_22 (by decide) (fun hc22 => ?_) (fun hc22 => ?_)
        · rw [if_neg hc22] at hf
          refine lv_iinc (v := x3 + 1) (lv' := [(3, .int (x3 + 1)), (0, .ref (E.1 4 p0)), (1, .int a1), (2, .int x2)]) G.1 G.2.1 dX5_usedUnits_39 hl (k := 3) rfl rfl (by decide) rfl (fun ls hl => ?_)
          refine lv_goto (tgt := 4) G.1 G.2.1 dX5_usedUnits_42 (by decide) ?_
          exact ih1 x2 (x3 + 1) _ _ _ ls hf hw (lv_sub hl [1, 2, 3, 0] rfl) hk1_0
        · rw [if_pos hc22] at hf
          refine lv_iload_n G.1 G.2.1 dX5_usedUnits_25 rfl (lv_at hl 2 rfl) ?_
          refine lv_aload_n G.1 G.2.1 dX5_usedUnits_26 rfl (lv_at hl 0 rfl) ?_
          refine g_getC G hw C_4 (iC_4 hv_p0) 0 31 rfl (by decide) rfl fl_X5_11 dX5_usedUnits_27 ?_
          refine lv_iload_n G.1 G.2.1 dX5_usedUnits_30 rfl (lv_at hl 3 rfl) ?_
          obtain ⟨j5, hj5, hf⟩ := bd_some hf
          refine g_oald G hw (iC_31 hv_p0) (by decide) rfl hj5 dX5_usedUnits_31 ?_
          refine g_getI G hw C_3 (iC_3 (v_3 hv_p0 hj5)) 10 rfl fl_X5_62 dX5_usedUnits_32 ?_
          refine g_max (rest := []) G hl.1 mm_X5_53 (Nat.le_of_ble_eq_true rfl) dX5_usedUnits_35 (Nat.le_of_ble_eq_true rfl) (Nat.le_of_ble_eq_true rfl) (Nat.le_refl _) (Nat.le_refl _) ?_
          refine lv_istore_n (lv' := [(2, .int (imax x2 (gI g 3 (200 * p0 + j5) 10))), (0, .ref (E.1 4 p0)), (1, .int a1), (3, .int x3)]) G.1 G.2.1 dX5_usedUnits_38 rfl hl (by decide) rfl (fun ls hl => ?_)
          refine lv_iinc (v := x3 + 1) (lv' := [(3, .int (x3 + 1)), (2, .int (imax x2 (gI g 3 (200 * p0 + j5) 10))), (0, .ref (E.1 4 p0)), (1, .int a1)]) G.1 G.2.1 dX5_usedUnits_39 hl (k := 3) rfl rfl (by decide) rfl (fun ls hl => ?_)
          refine lv_goto (tgt := 4) G.1 G.2.1 dX5_usedUnits_42 (by decide) ?_
          exact ih1 (imax x2 (gI g 3 (200 * p0 + j5) 10)) (x3 + 1) _ _ _ ls hf hw (lv_sub hl [2, 3, 1, 0] rfl) hk1_0
  obtain ⟨r6, hr6, hf⟩ := bd_some hf
  refine hL4 n (-1 : Int32) (0 : Int32) r6 _ _ ls hr6 hw (lv_sub hl [2, 3, 1, 0] rfl) ?_
  intro H locs ls hw hl
  refine lv_iload_n G.1 G.2.1 dX5_usedUnits_45 rfl (lv_at hl 0 rfl) ?_
  refine lv_iconst (v := (1 : Int32)) G.1 G.2.1 dX5_usedUnits_46 (by decide) ?_
  refine lv_iadd G.1 G.2.1 dX5_usedUnits_47 ?_
  exact g_iretR G hr hk hf hw dX5_usedUnits_48

set_option maxHeartbeats 4000000 in
set_option maxRecDepth 100000 in
theorem c_Tp_append (l : Launch) (D : va_G) (X : va_W) (E : gE) (n : Nat) (a1 : Int32) (a2 : Int64) (g : Mem) (r : Int32) (g' : Mem) (hf : Tp_append n a1 a2 g = some (r, g')) : gMet l yX7_append cX7_append 5 (some .boolean) 0 0 D X idsC E [.ref (E.1 6 0), .int a1, .long a2] g (some (.int r)) g' := by
  rw [Tp_append] at hf
  refine gt_code (by decide) (Nat.le_of_ble_eq_true rfl) (fun p en s m below meth c ls G hr hk hw hl => ?_)
  have hl : lv_has ls 5 [(0, .ref (E.1 6 0)), (1, .int a1), (2, .long a2)] := hl
  refine lv_aload_n G.1 G.2.1 dX7_append_0 rfl (lv_at hl 0 rfl) ?_
  refine g_getI G hw C_6 iC_6 1 rfl fl_X7_15 dX7_append_1 ?_
  refine lv_iload_n G.1 G.2.1 dX7_append_4 rfl (lv_at hl 1 rfl) ?_
  refine lv_iadd G.1 G.2.1 dX7_append_5 ?_
  refine lv_sipush (v := (700 : Int32)) G.1 G.2.1 dX7_append_6 (by decide) ?_
  refine lv_icmp_le (tgt := 14) G.1 G.2.1 dX7_append_9 (by decide) (fun hc9 => ?_) (fun hc9 => ?_)
  · rw [if_pos hc9] at hf
    refine lv_iconst (v := (0 : Int32)) G.1 G.2.1 dX7_append_14 (by decide) ?_
    refine lv_istore (lv' := [(4, .int (0 : Int32)), (0, .ref (E.1 6 0)), (1, .int a1), (2, .long a2)]) G.1 G.2.1 dX7_append_15 hl (by decide) rfl (fun ls hl => ?_)
    have hL17 : ∀ (k1 : Nat) (x2 : Int32) (g3 : Mem) (res1 : Mem) (H : Heap) (locs : List Loc) (ls : Array Slot), Tp_append_L17 n a1 a2 k1 x2 g3 = some res1 → GW D X idsC E (gA X idsC E s.heap.size) s g3 H locs → lv_has ls 5 [(0, .ref (E.1 6 0)), (1, .int a1), (2, .long a2), (4, .int x2)] → (∀ (H : Heap) (locs : List Loc) (ls : Array Slot), GW D X idsC E (gA X idsC E s.heap.size) s res1 H locs → lv_has ls 5 [(0, .ref (E.1 6 0)), (1, .int a1)] → W p l en { frames := 0, cells := 0, slots := 0, locals := 0 } s m [.ref (E.1 6 0), .int a1, .long a2].toArray below meth c H locs 0 0 (MQ below (gQ (some (.int r)) (GP D X idsC E g') (gA X idsC E s.heap.size)) [.ref (E.1 6 0), .int a1, .long a2].toArray s 0 0 (gA X idsC E s.heap.size)) (F0 m 53 ls [])) → W p l en { frames := 0, cells := 0, slots := 0, locals := 0 } s m [.ref (E.1 6 0), .int a1, .long a2].toArray below meth c H locs 0 0 (MQ below (gQ (some (.int r)) (GP D X idsC E g') (gA X idsC E s.heap.size)) [.ref (E.1 6 0), .int a1, .long a2].toArray s 0 0 (gA X idsC E s.heap.size)) (F0 m 17 ls []) := by
      intro k1
      induction k1 with
      | zero => intro x2 g3 res1 H locs ls hf; rw [Tp_append_L17] at hf; cases hf
      | succ k1 ih1 =>
        intro x2 g3 res1 H locs ls hf hw hl hk1_0
        rw [Tp_append_L17] at hf
        refine lv_iload G.1 G.2.1 dX7_append_17 (lv_at hl 3 rfl) ?_
        refine lv_iload_n G.1 G.2.1 dX7_append_19 rfl (lv_at hl 1 rfl) ?_
        refine lv_icmp_ge (tgt := 53) G.1 G.2.1 dX7_append_20 (by decide) (fun hc20 => ?_) (fun hc20 => ?_)
        · rw [if_pos hc20] at hf
          obtain rfl := Option.some.inj hf
          exact hk1_0 _ _ ls hw (lv_sub hl [0, 1] rfl)
        · rw [if_neg hc20] at hf
          refine lv_aload_n G.1 G.2.1 dX7_append_23 rfl (lv_at hl 0 rfl) ?_
          refine g_getC G hw C_6 iC_6 0 20 rfl (by decide) rfl fl_X7_9 dX7_append_24 ?_
          refine lv_aload_n G.1 G.2.1 dX7_append_27 rfl (lv_at hl 0 rfl) ?_
          refine g_getI G hw C_6 iC_6 1 rfl fl_X7_15 dX7_append_28 ?_
          refine lv_iload G.1 G.2.1 dX7_append_31 (lv_at hl 3 rfl) ?_
          refine lv_iadd G.1 G.2.1 dX7_append_33 ?_
          refine lv_lload_n G.1 G.2.1 dX7_append_34 rfl (lv_at hl 2 rfl) ?_
          refine lv_bipush (v := (8 : Int32)) G.1 G.2.1 dX7_append_35 (by decide) ?_
          refine lv_iload G.1 G.2.1 dX7_append_37 (lv_at hl 3 rfl) ?_
          refine lv_imul G.1 G.2.1 dX7_append_39 ?_
          refine lv_lshr G.1 G.2.1 dX7_append_40 rfl ?_
          refine lv_l2i G.1 G.2.1 dX7_append_41 rfl ?_
          refine lv_sipush (v := (255 : Int32)) G.1 G.2.1 dX7_append_42 (by decide) ?_
          refine lv_iand G.1 G.2.1 dX7_append_45 ?_
          obtain ⟨j4, hj4, hf⟩ := bd_some hf
          obtain ⟨g5, eg5, hf⟩ := lt9_some hf
          refine g_iast G hw iC_20 (by decide) rfl hj4 dX7_append_46 (fun H locs hw => ?_)
          rw [← eg5] at hw
          refine lv_iinc (v := x2 + 1) (lv' := [(4, .int (x2 + 1)), (0, .ref (E.1 6 0)), (1, .int a1), (2, .long a2)]) G.1 G.2.1 dX7_append_47 hl (k := 3) rfl rfl (by decide) rfl (fun ls hl => ?_)
          refine lv_goto (tgt := 17) G.1 G.2.1 dX7_append_50 (by decide) ?_
          exact ih1 (x2 + 1) g5 _ _ _ ls hf hw (lv_sub hl [1, 2, 3, 0] rfl) hk1_0
    obtain ⟨r6, hr6, hf⟩ := bd_some hf
    refine hL17 n (0 : Int32) g r6 _ _ ls hr6 hw (lv_sub hl [1, 2, 3, 0] rfl) ?_
    intro H locs ls hw hl
    refine lv_aload_n G.1 G.2.1 dX7_append_53 rfl (lv_at hl 0 rfl) ?_
    refine lv_dup G.1 G.2.1 dX7_append_54 rfl ?_
    refine g_getI G hw C_6 iC_6 1 rfl fl_X7_15 dX7_append_55 ?_
    refine lv_iload_n G.1 G.2.1 dX7_append_58 rfl (lv_at hl 1 rfl) ?_
    refine lv_iadd G.1 G.2.1 dX7_append_59 ?_
    obtain ⟨g7, eg7, hf⟩ := lt9_some hf
    refine g_putI G hw C_6 iC_6 1 rfl fl_X7_15 rfl rfl rfl dX7_append_60 (fun H locs hw => ?_)
    rw [← eg7] at hw
    refine lv_iconst (v := (1 : Int32)) G.1 G.2.1 dX7_append_63 (by decide) ?_
    exact g_zretW G hr rfl hk hf hw dX7_append_64
  · rw [if_neg hc9] at hf
    refine lv_iconst (v := (0 : Int32)) G.1 G.2.1 dX7_append_12 (by decide) ?_
    exact g_zretW G hr rfl hk hf hw dX7_append_13

set_option maxHeartbeats 4000000 in
set_option maxRecDepth 100000 in
theorem c_Tp_clear (l : Launch) (D : va_G) (X : va_W) (E : gE) (n : Nat) (g : Mem) (r : Int32) (g' : Mem) (hf : Tp_clear n g = some (r, g')) : gMet l yX7_clear cX7_clear 2 (some .int) 0 0 D X idsC E [.ref (E.1 6 0)] g (some (.int r)) g' := by
  rw [Tp_clear] at hf
  refine gt_code (by decide) (Nat.le_of_ble_eq_true rfl) (fun p en s m below meth c ls G hr hk hw hl => ?_)
  have hl : lv_has ls 2 [(0, .ref (E.1 6 0))] := hl
  refine lv_aload_n G.1 G.2.1 dX7_clear_0 rfl (lv_at hl 0 rfl) ?_
  refine g_getI G hw C_6 iC_6 1 rfl fl_X7_15 dX7_clear_1 ?_
  refine lv_istore_n (lv' := [(1, .int (gI g 6 0 1)), (0, .ref (E.1 6 0))]) G.1 G.2.1 dX7_clear_4 rfl hl (by decide) rfl (fun ls hl => ?_)
  refine lv_aload_n G.1 G.2.1 dX7_clear_5 rfl (lv_at hl 1 rfl) ?_
  refine lv_iconst (v := (0 : Int32)) G.1 G.2.1 dX7_clear_6 (by decide) ?_
  obtain ⟨g1, eg1, hf⟩ := lt9_some hf
  refine g_putI G hw C_6 iC_6 1 rfl fl_X7_15 rfl rfl rfl dX7_clear_7 (fun H locs hw => ?_)
  rw [← eg1] at hw
  refine lv_iload_n G.1 G.2.1 dX7_clear_10 rfl (lv_at hl 0 rfl) ?_
  exact g_iretW G hr hk hf hw dX7_clear_11
