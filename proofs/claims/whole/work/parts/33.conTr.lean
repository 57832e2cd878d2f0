/-! contracts (printed by program) -/
set_option maxHeartbeats 4000000 in
set_option maxRecDepth 100000 in
theorem c_Tr_refuse (l : Launch) (D : va_G) (X : va_W) (E : gE) (n : Nat) (a1 : Int32) (a2 : Int32) (g : Mem) (r : Int32) (g' : Mem) (hf : Tr_refuse n a1 a2 g = some (r, g')) : gMet l yX8_refuse cX8_refuse 3 (some .boolean) 0 0 D X idsC E [.ref (E.1 7 0), .int a1, .int a2] g (some (.int r)) g' := by
  rw [Tr_refuse] at hf
  refine gt_code (by decide) (Nat.le_of_ble_eq_true rfl) (fun p en s m below meth c ls G hr hk hw hl => ?_)
  have hl : lv_has ls 3 [(0, .ref (E.1 7 0)), (1, .int a1), (2, .int a2)] := hl
  refine lv_aload_n G.1 G.2.1 dX8_refuse_0 rfl (lv_at hl 0 rfl) ?_
  refine lv_iload_n G.1 G.2.1 dX8_refuse_1 rfl (lv_at hl 1 rfl) ?_
  obtain ⟨g1, eg1, hf⟩ := lt9_some hf
  refine g_putI G hw C_7 iC_7 5 rfl fl_X8_53 rfl rfl rfl dX8_refuse_2 (fun H locs hw => ?_)
  rw [← eg1] at hw
  refine lv_aload_n G.1 G.2.1 dX8_refuse_5 rfl (lv_at hl 0 rfl) ?_
  refine lv_iload_n G.1 G.2.1 dX8_refuse_6 rfl (lv_at hl 2 rfl) ?_
  obtain ⟨g2, eg2, hf⟩ := lt9_some hf
  refine g_putI G hw C_7 iC_7 6 rfl fl_X8_27 rfl rfl rfl dX8_refuse_7 (fun H locs hw => ?_)
  rw [← eg2] at hw
  refine lv_iconst (v := (0 : Int32)) G.1 G.2.1 dX8_refuse_10 (by decide) ?_
  exact g_zretW G hr rfl hk hf hw dX8_refuse_11

set_option maxHeartbeats 4000000 in
set_option maxRecDepth 100000 in
theorem c_Tr_meets (l : Launch) (D : va_G) (X : va_W) (E : gE) (n : Nat) (a1 : Int32) (g : Mem) (r : Int32) (g' : Mem) (hf : Tr_meets n a1 g = some (r, g')) : gMet l yX8_meets cX8_meets 2 (some .boolean) 1 22 D X idsC E [.ref (E.1 7 0), .int a1] g (some (.int r)) g' := by
  rw [Tr_meets] at hf
  refine gt_code (by decide) (Nat.le_of_ble_eq_true rfl) (fun p en s m below meth c ls G hr hk hw hl => ?_)
  have hl : lv_has ls 2 [(0, .ref (E.1 7 0)), (1, .int a1)] := hl
  refine lv_aload_n G.1 G.2.1 dX8_meets_0 rfl (lv_at hl 0 rfl) ?_
  refine g_getC G hw C_7 iC_7 0 5 rfl (by decide) rfl fl_X8_14 dX8_meets_1 ?_
  obtain ⟨z1, hcz1, hf⟩ := bd_some hf
  refine g_callV1 (As := []) (rest := []) G hw (gA_mono hw.2.2.2.1.1) C_5 iC_5 mv_X8_167 (c_Rd_look l D X E n g z1.1 z1.2 hcz1) hl.1 rfl rfl (Nat.le_of_ble_eq_true rfl) (Nat.le_of_ble_eq_true rfl) (Nat.le_of_ble_eq_true rfl) ⟨Nat.le_refl _, Nat.le_refl _⟩ dX8_meets_4 (fun H locs hw => ?_)
  refine lv_iload_n G.1 G.2.1 dX8_meets_7 rfl (lv_at hl 1 rfl) ?_
  refine lv_icmp_eq (tgt := 26) G.1 G.2.1 dX8_meets_8 (by decide) (fun hc8 => ?_) (fun hc8 => ?_)
  · rw [if_pos hc8] at hf
    refine lv_iconst (v := (1 : Int32)) G.1 G.2.1 dX8_meets_26 (by decide) ?_
    refine lv_goto (tgt := 31) G.1 G.2.1 dX8_meets_27 (by decide) ?_
    exact g_zretW G hr rfl hk hf hw dX8_meets_31
  · rw [if_neg hc8] at hf
    refine lv_aload_n G.1 G.2.1 dX8_meets_11 rfl (lv_at hl 0 rfl) ?_
    refine lv_iconst (v := (1 : Int32)) G.1 G.2.1 dX8_meets_12 (by decide) ?_
    refine lv_aload_n G.1 G.2.1 dX8_meets_13 rfl (lv_at hl 0 rfl) ?_
    refine g_getC G hw C_7 iC_7 0 5 rfl (by decide) rfl fl_X8_14 dX8_meets_14 ?_
    refine g_getI G hw C_5 iC_5 1 rfl fl_X8_102 dX8_meets_17 ?_
    obtain ⟨z2, hcz2, hf⟩ := bd_some hf
    refine g_callV1 (As := [.int (1 : Int32), .int (gI z1.2 5 0 1)]) (rest := []) G hw (gA_mono hw.2.2.2.1.1) C_7 iC_7 mv_X8_194 (c_Tr_refuse l D X E n (1 : Int32) (gI z1.2 5 0 1) z1.2 z2.1 z2.2 hcz2) hl.1 rfl rfl (Nat.le_of_ble_eq_true rfl) (Nat.le_of_ble_eq_true rfl) (Nat.le_of_ble_eq_true rfl) ⟨Nat.le_refl _, Nat.le_refl _⟩ dX8_meets_20 (fun H locs hw => ?_)
    refine lv_if_eq (tgt := 30) G.1 G.2.1 dX8_meets_23 (by decide) (fun hc23 => ?_) (fun hc23 => ?_)
    · rw [if_pos hc23] at hf
      refine lv_iconst (v := (0 : Int32)) G.1 G.2.1 dX8_meets_30 (by decide) ?_
      exact g_zretW G hr rfl hk hf hw dX8_meets_31
    · rw [if_neg hc23] at hf
      refine lv_iconst (v := (1 : Int32)) G.1 G.2.1 dX8_meets_26 (by decide) ?_
      refine lv_goto (tgt := 31) G.1 G.2.1 dX8_meets_27 (by decide) ?_
      exact g_zretW G hr rfl hk hf hw dX8_meets_31

set_option maxHeartbeats 4000000 in
set_option maxRecDepth 100000 in
theorem c_Tr_add (l : Launch) (D : va_G) (X : va_W) (E : gE) (n : Nat) (a1 : Int32) (a2 : Int32) (a3 : Int32) (a4 : Int32) (g : Mem) (r : Int32) (g' : Mem) (hf : Tr_add n a1 a2 a3 a4 g = some (r, g')) : gMet l yX8_add cX8_add 5 (some .int) 3 67 D X idsC E [.ref (E.1 7 0), .int a1, .int a2, .int a3, .int a4] g (some (.int r)) g' := by
  rw [Tr_add] at hf
  refine gt_code (by decide) (Nat.le_of_ble_eq_true rfl) (fun p en s m below meth c ls G hr hk hw hl => ?_)
  have hl : lv_has ls 5 [(0, .ref (E.1 7 0)), (1, .int a1), (2, .int a2), (3, .int a3), (4, .int a4)] := hl
  refine lv_iload_n G.1 G.2.1 dX8_add_0 rfl (lv_at hl 3 rfl) ?_
  refine lv_sipush (v := (-209 : Int32)) G.1 G.2.1 dX8_add_1 (by decide) ?_
  refine lv_icmp_ne (tgt := 9) G.1 G.2.1 dX8_add_4 (by decide) (fun hc4 => ?_) (fun hc4 => ?_)
  · rw [if_neg hc4] at hf
    refine lv_aload_n G.1 G.2.1 dX8_add_9 rfl (lv_at hl 0 rfl) ?_
    obtain ⟨p1, hep1, hf⟩ := bd_some hf
    obtain ⟨hvp1, hf⟩ := ck_some hf
    refine g_getR G hw C_7 iC_7 2 4 rfl rfl fl_X8_31 hep1 dX8_add_10 ?_
    obtain ⟨z2, hcz2, hf⟩ := bd_some hf
    refine g_callV1 (As := []) (rest := []) G hw (gA_mono hw.2.2.2.1.1) C_4 (iC_4 hvp1) mv_X8_197 (c_Pg_isFull l D X E n p1 hvp1 g z2 hcz2) hl.1 rfl rfl (Nat.le_of_ble_eq_true rfl) (Nat.le_of_ble_eq_true rfl) (Nat.le_of_ble_eq_true rfl) ⟨Nat.le_refl _, Nat.le_refl _⟩ dX8_add_13 (fun H locs hw => ?_)
    refine lv_if_eq (tgt := 31) G.1 G.2.1 dX8_add_16 (by decide) (fun hc16 => ?_) (fun hc16 => ?_)
    · rw [if_pos hc16] at hf
      refine lv_aload_n G.1 G.2.1 dX8_add_31 rfl (lv_at hl 0 rfl) ?_
      obtain ⟨p3, hep3, hf⟩ := bd_some hf
      obtain ⟨hvp3, hf⟩ := ck_some hf
      refine g_getR G hw C_7 iC_7 2 4 rfl rfl fl_X8_31 hep3 dX8_add_32 ?_
      refine lv_iload_n G.1 G.2.1 dX8_add_35 rfl (lv_at hl 1 rfl) ?_
      refine lv_iload_n G.1 G.2.1 dX8_add_36 rfl (lv_at hl 2 rfl) ?_
      refine lv_iload_n G.1 G.2.1 dX8_add_37 rfl (lv_at hl 3 rfl) ?_
      obtain ⟨z4, hcz4, hf⟩ := bd_some hf
      obtain ⟨hv5, hf⟩ := ck_some hf
      refine g_callV1 (As := [.int a1, .int a2, .int a3]) (rest := []) G hw (gA_mono hw.2.2.2.1.1) C_4 (iC_4 hvp3) mv_X8_200 (c_Pg_addOperation l D X E n p3 a1 a2 a3 hvp3 g z4.1 z4.2 hcz4) hl.1 rfl rfl (Nat.le_of_ble_eq_true rfl) (Nat.le_of_ble_eq_true rfl) (Nat.le_of_ble_eq_true rfl) ⟨Nat.le_refl _, Nat.le_refl _⟩ dX8_add_38 (fun H locs hw => ?_)
      refine g_getI G hw C_3 (iC_3 hv5) 0 rfl fl_X8_204 dX8_add_41 ?_
      obtain ⟨z6, hcz6, hf⟩ := bd_some hf
      refine g_callS1 (As := [.int (gI z4.2 3 z4.1 0)]) (rest := []) G hw (gA_mono hw.2.2.2.1.1)  ms_X8_206 (c_Od_ofValue l D X E n (gI z4.2 3 z4.1 0) z4.2 z6 hcz6) hl.1 rfl rfl (Nat.le_of_ble_eq_true rfl) (Nat.le_of_ble_eq_true rfl) (Nat.le_of_ble_eq_true rfl) ⟨Nat.le_refl _, Nat.le_refl _⟩ dX8_add_44 (fun H locs hw => ?_)
      exact g_iretW G hr hk hf hw dX8_add_47
    · rw [if_neg hc16] at hf
      refine lv_aload_n G.1 G.2.1 dX8_add_19 rfl (lv_at hl 0 rfl) ?_
      refine lv_iconst (v := (3 : Int32)) G.1 G.2.1 dX8_add_20 (by decide) ?_
      refine lv_iload G.1 G.2.1 dX8_add_21 (lv_at hl 4 rfl) ?_
      obtain ⟨z7, hcz7, hf⟩ := bd_some hf
      refine g_callV1 (As := [.int (3 : Int32), .int a4]) (rest := []) G hw (gA_mono hw.2.2.2.1.1) C_7 iC_7 mv_X8_194 (c_Tr_refuse l D X E n (3 : Int32) a4 g z7.1 z7.2 hcz7) hl.1 rfl rfl (Nat.le_of_ble_eq_true rfl) (Nat.le_of_ble_eq_true rfl) (Nat.le_of_ble_eq_true rfl) ⟨Nat.le_refl _, Nat.le_refl _⟩ dX8_add_23 (fun H locs hw => ?_)
      refine lv_pop G.1 G.2.1 dX8_add_26 rfl ?_
      refine lv_sipush (v := (-209 : Int32)) G.1 G.2.1 dX8_add_27 (by decide) ?_
      exact g_iretW G hr hk hf hw dX8_add_30
  · rw [if_pos hc4] at hf
    refine lv_iload_n G.1 G.2.1 dX8_add_7 rfl (lv_at hl 3 rfl) ?_
    exact g_iretW G hr hk hf hw dX8_add_8

set_option maxHeartbeats 4000000 in
set_option maxRecDepth 100000 in
theorem c_Tr_passes (l : Launch) (D : va_G) (X : va_W) (E : gE) (n : Nat) (a1 : Int32) (g : Mem) (r : Int32) (g' : Mem) (hf : Tr_passes n a1 g = some (r, g')) : gMet l yX8_passes cX8_passes 2 (some .boolean) 2 43 D X idsC E [.ref (E.1 7 0), .int a1] g (some (.int r)) g' := by
  rw [Tr_passes] at hf
  refine gt_code (by decide) (Nat.le_of_ble_eq_true rfl) (fun p en s m below meth c ls G hr hk hw hl => ?_)
  have hl : lv_has ls 2 [(0, .ref (E.1 7 0)), (1, .int a1)] := hl
  refine lv_aload_n G.1 G.2.1 dX8_passes_0 rfl (lv_at hl 0 rfl) ?_
  refine lv_iload_n G.1 G.2.1 dX8_passes_1 rfl (lv_at hl 1 rfl) ?_
  obtain ⟨z1, hcz1, hf⟩ := bd_some hf
  refine g_callV1 (As := [.int a1]) (rest := []) G hw (gA_mono hw.2.2.2.1.1) C_7 iC_7 mv_X8_60 (c_Tr_meets l D X E n a1 g z1.1 z1.2 hcz1) hl.1 rfl rfl (Nat.le_of_ble_eq_true rfl) (Nat.le_of_ble_eq_true rfl) (Nat.le_of_ble_eq_true rfl) ⟨Nat.le_refl _, Nat.le_refl _⟩ dX8_passes_2 (fun H locs hw => ?_)
  refine lv_if_ne (tgt := 10) G.1 G.2.1 dX8_passes_5 (by decide) (fun hc5 => ?_) (fun hc5 => ?_)
  · rw [if_neg hc5] at hf
    refine lv_aload_n G.1 G.2.1 dX8_passes_10 rfl (lv_at hl 0 rfl) ?_
    refine g_getC G hw C_7 iC_7 0 5 rfl (by decide) rfl fl_X8_14 dX8_passes_11 ?_
    refine lv_iconst (v := (1 : Int32)) G.1 G.2.1 dX8_passes_14 (by decide) ?_
    obtain ⟨g2, hcg2, hf⟩ := bd_some hf
    refine g_callV0 (As := [.int (1 : Int32)]) (rest := []) G hw (gA_mono hw.2.2.2.1.1) C_5 iC_5 mv_X8_103 (c_Rd_pass l D X E n (1 : Int32) z1.2 g2 hcg2) hl.1 rfl rfl (Nat.le_of_ble_eq_true rfl) (Nat.le_of_ble_eq_true rfl) (Nat.le_of_ble_eq_true rfl) ⟨Nat.le_refl _, Nat.le_refl _⟩ dX8_passes_15 (fun H locs hw => ?_)
    refine lv_iconst (v := (1 : Int32)) G.1 G.2.1 dX8_passes_18 (by decide) ?_
    exact g_zretW G hr rfl hk hf hw dX8_passes_19
  · rw [if_pos hc5] at hf
    refine lv_iconst (v := (0 : Int32)) G.1 G.2.1 dX8_passes_8 (by decide) ?_
    exact g_zretW G hr rfl hk hf hw dX8_passes_9

set_option maxHeartbeats 4000000 in
set_option maxRecDepth 100000 in
theorem c_Tr_refuseHere (l : Launch) (D : va_G) (X : va_W) (E : gE) (n : Nat) (a1 : Int32) (g : Mem) (r : Int32) (g' : Mem) (hf : Tr_refuseHere n a1 g = some (r, g')) : gMet l yX8_refuseHere cX8_refuseHere 2 (some .boolean) 1 22 D X idsC E [.ref (E.1 7 0), .int a1] g (some (.int r)) g' := by
  rw [Tr_refuseHere] at hf
  refine gt_code (by decide) (Nat.le_of_ble_eq_true rfl) (fun p en s m below meth c ls G hr hk hw hl => ?_)
  have hl : lv_has ls 2 [(0, .ref (E.1 7 0)), (1, .int a1)] := hl
  refine lv_aload_n G.1 G.2.1 dX8_refuseHere_0 rfl (lv_at hl 0 rfl) ?_
  refine lv_iload_n G.1 G.2.1 dX8_refuseHere_1 rfl (lv_at hl 1 rfl) ?_
  refine lv_aload_n G.1 G.2.1 dX8_refuseHere_2 rfl (lv_at hl 0 rfl) ?_
  refine g_getC G hw C_7 iC_7 0 5 rfl (by decide) rfl fl_X8_14 dX8_refuseHere_3 ?_
  refine g_getI G hw C_5 iC_5 1 rfl fl_X8_102 dX8_refuseHere_6 ?_
  obtain ⟨z1, hcz1, hf⟩ := bd_some hf
  refine g_callV1 (As := [.int a1, .int (gI g 5 0 1)]) (rest := []) G hw (gA_mono hw.2.2.2.1.1) C_7 iC_7 mv_X8_194 (c_Tr_refuse l D X E n a1 (gI g 5 0 1) g z1.1 z1.2 hcz1) hl.1 rfl rfl (Nat.le_of_ble_eq_true rfl) (Nat.le_of_ble_eq_true rfl) (Nat.le_of_ble_eq_true rfl) ⟨Nat.le_refl _, Nat.le_refl _⟩ dX8_refuseHere_9 (fun H locs hw => ?_)
  obtain ⟨hz2, hf⟩ := ck_some hf
  exact g_zretW G hr (zn hz2) hk hf hw dX8_refuseHere_12

set_option maxHeartbeats 4000000 in
set_option maxRecDepth 100000 in
theorem c_Tr_enclosed (l : Launch) (D : va_G) (X : va_W) (E : gE) (n : Nat) (rc : Mem → Option (Int32 × Mem)) (fr0 lo0 : Nat) (hfr0 : 7 ≤ fr0) (hlo0 : 322 ≤ lo0) (hrc : ∀ (g : Mem) (r : Int32) (g' : Mem), rc g = some (r, g') → gMet l yX8_expression cX8_expression 4 (some .int) fr0 lo0 D X idsC E [.ref (E.1 7 0)] g (some (.int r)) g') (a1 : Int32) (a2 : Int32) (g : Mem) (r : Int32) (g' : Mem) (hf : Tr_enclosed rc n a1 a2 g = some (r, g')) : gMet l yX8_enclosed cX8_enclosed 4 (some .int) (fr0 + 1) (lo0 + 23) D X idsC E [.ref (E.1 7 0), .int a1, .int a2] g (some (.int r)) g' := by
  rw [Tr_enclosed] at hf
  refine gt_code (by decide) (Nat.le_of_ble_eq_true rfl) (fun p en s m below meth c ls G hr hk hw hl => ?_)
  have hl : lv_has ls 4 [(0, .ref (E.1 7 0)), (1, .int a1), (2, .int a2)] := hl
  refine lv_aload_n G.1 G.2.1 dX8_enclosed_0 rfl (lv_at hl 0 rfl) ?_
  refine lv_iload_n G.1 G.2.1 dX8_enclosed_1 rfl (lv_at hl 1 rfl) ?_
  obtain ⟨z1, hcz1, hf⟩ := bd_some hf
  refine g_callV1 (As := [.int a1]) (rest := []) G hw (gA_mono hw.2.2.2.1.1) C_7 iC_7 mv_X8_60 (c_Tr_meets l D X E n a1 g z1.1 z1.2 hcz1) hl.1 rfl rfl (Nat.le_of_ble_eq_true rfl) (by dsimp only; omega) (by dsimp only; omega) ⟨Nat.le_refl _, Nat.le_refl _⟩ dX8_enclosed_2 (fun H locs hw => ?_)
  refine lv_if_ne (tgt := 12) G.1 G.2.1 dX8_enclosed_5 (by decide) (fun hc5 => ?_) (fun hc5 => ?_)
  · rw [if_neg hc5] at hf
    refine lv_aload_n G.1 G.2.1 dX8_enclosed_12 rfl (lv_at hl 0 rfl) ?_
    refine g_getI G hw C_7 iC_7 4 rfl fl_X8_50 dX8_enclosed_13 ?_
    refine lv_bipush (v := (20 : Int32)) G.1 G.2.1 dX8_enclosed_16 (by decide) ?_
    refine lv_icmp_ne (tgt := 31) G.1 G.2.1 dX8_enclosed_18 (by decide) (fun hc18 => ?_) (fun hc18 => ?_)
    · rw [if_neg hc18] at hf
      refine lv_aload_n G.1 G.2.1 dX8_enclosed_31 rfl (lv_at hl 0 rfl) ?_
      refine lv_dup G.1 G.2.1 dX8_enclosed_32 rfl ?_
      refine g_getI G hw C_7 iC_7 4 rfl fl_X8_50 dX8_enclosed_33 ?_
      refine lv_iconst (v := (1 : Int32)) G.1 G.2.1 dX8_enclosed_36 (by decide) ?_
      refine lv_iadd G.1 G.2.1 dX8_enclosed_37 ?_
      obtain ⟨g2, eg2, hf⟩ := lt9_some hf
      refine g_putI G hw C_7 iC_7 4 rfl fl_X8_50 rfl rfl rfl dX8_enclosed_38 (fun H locs hw => ?_)
      rw [← eg2] at hw
      refine lv_aload_n G.1 G.2.1 dX8_enclosed_41 rfl (lv_at hl 0 rfl) ?_
      refine g_getC G hw C_7 iC_7 0 5 rfl (by decide) rfl fl_X8_14 dX8_enclosed_42 ?_
      refine lv_iconst (v := (1 : Int32)) G.1 G.2.1 dX8_enclosed_45 (by decide) ?_
      obtain ⟨g3, hcg3, hf⟩ := bd_some hf
      refine g_callV0 (As := [.int (1 : Int32)]) (rest := []) G hw (gA_mono hw.2.2.2.1.1) C_5 iC_5 mv_X8_103 (c_Rd_pass l D X E n (1 : Int32) g2 g3 hcg3) hl.1 rfl rfl (Nat.le_of_ble_eq_true rfl) (by dsimp only; omega) (by dsimp only; omega) ⟨Nat.le_refl _, Nat.le_refl _⟩ dX8_enclosed_46 (fun H locs hw => ?_)
      refine lv_aload_n G.1 G.2.1 dX8_enclosed_49 rfl (lv_at hl 0 rfl) ?_
      obtain ⟨z4, hcz4, hf⟩ := bd_some hf
      refine g_callV1 (As := []) (rest := []) G hw (gA_mono hw.2.2.2.1.1) C_7 iC_7 mv_X8_113 (hrc g3 z4.1 z4.2 hcz4) hl.1 rfl rfl (Nat.le_of_ble_eq_true rfl) (by dsimp only; omega) (by dsimp only; omega) ⟨Nat.le_refl _, Nat.le_refl _⟩ dX8_enclosed_50 (fun H locs hw => ?_)
      refine lv_istore_n (lv' := [(3, .int z4.1), (0, .ref (E.1 7 0)), (1, .int a1), (2, .int a2)]) G.1 G.2.1 dX8_enclosed_53 rfl hl (by decide) rfl (fun ls hl => ?_)
      refine lv_iload_n G.1 G.2.1 dX8_enclosed_54 rfl (lv_at hl 0 rfl) ?_
      refine lv_sipush (v := (-209 : Int32)) G.1 G.2.1 dX8_enclosed_55 (by decide) ?_
      refine lv_icmp_eq (tgt := 69) G.1 G.2.1 dX8_enclosed_58 (by decide) (fun hc58 => ?_) (fun hc58 => ?_)
      · rw [if_pos hc58] at hf
        refine lv_sipush (v := (-209 : Int32)) G.1 G.2.1 dX8_enclosed_69 (by decide) ?_
        exact g_iretW G hr hk hf hw dX8_enclosed_72
      · rw [if_neg hc58] at hf
        refine lv_aload_n G.1 G.2.1 dX8_enclosed_61 rfl (lv_at hl 1 rfl) ?_
        refine lv_iload_n G.1 G.2.1 dX8_enclosed_62 rfl (lv_at hl 3 rfl) ?_
        obtain ⟨z5, hcz5, hf⟩ := bd_some hf
        refine g_callV1 (As := [.int a2]) (rest := []) G hw (gA_mono hw.2.2.2.1.1) C_7 iC_7 mv_X8_110 (c_Tr_passes l D X E n a2 z4.2 z5.1 z5.2 hcz5) hl.1 rfl rfl (Nat.le_of_ble_eq_true rfl) (by dsimp only; omega) (by dsimp only; omega) ⟨Nat.le_refl _, Nat.le_refl _⟩ dX8_enclosed_63 (fun H locs hw => ?_)
        refine lv_if_ne (tgt := 73) G.1 G.2.1 dX8_enclosed_66 (by decide) (fun hc66 => ?_) (fun hc66 => ?_)
        · rw [if_neg hc66] at hf
          refine lv_aload_n G.1 G.2.1 dX8_enclosed_73 rfl (lv_at hl 1 rfl) ?_
          refine lv_dup G.1 G.2.1 dX8_enclosed_74 rfl ?_
          refine g_getI G hw C_7 iC_7 4 rfl fl_X8_50 dX8_enclosed_75 ?_
          refine lv_iconst (v := (1 : Int32)) G.1 G.2.1 dX8_enclosed_78 (by decide) ?_
          refine lv_isub G.1 G.2.1 dX8_enclosed_79 ?_
          obtain ⟨g6, eg6, hf⟩ := lt9_some hf
          refine g_putI G hw C_7 iC_7 4 rfl fl_X8_50 rfl rfl rfl dX8_enclosed_80 (fun H locs hw => ?_)
          rw [← eg6] at hw
          refine lv_iload_n G.1 G.2.1 dX8_enclosed_83 rfl (lv_at hl 0 rfl) ?_
          exact g_iretW G hr hk hf hw dX8_enclosed_84
        · rw [if_pos hc66] at hf
          refine lv_sipush (v := (-209 : Int32)) G.1 G.2.1 dX8_enclosed_69 (by decide) ?_
          exact g_iretW G hr hk hf hw dX8_enclosed_72
    · rw [if_pos hc18] at hf
      refine lv_aload_n G.1 G.2.1 dX8_enclosed_21 rfl (lv_at hl 0 rfl) ?_
      refine lv_iconst (v := (3 : Int32)) G.1 G.2.1 dX8_enclosed_22 (by decide) ?_
      obtain ⟨z7, hcz7, hf⟩ := bd_some hf
      refine g_callV1 (As := [.int (3 : Int32)]) (rest := []) G hw (gA_mono hw.2.2.2.1.1) C_7 iC_7 mv_X8_96 (c_Tr_refuseHere l D X E n (3 : Int32) z1.2 z7.1 z7.2 hcz7) hl.1 rfl rfl (Nat.le_of_ble_eq_true rfl) (by dsimp only; omega) (by dsimp only; omega) ⟨Nat.le_refl _, Nat.le_refl _⟩ dX8_enclosed_23 (fun H locs hw => ?_)
      refine lv_pop G.1 G.2.1 dX8_enclosed_26 rfl ?_
      refine lv_sipush (v := (-209 : Int32)) G.1 G.2.1 dX8_enclosed_27 (by decide) ?_
      exact g_iretW G hr hk hf hw dX8_enclosed_30
  · rw [if_pos hc5] at hf
    refine lv_sipush (v := (-209 : Int32)) G.1 G.2.1 dX8_enclosed_8 (by decide) ?_
    exact g_iretW G hr hk hf hw dX8_enclosed_11

set_option maxHeartbeats 4000000 in
set_option maxRecDepth 100000 in
theorem c_Tr_number (l : Launch) (D : va_G) (X : va_W) (E : gE) (n : Nat) (g : Mem) (r : Int32) (g' : Mem) (hf : Tr_number n g = some (r, g')) : gMet l yX8_number cX8_number 4 (some .int) 2 48 D X idsC E [.ref (E.1 7 0)] g (some (.int r)) g' := by
  rw [Tr_number] at hf
  refine gt_code (by decide) (Nat.le_of_ble_eq_true rfl) (fun p en s m below meth c ls G hr hk hw hl => ?_)
  have hl : lv_has ls 4 [(0, .ref (E.1 7 0))] := hl
  refine lv_aload_n G.1 G.2.1 dX8_number_0 rfl (lv_at hl 0 rfl) ?_
  refine g_getC G hw C_7 iC_7 0 5 rfl (by decide) rfl fl_X8_14 dX8_number_1 ?_
  refine g_getI G hw C_5 iC_5 1 rfl fl_X8_102 dX8_number_4 ?_
  refine lv_istore_n (lv' := [(1, .int (gI g 5 0 1)), (0, .ref (E.1 7 0))]) G.1 G.2.1 dX8_number_7 rfl hl (by decide) rfl (fun ls hl => ?_)
  refine lv_aload_n G.1 G.2.1 dX8_number_8 rfl (lv_at hl 1 rfl) ?_
  refine g_getC G hw C_7 iC_7 0 5 rfl (by decide) rfl fl_X8_14 dX8_number_9 ?_
  obtain ⟨z1, hcz1, hf⟩ := bd_some hf
  refine g_callV1 (As := []) (rest := []) G hw (gA_mono hw.2.2.2.1.1) C_5 iC_5 mv_X8_188 (c_Rd_readNumber l D X E n g z1.1 z1.2 hcz1) hl.1 rfl rfl (Nat.le_of_ble_eq_true rfl) (Nat.le_of_ble_eq_true rfl) (Nat.le_of_ble_eq_true rfl) ⟨Nat.le_refl _, Nat.le_refl _⟩ dX8_number_12 (fun H locs hw => ?_)
  refine lv_lstore_n (lv' := [(2, .long z1.1), (1, .int (gI g 5 0 1)), (0, .ref (E.1 7 0))]) G.1 G.2.1 dX8_number_15 rfl hl (by decide) rfl (fun ls hl => ?_)
  refine lv_lload_n G.1 G.2.1 dX8_number_16 rfl (lv_at hl 0 rfl) ?_
  refine lv_ldc2 (v := (2147483647 : Int64)) G.1 G.2.1 G.2.2.2.1 (G.2.2.2.2 _ cl_X8_192) dX8_number_17 ?_
  refine W.lcmp G.1 G.2.1 dX8_number_20 ?_
  refine lv_if_le (tgt := 35) G.1 G.2.1 dX8_number_21 (by decide) (fun hc21 => ?_) (fun hc21 => ?_)
  · rw [if_pos hc21] at hf
    refine lv_lload_n G.1 G.2.1 dX8_number_35 rfl (lv_at hl 0 rfl) ?_
    refine lv_l2i G.1 G.2.1 dX8_number_36 rfl ?_
    exact g_iretW G hr hk hf hw dX8_number_37
  · rw [if_neg hc21] at hf
    refine lv_aload_n G.1 G.2.1 dX8_number_24 rfl (lv_at hl 2 rfl) ?_
    refine lv_iconst (v := (2 : Int32)) G.1 G.2.1 dX8_number_25 (by decide) ?_
    refine lv_iload_n G.1 G.2.1 dX8_number_26 rfl (lv_at hl 1 rfl) ?_
    obtain ⟨z2, hcz2, hf⟩ := bd_some hf
    refine g_callV1 (As := [.int (2 : Int32), .int (gI g 5 0 1)]) (rest := []) G hw (gA_mono hw.2.2.2.1.1) C_7 iC_7 mv_X8_194 (c_Tr_refuse l D X E n (2 : Int32) (gI g 5 0 1) z1.2 z2.1 z2.2 hcz2) hl.1 rfl rfl (Nat.le_of_ble_eq_true rfl) (Nat.le_of_ble_eq_true rfl) (Nat.le_of_ble_eq_true rfl) ⟨Nat.le_refl _, Nat.le_refl _⟩ dX8_number_27 (fun H locs hw => ?_)
    refine lv_pop G.1 G.2.1 dX8_number_30 rfl ?_
    refine lv_sipush (v := (-209 : Int32)) G.1 G.2.1 dX8_number_31 (by decide) ?_
    exact g_iretW G hr hk hf hw dX8_number_34

set_option maxHeartbeats 4000000 in
set_option maxRecDepth 100000 in
theorem c_Tr_read (l : Launch) (D : va_G) (X : va_W) (E : gE) (n : Nat) (rc : Mem → Option (Int32 × Mem)) (fr0 lo0 : Nat) (hfr0 : 7 ≤ fr0) (hlo0 : 322 ≤ lo0) (hrc : ∀ (g : Mem) (r : Int32) (g' : Mem), rc g = some (r, g') → gMet l yX8_expression cX8_expression 4 (some .int) fr0 lo0 D X idsC E [.ref (E.1 7 0)] g (some (.int r)) g') (g : Mem) (r : Int32) (g' : Mem) (hf : Tr_read rc n g = some (r, g')) : gMet l yX8_read cX8_read 3 (some .int) (fr0 + 2) (lo0 + 46) D X idsC E [.ref (E.1 7 0)] g (some (.int r)) g' := by
  rw [Tr_read] at hf
  refine gt_code (by decide) (Nat.le_of_ble_eq_true rfl) (fun p en s m below meth c ls G hr hk hw hl => ?_)
  have hl : lv_has ls 3 [(0, .ref (E.1 7 0))] := hl
  refine lv_aload_n G.1 G.2.1 dX8_read_0 rfl (lv_at hl 0 rfl) ?_
  refine g_getC G hw C_7 iC_7 0 5 rfl (by decide) rfl fl_X8_14 dX8_read_1 ?_
  refine g_getI G hw C_5 iC_5 1 rfl fl_X8_102 dX8_read_4 ?_
  refine lv_istore_n (lv' := [(1, .int (gI g 5 0 1)), (0, .ref (E.1 7 0))]) G.1 G.2.1 dX8_read_7 rfl hl (by decide) rfl (fun ls hl => ?_)
  refine lv_aload_n G.1 G.2.1 dX8_read_8 rfl (lv_at hl 1 rfl) ?_
  refine g_getC G hw C_7 iC_7 0 5 rfl (by decide) rfl fl_X8_14 dX8_read_9 ?_
  refine lv_iconst (v := (1 : Int32)) G.1 G.2.1 dX8_read_12 (by decide) ?_
  obtain ⟨g1, hcg1, hf⟩ := bd_some hf
  refine g_callV0 (As := [.int (1 : Int32)]) (rest := []) G hw (gA_mono hw.2.2.2.1.1) C_5 iC_5 mv_X8_103 (c_Rd_pass l D X E n (1 : Int32) g g1 hcg1) hl.1 rfl rfl (Nat.le_of_ble_eq_true rfl) (by dsimp only; omega) (by dsimp only; omega) ⟨Nat.le_refl _, Nat.le_refl _⟩ dX8_read_13 (fun H locs hw => ?_)
  refine lv_aload_n G.1 G.2.1 dX8_read_16 rfl (lv_at hl 1 rfl) ?_
  refine lv_bipush (v := (91 : Int32)) G.1 G.2.1 dX8_read_17 (by decide) ?_
  refine lv_bipush (v := (93 : Int32)) G.1 G.2.1 dX8_read_19 (by decide) ?_
  obtain ⟨z2, hcz2, hf⟩ := bd_some hf
  refine g_callV1 (As := [.int (91 : Int32), .int (93 : Int32)]) (rest := []) G hw (gA_mono hw.2.2.2.1.1) C_7 iC_7 mv_X8_138 (c_Tr_enclosed l D X E n rc fr0 lo0 hfr0 hlo0 hrc (91 : Int32) (93 : Int32) g1 z2.1 z2.2 hcz2) hl.1 rfl rfl (Nat.le_of_ble_eq_true rfl) (by dsimp only; omega) (by dsimp only; omega) ⟨Nat.le_refl _, Nat.le_refl _⟩ dX8_read_21 (fun H locs hw => ?_)
  refine lv_istore_n (lv' := [(2, .int z2.1), (1, .int (gI g 5 0 1)), (0, .ref (E.1 7 0))]) G.1 G.2.1 dX8_read_24 rfl hl (by decide) rfl (fun ls hl => ?_)
  refine lv_iload_n G.1 G.2.1 dX8_read_25 rfl (lv_at hl 0 rfl) ?_
  refine lv_sipush (v := (-209 : Int32)) G.1 G.2.1 dX8_read_26 (by decide) ?_
  refine lv_icmp_ne (tgt := 36) G.1 G.2.1 dX8_read_29 (by decide) (fun hc29 => ?_) (fun hc29 => ?_)
  · rw [if_neg hc29] at hf
    refine lv_aload_n G.1 G.2.1 dX8_read_36 rfl (lv_at hl 2 rfl) ?_
    refine lv_iconst (v := (1 : Int32)) G.1 G.2.1 dX8_read_37 (by decide) ?_
    refine lv_iload_n G.1 G.2.1 dX8_read_38 rfl (lv_at hl 0 rfl) ?_
    refine lv_iconst (v := (0 : Int32)) G.1 G.2.1 dX8_read_39 (by decide) ?_
    refine lv_iload_n G.1 G.2.1 dX8_read_40 rfl (lv_at hl 1 rfl) ?_
    obtain ⟨z3, hcz3, hf⟩ := bd_some hf
    refine g_callV1 (As := [.int (1 : Int32), .int z2.1, .int (0 : Int32), .int (gI g 5 0 1)]) (rest := []) G hw (gA_mono hw.2.2.2.1.1) C_7 iC_7 mv_X8_121 (c_Tr_add l D X E n (1 : Int32) z2.1 (0 : Int32) (gI g 5 0 1) z2.2 z3.1 z3.2 hcz3) hl.1 rfl rfl (Nat.le_of_ble_eq_true rfl) (by dsimp only; omega) (by dsimp only; omega) ⟨Nat.le_refl _, Nat.le_refl _⟩ dX8_read_41 (fun H locs hw => ?_)
    exact g_iretW G hr hk hf hw dX8_read_44
  · rw [if_pos hc29] at hf
    refine lv_iload_n G.1 G.2.1 dX8_read_32 rfl (lv_at hl 0 rfl) ?_
    refine lv_goto (tgt := 44) G.1 G.2.1 dX8_read_33 (by decide) ?_
    exact g_iretW G hr hk hf hw dX8_read_44

set_option maxHeartbeats 4000000 in
set_option maxRecDepth 100000 in
theorem c_Tr_factor (l : Launch) (D : va_G) (X : va_W) (E : gE) (n : Nat) (rc : Mem → Option (Int32 × Mem)) (fr0 lo0 : Nat) (hfr0 : 7 ≤ fr0) (hlo0 : 322 ≤ lo0) (hrc : ∀ (g : Mem) (r : Int32) (g' : Mem), rc g = some (r, g') → gMet l yX8_expression cX8_expression 4 (some .int) fr0 lo0 D X idsC E [.ref (E.1 7 0)] g (some (.int r)) g') (g : Mem) (r : Int32) (g' : Mem) (hf : Tr_factor rc n g = some (r, g')) : gMet l yX8_factor cX8_factor 2 (some .int) (fr0 + 3) (lo0 + 68) D X idsC E [.ref (E.1 7 0)] g (some (.int r)) g' := by
  rw [Tr_factor] at hf
  refine gt_code (by decide) (Nat.le_of_ble_eq_true rfl) (fun p en s m below meth c ls G hr hk hw hl => ?_)
  have hl : lv_has ls 2 [(0, .ref (E.1 7 0))] := hl
  refine lv_aload_n G.1 G.2.1 dX8_factor_0 rfl (lv_at hl 0 rfl) ?_
  refine g_getC G hw C_7 iC_7 0 5 rfl (by decide) rfl fl_X8_14 dX8_factor_1 ?_
  obtain ⟨z1, hcz1, hf⟩ := bd_some hf
  refine g_callV1 (As := []) (rest := []) G hw (gA_mono hw.2.2.2.1.1) C_5 iC_5 mv_X8_167 (c_Rd_look l D X E n g z1.1 z1.2 hcz1) hl.1 rfl rfl (Nat.le_of_ble_eq_true rfl) (by dsimp only; omega) (by dsimp only; omega) ⟨Nat.le_refl _, Nat.le_refl _⟩ dX8_factor_4 (fun H locs hw => ?_)
  refine lv_bipush (v := (40 : Int32)) G.1 G.2.1 dX8_factor_7 (by decide) ?_
  refine lv_icmp_ne (tgt := 21) G.1 G.2.1 dX8_factor_9 (by decide) (fun hc9 => ?_) (fun hc9 => ?_)
  · rw [if_neg hc9] at hf
    refine lv_aload_n G.1 G.2.1 dX8_factor_21 rfl (lv_at hl 0 rfl) ?_
    refine g_getC G hw C_7 iC_7 0 5 rfl (by decide) rfl fl_X8_14 dX8_factor_22 ?_
    obtain ⟨z2, hcz2, hf⟩ := bd_some hf
    refine g_callV1 (As := []) (rest := []) G hw (gA_mono hw.2.2.2.1.1) C_5 iC_5 mv_X8_176 (c_Rd_seesFigure l D X E n z1.2 z2.1 z2.2 hcz2) hl.1 rfl rfl (Nat.le_of_ble_eq_true rfl) (by dsimp only; omega) (by dsimp only; omega) ⟨Nat.le_refl _, Nat.le_refl _⟩ dX8_factor_25 (fun H locs hw => ?_)
    refine lv_if_eq (tgt := 36) G.1 G.2.1 dX8_factor_28 (by decide) (fun hc28 => ?_) (fun hc28 => ?_)
    · rw [if_pos hc28] at hf
      refine lv_aload_n G.1 G.2.1 dX8_factor_36 rfl (lv_at hl 0 rfl) ?_
      refine g_getC G hw C_7 iC_7 0 5 rfl (by decide) rfl fl_X8_14 dX8_factor_37 ?_
      refine va_ldcS G.1 G.2.1 G.2.2.2.1 hw.2.2.2.2.2.1.2.2.1 dX8_factor_40 ?_
      obtain ⟨z3, hcz3, hf⟩ := bd_some hf
      refine g_callV1 (As := [.ref (E.2.2.2.2.2.2.1 2)]) (rest := []) G hw (gA_mono hw.2.2.2.1.1) C_5 iC_5 mv_X8_75 (c_Rd_seesWord l D X E n 2 (by decide) z2.2 z3.1 z3.2 hcz3) hl.1 rfl rfl (Nat.le_of_ble_eq_true rfl) (by dsimp only; omega) (by dsimp only; omega) ⟨Nat.le_refl _, Nat.le_refl _⟩ dX8_factor_42 (fun H locs hw => ?_)
      refine lv_if_eq (tgt := 53) G.1 G.2.1 dX8_factor_45 (by decide) (fun hc45 => ?_) (fun hc45 => ?_)
      · rw [if_pos hc45] at hf
        refine lv_aload_n G.1 G.2.1 dX8_factor_53 rfl (lv_at hl 0 rfl) ?_
        refine g_getC G hw C_7 iC_7 0 5 rfl (by decide) rfl fl_X8_14 dX8_factor_54 ?_
        obtain ⟨z4, hcz4, hf⟩ := bd_some hf
        refine g_callV1 (As := []) (rest := []) G hw (gA_mono hw.2.2.2.1.1) C_5 iC_5 mv_X8_92 (c_Rd_seenVariable l D X E n z3.2 z4.1 z4.2 hcz4) hl.1 rfl rfl (Nat.le_of_ble_eq_true rfl) (by dsimp only; omega) (by dsimp only; omega) ⟨Nat.le_refl _, Nat.le_refl _⟩ dX8_factor_57 (fun H locs hw => ?_)
        refine lv_istore_n (lv' := [(1, .int z4.1), (0, .ref (E.1 7 0))]) G.1 G.2.1 dX8_factor_60 rfl hl (by decide) rfl (fun ls hl => ?_)
        refine lv_iload_n G.1 G.2.1 dX8_factor_61 rfl (lv_at hl 0 rfl) ?_
        refine lv_iconst (v := (-1 : Int32)) G.1 G.2.1 dX8_factor_62 (by decide) ?_
        refine lv_icmp_ne (tgt := 76) G.1 G.2.1 dX8_factor_63 (by decide) (fun hc63 => ?_) (fun hc63 => ?_)
        · rw [if_neg hc63] at hf
          refine lv_aload_n G.1 G.2.1 dX8_factor_76 rfl (lv_at hl 1 rfl) ?_
          refine g_getC G hw C_7 iC_7 0 5 rfl (by decide) rfl fl_X8_14 dX8_factor_77 ?_
          refine lv_iconst (v := (1 : Int32)) G.1 G.2.1 dX8_factor_80 (by decide) ?_
          obtain ⟨g5, hcg5, hf⟩ := bd_some hf
          refine g_callV0 (As := [.int (1 : Int32)]) (rest := []) G hw (gA_mono hw.2.2.2.1.1) C_5 iC_5 mv_X8_103 (c_Rd_pass l D X E n (1 : Int32) z4.2 g5 hcg5) hl.1 rfl rfl (Nat.le_of_ble_eq_true rfl) (by dsimp only; omega) (by dsimp only; omega) ⟨Nat.le_refl _, Nat.le_refl _⟩ dX8_factor_81 (fun H locs hw => ?_)
          refine lv_iload_n G.1 G.2.1 dX8_factor_84 rfl (lv_at hl 0 rfl) ?_
          obtain ⟨z6, hcz6, hf⟩ := bd_some hf
          refine g_callS1 (As := [.int z4.1]) (rest := []) G hw (gA_mono hw.2.2.2.1.1)  ms_X8_185 (c_Od_ofVariable l D X E n z4.1 g5 z6 hcz6) hl.1 rfl rfl (Nat.le_of_ble_eq_true rfl) (by dsimp only; omega) (by dsimp only; omega) ⟨Nat.le_refl _, Nat.le_refl _⟩ dX8_factor_85 (fun H locs hw => ?_)
          exact g_iretW G hr hk hf hw dX8_factor_88
        · rw [if_pos hc63] at hf
          refine lv_aload_n G.1 G.2.1 dX8_factor_66 rfl (lv_at hl 1 rfl) ?_
          refine lv_iconst (v := (1 : Int32)) G.1 G.2.1 dX8_factor_67 (by decide) ?_
          obtain ⟨z7, hcz7, hf⟩ := bd_some hf
          refine g_callV1 (As := [.int (1 : Int32)]) (rest := []) G hw (gA_mono hw.2.2.2.1.1) C_7 iC_7 mv_X8_96 (c_Tr_refuseHere l D X E n (1 : Int32) z4.2 z7.1 z7.2 hcz7) hl.1 rfl rfl (Nat.le_of_ble_eq_true rfl) (by dsimp only; omega) (by dsimp only; omega) ⟨Nat.le_refl _, Nat.le_refl _⟩ dX8_factor_68 (fun H locs hw => ?_)
          refine lv_pop G.1 G.2.1 dX8_factor_71 rfl ?_
          refine lv_sipush (v := (-209 : Int32)) G.1 G.2.1 dX8_factor_72 (by decide) ?_
          exact g_iretW G hr hk hf hw dX8_factor_75
      · rw [if_neg hc45] at hf
        refine lv_aload_n G.1 G.2.1 dX8_factor_48 rfl (lv_at hl 0 rfl) ?_
        obtain ⟨z8, hcz8, hf⟩ := bd_some hf
        refine g_callV1 (As := []) (rest := []) G hw (gA_mono hw.2.2.2.1.1) C_7 iC_7 mv_X8_182 (c_Tr_read l D X E n rc fr0 lo0 hfr0 hlo0 hrc z3.2 z8.1 z8.2 hcz8) hl.1 rfl rfl (Nat.le_of_ble_eq_true rfl) (by dsimp only; omega) (by dsimp only; omega) ⟨Nat.le_refl _, Nat.le_refl _⟩ dX8_factor_49 (fun H locs hw => ?_)
        exact g_iretW G hr hk hf hw dX8_factor_52
    · rw [if_neg hc28] at hf
      refine lv_aload_n G.1 G.2.1 dX8_factor_31 rfl (lv_at hl 0 rfl) ?_
      obtain ⟨z9, hcz9, hf⟩ := bd_some hf
      refine g_callV1 (As := []) (rest := []) G hw (gA_mono hw.2.2.2.1.1) C_7 iC_7 mv_X8_179 (c_Tr_number l D X E n z2.2 z9.1 z9.2 hcz9) hl.1 rfl rfl (Nat.le_of_ble_eq_true rfl) (by dsimp only; omega) (by dsimp only; omega) ⟨Nat.le_refl _, Nat.le_refl _⟩ dX8_factor_32 (fun H locs hw => ?_)
      exact g_iretW G hr hk hf hw dX8_factor_35
  · rw [if_pos hc9] at hf
    refine lv_aload_n G.1 G.2.1 dX8_factor_12 rfl (lv_at hl 0 rfl) ?_
    refine lv_bipush (v := (40 : Int32)) G.1 G.2.1 dX8_factor_13 (by decide) ?_
    refine lv_bipush (v := (41 : Int32)) G.1 G.2.1 dX8_factor_15 (by decide) ?_
    obtain ⟨z10, hcz10, hf⟩ := bd_some hf
    refine g_callV1 (As := [.int (40 : Int32), .int (41 : Int32)]) (rest := []) G hw (gA_mono hw.2.2.2.1.1) C_7 iC_7 mv_X8_138 (c_Tr_enclosed l D X E n rc fr0 lo0 hfr0 hlo0 hrc (40 : Int32) (41 : Int32) z1.2 z10.1 z10.2 hcz10) hl.1 rfl rfl (Nat.le_of_ble_eq_true rfl) (by dsimp only; omega) (by dsimp only; omega) ⟨Nat.le_refl _, Nat.le_refl _⟩ dX8_factor_17 (fun H locs hw => ?_)
    exact g_iretW G hr hk hf hw dX8_factor_20

set_option maxHeartbeats 4000000 in
set_option maxRecDepth 100000 in
theorem c_Tr_term (l : Launch) (D : va_G) (X : va_W) (E : gE) (n : Nat) (rc : Mem → Option (Int32 × Mem)) (fr0 lo0 : Nat) (hfr0 : 7 ≤ fr0) (hlo0 : 322 ≤ lo0) (hrc : ∀ (g : Mem) (r : Int32) (g' : Mem), rc g = some (r, g') → gMet l yX8_expression cX8_expression 4 (some .int) fr0 lo0 D X idsC E [.ref (E.1 7 0)] g (some (.int r)) g') (g : Mem) (r : Int32) (g' : Mem) (hf : Tr_term rc n g = some (r, g')) : gMet l yX8_term cX8_term 4 (some .int) (fr0 + 4) (lo0 + 89) D X idsC E [.ref (E.1 7 0)] g (some (.int r)) g' := by
  rw [Tr_term] at hf
  refine gt_code (by decide) (Nat.le_of_ble_eq_true rfl) (fun p en s m below meth c ls G hr hk hw hl => ?_)
  have hl : lv_has ls 4 [(0, .ref (E.1 7 0))] := hl
  refine lv_aload_n G.1 G.2.1 dX8_term_0 rfl (lv_at hl 0 rfl) ?_
  obtain ⟨z1, hcz1, hf⟩ := bd_some hf
  refine g_callV1 (As := []) (rest := []) G hw (gA_mono hw.2.2.2.1.1) C_7 iC_7 mv_X8_173 (c_Tr_factor l D X E n rc fr0 lo0 hfr0 hlo0 hrc g z1.1 z1.2 hcz1) hl.1 rfl rfl (Nat.le_of_ble_eq_true rfl) (by dsimp only; omega) (by dsimp only; omega) ⟨Nat.le_refl _, Nat.le_refl _⟩ dX8_term_1 (fun H locs hw => ?_)
  refine lv_istore_n (lv' := [(1, .int z1.1), (0, .ref (E.1 7 0))]) G.1 G.2.1 dX8_term_4 rfl hl (by decide) rfl (fun ls hl => ?_)
  refine lv_iconst (v := (0 : Int32)) G.1 G.2.1 dX8_term_5 (by decide) ?_
  refine lv_istore_n (lv' := [(2, .int (0 : Int32)), (1, .int z1.1), (0, .ref (E.1 7 0))]) G.1 G.2.1 dX8_term_6 rfl hl (by decide) rfl (fun ls hl => ?_)
  have hL7 : ∀ (k2 : Nat) (x3 : Int32) (x4 : Int32) (g5 : Mem) (res2 : (Int32 × Mem) ⊕ (Int32 × Mem)) (H : Heap) (locs : List Loc) (ls : Array Slot), Tr_term_L7 n rc k2 x3 x4 g5 = some res2 → GW D X idsC E (gA X idsC E s.heap.size) s g5 H locs → lv_has ls 4 [(0, .ref (E.1 7 0)), (1, .int x3), (2, .int x4)] → (∀ t : Int32 × Mem, res2 = .inl t → ∀ (H : Heap) (locs : List Loc) (ls : Array Slot), GW D X idsC E (gA X idsC E s.heap.size) s t.2 H locs → lv_has ls 4 [(1, .int t.1)] → W p l en { frames := (fr0 + 4), cells := 0, slots := 0, locals := (lo0 + 89) } s m [.ref (E.1 7 0)].toArray below meth c H locs 0 0 (MQ below (gQ (some (.int r)) (GP D X idsC E g') (gA X idsC E s.heap.size)) [.ref (E.1 7 0)].toArray s 0 0 (gA X idsC E s.heap.size)) (F0 m 33 ls [])) → (∀ t : Int32 × Mem, res2 = .inr t → ∀ (H : Heap) (locs : List Loc) (ls : Array Slot), GW D X idsC E (gA X idsC E s.heap.size) s t.2 H locs → lv_has ls 4 [(1, .int t.1)] → W p l en { frames := (fr0 + 4), cells := 0, slots := 0, locals := (lo0 + 89) } s m [.ref (E.1 7 0)].toArray below meth c H locs 0 0 (MQ below (gQ (some (.int r)) (GP D X idsC E g') (gA X idsC E s.heap.size)) [.ref (E.1 7 0)].toArray s 0 0 (gA X idsC E s.heap.size)) (F0 m 70 ls [])) → W p l en { frames := (fr0 + 4), cells := 0, slots := 0, locals := (lo0 + 89) } s m [.ref (E.1 7 0)].toArray below meth c H locs 0 0 (MQ below (gQ (some (.int r)) (GP D X idsC E g') (gA X idsC E s.heap.size)) [.ref (E.1 7 0)].toArray s 0 0 (gA X idsC E s.heap.size)) (F0 m 7 ls []) := by
    intro k2
    induction k2 with
    | zero => intro x3 x4 g5 res2 H locs ls hf; rw [Tr_term_L7] at hf; cases hf
    | succ k2 ih2 =>
      intro x3 x4 g5 res2 H locs ls hf hw hl hk2_0 hk2_1
      rw [Tr_term_L7] at hf
      refine lv_iload_n G.1 G.2.1 dX8_term_7 rfl (lv_at hl 2 rfl) ?_
      refine lv_sipush (v := (700 : Int32)) G.1 G.2.1 dX8_term_8 (by decide) ?_
      refine lv_icmp_ge (tgt := 70) G.1 G.2.1 dX8_term_11 (by decide) (fun hc11 => ?_) (fun hc11 => ?_)
      · rw [if_pos hc11] at hf
        exact hk2_1 _ (Option.some.inj hf).symm _ _ ls hw (lv_sub hl [1] rfl)
      · rw [if_neg hc11] at hf
        refine lv_iload_n G.1 G.2.1 dX8_term_14 rfl (lv_at hl 1 rfl) ?_
        refine lv_sipush (v := (-209 : Int32)) G.1 G.2.1 dX8_term_15 (by decide) ?_
        refine lv_icmp_eq (tgt := 70) G.1 G.2.1 dX8_term_18 (by decide) (fun hc18 => ?_) (fun hc18 => ?_)
        · rw [if_pos hc18] at hf
          exact hk2_1 _ (Option.some.inj hf).symm _ _ ls hw (lv_sub hl [1] rfl)
        · rw [if_neg hc18] at hf
          refine lv_aload_n G.1 G.2.1 dX8_term_21 rfl (lv_at hl 0 rfl) ?_
          refine g_getC G hw C_7 iC_7 0 5 rfl (by decide) rfl fl_X8_14 dX8_term_22 ?_
          obtain ⟨z6, hcz6, hf⟩ := bd_some hf
          refine g_callV1 (As := []) (rest := []) G hw (gA_mono hw.2.2.2.1.1) C_5 iC_5 mv_X8_167 (c_Rd_look l D X E n g5 z6.1 z6.2 hcz6) hl.1 rfl rfl (Nat.le_of_ble_eq_true rfl) (by dsimp only; omega) (by dsimp only; omega) ⟨Nat.le_refl _, Nat.le_refl _⟩ dX8_term_25 (fun H locs hw => ?_)
          refine lv_bipush (v := (42 : Int32)) G.1 G.2.1 dX8_term_28 (by decide) ?_
          refine lv_icmp_eq (tgt := 35) G.1 G.2.1 dX8_term_30 (by decide) (fun hc30 => ?_) (fun hc30 => ?_)
          · rw [if_pos hc30] at hf
            refine lv_aload_n G.1 G.2.1 dX8_term_35 rfl (lv_at hl 0 rfl) ?_
            refine g_getC G hw C_7 iC_7 0 5 rfl (by decide) rfl fl_X8_14 dX8_term_36 ?_
            refine g_getI G hw C_5 iC_5 1 rfl fl_X8_102 dX8_term_39 ?_
            refine lv_istore_n (lv' := [(3, .int (gI z6.2 5 0 1)), (0, .ref (E.1 7 0)), (1, .int x3), (2, .int x4)]) G.1 G.2.1 dX8_term_42 rfl hl (by decide) rfl (fun ls hl => ?_)
            refine lv_aload_n G.1 G.2.1 dX8_term_43 rfl (lv_at hl 1 rfl) ?_
            refine g_getC G hw C_7 iC_7 0 5 rfl (by decide) rfl fl_X8_14 dX8_term_44 ?_
            refine lv_iconst (v := (1 : Int32)) G.1 G.2.1 dX8_term_47 (by decide) ?_
            obtain ⟨g7, hcg7, hf⟩ := bd_some hf
            refine g_callV0 (As := [.int (1 : Int32)]) (rest := []) G hw (gA_mono hw.2.2.2.1.1) C_5 iC_5 mv_X8_103 (c_Rd_pass l D X E n (1 : Int32) z6.2 g7 hcg7) hl.1 rfl rfl (Nat.le_of_ble_eq_true rfl) (by dsimp only; omega) (by dsimp only; omega) ⟨Nat.le_refl _, Nat.le_refl _⟩ dX8_term_48 (fun H locs hw => ?_)
            refine lv_aload_n G.1 G.2.1 dX8_term_51 rfl (lv_at hl 1 rfl) ?_
            refine lv_bipush (v := (42 : Int32)) G.1 G.2.1 dX8_term_52 (by decide) ?_
            refine lv_iload_n G.1 G.2.1 dX8_term_54 rfl (lv_at hl 2 rfl) ?_
            refine lv_aload_n G.1 G.2.1 dX8_term_55 rfl (lv_at hl 1 rfl) ?_
            obtain ⟨z8, hcz8, hf⟩ := bd_some hf
            refine g_callV1 (As := []) (rest := [.int x3, .int (42 : Int32), .ref (E.1 7 0)]) G hw (gA_mono hw.2.2.2.1.1) C_7 iC_7 mv_X8_173 (c_Tr_factor l D X E n rc fr0 lo0 hfr0 hlo0 hrc g7 z8.1 z8.2 hcz8) hl.1 rfl rfl (Nat.le_of_ble_eq_true rfl) (by dsimp only; omega) (by dsimp only; omega) ⟨Nat.le_refl _, Nat.le_refl _⟩ dX8_term_56 (fun H locs hw => ?_)
            refine lv_iload_n G.1 G.2.1 dX8_term_59 rfl (lv_at hl 0 rfl) ?_
            obtain ⟨z9, hcz9, hf⟩ := bd_some hf
            refine g_callV1 (As := [.int (42 : Int32), .int x3, .int z8.1, .int (gI z6.2 5 0 1)]) (rest := []) G hw (gA_mono hw.2.2.2.1.1) C_7 iC_7 mv_X8_121 (c_Tr_add l D X E n (42 : Int32) x3 z8.1 (gI z6.2 5 0 1) z8.2 z9.1 z9.2 hcz9) hl.1 rfl rfl (Nat.le_of_ble_eq_true rfl) (by dsimp only; omega) (by dsimp only; omega) ⟨Nat.le_refl _, Nat.le_refl _⟩ dX8_term_60 (fun H locs hw => ?_)
            refine lv_istore_n (lv' := [(1, .int z9.1), (3, .int (gI z6.2 5 0 1)), (0, .ref (E.1 7 0)), (2, .int x4)]) G.1 G.2.1 dX8_term_63 rfl hl (by decide) rfl (fun ls hl => ?_)
            refine lv_iinc (v := x4 + 1) (lv' := [(2, .int (x4 + 1)), (1, .int z9.1), (3, .int (gI z6.2 5 0 1)), (0, .ref (E.1 7 0))]) G.1 G.2.1 dX8_term_64 hl (k := 3) rfl rfl (by decide) rfl (fun ls hl => ?_)
            refine lv_goto (tgt := 7) G.1 G.2.1 dX8_term_67 (by decide) ?_
            exact ih2 z9.1 (x4 + 1) z9.2 _ _ _ ls hf hw (lv_sub hl [3, 1, 0] rfl) hk2_0 hk2_1
          · rw [if_neg hc30] at hf
            exact hk2_0 _ (Option.some.inj hf).symm _ _ ls hw (lv_sub hl [1] rfl)
  obtain ⟨r10, hr10, hf⟩ := bd_some hf
  refine hL7 n z1.1 (0 : Int32) z1.2 r10 _ _ ls hr10 hw (lv_sub hl [2, 1, 0] rfl) ?_ ?_
  · intro t11 htt11 H locs ls hw hl
    rw [htt11] at hf
    dsimp only at hf
    refine lv_iload_n G.1 G.2.1 dX8_term_33 rfl (lv_at hl 0 rfl) ?_
    exact g_iretW G hr hk hf hw dX8_term_34
  · intro t12 htt12 H locs ls hw hl
    rw [htt12] at hf
    dsimp only at hf
    refine lv_iload_n G.1 G.2.1 dX8_term_70 rfl (lv_at hl 0 rfl) ?_
    exact g_iretW G hr hk hf hw dX8_term_71

set_option maxHeartbeats 4000000 in
set_option maxRecDepth 100000 in
theorem c_Tr_sum (l : Launch) (D : va_G) (X : va_W) (E : gE) (n : Nat) (rc : Mem → Option (Int32 × Mem)) (fr0 lo0 : Nat) (hfr0 : 7 ≤ fr0) (hlo0 : 322 ≤ lo0) (hrc : ∀ (g : Mem) (r : Int32) (g' : Mem), rc g = some (r, g') → gMet l yX8_expression cX8_expression 4 (some .int) fr0 lo0 D X idsC E [.ref (E.1 7 0)] g (some (.int r)) g') (g : Mem) (r : Int32) (g' : Mem) (hf : Tr_sum rc n g = some (r, g')) : gMet l yX8_sum cX8_sum 5 (some .int) (fr0 + 5) (lo0 + 112) D X idsC E [.ref (E.1 7 0)] g (some (.int r)) g' := by
  rw [Tr_sum] at hf
  refine gt_code (by decide) (Nat.le_of_ble_eq_true rfl) (fun p en s m below meth c ls G hr hk hw hl => ?_)
  have hl : lv_has ls 5 [(0, .ref (E.1 7 0))] := hl
  refine lv_aload_n G.1 G.2.1 dX8_sum_0 rfl (lv_at hl 0 rfl) ?_
  obtain ⟨z1, hcz1, hf⟩ := bd_some hf
  refine g_callV1 (As := []) (rest := []) G hw (gA_mono hw.2.2.2.1.1) C_7 iC_7 mv_X8_170 (c_Tr_term l D X E n rc fr0 lo0 hfr0 hlo0 hrc g z1.1 z1.2 hcz1) hl.1 rfl rfl (Nat.le_of_ble_eq_true rfl) (by dsimp only; omega) (by dsimp only; omega) ⟨Nat.le_refl _, Nat.le_refl _⟩ dX8_sum_1 (fun H locs hw => ?_)
  refine lv_istore_n (lv' := [(1, .int z1.1), (0, .ref (E.1 7 0))]) G.1 G.2.1 dX8_sum_4 rfl hl (by decide) rfl (fun ls hl => ?_)
  refine lv_iconst (v := (0 : Int32)) G.1 G.2.1 dX8_sum_5 (by decide) ?_
  refine lv_istore_n (lv' := [(2, .int (0 : Int32)), (1, .int z1.1), (0, .ref (E.1 7 0))]) G.1 G.2.1 dX8_sum_6 rfl hl (by decide) rfl (fun ls hl => ?_)
  have hL7 : ∀ (k2 : Nat) (x3 : Int32) (x4 : Int32) (g5 : Mem) (res2 : (Int32 × Mem) ⊕ (Int32 × Mem)) (H : Heap) (locs : List Loc) (ls : Array Slot), Tr_sum_L7 n rc k2 x3 x4 g5 = some res2 → GW D X idsC E (gA X idsC E s.heap.size) s g5 H locs → lv_has ls 5 [(0, .ref (E.1 7 0)), (1, .int x3), (2, .int x4)] → (∀ t : Int32 × Mem, res2 = .inl t → ∀ (H : Heap) (locs : List Loc) (ls : Array Slot), GW D X idsC E (gA X idsC E s.heap.size) s t.2 H locs → lv_has ls 5 [(1, .int t.1)] → W p l en { frames := (fr0 + 5), cells := 0, slots := 0, locals := (lo0 + 112) } s m [.ref (E.1 7 0)].toArray below meth c H locs 0 0 (MQ below (gQ (some (.int r)) (GP D X idsC E g') (gA X idsC E s.heap.size)) [.ref (E.1 7 0)].toArray s 0 0 (gA X idsC E s.heap.size)) (F0 m 41 ls [])) → (∀ t : Int32 × Mem, res2 = .inr t → ∀ (H : Heap) (locs : List Loc) (ls : Array Slot), GW D X idsC E (gA X idsC E s.heap.size) s t.2 H locs → lv_has ls 5 [(1, .int t.1)] → W p l en { frames := (fr0 + 5), cells := 0, slots := 0, locals := (lo0 + 112) } s m [.ref (E.1 7 0)].toArray below meth c H locs 0 0 (MQ below (gQ (some (.int r)) (GP D X idsC E g') (gA X idsC E s.heap.size)) [.ref (E.1 7 0)].toArray s 0 0 (gA X idsC E s.heap.size)) (F0 m 79 ls [])) → W p l en { frames := (fr0 + 5), cells := 0, slots := 0, locals := (lo0 + 112) } s m [.ref (E.1 7 0)].toArray below meth c H locs 0 0 (MQ below (gQ (some (.int r)) (GP D X idsC E g') (gA X idsC E s.heap.size)) [.ref (E.1 7 0)].toArray s 0 0 (gA X idsC E s.heap.size)) (F0 m 7 ls []) := by
    intro k2
    induction k2 with
    | zero => intro x3 x4 g5 res2 H locs ls hf; rw [Tr_sum_L7] at hf; cases hf
    | succ k2 ih2 =>
      intro x3 x4 g5 res2 H locs ls hf hw hl hk2_0 hk2_1
      rw [Tr_sum_L7] at hf
      refine lv_iload_n G.1 G.2.1 dX8_sum_7 rfl (lv_at hl 2 rfl) ?_
      refine lv_sipush (v := (700 : Int32)) G.1 G.2.1 dX8_sum_8 (by decide) ?_
      refine lv_icmp_ge (tgt := 79) G.1 G.2.1 dX8_sum_11 (by decide) (fun hc11 => ?_) (fun hc11 => ?_)
      · rw [if_pos hc11] at hf
        exact hk2_1 _ (Option.some.inj hf).symm _ _ ls hw (lv_sub hl [1] rfl)
      · rw [if_neg hc11] at hf
        refine lv_iload_n G.1 G.2.1 dX8_sum_14 rfl (lv_at hl 1 rfl) ?_
        refine lv_sipush (v := (-209 : Int32)) G.1 G.2.1 dX8_sum_15 (by decide) ?_
        refine lv_icmp_eq (tgt := 79) G.1 G.2.1 dX8_sum_18 (by decide) (fun hc18 => ?_) (fun hc18 => ?_)
        · rw [if_pos hc18] at hf
          exact hk2_1 _ (Option.some.inj hf).symm _ _ ls hw (lv_sub hl [1] rfl)
        · rw [if_neg hc18] at hf
          refine lv_aload_n G.1 G.2.1 dX8_sum_21 rfl (lv_at hl 0 rfl) ?_
          refine g_getC G hw C_7 iC_7 0 5 rfl (by decide) rfl fl_X8_14 dX8_sum_22 ?_
          obtain ⟨z6, hcz6, hf⟩ := bd_some hf
          refine g_callV1 (As := []) (rest := []) G hw (gA_mono hw.2.2.2.1.1) C_5 iC_5 mv_X8_167 (c_Rd_look l D X E n g5 z6.1 z6.2 hcz6) hl.1 rfl rfl (Nat.le_of_ble_eq_true rfl) (by dsimp only; omega) (by dsimp only; omega) ⟨Nat.le_refl _, Nat.le_refl _⟩ dX8_sum_25 (fun H locs hw => ?_)
          refine lv_istore_n (lv' := [(3, .int z6.1), (0, .ref (E.1 7 0)), (1, .int x3), (2, .int x4)]) G.1 G.2.1 dX8_sum_28 rfl hl (by decide) rfl (fun ls hl => ?_)
          refine lv_iload_n G.1 G.2.1 dX8_sum_29 rfl (lv_at hl 0 rfl) ?_
          refine lv_bipush (v := (43 : Int32)) G.1 G.2.1 dX8_sum_30 (by decide) ?_
          obtain ⟨j7, ej7, hf⟩ := lt9_some hf
          have hj7 : ∀ (_u : Unit) (H : Heap) (locs : List Loc) (ls : Array Slot), j7 _u = some res2 → GW D X idsC E (gA X idsC E s.heap.size) s z6.2 H locs → lv_has ls 5 [(0, .ref (E.1 7 0)), (1, .int x3), (2, .int x4), (3, .int z6.1)] → W p l en { frames := (fr0 + 5), cells := 0, slots := 0, locals := (lo0 + 112) } s m [.ref (E.1 7 0)].toArray below meth c H locs 0 0 (MQ below (gQ (some (.int r)) (GP D X idsC E g') (gA X idsC E s.heap.size)) [.ref (E.1 7 0)].toArray s 0 0 (gA X idsC E s.heap.size)) (F0 m 43 ls []) := by
            intro _u H locs ls hf hw hl
            rw [ej7] at hf
            dsimp only at hf
            refine lv_aload_n G.1 G.2.1 dX8_sum_43 rfl (lv_at hl 0 rfl) ?_
            refine g_getC G hw C_7 iC_7 0 5 rfl (by decide) rfl fl_X8_14 dX8_sum_44 ?_
            refine g_getI G hw C_5 iC_5 1 rfl fl_X8_102 dX8_sum_47 ?_
            refine lv_istore (lv' := [(4, .int (gI z6.2 5 0 1)), (0, .ref (E.1 7 0)), (1, .int x3), (2, .int x4), (3, .int z6.1)]) G.1 G.2.1 dX8_sum_50 hl (by decide) rfl (fun ls hl => ?_)
            refine lv_aload_n G.1 G.2.1 dX8_sum_52 rfl (lv_at hl 1 rfl) ?_
            refine g_getC G hw C_7 iC_7 0 5 rfl (by decide) rfl fl_X8_14 dX8_sum_53 ?_
            refine lv_iconst (v := (1 : Int32)) G.1 G.2.1 dX8_sum_56 (by decide) ?_
            obtain ⟨g8, hcg8, hf⟩ := bd_some hf
            refine g_callV0 (As := [.int (1 : Int32)]) (rest := []) G hw (gA_mono hw.2.2.2.1.1) C_5 iC_5 mv_X8_103 (c_Rd_pass l D X E n (1 : Int32) z6.2 g8 hcg8) hl.1 rfl rfl (Nat.le_of_ble_eq_true rfl) (by dsimp only; omega) (by dsimp only; omega) ⟨Nat.le_refl _, Nat.le_refl _⟩ dX8_sum_57 (fun H locs hw => ?_)
            refine lv_aload_n G.1 G.2.1 dX8_sum_60 rfl (lv_at hl 1 rfl) ?_
            refine lv_iload_n G.1 G.2.1 dX8_sum_61 rfl (lv_at hl 4 rfl) ?_
            refine lv_iload_n G.1 G.2.1 dX8_sum_62 rfl (lv_at hl 2 rfl) ?_
            refine lv_aload_n G.1 G.2.1 dX8_sum_63 rfl (lv_at hl 1 rfl) ?_
            obtain ⟨z9, hcz9, hf⟩ := bd_some hf
            refine g_callV1 (As := []) (rest := [.int x3, .int z6.1, .ref (E.1 7 0)]) G hw (gA_mono hw.2.2.2.1.1) C_7 iC_7 mv_X8_170 (c_Tr_term l D X E n rc fr0 lo0 hfr0 hlo0 hrc g8 z9.1 z9.2 hcz9) hl.1 rfl rfl (Nat.le_of_ble_eq_true rfl) (by dsimp only; omega) (by dsimp only; omega) ⟨Nat.le_refl _, Nat.le_refl _⟩ dX8_sum_64 (fun H locs hw => ?_)
            refine lv_iload G.1 G.2.1 dX8_sum_67 (lv_at hl 0 rfl) ?_
            obtain ⟨z10, hcz10, hf⟩ := bd_some hf
            refine g_callV1 (As := [.int z6.1, .int x3, .int z9.1, .int (gI z6.2 5 0 1)]) (rest := []) G hw (gA_mono hw.2.2.2.1.1) C_7 iC_7 mv_X8_121 (c_Tr_add l D X E n z6.1 x3 z9.1 (gI z6.2 5 0 1) z9.2 z10.1 z10.2 hcz10) hl.1 rfl rfl (Nat.le_of_ble_eq_true rfl) (by dsimp only; omega) (by dsimp only; omega) ⟨Nat.le_refl _, Nat.le_refl _⟩ dX8_sum_69 (fun H locs hw => ?_)
            refine lv_istore_n (lv' := [(1, .int z10.1), (4, .int (gI z6.2 5 0 1)), (0, .ref (E.1 7 0)), (2, .int x4), (3, .int z6.1)]) G.1 G.2.1 dX8_sum_72 rfl hl (by decide) rfl (fun ls hl => ?_)
            refine lv_iinc (v := x4 + 1) (lv' := [(2, .int (x4 + 1)), (1, .int z10.1), (4, .int (gI z6.2 5 0 1)), (0, .ref (E.1 7 0)), (3, .int z6.1)]) G.1 G.2.1 dX8_sum_73 hl (k := 3) rfl rfl (by decide) rfl (fun ls hl => ?_)
            refine lv_goto (tgt := 7) G.1 G.2.1 dX8_sum_76 (by decide) ?_
            exact ih2 z10.1 (x4 + 1) z10.2 _ _ _ ls hf hw (lv_sub hl [3, 1, 0] rfl) hk2_0 hk2_1
          refine lv_icmp_eq (tgt := 43) G.1 G.2.1 dX8_sum_32 (by decide) (fun hc32 => ?_) (fun hc32 => ?_)
          · rw [if_pos hc32] at hf
            exact hj7 () _ _ ls hf hw (lv_sub hl [1, 2, 3, 0] rfl)
          · rw [if_neg hc32] at hf
            refine lv_iload_n G.1 G.2.1 dX8_sum_35 rfl (lv_at hl 0 rfl) ?_
            refine lv_bipush (v := (45 : Int32)) G.1 G.2.1 dX8_sum_36 (by decide) ?_
            refine lv_icmp_eq (tgt := 43) G.1 G.2.1 dX8_sum_38 (by decide) (fun hc38 => ?_) (fun hc38 => ?_)
            · rw [if_pos hc38] at hf
              exact hj7 () _ _ ls hf hw (lv_sub hl [1, 2, 3, 0] rfl)
            · rw [if_neg hc38] at hf
              exact hk2_0 _ (Option.some.inj hf).symm _ _ ls hw (lv_sub hl [2] rfl)
  obtain ⟨r11, hr11, hf⟩ := bd_some hf
  refine hL7 n z1.1 (0 : Int32) z1.2 r11 _ _ ls hr11 hw (lv_sub hl [2, 1, 0] rfl) ?_ ?_
  · intro t12 htt12 H locs ls hw hl
    rw [htt12] at hf
    dsimp only at hf
    refine lv_iload_n G.1 G.2.1 dX8_sum_41 rfl (lv_at hl 0 rfl) ?_
    exact g_iretW G hr hk hf hw dX8_sum_42
  · intro t13 htt13 H locs ls hw hl
    rw [htt13] at hf
    dsimp only at hf
    refine lv_iload_n G.1 G.2.1 dX8_sum_79 rfl (lv_at hl 0 rfl) ?_
    exact g_iretW G hr hk hf hw dX8_sum_80

set_option maxHeartbeats 4000000 in
set_option maxRecDepth 100000 in
theorem c_Tr_expression_b (l : Launch) (D : va_G) (X : va_W) (E : gE) (n : Nat) (rc : Mem → Option (Int32 × Mem)) (fr0 lo0 : Nat) (hfr0 : 7 ≤ fr0) (hlo0 : 322 ≤ lo0) (hrc : ∀ (g : Mem) (r : Int32) (g' : Mem), rc g = some (r, g') → gMet l yX8_expression cX8_expression 4 (some .int) fr0 lo0 D X idsC E [.ref (E.1 7 0)] g (some (.int r)) g') (g : Mem) (r : Int32) (g' : Mem) (hf : Tr_expression_b rc n g = some (r, g')) : gMet l yX8_expression cX8_expression 4 (some .int) (fr0 + 6) (lo0 + 136) D X idsC E [.ref (E.1 7 0)] g (some (.int r)) g' := by
  rw [Tr_expression_b] at hf
  refine gt_code (by decide) (Nat.le_of_ble_eq_true rfl) (fun p en s m below meth c ls G hr hk hw hl => ?_)
  have hl : lv_has ls 4 [(0, .ref (E.1 7 0))] := hl
  refine lv_aload_n G.1 G.2.1 dX8_expression_0 rfl (lv_at hl 0 rfl) ?_
  obtain ⟨z1, hcz1, hf⟩ := bd_some hf
  refine g_callV1 (As := []) (rest := []) G hw (gA_mono hw.2.2.2.1.1) C_7 iC_7 mv_X8_164 (c_Tr_sum l D X E n rc fr0 lo0 hfr0 hlo0 hrc g z1.1 z1.2 hcz1) hl.1 rfl rfl (Nat.le_of_ble_eq_true rfl) (by dsimp only; omega) (by dsimp only; omega) ⟨Nat.le_refl _, Nat.le_refl _⟩ dX8_expression_1 (fun H locs hw => ?_)
  refine lv_istore_n (lv' := [(1, .int z1.1), (0, .ref (E.1 7 0))]) G.1 G.2.1 dX8_expression_4 rfl hl (by decide) rfl (fun ls hl => ?_)
  refine lv_iload_n G.1 G.2.1 dX8_expression_5 rfl (lv_at hl 0 rfl) ?_
  refine lv_sipush (v := (-209 : Int32)) G.1 G.2.1 dX8_expression_6 (by decide) ?_
  refine lv_icmp_ne (tgt := 14) G.1 G.2.1 dX8_expression_9 (by decide) (fun hc9 => ?_) (fun hc9 => ?_)
  · rw [if_neg hc9] at hf
    refine lv_aload_n G.1 G.2.1 dX8_expression_14 rfl (lv_at hl 1 rfl) ?_
    refine g_getC G hw C_7 iC_7 0 5 rfl (by decide) rfl fl_X8_14 dX8_expression_15 ?_
    obtain ⟨z2, hcz2, hf⟩ := bd_some hf
    refine g_callV1 (As := []) (rest := []) G hw (gA_mono hw.2.2.2.1.1) C_5 iC_5 mv_X8_167 (c_Rd_look l D X E n z1.2 z2.1 z2.2 hcz2) hl.1 rfl rfl (Nat.le_of_ble_eq_true rfl) (by dsimp only; omega) (by dsimp only; omega) ⟨Nat.le_refl _, Nat.le_refl _⟩ dX8_expression_18 (fun H locs hw => ?_)
    refine lv_istore_n (lv' := [(2, .int z2.1), (1, .int z1.1), (0, .ref (E.1 7 0))]) G.1 G.2.1 dX8_expression_21 rfl hl (by decide) rfl (fun ls hl => ?_)
    refine lv_iload_n G.1 G.2.1 dX8_expression_22 rfl (lv_at hl 0 rfl) ?_
    refine lv_bipush (v := (60 : Int32)) G.1 G.2.1 dX8_expression_23 (by decide) ?_
    obtain ⟨j3, ej3, hf⟩ := lt9_some hf
    have hj3 : ∀ (_u : Unit) (H : Heap) (locs : List Loc) (ls : Array Slot), j3 _u = some (r, g') → GW D X idsC E (gA X idsC E s.heap.size) s z2.2 H locs → lv_has ls 4 [(0, .ref (E.1 7 0)), (1, .int z1.1), (2, .int z2.1)] → W p l en { frames := (fr0 + 6), cells := 0, slots := 0, locals := (lo0 + 136) } s m [.ref (E.1 7 0)].toArray below meth c H locs 0 0 (MQ below (gQ (some (.int r)) (GP D X idsC E g') (gA X idsC E s.heap.size)) [.ref (E.1 7 0)].toArray s 0 0 (gA X idsC E s.heap.size)) (F0 m 36 ls []) := by
      intro _u H locs ls hf hw hl
      rw [ej3] at hf
      dsimp only at hf
      refine lv_aload_n G.1 G.2.1 dX8_expression_36 rfl (lv_at hl 0 rfl) ?_
      refine g_getC G hw C_7 iC_7 0 5 rfl (by decide) rfl fl_X8_14 dX8_expression_37 ?_
      refine g_getI G hw C_5 iC_5 1 rfl fl_X8_102 dX8_expression_40 ?_
      refine lv_istore_n (lv' := [(3, .int (gI z2.2 5 0 1)), (0, .ref (E.1 7 0)), (1, .int z1.1), (2, .int z2.1)]) G.1 G.2.1 dX8_expression_43 rfl hl (by decide) rfl (fun ls hl => ?_)
      refine lv_aload_n G.1 G.2.1 dX8_expression_44 rfl (lv_at hl 1 rfl) ?_
      refine g_getC G hw C_7 iC_7 0 5 rfl (by decide) rfl fl_X8_14 dX8_expression_45 ?_
      refine lv_iconst (v := (1 : Int32)) G.1 G.2.1 dX8_expression_48 (by decide) ?_
      obtain ⟨g4, hcg4, hf⟩ := bd_some hf
      refine g_callV0 (As := [.int (1 : Int32)]) (rest := []) G hw (gA_mono hw.2.2.2.1.1) C_5 iC_5 mv_X8_103 (c_Rd_pass l D X E n (1 : Int32) z2.2 g4 hcg4) hl.1 rfl rfl (Nat.le_of_ble_eq_true rfl) (by dsimp only; omega) (by dsimp only; omega) ⟨Nat.le_refl _, Nat.le_refl _⟩ dX8_expression_49 (fun H locs hw => ?_)
      refine lv_aload_n G.1 G.2.1 dX8_expression_52 rfl (lv_at hl 1 rfl) ?_
      refine lv_iload_n G.1 G.2.1 dX8_expression_53 rfl (lv_at hl 3 rfl) ?_
      refine lv_iload_n G.1 G.2.1 dX8_expression_54 rfl (lv_at hl 2 rfl) ?_
      refine lv_aload_n G.1 G.2.1 dX8_expression_55 rfl (lv_at hl 1 rfl) ?_
      obtain ⟨z5, hcz5, hf⟩ := bd_some hf
      refine g_callV1 (As := []) (rest := [.int z1.1, .int z2.1, .ref (E.1 7 0)]) G hw (gA_mono hw.2.2.2.1.1) C_7 iC_7 mv_X8_164 (c_Tr_sum l D X E n rc fr0 lo0 hfr0 hlo0 hrc g4 z5.1 z5.2 hcz5) hl.1 rfl rfl (Nat.le_of_ble_eq_true rfl) (by dsimp only; omega) (by dsimp only; omega) ⟨Nat.le_refl _, Nat.le_refl _⟩ dX8_expression_56 (fun H locs hw => ?_)
      refine lv_iload_n G.1 G.2.1 dX8_expression_59 rfl (lv_at hl 0 rfl) ?_
      obtain ⟨z6, hcz6, hf⟩ := bd_some hf
      refine g_callV1 (As := [.int z2.1, .int z1.1, .int z5.1, .int (gI z2.2 5 0 1)]) (rest := []) G hw (gA_mono hw.2.2.2.1.1) C_7 iC_7 mv_X8_121 (c_Tr_add l D X E n z2.1 z1.1 z5.1 (gI z2.2 5 0 1) z5.2 z6.1 z6.2 hcz6) hl.1 rfl rfl (Nat.le_of_ble_eq_true rfl) (by dsimp only; omega) (by dsimp only; omega) ⟨Nat.le_refl _, Nat.le_refl _⟩ dX8_expression_60 (fun H locs hw => ?_)
      exact g_iretW G hr hk hf hw dX8_expression_63
    refine lv_icmp_eq (tgt := 36) G.1 G.2.1 dX8_expression_25 (by decide) (fun hc25 => ?_) (fun hc25 => ?_)
    · rw [if_pos hc25] at hf
      exact hj3 () _ _ ls hf hw (lv_sub hl [2, 1, 0] rfl)
    · rw [if_neg hc25] at hf
      refine lv_iload_n G.1 G.2.1 dX8_expression_28 rfl (lv_at hl 0 rfl) ?_
      refine lv_bipush (v := (61 : Int32)) G.1 G.2.1 dX8_expression_29 (by decide) ?_
      refine lv_icmp_eq (tgt := 36) G.1 G.2.1 dX8_expression_31 (by decide) (fun hc31 => ?_) (fun hc31 => ?_)
      · rw [if_pos hc31] at hf
        exact hj3 () _ _ ls hf hw (lv_sub hl [2, 1, 0] rfl)
      · rw [if_neg hc31] at hf
        refine lv_iload_n G.1 G.2.1 dX8_expression_34 rfl (lv_at hl 1 rfl) ?_
        exact g_iretW G hr hk hf hw dX8_expression_35
  · rw [if_pos hc9] at hf
    refine lv_iload_n G.1 G.2.1 dX8_expression_12 rfl (lv_at hl 0 rfl) ?_
    exact g_iretW G hr hk hf hw dX8_expression_13
theorem c_Tr_expression (l : Launch) (D : va_G) (X : va_W) (E : gE) (n : Nat) : ∀ (d : Nat) (g : Mem) (r : Int32) (g' : Mem), Tr_expression n d g = some (r, g') → gMet l yX8_expression cX8_expression 4 (some .int) (7 + d * 6) (322 + d * 136) D X idsC E [.ref (E.1 7 0)] g (some (.int r)) g' := by
  intro d
  induction d with
  | zero => intro g r g' hf; rw [Tr_expression] at hf; cases hf
  | succ d ih =>
    intro g r g' hf
    rw [Tr_expression] at hf
    rw [show 7 + (d + 1) * 6 = (7 + d * 6) + 6 by omega, show 322 + (d + 1) * 136 = (322 + d * 136) + 136 by omega]
    exact c_Tr_expression_b l D X E n (Tr_expression n d) _ _ (Nat.le_add_right _ _) (Nat.le_add_right _ _) ih g r g' hf

set_option maxHeartbeats 4000000 in
set_option maxRecDepth 100000 in
theorem c_Tr_assignment (l : Launch) (D : va_G) (X : va_W) (E : gE) (n : Nat) (a1 : Int32) (g : Mem) (r : Int32) (g' : Mem) (hf : Tr_assignment n a1 g = some (r, g')) : gMet l yX8_assignment cX8_assignment 4 (some .boolean) 188 4425 D X idsC E [.ref (E.1 7 0), .int a1] g (some (.int r)) g' := by
  rw [Tr_assignment] at hf
  refine gt_code (by decide) (Nat.le_of_ble_eq_true rfl) (fun p en s m below meth c ls G hr hk hw hl => ?_)
  have hl : lv_has ls 4 [(0, .ref (E.1 7 0)), (1, .int a1)] := hl
  refine lv_aload_n G.1 G.2.1 dX8_assignment_0 rfl (lv_at hl 0 rfl) ?_
  refine g_getC G hw C_7 iC_7 0 5 rfl (by decide) rfl fl_X8_14 dX8_assignment_1 ?_
  refine g_getI G hw C_5 iC_5 1 rfl fl_X8_102 dX8_assignment_4 ?_
  refine lv_istore_n (lv' := [(2, .int (gI g 5 0 1)), (0, .ref (E.1 7 0)), (1, .int a1)]) G.1 G.2.1 dX8_assignment_7 rfl hl (by decide) rfl (fun ls hl => ?_)
  refine lv_aload_n G.1 G.2.1 dX8_assignment_8 rfl (lv_at hl 1 rfl) ?_
  refine g_getC G hw C_7 iC_7 0 5 rfl (by decide) rfl fl_X8_14 dX8_assignment_9 ?_
  refine lv_iconst (v := (1 : Int32)) G.1 G.2.1 dX8_assignment_12 (by decide) ?_
  obtain ⟨g1, hcg1, hf⟩ := bd_some hf
  refine g_callV0 (As := [.int (1 : Int32)]) (rest := []) G hw (gA_mono hw.2.2.2.1.1) C_5 iC_5 mv_X8_103 (c_Rd_pass l D X E n (1 : Int32) g g1 hcg1) hl.1 rfl rfl (Nat.le_of_ble_eq_true rfl) (Nat.le_of_ble_eq_true rfl) (Nat.le_of_ble_eq_true rfl) ⟨Nat.le_refl _, Nat.le_refl _⟩ dX8_assignment_13 (fun H locs hw => ?_)
  refine lv_aload_n G.1 G.2.1 dX8_assignment_16 rfl (lv_at hl 1 rfl) ?_
  refine g_getC G hw C_7 iC_7 1 8 rfl (by decide) rfl fl_X8_23 dX8_assignment_17 ?_
  obtain ⟨g2, hcg2, hf⟩ := bd_some hf
  refine g_callV0 (As := []) (rest := []) G hw (gA_mono hw.2.2.2.1.1) C_8 iC_8 mv_X8_107 (c_Wy_openBlock l D X E n g1 g2 hcg2) hl.1 rfl rfl (Nat.le_of_ble_eq_true rfl) (Nat.le_of_ble_eq_true rfl) (Nat.le_of_ble_eq_true rfl) ⟨Nat.le_refl _, Nat.le_refl _⟩ dX8_assignment_20 (fun H locs hw => ?_)
  refine lv_aload_n G.1 G.2.1 dX8_assignment_23 rfl (lv_at hl 1 rfl) ?_
  refine lv_bipush (v := (61 : Int32)) G.1 G.2.1 dX8_assignment_24 (by decide) ?_
  obtain ⟨z3, hcz3, hf⟩ := bd_some hf
  refine g_callV1 (As := [.int (61 : Int32)]) (rest := []) G hw (gA_mono hw.2.2.2.1.1) C_7 iC_7 mv_X8_110 (c_Tr_passes l D X E n (61 : Int32) g2 z3.1 z3.2 hcz3) hl.1 rfl rfl (Nat.le_of_ble_eq_true rfl) (Nat.le_of_ble_eq_true rfl) (Nat.le_of_ble_eq_true rfl) ⟨Nat.le_refl _, Nat.le_refl _⟩ dX8_assignment_26 (fun H locs hw => ?_)
  refine lv_if_ne (tgt := 34) G.1 G.2.1 dX8_assignment_29 (by decide) (fun hc29 => ?_) (fun hc29 => ?_)
  · rw [if_neg hc29] at hf
    refine lv_aload_n G.1 G.2.1 dX8_assignment_34 rfl (lv_at hl 1 rfl) ?_
    obtain ⟨z4, hcz4, hf⟩ := bd_some hf
    refine g_callV1 (As := []) (rest := []) G hw (gA_mono hw.2.2.2.1.1) C_7 iC_7 mv_X8_113 (c_Tr_expression l D X E n 30 z3.2 z4.1 z4.2 hcz4) hl.1 rfl rfl (Nat.le_of_ble_eq_true rfl) (Nat.le_of_ble_eq_true rfl) (Nat.le_of_ble_eq_true rfl) ⟨Nat.le_refl _, Nat.le_refl _⟩ dX8_assignment_35 (fun H locs hw => ?_)
    refine lv_istore_n (lv' := [(3, .int z4.1), (2, .int (gI g 5 0 1)), (0, .ref (E.1 7 0)), (1, .int a1)]) G.1 G.2.1 dX8_assignment_38 rfl hl (by decide) rfl (fun ls hl => ?_)
    refine lv_iload_n G.1 G.2.1 dX8_assignment_39 rfl (lv_at hl 0 rfl) ?_
    refine lv_sipush (v := (-209 : Int32)) G.1 G.2.1 dX8_assignment_40 (by decide) ?_
    refine lv_icmp_eq (tgt := 55) G.1 G.2.1 dX8_assignment_43 (by decide) (fun hc43 => ?_) (fun hc43 => ?_)
    · rw [if_pos hc43] at hf
      refine lv_iconst (v := (0 : Int32)) G.1 G.2.1 dX8_assignment_55 (by decide) ?_
      exact g_zretW G hr rfl hk hf hw dX8_assignment_56
    · rw [if_neg hc43] at hf
      refine lv_aload_n G.1 G.2.1 dX8_assignment_46 rfl (lv_at hl 2 rfl) ?_
      refine lv_bipush (v := (59 : Int32)) G.1 G.2.1 dX8_assignment_47 (by decide) ?_
      obtain ⟨z5, hcz5, hf⟩ := bd_some hf
      refine g_callV1 (As := [.int (59 : Int32)]) (rest := []) G hw (gA_mono hw.2.2.2.1.1) C_7 iC_7 mv_X8_110 (c_Tr_passes l D X E n (59 : Int32) z4.2 z5.1 z5.2 hcz5) hl.1 rfl rfl (Nat.le_of_ble_eq_true rfl) (Nat.le_of_ble_eq_true rfl) (Nat.le_of_ble_eq_true rfl) ⟨Nat.le_refl _, Nat.le_refl _⟩ dX8_assignment_49 (fun H locs hw => ?_)
      refine lv_if_ne (tgt := 57) G.1 G.2.1 dX8_assignment_52 (by decide) (fun hc52 => ?_) (fun hc52 => ?_)
      · rw [if_neg hc52] at hf
        refine lv_iload_n G.1 G.2.1 dX8_assignment_57 rfl (lv_at hl 0 rfl) ?_
        obtain ⟨z6, hcz6, hf⟩ := bd_some hf
        refine g_callS1 (As := [.int z4.1]) (rest := []) G hw (gA_mono hw.2.2.2.1.1)  ms_X8_118 (c_Od_isValue l D X E n z4.1 z5.2 z6 hcz6) hl.1 rfl rfl (Nat.le_of_ble_eq_true rfl) (Nat.le_of_ble_eq_true rfl) (Nat.le_of_ble_eq_true rfl) ⟨Nat.le_refl _, Nat.le_refl _⟩ dX8_assignment_58 (fun H locs hw => ?_)
        obtain ⟨j7, ej7, hf⟩ := lt9_some hf
        have hj7 : ∀ (x9 : Int32) (g10 : Mem) (H : Heap) (locs : List Loc) (ls : Array Slot), j7 x9 g10 = some (r, g') → GW D X idsC E (gA X idsC E s.heap.size) s g10 H locs → lv_has ls 4 [(0, .ref (E.1 7 0)), (1, .int a1), (3, .int x9)] → W p l en { frames := 188, cells := 0, slots := 0, locals := 4425 } s m [.ref (E.1 7 0), .int a1].toArray below meth c H locs 0 0 (MQ below (gQ (some (.int r)) (GP D X idsC E g') (gA X idsC E s.heap.size)) [.ref (E.1 7 0), .int a1].toArray s 0 0 (gA X idsC E s.heap.size)) (F0 m 73 ls []) := by
          intro x9 g10 H locs ls hf hw hl
          rw [ej7] at hf
          dsimp only at hf
          refine lv_iload_n G.1 G.2.1 dX8_assignment_73 rfl (lv_at hl 2 rfl) ?_
          refine lv_sipush (v := (-209 : Int32)) G.1 G.2.1 dX8_assignment_74 (by decide) ?_
          refine lv_icmp_ne (tgt := 82) G.1 G.2.1 dX8_assignment_77 (by decide) (fun hc77 => ?_) (fun hc77 => ?_)
          · rw [if_neg hc77] at hf
            refine lv_aload_n G.1 G.2.1 dX8_assignment_82 rfl (lv_at hl 0 rfl) ?_
            obtain ⟨p11, hep11, hf⟩ := bd_some hf
            obtain ⟨hvp11, hf⟩ := ck_some hf
            refine g_getR G hw C_7 iC_7 2 4 rfl rfl fl_X8_31 hep11 dX8_assignment_83 ?_
            refine g_getC G hw C_4 (iC_4 hvp11) 0 31 rfl (by decide) rfl fl_X8_125 dX8_assignment_86 ?_
            refine lv_iload_n G.1 G.2.1 dX8_assignment_89 rfl (lv_at hl 2 rfl) ?_
            obtain ⟨z12, hcz12, hf⟩ := bd_some hf
            refine g_callS1 (As := [.int x9]) (rest := [.ref (E.1 31 p11)]) G hw (gA_mono hw.2.2.2.1.1)  ms_X8_129 (c_Od_operationOf l D X E n x9 g10 z12 hcz12) hl.1 rfl rfl (Nat.le_of_ble_eq_true rfl) (Nat.le_of_ble_eq_true rfl) (Nat.le_of_ble_eq_true rfl) ⟨Nat.le_refl _, Nat.le_refl _⟩ dX8_assignment_90 (fun H locs hw => ?_)
            obtain ⟨j13, hj13, hf⟩ := bd_some hf
            refine g_oald G hw (iC_31 hvp11) (by decide) rfl hj13 dX8_assignment_93 ?_
            refine lv_iload_n G.1 G.2.1 dX8_assignment_94 rfl (lv_at hl 1 rfl) ?_
            obtain ⟨g14, eg14, hf⟩ := lt9_some hf
            refine g_putI G hw C_3 (iC_3 (v_3 hvp11 hj13)) 5 rfl fl_X8_133 rfl rfl rfl dX8_assignment_95 (fun H locs hw => ?_)
            rw [← eg14] at hw
            refine lv_iconst (v := (1 : Int32)) G.1 G.2.1 dX8_assignment_98 (by decide) ?_
            exact g_zretW G hr rfl hk hf hw dX8_assignment_99
          · rw [if_pos hc77] at hf
            refine lv_iconst (v := (0 : Int32)) G.1 G.2.1 dX8_assignment_80 (by decide) ?_
            exact g_zretW G hr rfl hk hf hw dX8_assignment_81
        refine lv_if_ne (tgt := 73) G.1 G.2.1 dX8_assignment_61 (by decide) (fun hc61 => ?_) (fun hc61 => ?_)
        · rw [if_neg hc61] at hf
          exact hj7 z4.1 z5.2 _ _ ls hf hw (lv_sub hl [2, 3, 0] rfl)
        · rw [if_pos hc61] at hf
          refine lv_aload_n G.1 G.2.1 dX8_assignment_64 rfl (lv_at hl 2 rfl) ?_
          refine lv_iconst (v := (3 : Int32)) G.1 G.2.1 dX8_assignment_65 (by decide) ?_
          refine lv_iload_n G.1 G.2.1 dX8_assignment_66 rfl (lv_at hl 0 rfl) ?_
          refine lv_iconst (v := (0 : Int32)) G.1 G.2.1 dX8_assignment_67 (by decide) ?_
          refine lv_iload_n G.1 G.2.1 dX8_assignment_68 rfl (lv_at hl 1 rfl) ?_
          obtain ⟨z8, hcz8, hf⟩ := bd_some hf
          refine g_callV1 (As := [.int (3 : Int32), .int z4.1, .int (0 : Int32), .int (gI g 5 0 1)]) (rest := []) G hw (gA_mono hw.2.2.2.1.1) C_7 iC_7 mv_X8_121 (c_Tr_add l D X E n (3 : Int32) z4.1 (0 : Int32) (gI g 5 0 1) z5.2 z8.1 z8.2 hcz8) hl.1 rfl rfl (Nat.le_of_ble_eq_true rfl) (Nat.le_of_ble_eq_true rfl) (Nat.le_of_ble_eq_true rfl) ⟨Nat.le_refl _, Nat.le_refl _⟩ dX8_assignment_69 (fun H locs hw => ?_)
          refine lv_istore_n (lv' := [(3, .int z8.1), (2, .int (gI g 5 0 1)), (0, .ref (E.1 7 0)), (1, .int a1)]) G.1 G.2.1 dX8_assignment_72 rfl hl (by decide) rfl (fun ls hl => ?_)
          exact hj7 z8.1 z8.2 _ _ ls hf hw (lv_sub hl [2, 3, 0] rfl)
      · rw [if_pos hc52] at hf
        refine lv_iconst (v := (0 : Int32)) G.1 G.2.1 dX8_assignment_55 (by decide) ?_
        exact g_zretW G hr rfl hk hf hw dX8_assignment_56
  · rw [if_pos hc29] at hf
    refine lv_iconst (v := (0 : Int32)) G.1 G.2.1 dX8_assignment_32 (by decide) ?_
    exact g_zretW G hr rfl hk hf hw dX8_assignment_33

set_option maxHeartbeats 4000000 in
set_option maxRecDepth 100000 in
theorem c_Tr_body (l : Launch) (D : va_G) (X : va_W) (E : gE) (n : Nat) (rc : Mem → Option (Int32 × Mem)) (fr0 lo0 : Nat) (hfr0 : 190 ≤ fr0) (hlo0 : 4471 ≤ lo0) (hrc : ∀ (g : Mem) (r : Int32) (g' : Mem), rc g = some (r, g') → gMet l yX8_statements cX8_statements 2 (some .boolean) fr0 lo0 D X idsC E [.ref (E.1 7 0)] g (some (.int r)) g') (a1 : Int32) (g : Mem) (r : Int32) (g' : Mem) (hf : Tr_body rc n a1 g = some (r, g')) : gMet l yX8_body cX8_body 2 (some .boolean) (fr0 + 1) (lo0 + 21) D X idsC E [.ref (E.1 7 0), .int a1] g (some (.int r)) g' := by
  rw [Tr_body] at hf
  refine gt_code (by decide) (Nat.le_of_ble_eq_true rfl) (fun p en s m below meth c ls G hr hk hw hl => ?_)
  have hl : lv_has ls 2 [(0, .ref (E.1 7 0)), (1, .int a1)] := hl
  refine lv_aload_n G.1 G.2.1 dX8_body_0 rfl (lv_at hl 0 rfl) ?_
  refine lv_bipush (v := (123 : Int32)) G.1 G.2.1 dX8_body_1 (by decide) ?_
  obtain ⟨z1, hcz1, hf⟩ := bd_some hf
  refine g_callV1 (As := [.int (123 : Int32)]) (rest := []) G hw (gA_mono hw.2.2.2.1.1) C_7 iC_7 mv_X8_60 (c_Tr_meets l D X E n (123 : Int32) g z1.1 z1.2 hcz1) hl.1 rfl rfl (Nat.le_of_ble_eq_true rfl) (by dsimp only; omega) (by dsimp only; omega) ⟨Nat.le_refl _, Nat.le_refl _⟩ dX8_body_3 (fun H locs hw => ?_)
  refine lv_if_ne (tgt := 11) G.1 G.2.1 dX8_body_6 (by decide) (fun hc6 => ?_) (fun hc6 => ?_)
  · rw [if_neg hc6] at hf
    refine lv_aload_n G.1 G.2.1 dX8_body_11 rfl (lv_at hl 0 rfl) ?_
    refine g_getI G hw C_7 iC_7 3 rfl fl_X8_47 dX8_body_12 ?_
    refine lv_bipush (v := (10 : Int32)) G.1 G.2.1 dX8_body_15 (by decide) ?_
    refine lv_icmp_ne (tgt := 26) G.1 G.2.1 dX8_body_17 (by decide) (fun hc17 => ?_) (fun hc17 => ?_)
    · rw [if_neg hc17] at hf
      refine lv_aload_n G.1 G.2.1 dX8_body_26 rfl (lv_at hl 0 rfl) ?_
      refine lv_dup G.1 G.2.1 dX8_body_27 rfl ?_
      refine g_getI G hw C_7 iC_7 3 rfl fl_X8_47 dX8_body_28 ?_
      refine lv_iconst (v := (1 : Int32)) G.1 G.2.1 dX8_body_31 (by decide) ?_
      refine lv_iadd G.1 G.2.1 dX8_body_32 ?_
      obtain ⟨g2, eg2, hf⟩ := lt9_some hf
      refine g_putI G hw C_7 iC_7 3 rfl fl_X8_47 rfl rfl rfl dX8_body_33 (fun H locs hw => ?_)
      rw [← eg2] at hw
      refine lv_aload_n G.1 G.2.1 dX8_body_36 rfl (lv_at hl 0 rfl) ?_
      refine g_getC G hw C_7 iC_7 0 5 rfl (by decide) rfl fl_X8_14 dX8_body_37 ?_
      refine lv_iconst (v := (1 : Int32)) G.1 G.2.1 dX8_body_40 (by decide) ?_
      obtain ⟨g3, hcg3, hf⟩ := bd_some hf
      refine g_callV0 (As := [.int (1 : Int32)]) (rest := []) G hw (gA_mono hw.2.2.2.1.1) C_5 iC_5 mv_X8_103 (c_Rd_pass l D X E n (1 : Int32) g2 g3 hcg3) hl.1 rfl rfl (Nat.le_of_ble_eq_true rfl) (by dsimp only; omega) (by dsimp only; omega) ⟨Nat.le_refl _, Nat.le_refl _⟩ dX8_body_41 (fun H locs hw => ?_)
      refine lv_aload_n G.1 G.2.1 dX8_body_44 rfl (lv_at hl 0 rfl) ?_
      refine g_getC G hw C_7 iC_7 1 8 rfl (by decide) rfl fl_X8_23 dX8_body_45 ?_
      refine lv_iload_n G.1 G.2.1 dX8_body_48 rfl (lv_at hl 1 rfl) ?_
      obtain ⟨g4, hcg4, hf⟩ := bd_some hf
      refine g_callV0 (As := [.int a1]) (rest := []) G hw (gA_mono hw.2.2.2.1.1) C_8 iC_8 mv_X8_157 (c_Wy_standAt l D X E n a1 g3 g4 hcg4) hl.1 rfl rfl (Nat.le_of_ble_eq_true rfl) (by dsimp only; omega) (by dsimp only; omega) ⟨Nat.le_refl _, Nat.le_refl _⟩ dX8_body_49 (fun H locs hw => ?_)
      refine lv_aload_n G.1 G.2.1 dX8_body_52 rfl (lv_at hl 0 rfl) ?_
      obtain ⟨z5, hcz5, hf⟩ := bd_some hf
      refine g_callV1 (As := []) (rest := []) G hw (gA_mono hw.2.2.2.1.1) C_7 iC_7 mv_X8_56 (hrc g4 z5.1 z5.2 hcz5) hl.1 rfl rfl (Nat.le_of_ble_eq_true rfl) (by dsimp only; omega) (by dsimp only; omega) ⟨Nat.le_refl _, Nat.le_refl _⟩ dX8_body_53 (fun H locs hw => ?_)
      refine lv_if_eq (tgt := 68) G.1 G.2.1 dX8_body_56 (by decide) (fun hc56 => ?_) (fun hc56 => ?_)
      · rw [if_pos hc56] at hf
        refine lv_iconst (v := (0 : Int32)) G.1 G.2.1 dX8_body_68 (by decide) ?_
        exact g_zretW G hr rfl hk hf hw dX8_body_69
      · rw [if_neg hc56] at hf
        refine lv_aload_n G.1 G.2.1 dX8_body_59 rfl (lv_at hl 0 rfl) ?_
        refine lv_bipush (v := (125 : Int32)) G.1 G.2.1 dX8_body_60 (by decide) ?_
        obtain ⟨z6, hcz6, hf⟩ := bd_some hf
        refine g_callV1 (As := [.int (125 : Int32)]) (rest := []) G hw (gA_mono hw.2.2.2.1.1) C_7 iC_7 mv_X8_110 (c_Tr_passes l D X E n (125 : Int32) z5.2 z6.1 z6.2 hcz6) hl.1 rfl rfl (Nat.le_of_ble_eq_true rfl) (by dsimp only; omega) (by dsimp only; omega) ⟨Nat.le_refl _, Nat.le_refl _⟩ dX8_body_62 (fun H locs hw => ?_)
        refine lv_if_ne (tgt := 70) G.1 G.2.1 dX8_body_65 (by decide) (fun hc65 => ?_) (fun hc65 => ?_)
        · rw [if_neg hc65] at hf
          refine lv_aload_n G.1 G.2.1 dX8_body_70 rfl (lv_at hl 0 rfl) ?_
          refine lv_dup G.1 G.2.1 dX8_body_71 rfl ?_
          refine g_getI G hw C_7 iC_7 3 rfl fl_X8_47 dX8_body_72 ?_
          refine lv_iconst (v := (1 : Int32)) G.1 G.2.1 dX8_body_75 (by decide) ?_
          refine lv_isub G.1 G.2.1 dX8_body_76 ?_
          obtain ⟨g7, eg7, hf⟩ := lt9_some hf
          refine g_putI G hw C_7 iC_7 3 rfl fl_X8_47 rfl rfl rfl dX8_body_77 (fun H locs hw => ?_)
          rw [← eg7] at hw
          refine lv_iconst (v := (1 : Int32)) G.1 G.2.1 dX8_body_80 (by decide) ?_
          exact g_zretW G hr rfl hk hf hw dX8_body_81
        · rw [if_pos hc65] at hf
          refine lv_iconst (v := (0 : Int32)) G.1 G.2.1 dX8_body_68 (by decide) ?_
          exact g_zretW G hr rfl hk hf hw dX8_body_69
    · rw [if_pos hc17] at hf
      refine lv_aload_n G.1 G.2.1 dX8_body_20 rfl (lv_at hl 0 rfl) ?_
      refine lv_iconst (v := (3 : Int32)) G.1 G.2.1 dX8_body_21 (by decide) ?_
      obtain ⟨z8, hcz8, hf⟩ := bd_some hf
      refine g_callV1 (As := [.int (3 : Int32)]) (rest := []) G hw (gA_mono hw.2.2.2.1.1) C_7 iC_7 mv_X8_96 (c_Tr_refuseHere l D X E n (3 : Int32) z1.2 z8.1 z8.2 hcz8) hl.1 rfl rfl (Nat.le_of_ble_eq_true rfl) (by dsimp only; omega) (by dsimp only; omega) ⟨Nat.le_refl _, Nat.le_refl _⟩ dX8_body_22 (fun H locs hw => ?_)
      obtain ⟨hz9, hf⟩ := ck_some hf
      exact g_zretW G hr (zn hz9) hk hf hw dX8_body_25
  · rw [if_pos hc6] at hf
    refine lv_iconst (v := (0 : Int32)) G.1 G.2.1 dX8_body_9 (by decide) ?_
    exact g_zretW G hr rfl hk hf hw dX8_body_10

set_option maxHeartbeats 4000000 in
set_option maxRecDepth 100000 in
theorem c_Tr_choice (l : Launch) (D : va_G) (X : va_W) (E : gE) (n : Nat) (a1 : Int32) (a2 : Int32) (g : Mem) (r : Int32) (g' : Mem) (hf : Tr_choice n a1 a2 g = some (r, g')) : gMet l yX8_choice cX8_choice 4 (some .boolean) 188 4425 D X idsC E [.ref (E.1 7 0), .int a1, .int a2] g (some (.int r)) g' := by
  rw [Tr_choice] at hf
  refine gt_code (by decide) (Nat.le_of_ble_eq_true rfl) (fun p en s m below meth c ls G hr hk hw hl => ?_)
  have hl : lv_has ls 4 [(0, .ref (E.1 7 0)), (1, .int a1), (2, .int a2)] := hl
  refine lv_aload_n G.1 G.2.1 dX8_choice_0 rfl (lv_at hl 0 rfl) ?_
  refine g_getC G hw C_7 iC_7 1 8 rfl (by decide) rfl fl_X8_23 dX8_choice_1 ?_
  obtain ⟨g1, hcg1, hf⟩ := bd_some hf
  refine g_callV0 (As := []) (rest := []) G hw (gA_mono hw.2.2.2.1.1) C_8 iC_8 mv_X8_107 (c_Wy_openBlock l D X E n g g1 hcg1) hl.1 rfl rfl (Nat.le_of_ble_eq_true rfl) (Nat.le_of_ble_eq_true rfl) (Nat.le_of_ble_eq_true rfl) ⟨Nat.le_refl _, Nat.le_refl _⟩ dX8_choice_4 (fun H locs hw => ?_)
  refine lv_aload_n G.1 G.2.1 dX8_choice_7 rfl (lv_at hl 0 rfl) ?_
  obtain ⟨z2, hcz2, hf⟩ := bd_some hf
  refine g_callV1 (As := []) (rest := []) G hw (gA_mono hw.2.2.2.1.1) C_7 iC_7 mv_X8_113 (c_Tr_expression l D X E n 30 g1 z2.1 z2.2 hcz2) hl.1 rfl rfl (Nat.le_of_ble_eq_true rfl) (Nat.le_of_ble_eq_true rfl) (Nat.le_of_ble_eq_true rfl) ⟨Nat.le_refl _, Nat.le_refl _⟩ dX8_choice_8 (fun H locs hw => ?_)
  refine lv_istore_n (lv' := [(3, .int z2.1), (0, .ref (E.1 7 0)), (1, .int a1), (2, .int a2)]) G.1 G.2.1 dX8_choice_11 rfl hl (by decide) rfl (fun ls hl => ?_)
  refine lv_iload_n G.1 G.2.1 dX8_choice_12 rfl (lv_at hl 0 rfl) ?_
  refine lv_sipush (v := (-209 : Int32)) G.1 G.2.1 dX8_choice_13 (by decide) ?_
  refine lv_icmp_ne (tgt := 21) G.1 G.2.1 dX8_choice_16 (by decide) (fun hc16 => ?_) (fun hc16 => ?_)
  · rw [if_neg hc16] at hf
    refine lv_aload_n G.1 G.2.1 dX8_choice_21 rfl (lv_at hl 1 rfl) ?_
    refine g_getC G hw C_7 iC_7 1 8 rfl (by decide) rfl fl_X8_23 dX8_choice_22 ?_
    refine lv_iload_n G.1 G.2.1 dX8_choice_25 rfl (lv_at hl 0 rfl) ?_
    refine lv_iload_n G.1 G.2.1 dX8_choice_26 rfl (lv_at hl 2 rfl) ?_
    refine lv_iload_n G.1 G.2.1 dX8_choice_27 rfl (lv_at hl 3 rfl) ?_
    obtain ⟨g3, hcg3, hf⟩ := bd_some hf
    refine g_callV0 (As := [.int z2.1, .int a1, .int a2]) (rest := []) G hw (gA_mono hw.2.2.2.1.1) C_8 iC_8 mv_X8_160 (c_Wy_choose l D X E n z2.1 a1 a2 z2.2 g3 hcg3) hl.1 rfl rfl (Nat.le_of_ble_eq_true rfl) (Nat.le_of_ble_eq_true rfl) (Nat.le_of_ble_eq_true rfl) ⟨Nat.le_refl _, Nat.le_refl _⟩ dX8_choice_28 (fun H locs hw => ?_)
    refine lv_iconst (v := (1 : Int32)) G.1 G.2.1 dX8_choice_31 (by decide) ?_
    exact g_zretW G hr rfl hk hf hw dX8_choice_32
  · rw [if_pos hc16] at hf
    refine lv_iconst (v := (0 : Int32)) G.1 G.2.1 dX8_choice_19 (by decide) ?_
    exact g_zretW G hr rfl hk hf hw dX8_choice_20

set_option maxHeartbeats 4000000 in
set_option maxRecDepth 100000 in
theorem c_Tr_ifStatement (l : Launch) (D : va_G) (X : va_W) (E : gE) (n : Nat) (rc : Mem → Option (Int32 × Mem)) (fr0 lo0 : Nat) (hfr0 : 190 ≤ fr0) (hlo0 : 4471 ≤ lo0) (hrc : ∀ (g : Mem) (r : Int32) (g' : Mem), rc g = some (r, g') → gMet l yX8_statements cX8_statements 2 (some .boolean) fr0 lo0 D X idsC E [.ref (E.1 7 0)] g (some (.int r)) g') (g : Mem) (r : Int32) (g' : Mem) (hf : Tr_ifStatement rc n g = some (r, g')) : gMet l yX8_ifStatement cX8_ifStatement 4 (some .boolean) (fr0 + 2) (lo0 + 42) D X idsC E [.ref (E.1 7 0)] g (some (.int r)) g' := by
  rw [Tr_ifStatement] at hf
  refine gt_code (by decide) (Nat.le_of_ble_eq_true rfl) (fun p en s m below meth c ls G hr hk hw hl => ?_)
  have hl : lv_has ls 4 [(0, .ref (E.1 7 0))] := hl
  refine lv_aload_n G.1 G.2.1 dX8_ifStatement_0 rfl (lv_at hl 0 rfl) ?_
  refine g_getC G hw C_7 iC_7 0 5 rfl (by decide) rfl fl_X8_14 dX8_ifStatement_1 ?_
  refine lv_iconst (v := (2 : Int32)) G.1 G.2.1 dX8_ifStatement_4 (by decide) ?_
  obtain ⟨g1, hcg1, hf⟩ := bd_some hf
  refine g_callV0 (As := [.int (2 : Int32)]) (rest := []) G hw (gA_mono hw.2.2.2.1.1) C_5 iC_5 mv_X8_103 (c_Rd_pass l D X E n (2 : Int32) g g1 hcg1) hl.1 rfl rfl (Nat.le_of_ble_eq_true rfl) (by dsimp only; omega) (by dsimp only; omega) ⟨Nat.le_refl _, Nat.le_refl _⟩ dX8_ifStatement_5 (fun H locs hw => ?_)
  refine lv_aload_n G.1 G.2.1 dX8_ifStatement_8 rfl (lv_at hl 0 rfl) ?_
  refine g_getC G hw C_7 iC_7 1 8 rfl (by decide) rfl fl_X8_23 dX8_ifStatement_9 ?_
  obtain ⟨z2, hcz2, hf⟩ := bd_some hf
  refine g_callV1 (As := []) (rest := []) G hw (gA_mono hw.2.2.2.1.1) C_8 iC_8 mv_X8_142 (c_Wy_addJoint l D X E n g1 z2.1 z2.2 hcz2) hl.1 rfl rfl (Nat.le_of_ble_eq_true rfl) (by dsimp only; omega) (by dsimp only; omega) ⟨Nat.le_refl _, Nat.le_refl _⟩ dX8_ifStatement_12 (fun H locs hw => ?_)
  refine lv_istore_n (lv' := [(1, .int z2.1), (0, .ref (E.1 7 0))]) G.1 G.2.1 dX8_ifStatement_15 rfl hl (by decide) rfl (fun ls hl => ?_)
  refine lv_aload_n G.1 G.2.1 dX8_ifStatement_16 rfl (lv_at hl 1 rfl) ?_
  refine g_getC G hw C_7 iC_7 1 8 rfl (by decide) rfl fl_X8_23 dX8_ifStatement_17 ?_
  obtain ⟨z3, hcz3, hf⟩ := bd_some hf
  refine g_callV1 (As := []) (rest := []) G hw (gA_mono hw.2.2.2.1.1) C_8 iC_8 mv_X8_142 (c_Wy_addJoint l D X E n z2.2 z3.1 z3.2 hcz3) hl.1 rfl rfl (Nat.le_of_ble_eq_true rfl) (by dsimp only; omega) (by dsimp only; omega) ⟨Nat.le_refl _, Nat.le_refl _⟩ dX8_ifStatement_20 (fun H locs hw => ?_)
  refine lv_istore_n (lv' := [(2, .int z3.1), (1, .int z2.1), (0, .ref (E.1 7 0))]) G.1 G.2.1 dX8_ifStatement_23 rfl hl (by decide) rfl (fun ls hl => ?_)
  refine lv_aload_n G.1 G.2.1 dX8_ifStatement_24 rfl (lv_at hl 2 rfl) ?_
  refine lv_iload_n G.1 G.2.1 dX8_ifStatement_25 rfl (lv_at hl 1 rfl) ?_
  refine lv_iload_n G.1 G.2.1 dX8_ifStatement_26 rfl (lv_at hl 0 rfl) ?_
  obtain ⟨z4, hcz4, hf⟩ := bd_some hf
  refine g_callV1 (As := [.int z2.1, .int z3.1]) (rest := []) G hw (gA_mono hw.2.2.2.1.1) C_7 iC_7 mv_X8_145 (c_Tr_choice l D X E n z2.1 z3.1 z3.2 z4.1 z4.2 hcz4) hl.1 rfl rfl (Nat.le_of_ble_eq_true rfl) (by dsimp only; omega) (by dsimp only; omega) ⟨Nat.le_refl _, Nat.le_refl _⟩ dX8_ifStatement_27 (fun H locs hw => ?_)
  refine lv_if_eq (tgt := 41) G.1 G.2.1 dX8_ifStatement_30 (by decide) (fun hc30 => ?_) (fun hc30 => ?_)
  · rw [if_pos hc30] at hf
    refine lv_iconst (v := (0 : Int32)) G.1 G.2.1 dX8_ifStatement_41 (by decide) ?_
    exact g_zretW G hr rfl hk hf hw dX8_ifStatement_42
  · rw [if_neg hc30] at hf
    refine lv_aload_n G.1 G.2.1 dX8_ifStatement_33 rfl (lv_at hl 2 rfl) ?_
    refine lv_iload_n G.1 G.2.1 dX8_ifStatement_34 rfl (lv_at hl 1 rfl) ?_
    obtain ⟨z5, hcz5, hf⟩ := bd_some hf
    refine g_callV1 (As := [.int z2.1]) (rest := []) G hw (gA_mono hw.2.2.2.1.1) C_7 iC_7 mv_X8_149 (c_Tr_body l D X E n rc fr0 lo0 hfr0 hlo0 hrc z2.1 z4.2 z5.1 z5.2 hcz5) hl.1 rfl rfl (Nat.le_of_ble_eq_true rfl) (by dsimp only; omega) (by dsimp only; omega) ⟨Nat.le_refl _, Nat.le_refl _⟩ dX8_ifStatement_35 (fun H locs hw => ?_)
    refine lv_if_ne (tgt := 43) G.1 G.2.1 dX8_ifStatement_38 (by decide) (fun hc38 => ?_) (fun hc38 => ?_)
    · rw [if_neg hc38] at hf
      refine lv_aload_n G.1 G.2.1 dX8_ifStatement_43 rfl (lv_at hl 2 rfl) ?_
      refine g_getC G hw C_7 iC_7 0 5 rfl (by decide) rfl fl_X8_14 dX8_ifStatement_44 ?_
      refine va_ldcS G.1 G.2.1 G.2.2.2.1 hw.2.2.2.2.2.1.2.2.2 dX8_ifStatement_47 ?_
      obtain ⟨z6, hcz6, hf⟩ := bd_some hf
      refine g_callV1 (As := [.ref (E.2.2.2.2.2.2.1 3)]) (rest := []) G hw (gA_mono hw.2.2.2.1.1) C_5 iC_5 mv_X8_75 (c_Rd_seesWord l D X E n 3 (by decide) z5.2 z6.1 z6.2 hcz6) hl.1 rfl rfl (Nat.le_of_ble_eq_true rfl) (by dsimp only; omega) (by dsimp only; omega) ⟨Nat.le_refl _, Nat.le_refl _⟩ dX8_ifStatement_49 (fun H locs hw => ?_)
      refine lv_if_ne (tgt := 73) G.1 G.2.1 dX8_ifStatement_52 (by decide) (fun hc52 => ?_) (fun hc52 => ?_)
      · rw [if_neg hc52] at hf
        refine lv_aload_n G.1 G.2.1 dX8_ifStatement_73 rfl (lv_at hl 2 rfl) ?_
        refine g_getC G hw C_7 iC_7 0 5 rfl (by decide) rfl fl_X8_14 dX8_ifStatement_74 ?_
        refine lv_iconst (v := (4 : Int32)) G.1 G.2.1 dX8_ifStatement_77 (by decide) ?_
        obtain ⟨g7, hcg7, hf⟩ := bd_some hf
        refine g_callV0 (As := [.int (4 : Int32)]) (rest := []) G hw (gA_mono hw.2.2.2.1.1) C_5 iC_5 mv_X8_103 (c_Rd_pass l D X E n (4 : Int32) z6.2 g7 hcg7) hl.1 rfl rfl (Nat.le_of_ble_eq_true rfl) (by dsimp only; omega) (by dsimp only; omega) ⟨Nat.le_refl _, Nat.le_refl _⟩ dX8_ifStatement_78 (fun H locs hw => ?_)
        refine lv_aload_n G.1 G.2.1 dX8_ifStatement_81 rfl (lv_at hl 2 rfl) ?_
        refine g_getC G hw C_7 iC_7 1 8 rfl (by decide) rfl fl_X8_23 dX8_ifStatement_82 ?_
        obtain ⟨z8, hcz8, hf⟩ := bd_some hf
        refine g_callV1 (As := []) (rest := []) G hw (gA_mono hw.2.2.2.1.1) C_8 iC_8 mv_X8_142 (c_Wy_addJoint l D X E n g7 z8.1 z8.2 hcz8) hl.1 rfl rfl (Nat.le_of_ble_eq_true rfl) (by dsimp only; omega) (by dsimp only; omega) ⟨Nat.le_refl _, Nat.le_refl _⟩ dX8_ifStatement_85 (fun H locs hw => ?_)
        refine lv_istore_n (lv' := [(3, .int z8.1), (2, .int z3.1), (1, .int z2.1), (0, .ref (E.1 7 0))]) G.1 G.2.1 dX8_ifStatement_88 rfl hl (by decide) rfl (fun ls hl => ?_)
        refine lv_aload_n G.1 G.2.1 dX8_ifStatement_89 rfl (lv_at hl 3 rfl) ?_
        refine g_getC G hw C_7 iC_7 1 8 rfl (by decide) rfl fl_X8_23 dX8_ifStatement_90 ?_
        refine lv_iload_n G.1 G.2.1 dX8_ifStatement_93 rfl (lv_at hl 0 rfl) ?_
        obtain ⟨g9, hcg9, hf⟩ := bd_some hf
        refine g_callV0 (As := [.int z8.1]) (rest := []) G hw (gA_mono hw.2.2.2.1.1) C_8 iC_8 mv_X8_154 (c_Wy_goTo l D X E n z8.1 z8.2 g9 hcg9) hl.1 rfl rfl (Nat.le_of_ble_eq_true rfl) (by dsimp only; omega) (by dsimp only; omega) ⟨Nat.le_refl _, Nat.le_refl _⟩ dX8_ifStatement_94 (fun H locs hw => ?_)
        refine lv_aload_n G.1 G.2.1 dX8_ifStatement_97 rfl (lv_at hl 3 rfl) ?_
        refine lv_iload_n G.1 G.2.1 dX8_ifStatement_98 rfl (lv_at hl 1 rfl) ?_
        obtain ⟨z10, hcz10, hf⟩ := bd_some hf
        refine g_callV1 (As := [.int z3.1]) (rest := []) G hw (gA_mono hw.2.2.2.1.1) C_7 iC_7 mv_X8_149 (c_Tr_body l D X E n rc fr0 lo0 hfr0 hlo0 hrc z3.1 g9 z10.1 z10.2 hcz10) hl.1 rfl rfl (Nat.le_of_ble_eq_true rfl) (by dsimp only; omega) (by dsimp only; omega) ⟨Nat.le_refl _, Nat.le_refl _⟩ dX8_ifStatement_99 (fun H locs hw => ?_)
        refine lv_if_ne (tgt := 107) G.1 G.2.1 dX8_ifStatement_102 (by decide) (fun hc102 => ?_) (fun hc102 => ?_)
        · rw [if_neg hc102] at hf
          refine lv_aload_n G.1 G.2.1 dX8_ifStatement_107 rfl (lv_at hl 3 rfl) ?_
          refine g_getC G hw C_7 iC_7 1 8 rfl (by decide) rfl fl_X8_23 dX8_ifStatement_108 ?_
          refine lv_iload_n G.1 G.2.1 dX8_ifStatement_111 rfl (lv_at hl 0 rfl) ?_
          obtain ⟨g11, hcg11, hf⟩ := bd_some hf
          refine g_callV0 (As := [.int z8.1]) (rest := []) G hw (gA_mono hw.2.2.2.1.1) C_8 iC_8 mv_X8_154 (c_Wy_goTo l D X E n z8.1 z10.2 g11 hcg11) hl.1 rfl rfl (Nat.le_of_ble_eq_true rfl) (by dsimp only; omega) (by dsimp only; omega) ⟨Nat.le_refl _, Nat.le_refl _⟩ dX8_ifStatement_112 (fun H locs hw => ?_)
          refine lv_aload_n G.1 G.2.1 dX8_ifStatement_115 rfl (lv_at hl 3 rfl) ?_
          refine g_getC G hw C_7 iC_7 1 8 rfl (by decide) rfl fl_X8_23 dX8_ifStatement_116 ?_
          refine lv_iload_n G.1 G.2.1 dX8_ifStatement_119 rfl (lv_at hl 0 rfl) ?_
          obtain ⟨g12, hcg12, hf⟩ := bd_some hf
          refine g_callV0 (As := [.int z8.1]) (rest := []) G hw (gA_mono hw.2.2.2.1.1) C_8 iC_8 mv_X8_157 (c_Wy_standAt l D X E n z8.1 g11 g12 hcg12) hl.1 rfl rfl (Nat.le_of_ble_eq_true rfl) (by dsimp only; omega) (by dsimp only; omega) ⟨Nat.le_refl _, Nat.le_refl _⟩ dX8_ifStatement_120 (fun H locs hw => ?_)
          refine lv_iconst (v := (1 : Int32)) G.1 G.2.1 dX8_ifStatement_123 (by decide) ?_
          exact g_zretW G hr rfl hk hf hw dX8_ifStatement_124
        · rw [if_pos hc102] at hf
          refine lv_iconst (v := (0 : Int32)) G.1 G.2.1 dX8_ifStatement_105 (by decide) ?_
          exact g_zretW G hr rfl hk hf hw dX8_ifStatement_106
      · rw [if_pos hc52] at hf
        refine lv_aload_n G.1 G.2.1 dX8_ifStatement_55 rfl (lv_at hl 2 rfl) ?_
        refine g_getC G hw C_7 iC_7 1 8 rfl (by decide) rfl fl_X8_23 dX8_ifStatement_56 ?_
        refine lv_iload_n G.1 G.2.1 dX8_ifStatement_59 rfl (lv_at hl 0 rfl) ?_
        obtain ⟨g13, hcg13, hf⟩ := bd_some hf
        refine g_callV0 (As := [.int z3.1]) (rest := []) G hw (gA_mono hw.2.2.2.1.1) C_8 iC_8 mv_X8_154 (c_Wy_goTo l D X E n z3.1 z6.2 g13 hcg13) hl.1 rfl rfl (Nat.le_of_ble_eq_true rfl) (by dsimp only; omega) (by dsimp only; omega) ⟨Nat.le_refl _, Nat.le_refl _⟩ dX8_ifStatement_60 (fun H locs hw => ?_)
        refine lv_aload_n G.1 G.2.1 dX8_ifStatement_63 rfl (lv_at hl 2 rfl) ?_
        refine g_getC G hw C_7 iC_7 1 8 rfl (by decide) rfl fl_X8_23 dX8_ifStatement_64 ?_
        refine lv_iload_n G.1 G.2.1 dX8_ifStatement_67 rfl (lv_at hl 0 rfl) ?_
        obtain ⟨g14, hcg14, hf⟩ := bd_some hf
        refine g_callV0 (As := [.int z3.1]) (rest := []) G hw (gA_mono hw.2.2.2.1.1) C_8 iC_8 mv_X8_157 (c_Wy_standAt l D X E n z3.1 g13 g14 hcg14) hl.1 rfl rfl (Nat.le_of_ble_eq_true rfl) (by dsimp only; omega) (by dsimp only; omega) ⟨Nat.le_refl _, Nat.le_refl _⟩ dX8_ifStatement_68 (fun H locs hw => ?_)
        refine lv_iconst (v := (1 : Int32)) G.1 G.2.1 dX8_ifStatement_71 (by decide) ?_
        exact g_zretW G hr rfl hk hf hw dX8_ifStatement_72
    · rw [if_pos hc38] at hf
      refine lv_iconst (v := (0 : Int32)) G.1 G.2.1 dX8_ifStatement_41 (by decide) ?_
      exact g_zretW G hr rfl hk hf hw dX8_ifStatement_42

set_option maxHeartbeats 4000000 in
set_option maxRecDepth 100000 in
theorem c_Tr_whileStatement (l : Launch) (D : va_G) (X : va_W) (E : gE) (n : Nat) (rc : Mem → Option (Int32 × Mem)) (fr0 lo0 : Nat) (hfr0 : 190 ≤ fr0) (hlo0 : 4471 ≤ lo0) (hrc : ∀ (g : Mem) (r : Int32) (g' : Mem), rc g = some (r, g') → gMet l yX8_statements cX8_statements 2 (some .boolean) fr0 lo0 D X idsC E [.ref (E.1 7 0)] g (some (.int r)) g') (g : Mem) (r : Int32) (g' : Mem) (hf : Tr_whileStatement rc n g = some (r, g')) : gMet l yX8_whileStatement cX8_whileStatement 4 (some .boolean) (fr0 + 2) (lo0 + 42) D X idsC E [.ref (E.1 7 0)] g (some (.int r)) g' := by
  rw [Tr_whileStatement] at hf
  refine gt_code (by decide) (Nat.le_of_ble_eq_true rfl) (fun p en s m below meth c ls G hr hk hw hl => ?_)
  have hl : lv_has ls 4 [(0, .ref (E.1 7 0))] := hl
  refine lv_aload_n G.1 G.2.1 dX8_whileStatement_0 rfl (lv_at hl 0 rfl) ?_
  refine g_getC G hw C_7 iC_7 0 5 rfl (by decide) rfl fl_X8_14 dX8_whileStatement_1 ?_
  refine lv_iconst (v := (5 : Int32)) G.1 G.2.1 dX8_whileStatement_4 (by decide) ?_
  obtain ⟨g1, hcg1, hf⟩ := bd_some hf
  refine g_callV0 (As := [.int (5 : Int32)]) (rest := []) G hw (gA_mono hw.2.2.2.1.1) C_5 iC_5 mv_X8_103 (c_Rd_pass l D X E n (5 : Int32) g g1 hcg1) hl.1 rfl rfl (Nat.le_of_ble_eq_true rfl) (by dsimp only; omega) (by dsimp only; omega) ⟨Nat.le_refl _, Nat.le_refl _⟩ dX8_whileStatement_5 (fun H locs hw => ?_)
  refine lv_aload_n G.1 G.2.1 dX8_whileStatement_8 rfl (lv_at hl 0 rfl) ?_
  refine g_getC G hw C_7 iC_7 1 8 rfl (by decide) rfl fl_X8_23 dX8_whileStatement_9 ?_
  obtain ⟨z2, hcz2, hf⟩ := bd_some hf
  refine g_callV1 (As := []) (rest := []) G hw (gA_mono hw.2.2.2.1.1) C_8 iC_8 mv_X8_142 (c_Wy_addJoint l D X E n g1 z2.1 z2.2 hcz2) hl.1 rfl rfl (Nat.le_of_ble_eq_true rfl) (by dsimp only; omega) (by dsimp only; omega) ⟨Nat.le_refl _, Nat.le_refl _⟩ dX8_whileStatement_12 (fun H locs hw => ?_)
  refine lv_istore_n (lv' := [(1, .int z2.1), (0, .ref (E.1 7 0))]) G.1 G.2.1 dX8_whileStatement_15 rfl hl (by decide) rfl (fun ls hl => ?_)
  refine lv_aload_n G.1 G.2.1 dX8_whileStatement_16 rfl (lv_at hl 1 rfl) ?_
  refine g_getC G hw C_7 iC_7 1 8 rfl (by decide) rfl fl_X8_23 dX8_whileStatement_17 ?_
  obtain ⟨z3, hcz3, hf⟩ := bd_some hf
  refine g_callV1 (As := []) (rest := []) G hw (gA_mono hw.2.2.2.1.1) C_8 iC_8 mv_X8_142 (c_Wy_addJoint l D X E n z2.2 z3.1 z3.2 hcz3) hl.1 rfl rfl (Nat.le_of_ble_eq_true rfl) (by dsimp only; omega) (by dsimp only; omega) ⟨Nat.le_refl _, Nat.le_refl _⟩ dX8_whileStatement_20 (fun H locs hw => ?_)
  refine lv_istore_n (lv' := [(2, .int z3.1), (1, .int z2.1), (0, .ref (E.1 7 0))]) G.1 G.2.1 dX8_whileStatement_23 rfl hl (by decide) rfl (fun ls hl => ?_)
  refine lv_aload_n G.1 G.2.1 dX8_whileStatement_24 rfl (lv_at hl 2 rfl) ?_
  refine g_getC G hw C_7 iC_7 1 8 rfl (by decide) rfl fl_X8_23 dX8_whileStatement_25 ?_
  obtain ⟨z4, hcz4, hf⟩ := bd_some hf
  refine g_callV1 (As := []) (rest := []) G hw (gA_mono hw.2.2.2.1.1) C_8 iC_8 mv_X8_142 (c_Wy_addJoint l D X E n z3.2 z4.1 z4.2 hcz4) hl.1 rfl rfl (Nat.le_of_ble_eq_true rfl) (by dsimp only; omega) (by dsimp only; omega) ⟨Nat.le_refl _, Nat.le_refl _⟩ dX8_whileStatement_28 (fun H locs hw => ?_)
  refine lv_istore_n (lv' := [(3, .int z4.1), (2, .int z3.1), (1, .int z2.1), (0, .ref (E.1 7 0))]) G.1 G.2.1 dX8_whileStatement_31 rfl hl (by decide) rfl (fun ls hl => ?_)
  refine lv_aload_n G.1 G.2.1 dX8_whileStatement_32 rfl (lv_at hl 3 rfl) ?_
  refine g_getC G hw C_7 iC_7 1 8 rfl (by decide) rfl fl_X8_23 dX8_whileStatement_33 ?_
  refine lv_iload_n G.1 G.2.1 dX8_whileStatement_36 rfl (lv_at hl 2 rfl) ?_
  obtain ⟨g5, hcg5, hf⟩ := bd_some hf
  refine g_callV0 (As := [.int z2.1]) (rest := []) G hw (gA_mono hw.2.2.2.1.1) C_8 iC_8 mv_X8_154 (c_Wy_goTo l D X E n z2.1 z4.2 g5 hcg5) hl.1 rfl rfl (Nat.le_of_ble_eq_true rfl) (by dsimp only; omega) (by dsimp only; omega) ⟨Nat.le_refl _, Nat.le_refl _⟩ dX8_whileStatement_37 (fun H locs hw => ?_)
  refine lv_aload_n G.1 G.2.1 dX8_whileStatement_40 rfl (lv_at hl 3 rfl) ?_
  refine g_getC G hw C_7 iC_7 1 8 rfl (by decide) rfl fl_X8_23 dX8_whileStatement_41 ?_
  refine lv_iload_n G.1 G.2.1 dX8_whileStatement_44 rfl (lv_at hl 2 rfl) ?_
  obtain ⟨g6, hcg6, hf⟩ := bd_some hf
  refine g_callV0 (As := [.int z2.1]) (rest := []) G hw (gA_mono hw.2.2.2.1.1) C_8 iC_8 mv_X8_157 (c_Wy_standAt l D X E n z2.1 g5 g6 hcg6) hl.1 rfl rfl (Nat.le_of_ble_eq_true rfl) (by dsimp only; omega) (by dsimp only; omega) ⟨Nat.le_refl _, Nat.le_refl _⟩ dX8_whileStatement_45 (fun H locs hw => ?_)
  refine lv_aload_n G.1 G.2.1 dX8_whileStatement_48 rfl (lv_at hl 3 rfl) ?_
  refine lv_iload_n G.1 G.2.1 dX8_whileStatement_49 rfl (lv_at hl 1 rfl) ?_
  refine lv_iload_n G.1 G.2.1 dX8_whileStatement_50 rfl (lv_at hl 0 rfl) ?_
  obtain ⟨z7, hcz7, hf⟩ := bd_some hf
  refine g_callV1 (As := [.int z3.1, .int z4.1]) (rest := []) G hw (gA_mono hw.2.2.2.1.1) C_7 iC_7 mv_X8_145 (c_Tr_choice l D X E n z3.1 z4.1 g6 z7.1 z7.2 hcz7) hl.1 rfl rfl (Nat.le_of_ble_eq_true rfl) (by dsimp only; omega) (by dsimp only; omega) ⟨Nat.le_refl _, Nat.le_refl _⟩ dX8_whileStatement_51 (fun H locs hw => ?_)
  refine lv_if_eq (tgt := 65) G.1 G.2.1 dX8_whileStatement_54 (by decide) (fun hc54 => ?_) (fun hc54 => ?_)
  · rw [if_pos hc54] at hf
    refine lv_iconst (v := (0 : Int32)) G.1 G.2.1 dX8_whileStatement_65 (by decide) ?_
    exact g_zretW G hr rfl hk hf hw dX8_whileStatement_66
  · rw [if_neg hc54] at hf
    refine lv_aload_n G.1 G.2.1 dX8_whileStatement_57 rfl (lv_at hl 3 rfl) ?_
    refine lv_iload_n G.1 G.2.1 dX8_whileStatement_58 rfl (lv_at hl 1 rfl) ?_
    obtain ⟨z8, hcz8, hf⟩ := bd_some hf
    refine g_callV1 (As := [.int z3.1]) (rest := []) G hw (gA_mono hw.2.2.2.1.1) C_7 iC_7 mv_X8_149 (c_Tr_body l D X E n rc fr0 lo0 hfr0 hlo0 hrc z3.1 z7.2 z8.1 z8.2 hcz8) hl.1 rfl rfl (Nat.le_of_ble_eq_true rfl) (by dsimp only; omega) (by dsimp only; omega) ⟨Nat.le_refl _, Nat.le_refl _⟩ dX8_whileStatement_59 (fun H locs hw => ?_)
    refine lv_if_ne (tgt := 67) G.1 G.2.1 dX8_whileStatement_62 (by decide) (fun hc62 => ?_) (fun hc62 => ?_)
    · rw [if_neg hc62] at hf
      refine lv_aload_n G.1 G.2.1 dX8_whileStatement_67 rfl (lv_at hl 3 rfl) ?_
      refine g_getC G hw C_7 iC_7 1 8 rfl (by decide) rfl fl_X8_23 dX8_whileStatement_68 ?_
      refine lv_iload_n G.1 G.2.1 dX8_whileStatement_71 rfl (lv_at hl 2 rfl) ?_
      obtain ⟨g9, hcg9, hf⟩ := bd_some hf
      refine g_callV0 (As := [.int z2.1]) (rest := []) G hw (gA_mono hw.2.2.2.1.1) C_8 iC_8 mv_X8_154 (c_Wy_goTo l D X E n z2.1 z8.2 g9 hcg9) hl.1 rfl rfl (Nat.le_of_ble_eq_true rfl) (by dsimp only; omega) (by dsimp only; omega) ⟨Nat.le_refl _, Nat.le_refl _⟩ dX8_whileStatement_72 (fun H locs hw => ?_)
      refine lv_aload_n G.1 G.2.1 dX8_whileStatement_75 rfl (lv_at hl 3 rfl) ?_
      refine g_getC G hw C_7 iC_7 1 8 rfl (by decide) rfl fl_X8_23 dX8_whileStatement_76 ?_
      refine lv_iload_n G.1 G.2.1 dX8_whileStatement_79 rfl (lv_at hl 0 rfl) ?_
      obtain ⟨g10, hcg10, hf⟩ := bd_some hf
      refine g_callV0 (As := [.int z4.1]) (rest := []) G hw (gA_mono hw.2.2.2.1.1) C_8 iC_8 mv_X8_157 (c_Wy_standAt l D X E n z4.1 g9 g10 hcg10) hl.1 rfl rfl (Nat.le_of_ble_eq_true rfl) (by dsimp only; omega) (by dsimp only; omega) ⟨Nat.le_refl _, Nat.le_refl _⟩ dX8_whileStatement_80 (fun H locs hw => ?_)
      refine lv_iconst (v := (1 : Int32)) G.1 G.2.1 dX8_whileStatement_83 (by decide) ?_
      exact g_zretW G hr rfl hk hf hw dX8_whileStatement_84
    · rw [if_pos hc62] at hf
      refine lv_iconst (v := (0 : Int32)) G.1 G.2.1 dX8_whileStatement_65 (by decide) ?_
      exact g_zretW G hr rfl hk hf hw dX8_whileStatement_66

set_option maxHeartbeats 4000000 in
set_option maxRecDepth 100000 in
theorem c_Tr_write (l : Launch) (D : va_G) (X : va_W) (E : gE) (n : Nat) (g : Mem) (r : Int32) (g' : Mem) (hf : Tr_write n g = some (r, g')) : gMet l yX8_write cX8_write 4 (some .boolean) 189 4448 D X idsC E [.ref (E.1 7 0)] g (some (.int r)) g' := by
  rw [Tr_write] at hf
  refine gt_code (by decide) (Nat.le_of_ble_eq_true rfl) (fun p en s m below meth c ls G hr hk hw hl => ?_)
  have hl : lv_has ls 4 [(0, .ref (E.1 7 0))] := hl
  refine lv_aload_n G.1 G.2.1 dX8_write_0 rfl (lv_at hl 0 rfl) ?_
  refine g_getC G hw C_7 iC_7 0 5 rfl (by decide) rfl fl_X8_14 dX8_write_1 ?_
  refine g_getI G hw C_5 iC_5 1 rfl fl_X8_102 dX8_write_4 ?_
  refine lv_istore_n (lv' := [(1, .int (gI g 5 0 1)), (0, .ref (E.1 7 0))]) G.1 G.2.1 dX8_write_7 rfl hl (by decide) rfl (fun ls hl => ?_)
  refine lv_aload_n G.1 G.2.1 dX8_write_8 rfl (lv_at hl 1 rfl) ?_
  refine g_getC G hw C_7 iC_7 0 5 rfl (by decide) rfl fl_X8_14 dX8_write_9 ?_
  refine lv_iconst (v := (1 : Int32)) G.1 G.2.1 dX8_write_12 (by decide) ?_
  obtain ⟨g1, hcg1, hf⟩ := bd_some hf
  refine g_callV0 (As := [.int (1 : Int32)]) (rest := []) G hw (gA_mono hw.2.2.2.1.1) C_5 iC_5 mv_X8_103 (c_Rd_pass l D X E n (1 : Int32) g g1 hcg1) hl.1 rfl rfl (Nat.le_of_ble_eq_true rfl) (Nat.le_of_ble_eq_true rfl) (Nat.le_of_ble_eq_true rfl) ⟨Nat.le_refl _, Nat.le_refl _⟩ dX8_write_13 (fun H locs hw => ?_)
  refine lv_aload_n G.1 G.2.1 dX8_write_16 rfl (lv_at hl 1 rfl) ?_
  refine g_getC G hw C_7 iC_7 1 8 rfl (by decide) rfl fl_X8_23 dX8_write_17 ?_
  obtain ⟨g2, hcg2, hf⟩ := bd_some hf
  refine g_callV0 (As := []) (rest := []) G hw (gA_mono hw.2.2.2.1.1) C_8 iC_8 mv_X8_107 (c_Wy_openBlock l D X E n g1 g2 hcg2) hl.1 rfl rfl (Nat.le_of_ble_eq_true rfl) (Nat.le_of_ble_eq_true rfl) (Nat.le_of_ble_eq_true rfl) ⟨Nat.le_refl _, Nat.le_refl _⟩ dX8_write_20 (fun H locs hw => ?_)
  refine lv_aload_n G.1 G.2.1 dX8_write_23 rfl (lv_at hl 1 rfl) ?_
  refine lv_bipush (v := (91 : Int32)) G.1 G.2.1 dX8_write_24 (by decide) ?_
  refine lv_bipush (v := (93 : Int32)) G.1 G.2.1 dX8_write_26 (by decide) ?_
  obtain ⟨z3, hcz3, hf⟩ := bd_some hf
  refine g_callV1 (As := [.int (91 : Int32), .int (93 : Int32)]) (rest := []) G hw (gA_mono hw.2.2.2.1.1) C_7 iC_7 mv_X8_138 (c_Tr_enclosed l D X E n (Tr_expression n 30) (7 + 30 * 6) (322 + 30 * 136) (Nat.le_of_ble_eq_true rfl) (Nat.le_of_ble_eq_true rfl) (c_Tr_expression l D X E n 30) (91 : Int32) (93 : Int32) g2 z3.1 z3.2 hcz3) hl.1 rfl rfl (Nat.le_of_ble_eq_true rfl) (Nat.le_of_ble_eq_true rfl) (Nat.le_of_ble_eq_true rfl) ⟨Nat.le_refl _, Nat.le_refl _⟩ dX8_write_28 (fun H locs hw => ?_)
  refine lv_istore_n (lv' := [(2, .int z3.1), (1, .int (gI g 5 0 1)), (0, .ref (E.1 7 0))]) G.1 G.2.1 dX8_write_31 rfl hl (by decide) rfl (fun ls hl => ?_)
  refine lv_iload_n G.1 G.2.1 dX8_write_32 rfl (lv_at hl 0 rfl) ?_
  refine lv_sipush (v := (-209 : Int32)) G.1 G.2.1 dX8_write_33 (by decide) ?_
  refine lv_icmp_eq (tgt := 48) G.1 G.2.1 dX8_write_36 (by decide) (fun hc36 => ?_) (fun hc36 => ?_)
  · rw [if_pos hc36] at hf
    refine lv_iconst (v := (0 : Int32)) G.1 G.2.1 dX8_write_48 (by decide) ?_
    exact g_zretW G hr rfl hk hf hw dX8_write_49
  · rw [if_neg hc36] at hf
    refine lv_aload_n G.1 G.2.1 dX8_write_39 rfl (lv_at hl 2 rfl) ?_
    refine lv_bipush (v := (61 : Int32)) G.1 G.2.1 dX8_write_40 (by decide) ?_
    obtain ⟨z4, hcz4, hf⟩ := bd_some hf
    refine g_callV1 (As := [.int (61 : Int32)]) (rest := []) G hw (gA_mono hw.2.2.2.1.1) C_7 iC_7 mv_X8_110 (c_Tr_passes l D X E n (61 : Int32) z3.2 z4.1 z4.2 hcz4) hl.1 rfl rfl (Nat.le_of_ble_eq_true rfl) (Nat.le_of_ble_eq_true rfl) (Nat.le_of_ble_eq_true rfl) ⟨Nat.le_refl _, Nat.le_refl _⟩ dX8_write_42 (fun H locs hw => ?_)
    refine lv_if_ne (tgt := 50) G.1 G.2.1 dX8_write_45 (by decide) (fun hc45 => ?_) (fun hc45 => ?_)
    · rw [if_neg hc45] at hf
      refine lv_aload_n G.1 G.2.1 dX8_write_50 rfl (lv_at hl 2 rfl) ?_
      obtain ⟨z5, hcz5, hf⟩ := bd_some hf
      refine g_callV1 (As := []) (rest := []) G hw (gA_mono hw.2.2.2.1.1) C_7 iC_7 mv_X8_113 (c_Tr_expression l D X E n 30 z4.2 z5.1 z5.2 hcz5) hl.1 rfl rfl (Nat.le_of_ble_eq_true rfl) (Nat.le_of_ble_eq_true rfl) (Nat.le_of_ble_eq_true rfl) ⟨Nat.le_refl _, Nat.le_refl _⟩ dX8_write_51 (fun H locs hw => ?_)
      refine lv_istore_n (lv' := [(3, .int z5.1), (2, .int z3.1), (1, .int (gI g 5 0 1)), (0, .ref (E.1 7 0))]) G.1 G.2.1 dX8_write_54 rfl hl (by decide) rfl (fun ls hl => ?_)
      refine lv_iload_n G.1 G.2.1 dX8_write_55 rfl (lv_at hl 0 rfl) ?_
      refine lv_sipush (v := (-209 : Int32)) G.1 G.2.1 dX8_write_56 (by decide) ?_
      refine lv_icmp_eq (tgt := 71) G.1 G.2.1 dX8_write_59 (by decide) (fun hc59 => ?_) (fun hc59 => ?_)
      · rw [if_pos hc59] at hf
        refine lv_iconst (v := (0 : Int32)) G.1 G.2.1 dX8_write_71 (by decide) ?_
        exact g_zretW G hr rfl hk hf hw dX8_write_72
      · rw [if_neg hc59] at hf
        refine lv_aload_n G.1 G.2.1 dX8_write_62 rfl (lv_at hl 3 rfl) ?_
        refine lv_bipush (v := (59 : Int32)) G.1 G.2.1 dX8_write_63 (by decide) ?_
        obtain ⟨z6, hcz6, hf⟩ := bd_some hf
        refine g_callV1 (As := [.int (59 : Int32)]) (rest := []) G hw (gA_mono hw.2.2.2.1.1) C_7 iC_7 mv_X8_110 (c_Tr_passes l D X E n (59 : Int32) z5.2 z6.1 z6.2 hcz6) hl.1 rfl rfl (Nat.le_of_ble_eq_true rfl) (Nat.le_of_ble_eq_true rfl) (Nat.le_of_ble_eq_true rfl) ⟨Nat.le_refl _, Nat.le_refl _⟩ dX8_write_65 (fun H locs hw => ?_)
        refine lv_if_ne (tgt := 73) G.1 G.2.1 dX8_write_68 (by decide) (fun hc68 => ?_) (fun hc68 => ?_)
        · rw [if_neg hc68] at hf
          refine lv_aload_n G.1 G.2.1 dX8_write_73 rfl (lv_at hl 3 rfl) ?_
          refine lv_iconst (v := (2 : Int32)) G.1 G.2.1 dX8_write_74 (by decide) ?_
          refine lv_iload_n G.1 G.2.1 dX8_write_75 rfl (lv_at hl 1 rfl) ?_
          refine lv_iload_n G.1 G.2.1 dX8_write_76 rfl (lv_at hl 0 rfl) ?_
          refine lv_iload_n G.1 G.2.1 dX8_write_77 rfl (lv_at hl 2 rfl) ?_
          obtain ⟨z7, hcz7, hf⟩ := bd_some hf
          refine g_callV1 (As := [.int (2 : Int32), .int z3.1, .int z5.1, .int (gI g 5 0 1)]) (rest := []) G hw (gA_mono hw.2.2.2.1.1) C_7 iC_7 mv_X8_121 (c_Tr_add l D X E n (2 : Int32) z3.1 z5.1 (gI g 5 0 1) z6.2 z7.1 z7.2 hcz7) hl.1 rfl rfl (Nat.le_of_ble_eq_true rfl) (Nat.le_of_ble_eq_true rfl) (Nat.le_of_ble_eq_true rfl) ⟨Nat.le_refl _, Nat.le_refl _⟩ dX8_write_78 (fun H locs hw => ?_)
          refine lv_sipush (v := (-209 : Int32)) G.1 G.2.1 dX8_write_81 (by decide) ?_
          refine lv_icmp_eq (tgt := 91) G.1 G.2.1 dX8_write_84 (by decide) (fun hc84 => ?_) (fun hc84 => ?_)
          · rw [if_pos hc84] at hf
            refine lv_iconst (v := (0 : Int32)) G.1 G.2.1 dX8_write_91 (by decide) ?_
            exact g_zretW G hr rfl hk hf hw dX8_write_92
          · rw [if_neg hc84] at hf
            refine lv_iconst (v := (1 : Int32)) G.1 G.2.1 dX8_write_87 (by decide) ?_
            refine lv_goto (tgt := 92) G.1 G.2.1 dX8_write_88 (by decide) ?_
            exact g_zretW G hr rfl hk hf hw dX8_write_92
        · rw [if_pos hc68] at hf
          refine lv_iconst (v := (0 : Int32)) G.1 G.2.1 dX8_write_71 (by decide) ?_
          exact g_zretW G hr rfl hk hf hw dX8_write_72
    · rw [if_pos hc45] at hf
      refine lv_iconst (v := (0 : Int32)) G.1 G.2.1 dX8_write_48 (by decide) ?_
      exact g_zretW G hr rfl hk hf hw dX8_write_49

set_option maxHeartbeats 4000000 in
set_option maxRecDepth 100000 in
theorem c_Tr_statement (l : Launch) (D : va_G) (X : va_W) (E : gE) (n : Nat) (rc : Mem → Option (Int32 × Mem)) (fr0 lo0 : Nat) (hfr0 : 190 ≤ fr0) (hlo0 : 4471 ≤ lo0) (hrc : ∀ (g : Mem) (r : Int32) (g' : Mem), rc g = some (r, g') → gMet l yX8_statements cX8_statements 2 (some .boolean) fr0 lo0 D X idsC E [.ref (E.1 7 0)] g (some (.int r)) g') (g : Mem) (r : Int32) (g' : Mem) (hf : Tr_statement rc n g = some (r, g')) : gMet l yX8_statement cX8_statement 2 (some .boolean) (fr0 + 3) (lo0 + 65) D X idsC E [.ref (E.1 7 0)] g (some (.int r)) g' := by
  rw [Tr_statement] at hf
  refine gt_code (by decide) (Nat.le_of_ble_eq_true rfl) (fun p en s m below meth c ls G hr hk hw hl => ?_)
  have hl : lv_has ls 2 [(0, .ref (E.1 7 0))] := hl
  refine lv_aload_n G.1 G.2.1 dX8_statement_0 rfl (lv_at hl 0 rfl) ?_
  refine g_getC G hw C_7 iC_7 0 5 rfl (by decide) rfl fl_X8_14 dX8_statement_1 ?_
  refine va_ldcS G.1 G.2.1 G.2.2.2.1 hw.2.2.2.2.2.1.1 dX8_statement_4 ?_
  obtain ⟨z1, hcz1, hf⟩ := bd_some hf
  refine g_callV1 (As := [.ref (E.2.2.2.2.2.2.1 0)]) (rest := []) G hw (gA_mono hw.2.2.2.1.1) C_5 iC_5 mv_X8_75 (c_Rd_seesWord l D X E n 0 (by decide) g z1.1 z1.2 hcz1) hl.1 rfl rfl (Nat.le_of_ble_eq_true rfl) (by dsimp only; omega) (by dsimp only; omega) ⟨Nat.le_refl _, Nat.le_refl _⟩ dX8_statement_6 (fun H locs hw => ?_)
  refine lv_if_eq (tgt := 17) G.1 G.2.1 dX8_statement_9 (by decide) (fun hc9 => ?_) (fun hc9 => ?_)
  · rw [if_pos hc9] at hf
    refine lv_aload_n G.1 G.2.1 dX8_statement_17 rfl (lv_at hl 0 rfl) ?_
    refine g_getC G hw C_7 iC_7 0 5 rfl (by decide) rfl fl_X8_14 dX8_statement_18 ?_
    refine va_ldcS G.1 G.2.1 G.2.2.2.1 hw.2.2.2.2.2.1.2.1 dX8_statement_21 ?_
    obtain ⟨z2, hcz2, hf⟩ := bd_some hf
    refine g_callV1 (As := [.ref (E.2.2.2.2.2.2.1 1)]) (rest := []) G hw (gA_mono hw.2.2.2.1.1) C_5 iC_5 mv_X8_75 (c_Rd_seesWord l D X E n 1 (by decide) z1.2 z2.1 z2.2 hcz2) hl.1 rfl rfl (Nat.le_of_ble_eq_true rfl) (by dsimp only; omega) (by dsimp only; omega) ⟨Nat.le_refl _, Nat.le_refl _⟩ dX8_statement_23 (fun H locs hw => ?_)
    refine lv_if_eq (tgt := 34) G.1 G.2.1 dX8_statement_26 (by decide) (fun hc26 => ?_) (fun hc26 => ?_)
    · rw [if_pos hc26] at hf
      refine lv_aload_n G.1 G.2.1 dX8_statement_34 rfl (lv_at hl 0 rfl) ?_
      refine g_getC G hw C_7 iC_7 0 5 rfl (by decide) rfl fl_X8_14 dX8_statement_35 ?_
      refine va_ldcS G.1 G.2.1 G.2.2.2.1 hw.2.2.2.2.2.1.2.2.1 dX8_statement_38 ?_
      obtain ⟨z3, hcz3, hf⟩ := bd_some hf
      refine g_callV1 (As := [.ref (E.2.2.2.2.2.2.1 2)]) (rest := []) G hw (gA_mono hw.2.2.2.1.1) C_5 iC_5 mv_X8_75 (c_Rd_seesWord l D X E n 2 (by decide) z2.2 z3.1 z3.2 hcz3) hl.1 rfl rfl (Nat.le_of_ble_eq_true rfl) (by dsimp only; omega) (by dsimp only; omega) ⟨Nat.le_refl _, Nat.le_refl _⟩ dX8_statement_40 (fun H locs hw => ?_)
      refine lv_if_eq (tgt := 51) G.1 G.2.1 dX8_statement_43 (by decide) (fun hc43 => ?_) (fun hc43 => ?_)
      · rw [if_pos hc43] at hf
        refine lv_aload_n G.1 G.2.1 dX8_statement_51 rfl (lv_at hl 0 rfl) ?_
        refine g_getC G hw C_7 iC_7 0 5 rfl (by decide) rfl fl_X8_14 dX8_statement_52 ?_
        obtain ⟨z4, hcz4, hf⟩ := bd_some hf
        refine g_callV1 (As := []) (rest := []) G hw (gA_mono hw.2.2.2.1.1) C_5 iC_5 mv_X8_92 (c_Rd_seenVariable l D X E n z3.2 z4.1 z4.2 hcz4) hl.1 rfl rfl (Nat.le_of_ble_eq_true rfl) (by dsimp only; omega) (by dsimp only; omega) ⟨Nat.le_refl _, Nat.le_refl _⟩ dX8_statement_55 (fun H locs hw => ?_)
        refine lv_istore_n (lv' := [(1, .int z4.1), (0, .ref (E.1 7 0))]) G.1 G.2.1 dX8_statement_58 rfl hl (by decide) rfl (fun ls hl => ?_)
        refine lv_iload_n G.1 G.2.1 dX8_statement_59 rfl (lv_at hl 0 rfl) ?_
        refine lv_iconst (v := (-1 : Int32)) G.1 G.2.1 dX8_statement_60 (by decide) ?_
        refine lv_icmp_ne (tgt := 72) G.1 G.2.1 dX8_statement_61 (by decide) (fun hc61 => ?_) (fun hc61 => ?_)
        · rw [if_neg hc61] at hf
          refine lv_aload_n G.1 G.2.1 dX8_statement_72 rfl (lv_at hl 1 rfl) ?_
          refine lv_iload_n G.1 G.2.1 dX8_statement_73 rfl (lv_at hl 0 rfl) ?_
          obtain ⟨z5, hcz5, hf⟩ := bd_some hf
          refine g_callV1 (As := [.int z4.1]) (rest := []) G hw (gA_mono hw.2.2.2.1.1) C_7 iC_7 mv_X8_99 (c_Tr_assignment l D X E n z4.1 z4.2 z5.1 z5.2 hcz5) hl.1 rfl rfl (Nat.le_of_ble_eq_true rfl) (by dsimp only; omega) (by dsimp only; omega) ⟨Nat.le_refl _, Nat.le_refl _⟩ dX8_statement_74 (fun H locs hw => ?_)
          obtain ⟨hz6, hf⟩ := ck_some hf
          exact g_zretW G hr (zn hz6) hk hf hw dX8_statement_77
        · rw [if_pos hc61] at hf
          refine lv_aload_n G.1 G.2.1 dX8_statement_64 rfl (lv_at hl 1 rfl) ?_
          refine lv_iconst (v := (1 : Int32)) G.1 G.2.1 dX8_statement_65 (by decide) ?_
          obtain ⟨z7, hcz7, hf⟩ := bd_some hf
          refine g_callV1 (As := [.int (1 : Int32)]) (rest := []) G hw (gA_mono hw.2.2.2.1.1) C_7 iC_7 mv_X8_96 (c_Tr_refuseHere l D X E n (1 : Int32) z4.2 z7.1 z7.2 hcz7) hl.1 rfl rfl (Nat.le_of_ble_eq_true rfl) (by dsimp only; omega) (by dsimp only; omega) ⟨Nat.le_refl _, Nat.le_refl _⟩ dX8_statement_66 (fun H locs hw => ?_)
          refine lv_goto (tgt := 77) G.1 G.2.1 dX8_statement_69 (by decide) ?_
          obtain ⟨hz8, hf⟩ := ck_some hf
          exact g_zretW G hr (zn hz8) hk hf hw dX8_statement_77
      · rw [if_neg hc43] at hf
        refine lv_aload_n G.1 G.2.1 dX8_statement_46 rfl (lv_at hl 0 rfl) ?_
        obtain ⟨z9, hcz9, hf⟩ := bd_some hf
        refine g_callV1 (As := []) (rest := []) G hw (gA_mono hw.2.2.2.1.1) C_7 iC_7 mv_X8_89 (c_Tr_write l D X E n z3.2 z9.1 z9.2 hcz9) hl.1 rfl rfl (Nat.le_of_ble_eq_true rfl) (by dsimp only; omega) (by dsimp only; omega) ⟨Nat.le_refl _, Nat.le_refl _⟩ dX8_statement_47 (fun H locs hw => ?_)
        obtain ⟨hz10, hf⟩ := ck_some hf
        exact g_zretW G hr (zn hz10) hk hf hw dX8_statement_50
    · rw [if_neg hc26] at hf
      refine lv_aload_n G.1 G.2.1 dX8_statement_29 rfl (lv_at hl 0 rfl) ?_
      obtain ⟨z11, hcz11, hf⟩ := bd_some hf
      refine g_callV1 (As := []) (rest := []) G hw (gA_mono hw.2.2.2.1.1) C_7 iC_7 mv_X8_84 (c_Tr_whileStatement l D X E n rc fr0 lo0 hfr0 hlo0 hrc z2.2 z11.1 z11.2 hcz11) hl.1 rfl rfl (Nat.le_of_ble_eq_true rfl) (by dsimp only; omega) (by dsimp only; omega) ⟨Nat.le_refl _, Nat.le_refl _⟩ dX8_statement_30 (fun H locs hw => ?_)
      obtain ⟨hz12, hf⟩ := ck_some hf
      exact g_zretW G hr (zn hz12) hk hf hw dX8_statement_33
  · rw [if_neg hc9] at hf
    refine lv_aload_n G.1 G.2.1 dX8_statement_12 rfl (lv_at hl 0 rfl) ?_
    obtain ⟨z13, hcz13, hf⟩ := bd_some hf
    refine g_callV1 (As := []) (rest := []) G hw (gA_mono hw.2.2.2.1.1) C_7 iC_7 mv_X8_79 (c_Tr_ifStatement l D X E n rc fr0 lo0 hfr0 hlo0 hrc z1.2 z13.1 z13.2 hcz13) hl.1 rfl rfl (Nat.le_of_ble_eq_true rfl) (by dsimp only; omega) (by dsimp only; omega) ⟨Nat.le_refl _, Nat.le_refl _⟩ dX8_statement_13 (fun H locs hw => ?_)
    obtain ⟨hz14, hf⟩ := ck_some hf
    exact g_zretW G hr (zn hz14) hk hf hw dX8_statement_16

set_option maxHeartbeats 4000000 in
set_option maxRecDepth 100000 in
theorem c_Tr_statements_b (l : Launch) (D : va_G) (X : va_W) (E : gE) (n : Nat) (rc : Mem → Option (Int32 × Mem)) (fr0 lo0 : Nat) (hfr0 : 190 ≤ fr0) (hlo0 : 4471 ≤ lo0) (hrc : ∀ (g : Mem) (r : Int32) (g' : Mem), rc g = some (r, g') → gMet l yX8_statements cX8_statements 2 (some .boolean) fr0 lo0 D X idsC E [.ref (E.1 7 0)] g (some (.int r)) g') (g : Mem) (r : Int32) (g' : Mem) (hf : Tr_statements_b rc n g = some (r, g')) : gMet l yX8_statements cX8_statements 2 (some .boolean) (fr0 + 4) (lo0 + 86) D X idsC E [.ref (E.1 7 0)] g (some (.int r)) g' := by
  rw [Tr_statements_b] at hf
  refine gt_code (by decide) (Nat.le_of_ble_eq_true rfl) (fun p en s m below meth c ls G hr hk hw hl => ?_)
  have hl : lv_has ls 2 [(0, .ref (E.1 7 0))] := hl
  refine lv_iconst (v := (0 : Int32)) G.1 G.2.1 dX8_statements_0 (by decide) ?_
  refine lv_istore_n (lv' := [(1, .int (0 : Int32)), (0, .ref (E.1 7 0))]) G.1 G.2.1 dX8_statements_1 rfl hl (by decide) rfl (fun ls hl => ?_)
  have hL2 : ∀ (k1 : Nat) (x2 : Int32) (g3 : Mem) (res1 : (Mem) ⊕ (Mem)) (H : Heap) (locs : List Loc) (ls : Array Slot), Tr_statements_L2 n rc k1 x2 g3 = some res1 → GW D X idsC E (gA X idsC E s.heap.size) s g3 H locs → lv_has ls 2 [(0, .ref (E.1 7 0)), (1, .int x2)] → (∀ t : Mem, res1 = .inl t → ∀ (H : Heap) (locs : List Loc) (ls : Array Slot), GW D X idsC E (gA X idsC E s.heap.size) s t H locs → lv_has ls 2 [] → W p l en { frames := (fr0 + 4), cells := 0, slots := 0, locals := (lo0 + 86) } s m [.ref (E.1 7 0)].toArray below meth c H locs 0 0 (MQ below (gQ (some (.int r)) (GP D X idsC E g') (gA X idsC E s.heap.size)) [.ref (E.1 7 0)].toArray s 0 0 (gA X idsC E s.heap.size)) (F0 m 26 ls [])) → (∀ t : Mem, res1 = .inr t → ∀ (H : Heap) (locs : List Loc) (ls : Array Slot), GW D X idsC E (gA X idsC E s.heap.size) s t H locs → lv_has ls 2 [] → W p l en { frames := (fr0 + 4), cells := 0, slots := 0, locals := (lo0 + 86) } s m [.ref (E.1 7 0)].toArray below meth c H locs 0 0 (MQ below (gQ (some (.int r)) (GP D X idsC E g') (gA X idsC E s.heap.size)) [.ref (E.1 7 0)].toArray s 0 0 (gA X idsC E s.heap.size)) (F0 m 34 ls [])) → W p l en { frames := (fr0 + 4), cells := 0, slots := 0, locals := (lo0 + 86) } s m [.ref (E.1 7 0)].toArray below meth c H locs 0 0 (MQ below (gQ (some (.int r)) (GP D X idsC E g') (gA X idsC E s.heap.size)) [.ref (E.1 7 0)].toArray s 0 0 (gA X idsC E s.heap.size)) (F0 m 2 ls []) := by
    intro k1
    induction k1 with
    | zero => intro x2 g3 res1 H locs ls hf; rw [Tr_statements_L2] at hf; cases hf
    | succ k1 ih1 =>
      intro x2 g3 res1 H locs ls hf hw hl hk1_0 hk1_1
      rw [Tr_statements_L2] at hf
      refine lv_iload_n G.1 G.2.1 dX8_statements_2 rfl (lv_at hl 1 rfl) ?_
      refine lv_sipush (v := (700 : Int32)) G.1 G.2.1 dX8_statements_3 (by decide) ?_
      refine lv_icmp_ge (tgt := 34) G.1 G.2.1 dX8_statements_6 (by decide) (fun hc6 => ?_) (fun hc6 => ?_)
      · rw [if_pos hc6] at hf
        exact hk1_1 _ (Option.some.inj hf).symm _ _ ls hw (lv_sub hl [] rfl)
      · rw [if_neg hc6] at hf
        refine lv_aload_n G.1 G.2.1 dX8_statements_9 rfl (lv_at hl 0 rfl) ?_
        refine g_getC G hw C_7 iC_7 0 5 rfl (by decide) rfl fl_X8_14 dX8_statements_10 ?_
        obtain ⟨z4, hcz4, hf⟩ := bd_some hf
        refine g_callV1 (As := []) (rest := []) G hw (gA_mono hw.2.2.2.1.1) C_5 iC_5 mv_X8_67 (c_Rd_seesLetter l D X E n g3 z4.1 z4.2 hcz4) hl.1 rfl rfl (Nat.le_of_ble_eq_true rfl) (by dsimp only; omega) (by dsimp only; omega) ⟨Nat.le_refl _, Nat.le_refl _⟩ dX8_statements_13 (fun H locs hw => ?_)
        refine lv_if_eq (tgt := 34) G.1 G.2.1 dX8_statements_16 (by decide) (fun hc16 => ?_) (fun hc16 => ?_)
        · rw [if_pos hc16] at hf
          exact hk1_1 _ (Option.some.inj hf).symm _ _ ls hw (lv_sub hl [] rfl)
        · rw [if_neg hc16] at hf
          refine lv_aload_n G.1 G.2.1 dX8_statements_19 rfl (lv_at hl 0 rfl) ?_
          obtain ⟨z5, hcz5, hf⟩ := bd_some hf
          refine g_callV1 (As := []) (rest := []) G hw (gA_mono hw.2.2.2.1.1) C_7 iC_7 mv_X8_70 (c_Tr_statement l D X E n rc fr0 lo0 hfr0 hlo0 hrc z4.2 z5.1 z5.2 hcz5) hl.1 rfl rfl (Nat.le_of_ble_eq_true rfl) (by dsimp only; omega) (by dsimp only; omega) ⟨Nat.le_refl _, Nat.le_refl _⟩ dX8_statements_20 (fun H locs hw => ?_)
          refine lv_if_ne (tgt := 28) G.1 G.2.1 dX8_statements_23 (by decide) (fun hc23 => ?_) (fun hc23 => ?_)
          · rw [if_neg hc23] at hf
            refine lv_iinc (v := x2 + 1) (lv' := [(1, .int (x2 + 1)), (0, .ref (E.1 7 0))]) G.1 G.2.1 dX8_statements_28 hl (k := 1) rfl rfl (by decide) rfl (fun ls hl => ?_)
            refine lv_goto (tgt := 2) G.1 G.2.1 dX8_statements_31 (by decide) ?_
            exact ih1 (x2 + 1) z5.2 _ _ _ ls hf hw (lv_sub hl [1, 0] rfl) hk1_0 hk1_1
          · rw [if_pos hc23] at hf
            exact hk1_0 _ (Option.some.inj hf).symm _ _ ls hw (lv_sub hl [] rfl)
  obtain ⟨r6, hr6, hf⟩ := bd_some hf
  refine hL2 n (0 : Int32) g r6 _ _ ls hr6 hw (lv_sub hl [1, 0] rfl) ?_ ?_
  · intro t7 htt7 H locs ls hw hl
    rw [htt7] at hf
    dsimp only at hf
    refine lv_iconst (v := (0 : Int32)) G.1 G.2.1 dX8_statements_26 (by decide) ?_
    exact g_zretW G hr rfl hk hf hw dX8_statements_27
  · intro t8 htt8 H locs ls hw hl
    rw [htt8] at hf
    dsimp only at hf
    refine lv_iconst (v := (1 : Int32)) G.1 G.2.1 dX8_statements_34 (by decide) ?_
    exact g_zretW G hr rfl hk hf hw dX8_statements_35
theorem c_Tr_statements (l : Launch) (D : va_G) (X : va_W) (E : gE) (n : Nat) : ∀ (d : Nat) (g : Mem) (r : Int32) (g' : Mem), Tr_statements n d g = some (r, g') → gMet l yX8_statements cX8_statements 2 (some .boolean) (190 + d * 4) (4471 + d * 86) D X idsC E [.ref (E.1 7 0)] g (some (.int r)) g' := by
  intro d
  induction d with
  | zero => intro g r g' hf; rw [Tr_statements] at hf; cases hf
  | succ d ih =>
    intro g r g' hf
    rw [Tr_statements] at hf
    rw [show 190 + (d + 1) * 4 = (190 + d * 4) + 4 by omega, show 4471 + (d + 1) * 86 = (4471 + d * 86) + 86 by omega]
    exact c_Tr_statements_b l D X E n (Tr_statements n d) _ _ (Nat.le_add_right _ _) (Nat.le_add_right _ _) ih g r g' hf

set_option maxHeartbeats 4000000 in
set_option maxRecDepth 100000 in
theorem c_Tr_translate (l : Launch) (D : va_G) (X : va_W) (E : gE) (n : Nat) (p1 : Nat) (hv_p1 : p1 < 2) (g : Mem) (r : Int32) (g' : Mem) (hf : Tr_translate n p1 g = some (r, g')) : gMet l yX8_translate cX8_translate 2 (some .boolean) 251 5782 D X idsC E [.ref (E.1 7 0), .ref (E.1 4 p1)] g (some (.int r)) g' := by
  rw [Tr_translate] at hf
  refine gt_code (by decide) (Nat.le_of_ble_eq_true rfl) (fun p en s m below meth c ls G hr hk hw hl => ?_)
  have hl : lv_has ls 2 [(0, .ref (E.1 7 0)), (1, .ref (E.1 4 p1))] := hl
  refine lv_aload_n G.1 G.2.1 dX8_translate_0 rfl (lv_at hl 0 rfl) ?_
  refine lv_aload_n G.1 G.2.1 dX8_translate_1 rfl (lv_at hl 1 rfl) ?_
  obtain ⟨g1, eg1, hf⟩ := lt9_some hf
  refine g_putR G hw C_7 iC_7 2 4 rfl rfl fl_X8_31 rfl rfl rfl dX8_translate_2 (fun H locs hw => ?_)
  rw [← eg1] at hw
  refine lv_aload_n G.1 G.2.1 dX8_translate_5 rfl (lv_at hl 0 rfl) ?_
  obtain ⟨p2, hep2, hf⟩ := bd_some hf
  obtain ⟨hvp2, hf⟩ := ck_some hf
  refine g_getR G hw C_7 iC_7 2 4 rfl rfl fl_X8_31 hep2 dX8_translate_6 ?_
  obtain ⟨g3, hcg3, hf⟩ := bd_some hf
  refine g_callV0 (As := []) (rest := []) G hw (gA_mono hw.2.2.2.1.1) C_4 (iC_4 hvp2) mv_X8_35 (c_Pg_clear l D X E n p2 hvp2 g1 g3 hcg3) hl.1 rfl rfl (Nat.le_of_ble_eq_true rfl) (Nat.le_of_ble_eq_true rfl) (Nat.le_of_ble_eq_true rfl) ⟨Nat.le_refl _, Nat.le_refl _⟩ dX8_translate_9 (fun H locs hw => ?_)
  refine lv_aload_n G.1 G.2.1 dX8_translate_12 rfl (lv_at hl 0 rfl) ?_
  refine g_getC G hw C_7 iC_7 0 5 rfl (by decide) rfl fl_X8_14 dX8_translate_13 ?_
  obtain ⟨g4, hcg4, hf⟩ := bd_some hf
  refine g_callV0 (As := []) (rest := []) G hw (gA_mono hw.2.2.2.1.1) C_5 iC_5 mv_X8_40 (c_Rd_rewind l D X E n g3 g4 hcg4) hl.1 rfl rfl (Nat.le_of_ble_eq_true rfl) (Nat.le_of_ble_eq_true rfl) (Nat.le_of_ble_eq_true rfl) ⟨Nat.le_refl _, Nat.le_refl _⟩ dX8_translate_16 (fun H locs hw => ?_)
  refine lv_aload_n G.1 G.2.1 dX8_translate_19 rfl (lv_at hl 0 rfl) ?_
  refine g_getC G hw C_7 iC_7 1 8 rfl (by decide) rfl fl_X8_23 dX8_translate_20 ?_
  refine lv_aload_n G.1 G.2.1 dX8_translate_23 rfl (lv_at hl 0 rfl) ?_
  obtain ⟨p5, hep5, hf⟩ := bd_some hf
  obtain ⟨hvp5, hf⟩ := ck_some hf
  refine g_getR G hw C_7 iC_7 2 4 rfl rfl fl_X8_31 hep5 dX8_translate_24 ?_
  obtain ⟨g6, hcg6, hf⟩ := bd_some hf
  refine g_callV0 (As := [.ref (E.1 4 p5)]) (rest := []) G hw (gA_mono hw.2.2.2.1.1) C_8 iC_8 mv_X8_43 (c_Wy_start l D X E n p5 hvp5 g4 g6 hcg6) hl.1 rfl rfl (Nat.le_of_ble_eq_true rfl) (Nat.le_of_ble_eq_true rfl) (Nat.le_of_ble_eq_true rfl) ⟨Nat.le_refl _, Nat.le_refl _⟩ dX8_translate_27 (fun H locs hw => ?_)
  refine lv_aload_n G.1 G.2.1 dX8_translate_30 rfl (lv_at hl 0 rfl) ?_
  refine lv_iconst (v := (0 : Int32)) G.1 G.2.1 dX8_translate_31 (by decide) ?_
  obtain ⟨g7, eg7, hf⟩ := lt9_some hf
  refine g_putI G hw C_7 iC_7 3 rfl fl_X8_47 rfl rfl rfl dX8_translate_32 (fun H locs hw => ?_)
  rw [← eg7] at hw
  refine lv_aload_n G.1 G.2.1 dX8_translate_35 rfl (lv_at hl 0 rfl) ?_
  refine lv_iconst (v := (0 : Int32)) G.1 G.2.1 dX8_translate_36 (by decide) ?_
  obtain ⟨g8, eg8, hf⟩ := lt9_some hf
  refine g_putI G hw C_7 iC_7 4 rfl fl_X8_50 rfl rfl rfl dX8_translate_37 (fun H locs hw => ?_)
  rw [← eg8] at hw
  refine lv_aload_n G.1 G.2.1 dX8_translate_40 rfl (lv_at hl 0 rfl) ?_
  refine lv_iconst (v := (0 : Int32)) G.1 G.2.1 dX8_translate_41 (by decide) ?_
  obtain ⟨g9, eg9, hf⟩ := lt9_some hf
  refine g_putI G hw C_7 iC_7 5 rfl fl_X8_53 rfl rfl rfl dX8_translate_42 (fun H locs hw => ?_)
  rw [← eg9] at hw
  refine lv_aload_n G.1 G.2.1 dX8_translate_45 rfl (lv_at hl 0 rfl) ?_
  refine lv_iconst (v := (-1 : Int32)) G.1 G.2.1 dX8_translate_46 (by decide) ?_
  obtain ⟨g10, eg10, hf⟩ := lt9_some hf
  refine g_putI G hw C_7 iC_7 6 rfl fl_X8_27 rfl rfl rfl dX8_translate_47 (fun H locs hw => ?_)
  rw [← eg10] at hw
  refine lv_aload_n G.1 G.2.1 dX8_translate_50 rfl (lv_at hl 0 rfl) ?_
  obtain ⟨z11, hcz11, hf⟩ := bd_some hf
  refine g_callV1 (As := []) (rest := []) G hw (gA_mono hw.2.2.2.1.1) C_7 iC_7 mv_X8_56 (c_Tr_statements l D X E n 15 g10 z11.1 z11.2 hcz11) hl.1 rfl rfl (Nat.le_of_ble_eq_true rfl) (Nat.le_of_ble_eq_true rfl) (Nat.le_of_ble_eq_true rfl) ⟨Nat.le_refl _, Nat.le_refl _⟩ dX8_translate_51 (fun H locs hw => ?_)
  refine lv_if_eq (tgt := 65) G.1 G.2.1 dX8_translate_54 (by decide) (fun hc54 => ?_) (fun hc54 => ?_)
  · rw [if_pos hc54] at hf
    refine lv_iconst (v := (0 : Int32)) G.1 G.2.1 dX8_translate_65 (by decide) ?_
    exact g_zretW G hr rfl hk hf hw dX8_translate_66
  · rw [if_neg hc54] at hf
    refine lv_aload_n G.1 G.2.1 dX8_translate_57 rfl (lv_at hl 0 rfl) ?_
    refine lv_iconst (v := (-1 : Int32)) G.1 G.2.1 dX8_translate_58 (by decide) ?_
    obtain ⟨z12, hcz12, hf⟩ := bd_some hf
    refine g_callV1 (As := [.int (-1 : Int32)]) (rest := []) G hw (gA_mono hw.2.2.2.1.1) C_7 iC_7 mv_X8_60 (c_Tr_meets l D X E n (-1 : Int32) z11.2 z12.1 z12.2 hcz12) hl.1 rfl rfl (Nat.le_of_ble_eq_true rfl) (Nat.le_of_ble_eq_true rfl) (Nat.le_of_ble_eq_true rfl) ⟨Nat.le_refl _, Nat.le_refl _⟩ dX8_translate_59 (fun H locs hw => ?_)
    refine lv_if_ne (tgt := 67) G.1 G.2.1 dX8_translate_62 (by decide) (fun hc62 => ?_) (fun hc62 => ?_)
    · rw [if_neg hc62] at hf
      refine lv_aload_n G.1 G.2.1 dX8_translate_67 rfl (lv_at hl 0 rfl) ?_
      refine g_getC G hw C_7 iC_7 1 8 rfl (by decide) rfl fl_X8_23 dX8_translate_68 ?_
      obtain ⟨g13, hcg13, hf⟩ := bd_some hf
      refine g_callV0 (As := []) (rest := []) G hw (gA_mono hw.2.2.2.1.1) C_8 iC_8 mv_X8_64 (c_Wy_settle l D X E n z12.2 g13 hcg13) hl.1 rfl rfl (Nat.le_of_ble_eq_true rfl) (Nat.le_of_ble_eq_true rfl) (Nat.le_of_ble_eq_true rfl) ⟨Nat.le_refl _, Nat.le_refl _⟩ dX8_translate_71 (fun H locs hw => ?_)
      refine lv_iconst (v := (1 : Int32)) G.1 G.2.1 dX8_translate_74 (by decide) ?_
      exact g_zretW G hr rfl hk hf hw dX8_translate_75
    · rw [if_pos hc62] at hf
      refine lv_iconst (v := (0 : Int32)) G.1 G.2.1 dX8_translate_65 (by decide) ?_
      exact g_zretW G hr rfl hk hf hw dX8_translate_66
