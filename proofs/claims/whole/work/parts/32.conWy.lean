/-! contracts (printed by program) -/
set_option maxHeartbeats 4000000 in
set_option maxRecDepth 100000 in
theorem c_Wy_openBlock (l : Launch) (D : va_G) (X : va_W) (E : gE) (n : Nat) (g : Mem) (g' : Mem) (hf : Wy_openBlock n g = some g') : gMet l yX9_openBlock cX9_openBlock 1 none 2 42 D X idsC E [.ref (E.1 8 0)] g none g' := by
  rw [Wy_openBlock] at hf
  refine gt_code (by decide) (Nat.le_of_ble_eq_true rfl) (fun p en s m below meth c ls G hr hk hw hl => ?_)
  have hl : lv_has ls 1 [(0, .ref (E.1 8 0))] := hl
  refine lv_aload_n G.1 G.2.1 dX9_openBlock_0 rfl (lv_at hl 0 rfl) ?_
  refine g_getN G hw C_8 iC_8 4 0 rfl rfl fl_X9_37 dX9_openBlock_1 ?_
  refine g_ifnonnull (tgt := 34) G dX9_openBlock_4 (by decide) (fun hc4 => ?_) (fun hc4 => ?_)
  · rw [if_neg hc4] at hf
    exact g_vretW G hr hk hf hw dX9_openBlock_34
  · rw [if_pos hc4] at hf
    refine lv_aload_n G.1 G.2.1 dX9_openBlock_7 rfl (lv_at hl 0 rfl) ?_
    refine g_getC G hw C_8 iC_8 0 21 rfl (by decide) rfl fl_X9_9 dX9_openBlock_8 ?_
    refine lv_aload_n G.1 G.2.1 dX9_openBlock_11 rfl (lv_at hl 0 rfl) ?_
    refine g_getI G hw C_8 iC_8 5 rfl fl_X9_34 dX9_openBlock_12 ?_
    refine lv_aload_n G.1 G.2.1 dX9_openBlock_15 rfl (lv_at hl 0 rfl) ?_
    obtain ⟨p1, hep1, hf⟩ := bd_some hf
    obtain ⟨hvp1, hf⟩ := ck_some hf
    refine g_getR G hw C_8 iC_8 3 4 rfl rfl fl_X9_18 hep1 dX9_openBlock_16 ?_
    refine g_getI G hw C_4 (iC_4 hvp1) 3 rfl fl_X9_41 dX9_openBlock_19 ?_
    obtain ⟨j2, hj2, hf⟩ := bd_some hf
    obtain ⟨g3, eg3, hf⟩ := lt9_some hf
    refine g_iast G hw iC_21 (by decide) rfl hj2 dX9_openBlock_22 (fun H locs hw => ?_)
    rw [← eg3] at hw
    refine lv_aload_n G.1 G.2.1 dX9_openBlock_23 rfl (lv_at hl 0 rfl) ?_
    refine lv_aload_n G.1 G.2.1 dX9_openBlock_24 rfl (lv_at hl 0 rfl) ?_
    obtain ⟨p4, hep4, hf⟩ := bd_some hf
    obtain ⟨hvp4, hf⟩ := ck_some hf
    refine g_getR G hw C_8 iC_8 3 4 rfl rfl fl_X9_18 hep4 dX9_openBlock_25 ?_
    obtain ⟨z5, hcz5, hf⟩ := bd_some hf
    obtain ⟨hv6, hf⟩ := ck_some hf
    refine g_callV1 (As := []) (rest := [.ref (E.1 8 0)]) G hw (gA_mono hw.2.2.2.1.1) C_4 (iC_4 hvp4) mv_X9_46 (c_Pg_addBlock l D X E n p4 hvp4 g3 z5.1 z5.2 hcz5) hl.1 rfl rfl (Nat.le_of_ble_eq_true rfl) (Nat.le_of_ble_eq_true rfl) (Nat.le_of_ble_eq_true rfl) ⟨Nat.le_refl _, Nat.le_refl _⟩ dX9_openBlock_28 (fun H locs hw => ?_)
    obtain ⟨g7, eg7, hf⟩ := lt9_some hf
    refine g_putR G hw C_8 iC_8 4 0 rfl rfl fl_X9_37 rfl rfl rfl dX9_openBlock_31 (fun H locs hw => ?_)
    rw [← eg7] at hw
    exact g_vretW G hr hk hf hw dX9_openBlock_34

set_option maxHeartbeats 4000000 in
set_option maxRecDepth 100000 in
theorem c_Wy_standAt (l : Launch) (D : va_G) (X : va_W) (E : gE) (n : Nat) (a1 : Int32) (g : Mem) (g' : Mem) (hf : Wy_standAt n a1 g = some g') : gMet l yX9_standAt cX9_standAt 2 none 0 0 D X idsC E [.ref (E.1 8 0), .int a1] g none g' := by
  rw [Wy_standAt] at hf
  refine gt_code (by decide) (Nat.le_of_ble_eq_true rfl) (fun p en s m below meth c ls G hr hk hw hl => ?_)
  have hl : lv_has ls 2 [(0, .ref (E.1 8 0)), (1, .int a1)] := hl
  refine lv_aload_n G.1 G.2.1 dX9_standAt_0 rfl (lv_at hl 0 rfl) ?_
  refine lv_iload_n G.1 G.2.1 dX9_standAt_1 rfl (lv_at hl 1 rfl) ?_
  obtain ⟨g1, eg1, hf⟩ := lt9_some hf
  refine g_putI G hw C_8 iC_8 5 rfl fl_X9_34 rfl rfl rfl dX9_standAt_2 (fun H locs hw => ?_)
  rw [← eg1] at hw
  refine lv_aload_n G.1 G.2.1 dX9_standAt_5 rfl (lv_at hl 0 rfl) ?_
  refine lv_null G.1 G.2.1 dX9_standAt_6 ?_
  obtain ⟨g2, eg2, hf⟩ := lt9_some hf
  refine g_put0 G hw C_8 iC_8 4 0 rfl rfl fl_X9_37 rfl rfl rfl dX9_standAt_7 (fun H locs hw => ?_)
  rw [← eg2] at hw
  exact g_vretW G hr hk hf hw dX9_standAt_10

set_option maxHeartbeats 4000000 in
set_option maxRecDepth 100000 in
theorem c_Wy_choose (l : Launch) (D : va_G) (X : va_W) (E : gE) (n : Nat) (a1 : Int32) (a2 : Int32) (a3 : Int32) (g : Mem) (g' : Mem) (hf : Wy_choose n a1 a2 a3 g = some g') : gMet l yX9_choose cX9_choose 4 none 0 0 D X idsC E [.ref (E.1 8 0), .int a1, .int a2, .int a3] g none g' := by
  rw [Wy_choose] at hf
  refine gt_code (by decide) (Nat.le_of_ble_eq_true rfl) (fun p en s m below meth c ls G hr hk hw hl => ?_)
  have hl : lv_has ls 4 [(0, .ref (E.1 8 0)), (1, .int a1), (2, .int a2), (3, .int a3)] := hl
  refine lv_aload_n G.1 G.2.1 dX9_choose_0 rfl (lv_at hl 0 rfl) ?_
  refine g_getN G hw C_8 iC_8 4 0 rfl rfl fl_X9_37 dX9_choose_1 ?_
  refine g_ifnull (tgt := 39) G dX9_choose_4 (by decide) (fun hc4 => ?_) (fun hc4 => ?_)
  · rw [if_pos hc4] at hf
    exact g_vretW G hr hk hf hw dX9_choose_39
  · rw [if_neg hc4] at hf
    refine lv_aload_n G.1 G.2.1 dX9_choose_7 rfl (lv_at hl 0 rfl) ?_
    obtain ⟨b1, heb1, hf⟩ := bd_some hf
    obtain ⟨hvb1, hf⟩ := ck_some hf
    refine g_getR G hw C_8 iC_8 4 0 rfl rfl fl_X9_37 heb1 dX9_choose_8 ?_
    refine lv_iconst (v := (1 : Int32)) G.1 G.2.1 dX9_choose_11 (by decide) ?_
    obtain ⟨g2, eg2, hf⟩ := lt9_some hf
    refine g_putI G hw C_0 (iC_0 hvb1) 2 rfl fl_X9_50 rfl rfl rfl dX9_choose_12 (fun H locs hw => ?_)
    rw [← eg2] at hw
    refine lv_aload_n G.1 G.2.1 dX9_choose_15 rfl (lv_at hl 0 rfl) ?_
    obtain ⟨b3, heb3, hf⟩ := bd_some hf
    obtain ⟨hvb3, hf⟩ := ck_some hf
    refine g_getR G hw C_8 iC_8 4 0 rfl rfl fl_X9_37 heb3 dX9_choose_16 ?_
    refine lv_iload_n G.1 G.2.1 dX9_choose_19 rfl (lv_at hl 1 rfl) ?_
    obtain ⟨g4, eg4, hf⟩ := lt9_some hf
    refine g_putI G hw C_0 (iC_0 hvb3) 3 rfl fl_X9_56 rfl rfl rfl dX9_choose_20 (fun H locs hw => ?_)
    rw [← eg4] at hw
    refine lv_aload_n G.1 G.2.1 dX9_choose_23 rfl (lv_at hl 0 rfl) ?_
    obtain ⟨b5, heb5, hf⟩ := bd_some hf
    obtain ⟨hvb5, hf⟩ := ck_some hf
    refine g_getR G hw C_8 iC_8 4 0 rfl rfl fl_X9_37 heb5 dX9_choose_24 ?_
    refine lv_iload_n G.1 G.2.1 dX9_choose_27 rfl (lv_at hl 2 rfl) ?_
    obtain ⟨g6, eg6, hf⟩ := lt9_some hf
    refine g_putI G hw C_0 (iC_0 hvb5) 4 rfl fl_X9_59 rfl rfl rfl dX9_choose_28 (fun H locs hw => ?_)
    rw [← eg6] at hw
    refine lv_aload_n G.1 G.2.1 dX9_choose_31 rfl (lv_at hl 0 rfl) ?_
    obtain ⟨b7, heb7, hf⟩ := bd_some hf
    obtain ⟨hvb7, hf⟩ := ck_some hf
    refine g_getR G hw C_8 iC_8 4 0 rfl rfl fl_X9_37 heb7 dX9_choose_32 ?_
    refine lv_iload_n G.1 G.2.1 dX9_choose_35 rfl (lv_at hl 3 rfl) ?_
    obtain ⟨g8, eg8, hf⟩ := lt9_some hf
    refine g_putI G hw C_0 (iC_0 hvb7) 5 rfl fl_X9_62 rfl rfl rfl dX9_choose_36 (fun H locs hw => ?_)
    rw [← eg8] at hw
    exact g_vretW G hr hk hf hw dX9_choose_39

set_option maxHeartbeats 4000000 in
set_option maxRecDepth 100000 in
theorem c_Wy_addJoint (l : Launch) (D : va_G) (X : va_W) (E : gE) (n : Nat) (g : Mem) (r : Int32) (g' : Mem) (hf : Wy_addJoint n g = some (r, g')) : gMet l yX9_addJoint cX9_addJoint 2 (some .int) 0 0 D X idsC E [.ref (E.1 8 0)] g (some (.int r)) g' := by
  rw [Wy_addJoint] at hf
  refine gt_code (by decide) (Nat.le_of_ble_eq_true rfl) (fun p en s m below meth c ls G hr hk hw hl => ?_)
  have hl : lv_has ls 2 [(0, .ref (E.1 8 0))] := hl
  refine lv_aload_n G.1 G.2.1 dX9_addJoint_0 rfl (lv_at hl 0 rfl) ?_
  refine g_getI G hw C_8 iC_8 2 rfl fl_X9_22 dX9_addJoint_1 ?_
  refine lv_istore_n (lv' := [(1, .int (gI g 8 0 2)), (0, .ref (E.1 8 0))]) G.1 G.2.1 dX9_addJoint_4 rfl hl (by decide) rfl (fun ls hl => ?_)
  refine lv_aload_n G.1 G.2.1 dX9_addJoint_5 rfl (lv_at hl 1 rfl) ?_
  refine g_getC G hw C_8 iC_8 0 21 rfl (by decide) rfl fl_X9_9 dX9_addJoint_6 ?_
  refine lv_iload_n G.1 G.2.1 dX9_addJoint_9 rfl (lv_at hl 0 rfl) ?_
  refine lv_iconst (v := (-1 : Int32)) G.1 G.2.1 dX9_addJoint_10 (by decide) ?_
  obtain ⟨j1, hj1, hf⟩ := bd_some hf
  obtain ⟨g2, eg2, hf⟩ := lt9_some hf
  refine g_iast G hw iC_21 (by decide) rfl hj1 dX9_addJoint_11 (fun H locs hw => ?_)
  rw [← eg2] at hw
  refine lv_aload_n G.1 G.2.1 dX9_addJoint_12 rfl (lv_at hl 1 rfl) ?_
  refine g_getC G hw C_8 iC_8 1 22 rfl (by decide) rfl fl_X9_15 dX9_addJoint_13 ?_
  refine lv_iload_n G.1 G.2.1 dX9_addJoint_16 rfl (lv_at hl 0 rfl) ?_
  refine lv_iconst (v := (-1 : Int32)) G.1 G.2.1 dX9_addJoint_17 (by decide) ?_
  obtain ⟨j3, hj3, hf⟩ := bd_some hf
  obtain ⟨g4, eg4, hf⟩ := lt9_some hf
  refine g_iast G hw iC_22 (by decide) rfl hj3 dX9_addJoint_18 (fun H locs hw => ?_)
  rw [← eg4] at hw
  refine lv_aload_n G.1 G.2.1 dX9_addJoint_19 rfl (lv_at hl 1 rfl) ?_
  refine lv_dup G.1 G.2.1 dX9_addJoint_20 rfl ?_
  refine g_getI G hw C_8 iC_8 2 rfl fl_X9_22 dX9_addJoint_21 ?_
  refine lv_iconst (v := (1 : Int32)) G.1 G.2.1 dX9_addJoint_24 (by decide) ?_
  refine lv_iadd G.1 G.2.1 dX9_addJoint_25 ?_
  obtain ⟨g5, eg5, hf⟩ := lt9_some hf
  refine g_putI G hw C_8 iC_8 2 rfl fl_X9_22 rfl rfl rfl dX9_addJoint_26 (fun H locs hw => ?_)
  rw [← eg5] at hw
  refine lv_iload_n G.1 G.2.1 dX9_addJoint_29 rfl (lv_at hl 0 rfl) ?_
  exact g_iretW G hr hk hf hw dX9_addJoint_30

set_option maxHeartbeats 4000000 in
set_option maxRecDepth 100000 in
theorem c_Wy_goTo (l : Launch) (D : va_G) (X : va_W) (E : gE) (n : Nat) (a1 : Int32) (g : Mem) (g' : Mem) (hf : Wy_goTo n a1 g = some g') : gMet l yX9_goTo cX9_goTo 2 none 0 0 D X idsC E [.ref (E.1 8 0), .int a1] g none g' := by
  rw [Wy_goTo] at hf
  refine gt_code (by decide) (Nat.le_of_ble_eq_true rfl) (fun p en s m below meth c ls G hr hk hw hl => ?_)
  have hl : lv_has ls 2 [(0, .ref (E.1 8 0)), (1, .int a1)] := hl
  refine lv_aload_n G.1 G.2.1 dX9_goTo_0 rfl (lv_at hl 0 rfl) ?_
  refine g_getN G hw C_8 iC_8 4 0 rfl rfl fl_X9_37 dX9_goTo_1 ?_
  refine g_ifnonnull (tgt := 20) G dX9_goTo_4 (by decide) (fun hc4 => ?_) (fun hc4 => ?_)
  · rw [if_neg hc4] at hf
    refine lv_aload_n G.1 G.2.1 dX9_goTo_20 rfl (lv_at hl 0 rfl) ?_
    obtain ⟨b1, heb1, hf⟩ := bd_some hf
    obtain ⟨hvb1, hf⟩ := ck_some hf
    refine g_getR G hw C_8 iC_8 4 0 rfl rfl fl_X9_37 heb1 dX9_goTo_21 ?_
    refine lv_iload_n G.1 G.2.1 dX9_goTo_24 rfl (lv_at hl 1 rfl) ?_
    obtain ⟨g2, eg2, hf⟩ := lt9_some hf
    refine g_putI G hw C_0 (iC_0 hvb1) 4 rfl fl_X9_59 rfl rfl rfl dX9_goTo_25 (fun H locs hw => ?_)
    rw [← eg2] at hw
    exact g_vretW G hr hk hf hw dX9_goTo_28
  · rw [if_pos hc4] at hf
    refine lv_aload_n G.1 G.2.1 dX9_goTo_7 rfl (lv_at hl 0 rfl) ?_
    refine g_getC G hw C_8 iC_8 1 22 rfl (by decide) rfl fl_X9_15 dX9_goTo_8 ?_
    refine lv_aload_n G.1 G.2.1 dX9_goTo_11 rfl (lv_at hl 0 rfl) ?_
    refine g_getI G hw C_8 iC_8 5 rfl fl_X9_34 dX9_goTo_12 ?_
    refine lv_iload_n G.1 G.2.1 dX9_goTo_15 rfl (lv_at hl 1 rfl) ?_
    obtain ⟨j3, hj3, hf⟩ := bd_some hf
    obtain ⟨g4, eg4, hf⟩ := lt9_some hf
    refine g_iast G hw iC_22 (by decide) rfl hj3 dX9_goTo_16 (fun H locs hw => ?_)
    rw [← eg4] at hw
    refine lv_goto (tgt := 28) G.1 G.2.1 dX9_goTo_17 (by decide) ?_
    exact g_vretW G hr hk hf hw dX9_goTo_28

set_option maxHeartbeats 4000000 in
set_option maxRecDepth 100000 in
theorem c_Wy_blockFrom (l : Launch) (D : va_G) (X : va_W) (E : gE) (n : Nat) (a1 : Int32) (g : Mem) (r : Int32) (hf : Wy_blockFrom n a1 g = some r) : gMet l yX9_blockFrom cX9_blockFrom 4 (some .int) 0 0 D X idsC E [.ref (E.1 8 0), .int a1] g (some (.int r)) g := by
  rw [Wy_blockFrom] at hf
  refine gt_code (by decide) (Nat.le_of_ble_eq_true rfl) (fun p en s m below meth c ls G hr hk hw hl => ?_)
  have hl : lv_has ls 4 [(0, .ref (E.1 8 0)), (1, .int a1)] := hl
  refine lv_iload_n G.1 G.2.1 dX9_blockFrom_0 rfl (lv_at hl 1 rfl) ?_
  refine lv_istore_n (lv' := [(2, .int a1), (0, .ref (E.1 8 0)), (1, .int a1)]) G.1 G.2.1 dX9_blockFrom_1 rfl hl (by decide) rfl (fun ls hl => ?_)
  refine lv_iconst (v := (0 : Int32)) G.1 G.2.1 dX9_blockFrom_2 (by decide) ?_
  refine lv_istore_n (lv' := [(3, .int (0 : Int32)), (2, .int a1), (0, .ref (E.1 8 0)), (1, .int a1)]) G.1 G.2.1 dX9_blockFrom_3 rfl hl (by decide) rfl (fun ls hl => ?_)
  have hL4 : ∀ (k1 : Nat) (x2 : Int32) (x3 : Int32) (res1 : (Int32) ⊕ (Unit)) (H : Heap) (locs : List Loc) (ls : Array Slot), Wy_blockFrom_L4 n g k1 x2 x3 = some res1 → GW D X idsC E (gA X idsC E s.heap.size) s g H locs → lv_has ls 4 [(0, .ref (E.1 8 0)), (2, .int x2), (3, .int x3)] → (∀ t : Int32, res1 = .inl t → ∀ (H : Heap) (locs : List Loc) (ls : Array Slot), GW D X idsC E (gA X idsC E s.heap.size) s g H locs → lv_has ls 4 [(0, .ref (E.1 8 0)), (2, .int t)] → W p l en { frames := 0, cells := 0, slots := 0, locals := 0 } s m [.ref (E.1 8 0), .int a1].toArray below meth c H locs 0 0 (MQ below (gQ (some (.int r)) (GP D X idsC E g) (gA X idsC E s.heap.size)) [.ref (E.1 8 0), .int a1].toArray s 0 0 (gA X idsC E s.heap.size)) (F0 m 27 ls [])) → (∀ t : Unit, res1 = .inr t → ∀ (H : Heap) (locs : List Loc) (ls : Array Slot), GW D X idsC E (gA X idsC E s.heap.size) s g H locs → lv_has ls 4 [] → W p l en { frames := 0, cells := 0, slots := 0, locals := 0 } s m [.ref (E.1 8 0), .int a1].toArray below meth c H locs 0 0 (MQ below (gQ (some (.int r)) (GP D X idsC E g) (gA X idsC E s.heap.size)) [.ref (E.1 8 0), .int a1].toArray s 0 0 (gA X idsC E s.heap.size)) (F0 m 47 ls [])) → W p l en { frames := 0, cells := 0, slots := 0, locals := 0 } s m [.ref (E.1 8 0), .int a1].toArray below meth c H locs 0 0 (MQ below (gQ (some (.int r)) (GP D X idsC E g) (gA X idsC E s.heap.size)) [.ref (E.1 8 0), .int a1].toArray s 0 0 (gA X idsC E s.heap.size)) (F0 m 4 ls []) := by
    intro k1
    induction k1 with
    | zero => intro x2 x3 res1 H locs ls hf; rw [Wy_blockFrom_L4] at hf; cases hf
    | succ k1 ih1 =>
      intro x2 x3 res1 H locs ls hf hw hl hk1_0 hk1_1
      rw [Wy_blockFrom_L4] at hf
      refine lv_iload_n G.1 G.2.1 dX9_blockFrom_4 rfl (lv_at hl 2 rfl) ?_
      refine lv_aload_n G.1 G.2.1 dX9_blockFrom_5 rfl (lv_at hl 0 rfl) ?_
      refine g_getI G hw C_8 iC_8 2 rfl fl_X9_22 dX9_blockFrom_6 ?_
      refine lv_icmp_ge (tgt := 47) G.1 G.2.1 dX9_blockFrom_9 (by decide) (fun hc9 => ?_) (fun hc9 => ?_)
      · rw [if_pos hc9] at hf
        exact hk1_1 _ (Option.some.inj hf).symm _ _ ls hw (lv_sub hl [] rfl)
      · rw [if_neg hc9] at hf
        refine lv_iload_n G.1 G.2.1 dX9_blockFrom_12 rfl (lv_at hl 1 rfl) ?_
        refine lv_iconst (v := (-1 : Int32)) G.1 G.2.1 dX9_blockFrom_13 (by decide) ?_
        refine lv_icmp_eq (tgt := 47) G.1 G.2.1 dX9_blockFrom_14 (by decide) (fun hc14 => ?_) (fun hc14 => ?_)
        · rw [if_pos hc14] at hf
          exact hk1_1 _ (Option.some.inj hf).symm _ _ ls hw (lv_sub hl [] rfl)
        · rw [if_neg hc14] at hf
          refine lv_aload_n G.1 G.2.1 dX9_blockFrom_17 rfl (lv_at hl 0 rfl) ?_
          refine g_getC G hw C_8 iC_8 0 21 rfl (by decide) rfl fl_X9_9 dX9_blockFrom_18 ?_
          refine lv_iload_n G.1 G.2.1 dX9_blockFrom_21 rfl (lv_at hl 1 rfl) ?_
          obtain ⟨j4, hj4, hf⟩ := bd_some hf
          refine g_iald G hw iC_21 (by decide) rfl hj4 dX9_blockFrom_22 ?_
          refine lv_iconst (v := (-1 : Int32)) G.1 G.2.1 dX9_blockFrom_23 (by decide) ?_
          refine lv_icmp_eq (tgt := 34) G.1 G.2.1 dX9_blockFrom_24 (by decide) (fun hc24 => ?_) (fun hc24 => ?_)
          · rw [if_pos hc24] at hf
            refine lv_aload_n G.1 G.2.1 dX9_blockFrom_34 rfl (lv_at hl 0 rfl) ?_
            refine g_getC G hw C_8 iC_8 1 22 rfl (by decide) rfl fl_X9_15 dX9_blockFrom_35 ?_
            refine lv_iload_n G.1 G.2.1 dX9_blockFrom_38 rfl (lv_at hl 1 rfl) ?_
            obtain ⟨j5, hj5, hf⟩ := bd_some hf
            refine g_iald G hw iC_22 (by decide) rfl hj5 dX9_blockFrom_39 ?_
            refine lv_istore_n (lv' := [(2, .int (gI g 22 0 j5)), (0, .ref (E.1 8 0)), (3, .int x3)]) G.1 G.2.1 dX9_blockFrom_40 rfl hl (by decide) rfl (fun ls hl => ?_)
            refine lv_iinc (v := x3 + 1) (lv' := [(3, .int (x3 + 1)), (2, .int (gI g 22 0 j5)), (0, .ref (E.1 8 0))]) G.1 G.2.1 dX9_blockFrom_41 hl (k := 2) rfl rfl (by decide) rfl (fun ls hl => ?_)
            refine lv_goto (tgt := 4) G.1 G.2.1 dX9_blockFrom_44 (by decide) ?_
            exact ih1 (gI g 22 0 j5) (x3 + 1) _ _ _ ls hf hw (lv_sub hl [2, 1, 0] rfl) hk1_0 hk1_1
          · rw [if_neg hc24] at hf
            exact hk1_0 _ (Option.some.inj hf).symm _ _ ls hw (lv_sub hl [0, 1] rfl)
  obtain ⟨r6, hr6, hf⟩ := bd_some hf
  refine hL4 n a1 (0 : Int32) r6 _ _ ls hr6 hw (lv_sub hl [2, 1, 0] rfl) ?_ ?_
  · intro t7 htt7 H locs ls hw hl
    rw [htt7] at hf
    dsimp only at hf
    refine lv_aload_n G.1 G.2.1 dX9_blockFrom_27 rfl (lv_at hl 0 rfl) ?_
    refine g_getC G hw C_8 iC_8 0 21 rfl (by decide) rfl fl_X9_9 dX9_blockFrom_28 ?_
    refine lv_iload_n G.1 G.2.1 dX9_blockFrom_31 rfl (lv_at hl 1 rfl) ?_
    obtain ⟨j8, hj8, hf⟩ := bd_some hf
    refine g_iald G hw iC_21 (by decide) rfl hj8 dX9_blockFrom_32 ?_
    exact g_iretR G hr hk hf hw dX9_blockFrom_33
  · intro t9 htt9 H locs ls hw hl
    rw [htt9] at hf
    dsimp only at hf
    refine lv_iconst (v := (-1 : Int32)) G.1 G.2.1 dX9_blockFrom_47 (by decide) ?_
    exact g_iretR G hr hk hf hw dX9_blockFrom_48

set_option maxHeartbeats 4000000 in
set_option maxRecDepth 100000 in
theorem c_Wy_settle (l : Launch) (D : va_G) (X : va_W) (E : gE) (n : Nat) (g : Mem) (g' : Mem) (hf : Wy_settle n g = some g') : gMet l yX9_settle cX9_settle 3 none 1 23 D X idsC E [.ref (E.1 8 0)] g none g' := by
  rw [Wy_settle] at hf
  refine gt_code (by decide) (Nat.le_of_ble_eq_true rfl) (fun p en s m below meth c ls G hr hk hw hl => ?_)
  have hl : lv_has ls 3 [(0, .ref (E.1 8 0))] := hl
  refine lv_iconst (v := (0 : Int32)) G.1 G.2.1 dX9_settle_0 (by decide) ?_
  refine lv_istore_n (lv' := [(1, .int (0 : Int32)), (0, .ref (E.1 8 0))]) G.1 G.2.1 dX9_settle_1 rfl hl (by decide) rfl (fun ls hl => ?_)
  have hL2 : ∀ (k1 : Nat) (x2 : Int32) (g3 : Mem) (res1 : Mem) (H : Heap) (locs : List Loc) (ls : Array Slot), Wy_settle_L2 n k1 x2 g3 = some res1 → GW D X idsC E (gA X idsC E s.heap.size) s g3 H locs → lv_has ls 3 [(0, .ref (E.1 8 0)), (1, .int x2)] → (∀ (H : Heap) (locs : List Loc) (ls : Array Slot), GW D X idsC E (gA X idsC E s.heap.size) s res1 H locs → lv_has ls 3 [] → W p l en { frames := 1, cells := 0, slots := 0, locals := 23 } s m [.ref (E.1 8 0)].toArray below meth c H locs 0 0 (MQ below (gQ none (GP D X idsC E g') (gA X idsC E s.heap.size)) [.ref (E.1 8 0)].toArray s 0 0 (gA X idsC E s.heap.size)) (F0 m 53 ls [])) → W p l en { frames := 1, cells := 0, slots := 0, locals := 23 } s m [.ref (E.1 8 0)].toArray below meth c H locs 0 0 (MQ below (gQ none (GP D X idsC E g') (gA X idsC E s.heap.size)) [.ref (E.1 8 0)].toArray s 0 0 (gA X idsC E s.heap.size)) (F0 m 2 ls []) := by
    intro k1
    induction k1 with
    | zero => intro x2 g3 res1 H locs ls hf; rw [Wy_settle_L2] at hf; cases hf
    | succ k1 ih1 =>
      intro x2 g3 res1 H locs ls hf hw hl hk1_0
      rw [Wy_settle_L2] at hf
      refine lv_iload_n G.1 G.2.1 dX9_settle_2 rfl (lv_at hl 1 rfl) ?_
      refine lv_aload_n G.1 G.2.1 dX9_settle_3 rfl (lv_at hl 0 rfl) ?_
      obtain ⟨p4, hep4, hf⟩ := bd_some hf
      obtain ⟨hvp4, hf⟩ := ck_some hf
      refine g_getR G hw C_8 iC_8 3 4 rfl rfl fl_X9_18 hep4 dX9_settle_4 ?_
      refine g_getI G hw C_4 (iC_4 hvp4) 3 rfl fl_X9_41 dX9_settle_7 ?_
      refine lv_icmp_ge (tgt := 53) G.1 G.2.1 dX9_settle_10 (by decide) (fun hc10 => ?_) (fun hc10 => ?_)
      · rw [if_pos hc10] at hf
        obtain rfl := Option.some.inj hf
        exact hk1_0 _ _ ls hw (lv_sub hl [] rfl)
      · rw [if_neg hc10] at hf
        refine lv_aload_n G.1 G.2.1 dX9_settle_13 rfl (lv_at hl 0 rfl) ?_
        obtain ⟨p5, hep5, hf⟩ := bd_some hf
        obtain ⟨hvp5, hf⟩ := ck_some hf
        refine g_getR G hw C_8 iC_8 3 4 rfl rfl fl_X9_18 hep5 dX9_settle_14 ?_
        refine g_getC G hw C_4 (iC_4 hvp5) 1 32 rfl (by decide) rfl fl_X9_65 dX9_settle_17 ?_
        refine lv_iload_n G.1 G.2.1 dX9_settle_20 rfl (lv_at hl 1 rfl) ?_
        obtain ⟨j6, hj6, hf⟩ := bd_some hf
        refine g_bald G hw (iC_32 hvp5) (by decide) rfl hj6 dX9_settle_21 ?_
        refine lv_astore_n (lv' := [(2, .ref (E.1 0 (175 * p5 + j6))), (0, .ref (E.1 8 0)), (1, .int x2)]) G.1 G.2.1 dX9_settle_22 rfl hl (by decide) rfl (fun ls hl => ?_)
        refine lv_aload_n G.1 G.2.1 dX9_settle_23 rfl (lv_at hl 0 rfl) ?_
        refine lv_aload_n G.1 G.2.1 dX9_settle_24 rfl (lv_at hl 1 rfl) ?_
        refine lv_aload_n G.1 G.2.1 dX9_settle_25 rfl (lv_at hl 0 rfl) ?_
        refine g_getI G hw C_0 (iC_0 (v_0 hvp5 hj6)) 4 rfl fl_X9_59 dX9_settle_26 ?_
        obtain ⟨z7, hcz7, hf⟩ := bd_some hf
        refine g_callV1 (As := [.int (gI g3 0 (175 * p5 + j6) 4)]) (rest := [.ref (E.1 0 (175 * p5 + j6))]) G hw (gA_mono hw.2.2.2.1.1) C_8 iC_8 mv_X9_69 (c_Wy_blockFrom l D X E n (gI g3 0 (175 * p5 + j6) 4) g3 z7 hcz7) hl.1 rfl rfl (Nat.le_of_ble_eq_true rfl) (Nat.le_of_ble_eq_true rfl) (Nat.le_of_ble_eq_true rfl) ⟨Nat.le_refl _, Nat.le_refl _⟩ dX9_settle_29 (fun H locs hw => ?_)
        obtain ⟨g8, eg8, hf⟩ := lt9_some hf
        refine g_putI G hw C_0 (iC_0 (v_0 hvp5 hj6)) 4 rfl fl_X9_59 rfl rfl rfl dX9_settle_32 (fun H locs hw => ?_)
        rw [← eg8] at hw
        refine lv_aload_n G.1 G.2.1 dX9_settle_35 rfl (lv_at hl 0 rfl) ?_
        refine lv_aload_n G.1 G.2.1 dX9_settle_36 rfl (lv_at hl 1 rfl) ?_
        refine lv_aload_n G.1 G.2.1 dX9_settle_37 rfl (lv_at hl 0 rfl) ?_
        refine g_getI G hw C_0 (iC_0 (v_0 hvp5 hj6)) 5 rfl fl_X9_62 dX9_settle_38 ?_
        obtain ⟨z9, hcz9, hf⟩ := bd_some hf
        refine g_callV1 (As := [.int (gI g8 0 (175 * p5 + j6) 5)]) (rest := [.ref (E.1 0 (175 * p5 + j6))]) G hw (gA_mono hw.2.2.2.1.1) C_8 iC_8 mv_X9_69 (c_Wy_blockFrom l D X E n (gI g8 0 (175 * p5 + j6) 5) g8 z9 hcz9) hl.1 rfl rfl (Nat.le_of_ble_eq_true rfl) (Nat.le_of_ble_eq_true rfl) (Nat.le_of_ble_eq_true rfl) ⟨Nat.le_refl _, Nat.le_refl _⟩ dX9_settle_41 (fun H locs hw => ?_)
        obtain ⟨g10, eg10, hf⟩ := lt9_some hf
        refine g_putI G hw C_0 (iC_0 (v_0 hvp5 hj6)) 5 rfl fl_X9_62 rfl rfl rfl dX9_settle_44 (fun H locs hw => ?_)
        rw [← eg10] at hw
        refine lv_iinc (v := x2 + 1) (lv' := [(1, .int (x2 + 1)), (2, .ref (E.1 0 (175 * p5 + j6))), (0, .ref (E.1 8 0))]) G.1 G.2.1 dX9_settle_47 hl (k := 2) rfl rfl (by decide) rfl (fun ls hl => ?_)
        refine lv_goto (tgt := 2) G.1 G.2.1 dX9_settle_50 (by decide) ?_
        exact ih1 (x2 + 1) g10 _ _ _ ls hf hw (lv_sub hl [2, 0] rfl) hk1_0
  obtain ⟨r11, hr11, hf⟩ := bd_some hf
  refine hL2 n (0 : Int32) g r11 _ _ ls hr11 hw (lv_sub hl [1, 0] rfl) ?_
  intro H locs ls hw hl
  exact g_vretW G hr hk hf hw dX9_settle_53

set_option maxHeartbeats 4000000 in
set_option maxRecDepth 100000 in
theorem c_Wy_start (l : Launch) (D : va_G) (X : va_W) (E : gE) (n : Nat) (p1 : Nat) (hv_p1 : p1 < 2) (g : Mem) (g' : Mem) (hf : Wy_start n p1 g = some g') : gMet l yX9_start cX9_start 2 none 1 21 D X idsC E [.ref (E.1 8 0), .ref (E.1 4 p1)] g none g' := by
  rw [Wy_start] at hf
  refine gt_code (by decide) (Nat.le_of_ble_eq_true rfl) (fun p en s m below meth c ls G hr hk hw hl => ?_)
  have hl : lv_has ls 2 [(0, .ref (E.1 8 0)), (1, .ref (E.1 4 p1))] := hl
  refine lv_aload_n G.1 G.2.1 dX9_start_0 rfl (lv_at hl 0 rfl) ?_
  refine lv_aload_n G.1 G.2.1 dX9_start_1 rfl (lv_at hl 1 rfl) ?_
  obtain ⟨g1, eg1, hf⟩ := lt9_some hf
  refine g_putR G hw C_8 iC_8 3 4 rfl rfl fl_X9_18 rfl rfl rfl dX9_start_2 (fun H locs hw => ?_)
  rw [← eg1] at hw
  refine lv_aload_n G.1 G.2.1 dX9_start_5 rfl (lv_at hl 0 rfl) ?_
  refine lv_iconst (v := (0 : Int32)) G.1 G.2.1 dX9_start_6 (by decide) ?_
  obtain ⟨g2, eg2, hf⟩ := lt9_some hf
  refine g_putI G hw C_8 iC_8 2 rfl fl_X9_22 rfl rfl rfl dX9_start_7 (fun H locs hw => ?_)
  rw [← eg2] at hw
  refine lv_aload_n G.1 G.2.1 dX9_start_10 rfl (lv_at hl 0 rfl) ?_
  refine lv_aload_n G.1 G.2.1 dX9_start_11 rfl (lv_at hl 0 rfl) ?_
  obtain ⟨z3, hcz3, hf⟩ := bd_some hf
  refine g_callV1 (As := []) (rest := [.ref (E.1 8 0)]) G hw (gA_mono hw.2.2.2.1.1) C_8 iC_8 mv_X9_26 (c_Wy_addJoint l D X E n g2 z3.1 z3.2 hcz3) hl.1 rfl rfl (Nat.le_of_ble_eq_true rfl) (Nat.le_of_ble_eq_true rfl) (Nat.le_of_ble_eq_true rfl) ⟨Nat.le_refl _, Nat.le_refl _⟩ dX9_start_12 (fun H locs hw => ?_)
  obtain ⟨g4, hcg4, hf⟩ := bd_some hf
  refine g_callV0 (As := [.int z3.1]) (rest := []) G hw (gA_mono hw.2.2.2.1.1) C_8 iC_8 mv_X9_30 (c_Wy_standAt l D X E n z3.1 z3.2 g4 hcg4) hl.1 rfl rfl (Nat.le_of_ble_eq_true rfl) (Nat.le_of_ble_eq_true rfl) (Nat.le_of_ble_eq_true rfl) ⟨Nat.le_refl _, Nat.le_refl _⟩ dX9_start_15 (fun H locs hw => ?_)
  exact g_vretW G hr hk hf hw dX9_start_18
