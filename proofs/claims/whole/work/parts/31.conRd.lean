/-! contracts (printed by program) -/
set_option maxHeartbeats 4000000 in
set_option maxRecDepth 100000 in
theorem c_Rd_rewind (l : Launch) (D : va_G) (X : va_W) (E : gE) (n : Nat) (g : Mem) (g' : Mem) (hf : Rd_rewind n g = some g') : gMet l yX6_rewind cX6_rewind 1 none 0 0 D X idsC E [.ref (E.1 5 0)] g none g' := by
  rw [Rd_rewind] at hf
  refine gt_code (by decide) (Nat.le_of_ble_eq_true rfl) (fun p en s m below meth c ls G hr hk hw hl => ?_)
  have hl : lv_has ls 1 [(0, .ref (E.1 5 0))] := hl
  refine lv_aload_n G.1 G.2.1 dX6_rewind_0 rfl (lv_at hl 0 rfl) ?_
  refine lv_iconst (v := (0 : Int32)) G.1 G.2.1 dX6_rewind_1 (by decide) ?_
  obtain ⟨g1, eg1, hf⟩ := lt9_some hf
  refine g_putI G hw C_5 iC_5 1 rfl fl_X6_15 rfl rfl rfl dX6_rewind_2 (fun H locs hw => ?_)
  rw [← eg1] at hw
  exact g_vretW G hr hk hf hw dX6_rewind_5

set_option maxHeartbeats 4000000 in
set_option maxRecDepth 100000 in
theorem c_Rd_look (l : Launch) (D : va_G) (X : va_W) (E : gE) (n : Nat) (g : Mem) (r : Int32) (g' : Mem) (hf : Rd_look n g = some (r, g')) : gMet l yX6_look cX6_look 1 (some .int) 0 0 D X idsC E [.ref (E.1 5 0)] g (some (.int r)) g' := by
  rw [Rd_look] at hf
  refine gt_code (by decide) (Nat.le_of_ble_eq_true rfl) (fun p en s m below meth c ls G hr hk hw hl => ?_)
  have hl : lv_has ls 1 [(0, .ref (E.1 5 0))] := hl
  have hL0 : ∀ (k1 : Nat) (g2 : Mem) (res1 : (Mem) ⊕ (Mem)) (H : Heap) (locs : List Loc) (ls : Array Slot), Rd_look_L0 n k1 g2 = some res1 → GW D X idsC E (gA X idsC E s.heap.size) s g2 H locs → lv_has ls 1 [(0, .ref (E.1 5 0))] → (∀ t : Mem, res1 = .inl t → ∀ (H : Heap) (locs : List Loc) (ls : Array Slot), GW D X idsC E (gA X idsC E s.heap.size) s t H locs → lv_has ls 1 [(0, .ref (E.1 5 0))] → W p l en { frames := 0, cells := 0, slots := 0, locals := 0 } s m [.ref (E.1 5 0)].toArray below meth c H locs 0 0 (MQ below (gQ (some (.int r)) (GP D X idsC E g') (gA X idsC E s.heap.size)) [.ref (E.1 5 0)].toArray s 0 0 (gA X idsC E s.heap.size)) (F0 m 31 ls [])) → (∀ t : Mem, res1 = .inr t → ∀ (H : Heap) (locs : List Loc) (ls : Array Slot), GW D X idsC E (gA X idsC E s.heap.size) s t H locs → lv_has ls 1 [] → W p l en { frames := 0, cells := 0, slots := 0, locals := 0 } s m [.ref (E.1 5 0)].toArray below meth c H locs 0 0 (MQ below (gQ (some (.int r)) (GP D X idsC E g') (gA X idsC E s.heap.size)) [.ref (E.1 5 0)].toArray s 0 0 (gA X idsC E s.heap.size)) (F0 m 57 ls [])) → W p l en { frames := 0, cells := 0, slots := 0, locals := 0 } s m [.ref (E.1 5 0)].toArray below meth c H locs 0 0 (MQ below (gQ (some (.int r)) (GP D X idsC E g') (gA X idsC E s.heap.size)) [.ref (E.1 5 0)].toArray s 0 0 (gA X idsC E s.heap.size)) (F0 m 0 ls []) := by
    intro k1
    induction k1 with
    | zero => intro g2 res1 H locs ls hf; rw [Rd_look_L0] at hf; cases hf
    | succ k1 ih1 =>
      intro g2 res1 H locs ls hf hw hl hk1_0 hk1_1
      rw [Rd_look_L0] at hf
      refine lv_aload_n G.1 G.2.1 dX6_look_0 rfl (lv_at hl 0 rfl) ?_
      refine g_getI G hw C_5 iC_5 1 rfl fl_X6_15 dX6_look_1 ?_
      refine lv_aload_n G.1 G.2.1 dX6_look_4 rfl (lv_at hl 0 rfl) ?_
      refine g_getC G hw C_5 iC_5 0 6 rfl (by decide) rfl fl_X6_9 dX6_look_5 ?_
      refine g_getI G hw C_6 iC_6 1 rfl fl_X6_19 dX6_look_8 ?_
      refine lv_icmp_ge (tgt := 57) G.1 G.2.1 dX6_look_11 (by decide) (fun hc11 => ?_) (fun hc11 => ?_)
      · rw [if_pos hc11] at hf
        exact hk1_1 _ (Option.some.inj hf).symm _ _ ls hw (lv_sub hl [] rfl)
      · rw [if_neg hc11] at hf
        refine lv_aload_n G.1 G.2.1 dX6_look_14 rfl (lv_at hl 0 rfl) ?_
        refine g_getC G hw C_5 iC_5 0 6 rfl (by decide) rfl fl_X6_9 dX6_look_15 ?_
        refine g_getC G hw C_6 iC_6 0 20 rfl (by decide) rfl fl_X6_24 dX6_look_18 ?_
        refine lv_aload_n G.1 G.2.1 dX6_look_21 rfl (lv_at hl 0 rfl) ?_
        refine g_getI G hw C_5 iC_5 1 rfl fl_X6_15 dX6_look_22 ?_
        obtain ⟨j3, hj3, hf⟩ := bd_some hf
        refine g_iald G hw iC_20 (by decide) rfl hj3 dX6_look_25 ?_
        refine lv_bipush (v := (32 : Int32)) G.1 G.2.1 dX6_look_26 (by decide) ?_
        refine lv_icmp_le (tgt := 44) G.1 G.2.1 dX6_look_28 (by decide) (fun hc28 => ?_) (fun hc28 => ?_)
        · rw [if_pos hc28] at hf
          refine lv_aload_n G.1 G.2.1 dX6_look_44 rfl (lv_at hl 0 rfl) ?_
          refine lv_dup G.1 G.2.1 dX6_look_45 rfl ?_
          refine g_getI G hw C_5 iC_5 1 rfl fl_X6_15 dX6_look_46 ?_
          refine lv_iconst (v := (1 : Int32)) G.1 G.2.1 dX6_look_49 (by decide) ?_
          refine lv_iadd G.1 G.2.1 dX6_look_50 ?_
          obtain ⟨g4, eg4, hf⟩ := lt9_some hf
          refine g_putI G hw C_5 iC_5 1 rfl fl_X6_15 rfl rfl rfl dX6_look_51 (fun H locs hw => ?_)
          rw [← eg4] at hw
          refine lv_goto (tgt := 0) G.1 G.2.1 dX6_look_54 (by decide) ?_
          exact ih1 g4 _ _ _ ls hf hw (lv_sub hl [0] rfl) hk1_0 hk1_1
        · rw [if_neg hc28] at hf
          exact hk1_0 _ (Option.some.inj hf).symm _ _ ls hw (lv_sub hl [0] rfl)
  obtain ⟨r5, hr5, hf⟩ := bd_some hf
  refine hL0 n g r5 _ _ ls hr5 hw (lv_sub hl [0] rfl) ?_ ?_
  · intro t6 htt6 H locs ls hw hl
    rw [htt6] at hf
    dsimp only at hf
    refine lv_aload_n G.1 G.2.1 dX6_look_31 rfl (lv_at hl 0 rfl) ?_
    refine g_getC G hw C_5 iC_5 0 6 rfl (by decide) rfl fl_X6_9 dX6_look_32 ?_
    refine g_getC G hw C_6 iC_6 0 20 rfl (by decide) rfl fl_X6_24 dX6_look_35 ?_
    refine lv_aload_n G.1 G.2.1 dX6_look_38 rfl (lv_at hl 0 rfl) ?_
    refine g_getI G hw C_5 iC_5 1 rfl fl_X6_15 dX6_look_39 ?_
    obtain ⟨j7, hj7, hf⟩ := bd_some hf
    refine g_iald G hw iC_20 (by decide) rfl hj7 dX6_look_42 ?_
    exact g_iretW G hr hk hf hw dX6_look_43
  · intro t8 htt8 H locs ls hw hl
    rw [htt8] at hf
    dsimp only at hf
    refine lv_iconst (v := (-1 : Int32)) G.1 G.2.1 dX6_look_57 (by decide) ?_
    exact g_iretW G hr hk hf hw dX6_look_58

set_option maxHeartbeats 4000000 in
set_option maxRecDepth 100000 in
theorem c_Rd_pass (l : Launch) (D : va_G) (X : va_W) (E : gE) (n : Nat) (a1 : Int32) (g : Mem) (g' : Mem) (hf : Rd_pass n a1 g = some g') : gMet l yX6_pass cX6_pass 2 none 0 0 D X idsC E [.ref (E.1 5 0), .int a1] g none g' := by
  rw [Rd_pass] at hf
  refine gt_code (by decide) (Nat.le_of_ble_eq_true rfl) (fun p en s m below meth c ls G hr hk hw hl => ?_)
  have hl : lv_has ls 2 [(0, .ref (E.1 5 0)), (1, .int a1)] := hl
  refine lv_aload_n G.1 G.2.1 dX6_pass_0 rfl (lv_at hl 0 rfl) ?_
  refine lv_dup G.1 G.2.1 dX6_pass_1 rfl ?_
  refine g_getI G hw C_5 iC_5 1 rfl fl_X6_15 dX6_pass_2 ?_
  refine lv_iload_n G.1 G.2.1 dX6_pass_5 rfl (lv_at hl 1 rfl) ?_
  refine lv_iadd G.1 G.2.1 dX6_pass_6 ?_
  obtain ⟨g1, eg1, hf⟩ := lt9_some hf
  refine g_putI G hw C_5 iC_5 1 rfl fl_X6_15 rfl rfl rfl dX6_pass_7 (fun H locs hw => ?_)
  rw [← eg1] at hw
  exact g_vretW G hr hk hf hw dX6_pass_10

set_option maxHeartbeats 4000000 in
set_option maxRecDepth 100000 in
theorem c_Rd_isLetter (l : Launch) (D : va_G) (X : va_W) (E : gE) (n : Nat) (a1 : Int32) (g : Mem) (r : Int32) (hf : Rd_isLetter n a1 = some r) : gMet l yX6_isLetter cX6_isLetter 1 (some .boolean) 0 0 D X idsC E [.int a1] g (some (.int r)) g := by
  rw [Rd_isLetter] at hf
  refine gt_code (by decide) (Nat.le_of_ble_eq_true rfl) (fun p en s m below meth c ls G hr hk hw hl => ?_)
  have hl : lv_has ls 1 [(0, .int a1)] := hl
  refine lv_iload_n G.1 G.2.1 dX6_isLetter_0 rfl (lv_at hl 0 rfl) ?_
  refine lv_bipush (v := (97 : Int32)) G.1 G.2.1 dX6_isLetter_1 (by decide) ?_
  refine lv_icmp_lt (tgt := 16) G.1 G.2.1 dX6_isLetter_3 (by decide) (fun hc3 => ?_) (fun hc3 => ?_)
  · rw [if_pos hc3] at hf
    refine lv_iconst (v := (0 : Int32)) G.1 G.2.1 dX6_isLetter_16 (by decide) ?_
    exact g_zretR G hr rfl hk hf hw dX6_isLetter_17
  · rw [if_neg hc3] at hf
    refine lv_iload_n G.1 G.2.1 dX6_isLetter_6 rfl (lv_at hl 0 rfl) ?_
    refine lv_bipush (v := (122 : Int32)) G.1 G.2.1 dX6_isLetter_7 (by decide) ?_
    refine lv_icmp_gt (tgt := 16) G.1 G.2.1 dX6_isLetter_9 (by decide) (fun hc9 => ?_) (fun hc9 => ?_)
    · rw [if_pos hc9] at hf
      refine lv_iconst (v := (0 : Int32)) G.1 G.2.1 dX6_isLetter_16 (by decide) ?_
      exact g_zretR G hr rfl hk hf hw dX6_isLetter_17
    · rw [if_neg hc9] at hf
      refine lv_iconst (v := (1 : Int32)) G.1 G.2.1 dX6_isLetter_12 (by decide) ?_
      refine lv_goto (tgt := 17) G.1 G.2.1 dX6_isLetter_13 (by decide) ?_
      exact g_zretR G hr rfl hk hf hw dX6_isLetter_17

set_option maxHeartbeats 4000000 in
set_option maxRecDepth 100000 in
theorem c_Rd_lettersHere (l : Launch) (D : va_G) (X : va_W) (E : gE) (n : Nat) (g : Mem) (r : Int32) (hf : Rd_lettersHere n g = some r) : gMet l yX6_lettersHere cX6_lettersHere 2 (some .int) 1 20 D X idsC E [.ref (E.1 5 0)] g (some (.int r)) g := by
  rw [Rd_lettersHere] at hf
  refine gt_code (by decide) (Nat.le_of_ble_eq_true rfl) (fun p en s m below meth c ls G hr hk hw hl => ?_)
  have hl : lv_has ls 2 [(0, .ref (E.1 5 0))] := hl
  refine lv_aload_n G.1 G.2.1 dX6_lettersHere_0 rfl (lv_at hl 0 rfl) ?_
  refine g_getI G hw C_5 iC_5 1 rfl fl_X6_15 dX6_lettersHere_1 ?_
  refine lv_istore_n (lv' := [(1, .int (gI g 5 0 1)), (0, .ref (E.1 5 0))]) G.1 G.2.1 dX6_lettersHere_4 rfl hl (by decide) rfl (fun ls hl => ?_)
  have hL5 : ∀ (k1 : Nat) (x2 : Int32) (res1 : Int32) (H : Heap) (locs : List Loc) (ls : Array Slot), Rd_lettersHere_L5 n g k1 x2 = some res1 → GW D X idsC E (gA X idsC E s.heap.size) s g H locs → lv_has ls 2 [(0, .ref (E.1 5 0)), (1, .int x2)] → (∀ (H : Heap) (locs : List Loc) (ls : Array Slot), GW D X idsC E (gA X idsC E s.heap.size) s g H locs → lv_has ls 2 [(0, .ref (E.1 5 0)), (1, .int res1)] → W p l en { frames := 1, cells := 0, slots := 0, locals := 20 } s m [.ref (E.1 5 0)].toArray below meth c H locs 0 0 (MQ below (gQ (some (.int r)) (GP D X idsC E g) (gA X idsC E s.heap.size)) [.ref (E.1 5 0)].toArray s 0 0 (gA X idsC E s.heap.size)) (F0 m 37 ls [])) → W p l en { frames := 1, cells := 0, slots := 0, locals := 20 } s m [.ref (E.1 5 0)].toArray below meth c H locs 0 0 (MQ below (gQ (some (.int r)) (GP D X idsC E g) (gA X idsC E s.heap.size)) [.ref (E.1 5 0)].toArray s 0 0 (gA X idsC E s.heap.size)) (F0 m 5 ls []) := by
    intro k1
    induction k1 with
    | zero => intro x2 res1 H locs ls hf; rw [Rd_lettersHere_L5] at hf; cases hf
    | succ k1 ih1 =>
      intro x2 res1 H locs ls hf hw hl hk1_0
      rw [Rd_lettersHere_L5] at hf
      refine lv_iload_n G.1 G.2.1 dX6_lettersHere_5 rfl (lv_at hl 1 rfl) ?_
      refine lv_aload_n G.1 G.2.1 dX6_lettersHere_6 rfl (lv_at hl 0 rfl) ?_
      refine g_getC G hw C_5 iC_5 0 6 rfl (by decide) rfl fl_X6_9 dX6_lettersHere_7 ?_
      refine g_getI G hw C_6 iC_6 1 rfl fl_X6_19 dX6_lettersHere_10 ?_
      refine lv_icmp_ge (tgt := 37) G.1 G.2.1 dX6_lettersHere_13 (by decide) (fun hc13 => ?_) (fun hc13 => ?_)
      · rw [if_pos hc13] at hf
        obtain rfl := Option.some.inj hf
        exact hk1_0 _ _ ls hw (lv_sub hl [0, 1] rfl)
      · rw [if_neg hc13] at hf
        refine lv_aload_n G.1 G.2.1 dX6_lettersHere_16 rfl (lv_at hl 0 rfl) ?_
        refine g_getC G hw C_5 iC_5 0 6 rfl (by decide) rfl fl_X6_9 dX6_lettersHere_17 ?_
        refine g_getC G hw C_6 iC_6 0 20 rfl (by decide) rfl fl_X6_24 dX6_lettersHere_20 ?_
        refine lv_iload_n G.1 G.2.1 dX6_lettersHere_23 rfl (lv_at hl 1 rfl) ?_
        obtain ⟨j3, hj3, hf⟩ := bd_some hf
        refine g_iald G hw iC_20 (by decide) rfl hj3 dX6_lettersHere_24 ?_
        obtain ⟨z4, hcz4, hf⟩ := bd_some hf
        refine g_callS1 (As := [.int (gI g 20 0 j3)]) (rest := []) G hw (gA_mono hw.2.2.2.1.1)  ms_X6_47 (c_Rd_isLetter l D X E n (gI g 20 0 j3) g z4 hcz4) hl.1 rfl rfl (Nat.le_of_ble_eq_true rfl) (Nat.le_of_ble_eq_true rfl) (Nat.le_of_ble_eq_true rfl) ⟨Nat.le_refl _, Nat.le_refl _⟩ dX6_lettersHere_25 (fun H locs hw => ?_)
        refine lv_if_eq (tgt := 37) G.1 G.2.1 dX6_lettersHere_28 (by decide) (fun hc28 => ?_) (fun hc28 => ?_)
        · rw [if_pos hc28] at hf
          obtain rfl := Option.some.inj hf
          exact hk1_0 _ _ ls hw (lv_sub hl [0, 1] rfl)
        · rw [if_neg hc28] at hf
          refine lv_iinc (v := x2 + 1) (lv' := [(1, .int (x2 + 1)), (0, .ref (E.1 5 0))]) G.1 G.2.1 dX6_lettersHere_31 hl (k := 1) rfl rfl (by decide) rfl (fun ls hl => ?_)
          refine lv_goto (tgt := 5) G.1 G.2.1 dX6_lettersHere_34 (by decide) ?_
          exact ih1 (x2 + 1) _ _ _ ls hf hw (lv_sub hl [1, 0] rfl) hk1_0
  obtain ⟨r5, hr5, hf⟩ := bd_some hf
  refine hL5 n (gI g 5 0 1) r5 _ _ ls hr5 hw (lv_sub hl [1, 0] rfl) ?_
  intro H locs ls hw hl
  refine lv_iload_n G.1 G.2.1 dX6_lettersHere_37 rfl (lv_at hl 1 rfl) ?_
  refine lv_aload_n G.1 G.2.1 dX6_lettersHere_38 rfl (lv_at hl 0 rfl) ?_
  refine g_getI G hw C_5 iC_5 1 rfl fl_X6_15 dX6_lettersHere_39 ?_
  refine lv_isub G.1 G.2.1 dX6_lettersHere_42 ?_
  exact g_iretR G hr hk hf hw dX6_lettersHere_43

set_option maxHeartbeats 4000000 in
set_option maxRecDepth 100000 in
theorem c_Rd_seesWord (l : Launch) (D : va_G) (X : va_W) (E : gE) (n : Nat) (w1 : Nat) (hv_w1 : w1 < 4) (g : Mem) (r : Int32) (g' : Mem) (hf : Rd_seesWord n w1 g = some (r, g')) : gMet l yX6_seesWord cX6_seesWord 3 (some .boolean) 6 300 D X idsC E [.ref (E.1 5 0), .ref (E.2.2.2.2.2.2.1 w1)] g (some (.int r)) g' := by
  rw [Rd_seesWord] at hf
  refine gt_code (by decide) (Nat.le_of_ble_eq_true rfl) (fun p en s m below meth c ls G hr hk hw hl => ?_)
  have hl : lv_has ls 3 [(0, .ref (E.1 5 0)), (1, .ref (E.2.2.2.2.2.2.1 w1))] := hl
  refine lv_aload_n G.1 G.2.1 dX6_seesWord_0 rfl (lv_at hl 0 rfl) ?_
  obtain ⟨z1, hcz1, hf⟩ := bd_some hf
  refine g_callV1 (As := []) (rest := []) G hw (gA_mono hw.2.2.2.1.1) C_5 iC_5 mv_X6_28 (c_Rd_look l D X E n g z1.1 z1.2 hcz1) hl.1 rfl rfl (Nat.le_of_ble_eq_true rfl) (Nat.le_of_ble_eq_true rfl) (Nat.le_of_ble_eq_true rfl) ⟨Nat.le_refl _, Nat.le_refl _⟩ dX6_seesWord_1 (fun H locs hw => ?_)
  refine lv_pop G.1 G.2.1 dX6_seesWord_4 rfl ?_
  refine lv_aload_n G.1 G.2.1 dX6_seesWord_5 rfl (lv_at hl 0 rfl) ?_
  obtain ⟨z2, hcz2, hf⟩ := bd_some hf
  refine g_callV1 (As := []) (rest := []) G hw (gA_mono hw.2.2.2.1.1) C_5 iC_5 mv_X6_32 (c_Rd_lettersHere l D X E n z1.2 z2 hcz2) hl.1 rfl rfl (Nat.le_of_ble_eq_true rfl) (Nat.le_of_ble_eq_true rfl) (Nat.le_of_ble_eq_true rfl) ⟨Nat.le_refl _, Nat.le_refl _⟩ dX6_seesWord_6 (fun H locs hw => ?_)
  refine lv_aload_n G.1 G.2.1 dX6_seesWord_9 rfl (lv_at hl 1 rfl) ?_
  refine g_slen G hw hv_w1 mv_X6_35 hl.1 (Nat.le_of_ble_eq_true rfl) (Nat.le_of_ble_eq_true rfl) (Nat.le_of_ble_eq_true rfl) dX6_seesWord_10 (fun H locs hw => ?_)
  refine lv_icmp_eq (tgt := 18) G.1 G.2.1 dX6_seesWord_13 (by decide) (fun hc13 => ?_) (fun hc13 => ?_)
  · rw [if_pos hc13] at hf
    refine lv_iconst (v := (0 : Int32)) G.1 G.2.1 dX6_seesWord_18 (by decide) ?_
    refine lv_istore_n (lv' := [(2, .int (0 : Int32)), (0, .ref (E.1 5 0)), (1, .ref (E.2.2.2.2.2.2.1 w1))]) G.1 G.2.1 dX6_seesWord_19 rfl hl (by decide) rfl (fun ls hl => ?_)
    have hL20 : ∀ (k3 : Nat) (x4 : Int32) (res3 : (Unit) ⊕ (Unit)) (H : Heap) (locs : List Loc) (ls : Array Slot), Rd_seesWord_L20 n w1 z1 k3 x4 = some res3 → GW D X idsC E (gA X idsC E s.heap.size) s z1.2 H locs → lv_has ls 3 [(0, .ref (E.1 5 0)), (1, .ref (E.2.2.2.2.2.2.1 w1)), (2, .int x4)] → (∀ t : Unit, res3 = .inl t → ∀ (H : Heap) (locs : List Loc) (ls : Array Slot), GW D X idsC E (gA X idsC E s.heap.size) s z1.2 H locs → lv_has ls 3 [] → W p l en { frames := 6, cells := 0, slots := 0, locals := 300 } s m [.ref (E.1 5 0), .ref (E.2.2.2.2.2.2.1 w1)].toArray below meth c H locs 0 0 (MQ below (gQ (some (.int r)) (GP D X idsC E g') (gA X idsC E s.heap.size)) [.ref (E.1 5 0), .ref (E.2.2.2.2.2.2.1 w1)].toArray s 0 0 (gA X idsC E s.heap.size)) (F0 m 50 ls [])) → (∀ t : Unit, res3 = .inr t → ∀ (H : Heap) (locs : List Loc) (ls : Array Slot), GW D X idsC E (gA X idsC E s.heap.size) s z1.2 H locs → lv_has ls 3 [] → W p l en { frames := 6, cells := 0, slots := 0, locals := 300 } s m [.ref (E.1 5 0), .ref (E.2.2.2.2.2.2.1 w1)].toArray below meth c H locs 0 0 (MQ below (gQ (some (.int r)) (GP D X idsC E g') (gA X idsC E s.heap.size)) [.ref (E.1 5 0), .ref (E.2.2.2.2.2.2.1 w1)].toArray s 0 0 (gA X idsC E s.heap.size)) (F0 m 58 ls [])) → W p l en { frames := 6, cells := 0, slots := 0, locals := 300 } s m [.ref (E.1 5 0), .ref (E.2.2.2.2.2.2.1 w1)].toArray below meth c H locs 0 0 (MQ below (gQ (some (.int r)) (GP D X idsC E g') (gA X idsC E s.heap.size)) [.ref (E.1 5 0), .ref (E.2.2.2.2.2.2.1 w1)].toArray s 0 0 (gA X idsC E s.heap.size)) (F0 m 20 ls []) := by
      intro k3
      induction k3 with
      | zero => intro x4 res3 H locs ls hf; rw [Rd_seesWord_L20] at hf; cases hf
      | succ k3 ih3 =>
        intro x4 res3 H locs ls hf hw hl hk3_0 hk3_1
        rw [Rd_seesWord_L20] at hf
        refine lv_iload_n G.1 G.2.1 dX6_seesWord_20 rfl (lv_at hl 2 rfl) ?_
        refine lv_aload_n G.1 G.2.1 dX6_seesWord_21 rfl (lv_at hl 1 rfl) ?_
        refine g_slen G hw hv_w1 mv_X6_35 hl.1 (Nat.le_of_ble_eq_true rfl) (Nat.le_of_ble_eq_true rfl) (Nat.le_of_ble_eq_true rfl) dX6_seesWord_22 (fun H locs hw => ?_)
        refine lv_icmp_ge (tgt := 58) G.1 G.2.1 dX6_seesWord_25 (by decide) (fun hc25 => ?_) (fun hc25 => ?_)
        · rw [if_pos hc25] at hf
          exact hk3_1 _ (Option.some.inj hf).symm _ _ ls hw (lv_sub hl [] rfl)
        · rw [if_neg hc25] at hf
          refine lv_aload_n G.1 G.2.1 dX6_seesWord_28 rfl (lv_at hl 0 rfl) ?_
          refine g_getC G hw C_5 iC_5 0 6 rfl (by decide) rfl fl_X6_9 dX6_seesWord_29 ?_
          refine g_getC G hw C_6 iC_6 0 20 rfl (by decide) rfl fl_X6_24 dX6_seesWord_32 ?_
          refine lv_aload_n G.1 G.2.1 dX6_seesWord_35 rfl (lv_at hl 0 rfl) ?_
          refine g_getI G hw C_5 iC_5 1 rfl fl_X6_15 dX6_seesWord_36 ?_
          refine lv_iload_n G.1 G.2.1 dX6_seesWord_39 rfl (lv_at hl 2 rfl) ?_
          refine lv_iadd G.1 G.2.1 dX6_seesWord_40 ?_
          obtain ⟨j5, hj5, hf⟩ := bd_some hf
          refine g_iald G hw iC_20 (by decide) rfl hj5 dX6_seesWord_41 ?_
          refine lv_aload_n G.1 G.2.1 dX6_seesWord_42 rfl (lv_at hl 1 rfl) ?_
          refine lv_iload_n G.1 G.2.1 dX6_seesWord_43 rfl (lv_at hl 2 rfl) ?_
          obtain ⟨j6, hj6, hf⟩ := bd_some hf
          refine g_scha G hw hv_w1 hj6 mv_X6_39 hl.1 (Nat.le_of_ble_eq_true rfl) (Nat.le_of_ble_eq_true rfl) (Nat.le_of_ble_eq_true rfl) dX6_seesWord_44 (fun H locs hw => ?_)
          refine lv_icmp_eq (tgt := 52) G.1 G.2.1 dX6_seesWord_47 (by decide) (fun hc47 => ?_) (fun hc47 => ?_)
          · rw [if_pos hc47] at hf
            refine lv_iinc (v := x4 + 1) (lv' := [(2, .int (x4 + 1)), (0, .ref (E.1 5 0)), (1, .ref (E.2.2.2.2.2.2.1 w1))]) G.1 G.2.1 dX6_seesWord_52 hl (k := 2) rfl rfl (by decide) rfl (fun ls hl => ?_)
            refine lv_goto (tgt := 20) G.1 G.2.1 dX6_seesWord_55 (by decide) ?_
            exact ih3 (x4 + 1) _ _ _ ls hf hw (lv_sub hl [1, 2, 0] rfl) hk3_0 hk3_1
          · rw [if_neg hc47] at hf
            exact hk3_0 _ (Option.some.inj hf).symm _ _ ls hw (lv_sub hl [] rfl)
    obtain ⟨r7, hr7, hf⟩ := bd_some hf
    refine hL20 n (0 : Int32) r7 _ _ ls hr7 hw (lv_sub hl [1, 2, 0] rfl) ?_ ?_
    · intro t8 htt8 H locs ls hw hl
      rw [htt8] at hf
      dsimp only at hf
      refine lv_iconst (v := (0 : Int32)) G.1 G.2.1 dX6_seesWord_50 (by decide) ?_
      exact g_zretW G hr rfl hk hf hw dX6_seesWord_51
    · intro t9 htt9 H locs ls hw hl
      rw [htt9] at hf
      dsimp only at hf
      refine lv_iconst (v := (1 : Int32)) G.1 G.2.1 dX6_seesWord_58 (by decide) ?_
      exact g_zretW G hr rfl hk hf hw dX6_seesWord_59
  · rw [if_neg hc13] at hf
    refine lv_iconst (v := (0 : Int32)) G.1 G.2.1 dX6_seesWord_16 (by decide) ?_
    exact g_zretW G hr rfl hk hf hw dX6_seesWord_17

set_option maxHeartbeats 4000000 in
set_option maxRecDepth 100000 in
theorem c_Rd_seenVariable (l : Launch) (D : va_G) (X : va_W) (E : gE) (n : Nat) (g : Mem) (r : Int32) (g' : Mem) (hf : Rd_seenVariable n g = some (r, g')) : gMet l yX6_seenVariable cX6_seenVariable 3 (some .int) 2 41 D X idsC E [.ref (E.1 5 0)] g (some (.int r)) g' := by
  rw [Rd_seenVariable] at hf
  refine gt_code (by decide) (Nat.le_of_ble_eq_true rfl) (fun p en s m below meth c ls G hr hk hw hl => ?_)
  have hl : lv_has ls 3 [(0, .ref (E.1 5 0))] := hl
  refine lv_aload_n G.1 G.2.1 dX6_seenVariable_0 rfl (lv_at hl 0 rfl) ?_
  obtain ⟨z1, hcz1, hf⟩ := bd_some hf
  refine g_callV1 (As := []) (rest := []) G hw (gA_mono hw.2.2.2.1.1) C_5 iC_5 mv_X6_28 (c_Rd_look l D X E n g z1.1 z1.2 hcz1) hl.1 rfl rfl (Nat.le_of_ble_eq_true rfl) (Nat.le_of_ble_eq_true rfl) (Nat.le_of_ble_eq_true rfl) ⟨Nat.le_refl _, Nat.le_refl _⟩ dX6_seenVariable_1 (fun H locs hw => ?_)
  refine lv_bipush (v := (97 : Int32)) G.1 G.2.1 dX6_seenVariable_4 (by decide) ?_
  refine lv_isub G.1 G.2.1 dX6_seenVariable_6 ?_
  refine lv_istore_n (lv' := [(1, .int (z1.1 - (97 : Int32))), (0, .ref (E.1 5 0))]) G.1 G.2.1 dX6_seenVariable_7 rfl hl (by decide) rfl (fun ls hl => ?_)
  refine lv_iload_n G.1 G.2.1 dX6_seenVariable_8 rfl (lv_at hl 0 rfl) ?_
  obtain ⟨j3, ej3, hf⟩ := lt9_some hf
  have hj3 : ∀ (v5 : Int32) (H : Heap) (locs : List Loc) (ls : Array Slot), j3 v5 = some (r, g') → GW D X idsC E (gA X idsC E s.heap.size) s z1.2 H locs → lv_has ls 3 [(1, .int (z1.1 - (97 : Int32)))] → W p l en { frames := 2, cells := 0, slots := 0, locals := 41 } s m [.ref (E.1 5 0)].toArray below meth c H locs 0 0 (MQ below (gQ (some (.int r)) (GP D X idsC E g') (gA X idsC E s.heap.size)) [.ref (E.1 5 0)].toArray s 0 0 (gA X idsC E s.heap.size)) (F0 m 31 ls [.int v5]) := by
    intro v5 H locs ls hf hw hl
    rw [ej3] at hf
    dsimp only at hf
    refine lv_istore_n (lv' := [(2, .int v5), (1, .int (z1.1 - (97 : Int32)))]) G.1 G.2.1 dX6_seenVariable_31 rfl hl (by decide) rfl (fun ls hl => ?_)
    refine lv_iload_n G.1 G.2.1 dX6_seenVariable_32 rfl (lv_at hl 0 rfl) ?_
    refine lv_if_eq (tgt := 40) G.1 G.2.1 dX6_seenVariable_33 (by decide) (fun hc33 => ?_) (fun hc33 => ?_)
    · rw [if_pos hc33] at hf
      refine lv_iconst (v := (-1 : Int32)) G.1 G.2.1 dX6_seenVariable_40 (by decide) ?_
      exact g_iretW G hr hk hf hw dX6_seenVariable_41
    · rw [if_neg hc33] at hf
      refine lv_iload_n G.1 G.2.1 dX6_seenVariable_36 rfl (lv_at hl 1 rfl) ?_
      refine lv_goto (tgt := 41) G.1 G.2.1 dX6_seenVariable_37 (by decide) ?_
      exact g_iretW G hr hk hf hw dX6_seenVariable_41
  obtain ⟨j2, ej2, hf⟩ := lt9_some hf
  have hj2 : ∀ (_u : Unit) (H : Heap) (locs : List Loc) (ls : Array Slot), j2 _u = some (r, g') → GW D X idsC E (gA X idsC E s.heap.size) s z1.2 H locs → lv_has ls 3 [(1, .int (z1.1 - (97 : Int32)))] → W p l en { frames := 2, cells := 0, slots := 0, locals := 41 } s m [.ref (E.1 5 0)].toArray below meth c H locs 0 0 (MQ below (gQ (some (.int r)) (GP D X idsC E g') (gA X idsC E s.heap.size)) [.ref (E.1 5 0)].toArray s 0 0 (gA X idsC E s.heap.size)) (F0 m 30 ls []) := by
    intro _u H locs ls hf hw hl
    rw [ej2] at hf
    dsimp only at hf
    refine lv_iconst (v := (0 : Int32)) G.1 G.2.1 dX6_seenVariable_30 (by decide) ?_
    exact hj3 (0 : Int32) _ _ ls hf hw (lv_sub hl [0] rfl)
  refine lv_if_lt (tgt := 30) G.1 G.2.1 dX6_seenVariable_9 (by decide) (fun hc9 => ?_) (fun hc9 => ?_)
  · rw [if_pos hc9] at hf
    exact hj2 () _ _ ls hf hw (lv_sub hl [0] rfl)
  · rw [if_neg hc9] at hf
    refine lv_iload_n G.1 G.2.1 dX6_seenVariable_12 rfl (lv_at hl 0 rfl) ?_
    refine lv_bipush (v := (8 : Int32)) G.1 G.2.1 dX6_seenVariable_13 (by decide) ?_
    refine lv_icmp_ge (tgt := 30) G.1 G.2.1 dX6_seenVariable_15 (by decide) (fun hc15 => ?_) (fun hc15 => ?_)
    · rw [if_pos hc15] at hf
      exact hj2 () _ _ ls hf hw (lv_sub hl [0] rfl)
    · rw [if_neg hc15] at hf
      refine lv_aload_n G.1 G.2.1 dX6_seenVariable_18 rfl (lv_at hl 1 rfl) ?_
      obtain ⟨z4, hcz4, hf⟩ := bd_some hf
      refine g_callV1 (As := []) (rest := []) G hw (gA_mono hw.2.2.2.1.1) C_5 iC_5 mv_X6_32 (c_Rd_lettersHere l D X E n z1.2 z4 hcz4) hl.1 rfl rfl (Nat.le_of_ble_eq_true rfl) (Nat.le_of_ble_eq_true rfl) (Nat.le_of_ble_eq_true rfl) ⟨Nat.le_refl _, Nat.le_refl _⟩ dX6_seenVariable_19 (fun H locs hw => ?_)
      refine lv_iconst (v := (1 : Int32)) G.1 G.2.1 dX6_seenVariable_22 (by decide) ?_
      refine lv_icmp_ne (tgt := 30) G.1 G.2.1 dX6_seenVariable_23 (by decide) (fun hc23 => ?_) (fun hc23 => ?_)
      · rw [if_neg hc23] at hf
        exact hj2 () _ _ ls hf hw (lv_sub hl [0] rfl)
      · rw [if_pos hc23] at hf
        refine lv_iconst (v := (1 : Int32)) G.1 G.2.1 dX6_seenVariable_26 (by decide) ?_
        refine lv_goto (tgt := 31) G.1 G.2.1 dX6_seenVariable_27 (by decide) ?_
        exact hj3 (1 : Int32) _ _ ls hf hw (lv_sub hl [0] rfl)

set_option maxHeartbeats 4000000 in
set_option maxRecDepth 100000 in
theorem c_Rd_isFigure (l : Launch) (D : va_G) (X : va_W) (E : gE) (n : Nat) (a1 : Int32) (g : Mem) (r : Int32) (hf : Rd_isFigure n a1 = some r) : gMet l yX6_isFigure cX6_isFigure 1 (some .boolean) 0 0 D X idsC E [.int a1] g (some (.int r)) g := by
  rw [Rd_isFigure] at hf
  refine gt_code (by decide) (Nat.le_of_ble_eq_true rfl) (fun p en s m below meth c ls G hr hk hw hl => ?_)
  have hl : lv_has ls 1 [(0, .int a1)] := hl
  refine lv_iload_n G.1 G.2.1 dX6_isFigure_0 rfl (lv_at hl 0 rfl) ?_
  refine lv_bipush (v := (48 : Int32)) G.1 G.2.1 dX6_isFigure_1 (by decide) ?_
  refine lv_icmp_lt (tgt := 16) G.1 G.2.1 dX6_isFigure_3 (by decide) (fun hc3 => ?_) (fun hc3 => ?_)
  · rw [if_pos hc3] at hf
    refine lv_iconst (v := (0 : Int32)) G.1 G.2.1 dX6_isFigure_16 (by decide) ?_
    exact g_zretR G hr rfl hk hf hw dX6_isFigure_17
  · rw [if_neg hc3] at hf
    refine lv_iload_n G.1 G.2.1 dX6_isFigure_6 rfl (lv_at hl 0 rfl) ?_
    refine lv_bipush (v := (57 : Int32)) G.1 G.2.1 dX6_isFigure_7 (by decide) ?_
    refine lv_icmp_gt (tgt := 16) G.1 G.2.1 dX6_isFigure_9 (by decide) (fun hc9 => ?_) (fun hc9 => ?_)
    · rw [if_pos hc9] at hf
      refine lv_iconst (v := (0 : Int32)) G.1 G.2.1 dX6_isFigure_16 (by decide) ?_
      exact g_zretR G hr rfl hk hf hw dX6_isFigure_17
    · rw [if_neg hc9] at hf
      refine lv_iconst (v := (1 : Int32)) G.1 G.2.1 dX6_isFigure_12 (by decide) ?_
      refine lv_goto (tgt := 17) G.1 G.2.1 dX6_isFigure_13 (by decide) ?_
      exact g_zretR G hr rfl hk hf hw dX6_isFigure_17

set_option maxHeartbeats 4000000 in
set_option maxRecDepth 100000 in
theorem c_Rd_seesFigure (l : Launch) (D : va_G) (X : va_W) (E : gE) (n : Nat) (g : Mem) (r : Int32) (g' : Mem) (hf : Rd_seesFigure n g = some (r, g')) : gMet l yX6_seesFigure cX6_seesFigure 1 (some .boolean) 1 20 D X idsC E [.ref (E.1 5 0)] g (some (.int r)) g' := by
  rw [Rd_seesFigure] at hf
  refine gt_code (by decide) (Nat.le_of_ble_eq_true rfl) (fun p en s m below meth c ls G hr hk hw hl => ?_)
  have hl : lv_has ls 1 [(0, .ref (E.1 5 0))] := hl
  refine lv_aload_n G.1 G.2.1 dX6_seesFigure_0 rfl (lv_at hl 0 rfl) ?_
  obtain ⟨z1, hcz1, hf⟩ := bd_some hf
  refine g_callV1 (As := []) (rest := []) G hw (gA_mono hw.2.2.2.1.1) C_5 iC_5 mv_X6_28 (c_Rd_look l D X E n g z1.1 z1.2 hcz1) hl.1 rfl rfl (Nat.le_of_ble_eq_true rfl) (Nat.le_of_ble_eq_true rfl) (Nat.le_of_ble_eq_true rfl) ⟨Nat.le_refl _, Nat.le_refl _⟩ dX6_seesFigure_1 (fun H locs hw => ?_)
  obtain ⟨z2, hcz2, hf⟩ := bd_some hf
  refine g_callS1 (As := [.int z1.1]) (rest := []) G hw (gA_mono hw.2.2.2.1.1)  ms_X6_43 (c_Rd_isFigure l D X E n z1.1 z1.2 z2 hcz2) hl.1 rfl rfl (Nat.le_of_ble_eq_true rfl) (Nat.le_of_ble_eq_true rfl) (Nat.le_of_ble_eq_true rfl) ⟨Nat.le_refl _, Nat.le_refl _⟩ dX6_seesFigure_4 (fun H locs hw => ?_)
  obtain ⟨hz3, hf⟩ := ck_some hf
  exact g_zretW G hr (zn hz3) hk hf hw dX6_seesFigure_7

set_option maxHeartbeats 4000000 in
set_option maxRecDepth 100000 in
theorem c_Rd_seesLetter (l : Launch) (D : va_G) (X : va_W) (E : gE) (n : Nat) (g : Mem) (r : Int32) (g' : Mem) (hf : Rd_seesLetter n g = some (r, g')) : gMet l yX6_seesLetter cX6_seesLetter 1 (some .boolean) 1 20 D X idsC E [.ref (E.1 5 0)] g (some (.int r)) g' := by
  rw [Rd_seesLetter] at hf
  refine gt_code (by decide) (Nat.le_of_ble_eq_true rfl) (fun p en s m below meth c ls G hr hk hw hl => ?_)
  have hl : lv_has ls 1 [(0, .ref (E.1 5 0))] := hl
  refine lv_aload_n G.1 G.2.1 dX6_seesLetter_0 rfl (lv_at hl 0 rfl) ?_
  obtain ⟨z1, hcz1, hf⟩ := bd_some hf
  refine g_callV1 (As := []) (rest := []) G hw (gA_mono hw.2.2.2.1.1) C_5 iC_5 mv_X6_28 (c_Rd_look l D X E n g z1.1 z1.2 hcz1) hl.1 rfl rfl (Nat.le_of_ble_eq_true rfl) (Nat.le_of_ble_eq_true rfl) (Nat.le_of_ble_eq_true rfl) ⟨Nat.le_refl _, Nat.le_refl _⟩ dX6_seesLetter_1 (fun H locs hw => ?_)
  obtain ⟨z2, hcz2, hf⟩ := bd_some hf
  refine g_callS1 (As := [.int z1.1]) (rest := []) G hw (gA_mono hw.2.2.2.1.1)  ms_X6_47 (c_Rd_isLetter l D X E n z1.1 z1.2 z2 hcz2) hl.1 rfl rfl (Nat.le_of_ble_eq_true rfl) (Nat.le_of_ble_eq_true rfl) (Nat.le_of_ble_eq_true rfl) ⟨Nat.le_refl _, Nat.le_refl _⟩ dX6_seesLetter_4 (fun H locs hw => ?_)
  obtain ⟨hz3, hf⟩ := ck_some hf
  exact g_zretW G hr (zn hz3) hk hf hw dX6_seesLetter_7

set_option maxHeartbeats 4000000 in
set_option maxRecDepth 100000 in
theorem c_Rd_readNumber (l : Launch) (D : va_G) (X : va_W) (E : gE) (n : Nat) (g : Mem) (r : Int64) (g' : Mem) (hf : Rd_readNumber n g = some (r, g')) : gMet l yX6_readNumber cX6_readNumber 3 (some .long) 1 26 D X idsC E [.ref (E.1 5 0)] g (some (.long r)) g' := by
  rw [Rd_readNumber] at hf
  refine gt_code (by decide) (Nat.le_of_ble_eq_true rfl) (fun p en s m below meth c ls G hr hk hw hl => ?_)
  have hl : lv_has ls 3 [(0, .ref (E.1 5 0))] := hl
  refine lv_lconst (v := (0 : Int64)) G.1 G.2.1 dX6_readNumber_0 (by decide) ?_
  refine lv_lstore_n (lv' := [(1, .long (0 : Int64)), (0, .ref (E.1 5 0))]) G.1 G.2.1 dX6_readNumber_1 rfl hl (by decide) rfl (fun ls hl => ?_)
  have hL2 : ∀ (k1 : Nat) (x2 : Int64) (g3 : Mem) (res1 : Int64 × Mem) (H : Heap) (locs : List Loc) (ls : Array Slot), Rd_readNumber_L2 n k1 x2 g3 = some res1 → GW D X idsC E (gA X idsC E s.heap.size) s g3 H locs → lv_has ls 3 [(0, .ref (E.1 5 0)), (1, .long x2)] → (∀ (H : Heap) (locs : List Loc) (ls : Array Slot), GW D X idsC E (gA X idsC E s.heap.size) s res1.2 H locs → lv_has ls 3 [(1, .long res1.1)] → W p l en { frames := 1, cells := 0, slots := 0, locals := 26 } s m [.ref (E.1 5 0)].toArray below meth c H locs 0 0 (MQ below (gQ (some (.long r)) (GP D X idsC E g') (gA X idsC E s.heap.size)) [.ref (E.1 5 0)].toArray s 0 0 (gA X idsC E s.heap.size)) (F0 m 77 ls [])) → W p l en { frames := 1, cells := 0, slots := 0, locals := 26 } s m [.ref (E.1 5 0)].toArray below meth c H locs 0 0 (MQ below (gQ (some (.long r)) (GP D X idsC E g') (gA X idsC E s.heap.size)) [.ref (E.1 5 0)].toArray s 0 0 (gA X idsC E s.heap.size)) (F0 m 2 ls []) := by
    intro k1
    induction k1 with
    | zero => intro x2 g3 res1 H locs ls hf; rw [Rd_readNumber_L2] at hf; cases hf
    | succ k1 ih1 =>
      intro x2 g3 res1 H locs ls hf hw hl hk1_0
      rw [Rd_readNumber_L2] at hf
      refine lv_aload_n G.1 G.2.1 dX6_readNumber_2 rfl (lv_at hl 0 rfl) ?_
      refine g_getI G hw C_5 iC_5 1 rfl fl_X6_15 dX6_readNumber_3 ?_
      refine lv_aload_n G.1 G.2.1 dX6_readNumber_6 rfl (lv_at hl 0 rfl) ?_
      refine g_getC G hw C_5 iC_5 0 6 rfl (by decide) rfl fl_X6_9 dX6_readNumber_7 ?_
      refine g_getI G hw C_6 iC_6 1 rfl fl_X6_19 dX6_readNumber_10 ?_
      refine lv_icmp_ge (tgt := 77) G.1 G.2.1 dX6_readNumber_13 (by decide) (fun hc13 => ?_) (fun hc13 => ?_)
      · rw [if_pos hc13] at hf
        obtain rfl := Option.some.inj hf
        exact hk1_0 _ _ ls hw (lv_sub hl [1] rfl)
      · rw [if_neg hc13] at hf
        refine lv_aload_n G.1 G.2.1 dX6_readNumber_16 rfl (lv_at hl 0 rfl) ?_
        refine g_getC G hw C_5 iC_5 0 6 rfl (by decide) rfl fl_X6_9 dX6_readNumber_17 ?_
        refine g_getC G hw C_6 iC_6 0 20 rfl (by decide) rfl fl_X6_24 dX6_readNumber_20 ?_
        refine lv_aload_n G.1 G.2.1 dX6_readNumber_23 rfl (lv_at hl 0 rfl) ?_
        refine g_getI G hw C_5 iC_5 1 rfl fl_X6_15 dX6_readNumber_24 ?_
        obtain ⟨j4, hj4, hf⟩ := bd_some hf
        refine g_iald G hw iC_20 (by decide) rfl hj4 dX6_readNumber_27 ?_
        obtain ⟨z5, hcz5, hf⟩ := bd_some hf
        refine g_callS1 (As := [.int (gI g3 20 0 j4)]) (rest := []) G hw (gA_mono hw.2.2.2.1.1)  ms_X6_43 (c_Rd_isFigure l D X E n (gI g3 20 0 j4) g3 z5 hcz5) hl.1 rfl rfl (Nat.le_of_ble_eq_true rfl) (Nat.le_of_ble_eq_true rfl) (Nat.le_of_ble_eq_true rfl) ⟨Nat.le_refl _, Nat.le_refl _⟩ dX6_readNumber_28 (fun H locs hw => ?_)
        refine lv_if_eq (tgt := 77) G.1 G.2.1 dX6_readNumber_31 (by decide) (fun hc31 => ?_) (fun hc31 => ?_)
        · rw [if_pos hc31] at hf
          obtain rfl := Option.some.inj hf
          exact hk1_0 _ _ ls hw (lv_sub hl [1] rfl)
        · rw [if_neg hc31] at hf
          refine lv_ldc2 (v := (10 : Int64)) G.1 G.2.1 G.2.2.2.1 (G.2.2.2.2 _ cl_X6_50) dX6_readNumber_34 ?_
          refine lv_lload_n G.1 G.2.1 dX6_readNumber_37 rfl (lv_at hl 1 rfl) ?_
          refine lv_lmul G.1 G.2.1 dX6_readNumber_38 ?_
          refine lv_aload_n G.1 G.2.1 dX6_readNumber_39 rfl (lv_at hl 0 rfl) ?_
          refine g_getC G hw C_5 iC_5 0 6 rfl (by decide) rfl fl_X6_9 dX6_readNumber_40 ?_
          refine g_getC G hw C_6 iC_6 0 20 rfl (by decide) rfl fl_X6_24 dX6_readNumber_43 ?_
          refine lv_aload_n G.1 G.2.1 dX6_readNumber_46 rfl (lv_at hl 0 rfl) ?_
          refine g_getI G hw C_5 iC_5 1 rfl fl_X6_15 dX6_readNumber_47 ?_
          obtain ⟨j6, hj6, hf⟩ := bd_some hf
          refine g_iald G hw iC_20 (by decide) rfl hj6 dX6_readNumber_50 ?_
          refine lv_i2l G.1 G.2.1 dX6_readNumber_51 rfl ?_
          refine lv_ladd G.1 G.2.1 dX6_readNumber_52 ?_
          refine lv_ldc2 (v := (48 : Int64)) G.1 G.2.1 G.2.2.2.1 (G.2.2.2.2 _ cl_X6_52) dX6_readNumber_53 ?_
          refine lv_lsub G.1 G.2.1 dX6_readNumber_56 ?_
          refine lv_ldc2 (v := (2147483648 : Int64)) G.1 G.2.1 G.2.2.2.1 (G.2.2.2.2 _ cl_X6_54) dX6_readNumber_57 ?_
          refine g_minl (rest := []) G hl.1 ml_X6_56 (Nat.le_of_ble_eq_true rfl) dX6_readNumber_60 (Nat.le_of_ble_eq_true rfl) (Nat.le_of_ble_eq_true rfl) (Nat.le_refl _) (Nat.le_refl _) ?_
          refine lv_lstore_n (lv' := [(1, .long (lmin ((((10 : Int64) * x2) + ((gI g3 20 0 j6).toInt64)) - (48 : Int64)) (2147483648 : Int64))), (0, .ref (E.1 5 0))]) G.1 G.2.1 dX6_readNumber_63 rfl hl (by decide) rfl (fun ls hl => ?_)
          refine lv_aload_n G.1 G.2.1 dX6_readNumber_64 rfl (lv_at hl 1 rfl) ?_
          refine lv_dup G.1 G.2.1 dX6_readNumber_65 rfl ?_
          refine g_getI G hw C_5 iC_5 1 rfl fl_X6_15 dX6_readNumber_66 ?_
          refine lv_iconst (v := (1 : Int32)) G.1 G.2.1 dX6_readNumber_69 (by decide) ?_
          refine lv_iadd G.1 G.2.1 dX6_readNumber_70 ?_
          obtain ⟨g7, eg7, hf⟩ := lt9_some hf
          refine g_putI G hw C_5 iC_5 1 rfl fl_X6_15 rfl rfl rfl dX6_readNumber_71 (fun H locs hw => ?_)
          rw [← eg7] at hw
          refine lv_goto (tgt := 2) G.1 G.2.1 dX6_readNumber_74 (by decide) ?_
          exact ih1 (lmin ((((10 : Int64) * x2) + ((gI g3 20 0 j6).toInt64)) - (48 : Int64)) (2147483648 : Int64)) g7 _ _ _ ls hf hw (lv_sub hl [1, 0] rfl) hk1_0
  obtain ⟨r8, hr8, hf⟩ := bd_some hf
  refine hL2 n (0 : Int64) g r8 _ _ ls hr8 hw (lv_sub hl [1, 0] rfl) ?_
  intro H locs ls hw hl
  refine lv_lload_n G.1 G.2.1 dX6_readNumber_77 rfl (lv_at hl 0 rfl) ?_
  exact g_lretW G hr hk hf hw dX6_readNumber_78
