/-! contracts (printed by program) -/
set_option maxHeartbeats 4000000 in
set_option maxRecDepth 100000 in
theorem c_Ly_allows (l : Launch) (D : va_G) (X : va_W) (E : gE) (n : Nat) (a1 : Int32) (a2 : Int32) (a3 : Int32) (g : Mem) (r : Int32) (hf : Ly_allows n a1 a2 a3 = some r) : gMet l yX1_allows cX1_allows 3 (some .boolean) 0 0 D X idsC E [.int a1, .int a2, .int a3] g (some (.int r)) g := by
  rw [Ly_allows] at hf
  refine gt_code (by decide) (Nat.le_of_ble_eq_true rfl) (fun p en s m below meth c ls G hr hk hw hl => ?_)
  have hl : lv_has ls 3 [(0, .int a1), (1, .int a2), (2, .int a3)] := hl
  refine lv_iload_n G.1 G.2.1 dX1_allows_0 rfl (lv_at hl 0 rfl) ?_
  refine lv_if_lt (tgt := 41) G.1 G.2.1 dX1_allows_1 (by decide) (fun hc1 => ?_) (fun hc1 => ?_)
  · rw [if_pos hc1] at hf
    refine lv_iconst (v := (0 : Int32)) G.1 G.2.1 dX1_allows_41 (by decide) ?_
    exact g_zretR G hr rfl hk hf hw dX1_allows_42
  · rw [if_neg hc1] at hf
    refine lv_iload_n G.1 G.2.1 dX1_allows_4 rfl (lv_at hl 0 rfl) ?_
    refine lv_iconst (v := (2 : Int32)) G.1 G.2.1 dX1_allows_5 (by decide) ?_
    refine lv_icmp_gt (tgt := 41) G.1 G.2.1 dX1_allows_6 (by decide) (fun hc6 => ?_) (fun hc6 => ?_)
    · rw [if_pos hc6] at hf
      refine lv_iconst (v := (0 : Int32)) G.1 G.2.1 dX1_allows_41 (by decide) ?_
      exact g_zretR G hr rfl hk hf hw dX1_allows_42
    · rw [if_neg hc6] at hf
      refine lv_iload_n G.1 G.2.1 dX1_allows_9 rfl (lv_at hl 1 rfl) ?_
      refine lv_iconst (v := (1 : Int32)) G.1 G.2.1 dX1_allows_10 (by decide) ?_
      refine lv_icmp_lt (tgt := 41) G.1 G.2.1 dX1_allows_11 (by decide) (fun hc11 => ?_) (fun hc11 => ?_)
      · rw [if_pos hc11] at hf
        refine lv_iconst (v := (0 : Int32)) G.1 G.2.1 dX1_allows_41 (by decide) ?_
        exact g_zretR G hr rfl hk hf hw dX1_allows_42
      · rw [if_neg hc11] at hf
        refine lv_iload_n G.1 G.2.1 dX1_allows_14 rfl (lv_at hl 1 rfl) ?_
        refine lv_iconst (v := (4 : Int32)) G.1 G.2.1 dX1_allows_15 (by decide) ?_
        refine lv_icmp_gt (tgt := 41) G.1 G.2.1 dX1_allows_16 (by decide) (fun hc16 => ?_) (fun hc16 => ?_)
        · rw [if_pos hc16] at hf
          refine lv_iconst (v := (0 : Int32)) G.1 G.2.1 dX1_allows_41 (by decide) ?_
          exact g_zretR G hr rfl hk hf hw dX1_allows_42
        · rw [if_neg hc16] at hf
          refine lv_iload_n G.1 G.2.1 dX1_allows_19 rfl (lv_at hl 2 rfl) ?_
          refine lv_iconst (v := (1 : Int32)) G.1 G.2.1 dX1_allows_20 (by decide) ?_
          refine lv_icmp_lt (tgt := 41) G.1 G.2.1 dX1_allows_21 (by decide) (fun hc21 => ?_) (fun hc21 => ?_)
          · rw [if_pos hc21] at hf
            refine lv_iconst (v := (0 : Int32)) G.1 G.2.1 dX1_allows_41 (by decide) ?_
            exact g_zretR G hr rfl hk hf hw dX1_allows_42
          · rw [if_neg hc21] at hf
            refine lv_iload_n G.1 G.2.1 dX1_allows_24 rfl (lv_at hl 2 rfl) ?_
            refine lv_iload_n G.1 G.2.1 dX1_allows_25 rfl (lv_at hl 0 rfl) ?_
            refine lv_if_ne (tgt := 33) G.1 G.2.1 dX1_allows_26 (by decide) (fun hc26 => ?_) (fun hc26 => ?_)
            · rw [if_neg hc26] at hf
              refine lv_iconst (v := (4 : Int32)) G.1 G.2.1 dX1_allows_33 (by decide) ?_
              refine lv_icmp_gt (tgt := 41) G.1 G.2.1 dX1_allows_34 (by decide) (fun hc34 => ?_) (fun hc34 => ?_)
              · rw [if_pos hc34] at hf
                refine lv_iconst (v := (0 : Int32)) G.1 G.2.1 dX1_allows_41 (by decide) ?_
                exact g_zretR G hr rfl hk hf hw dX1_allows_42
              · rw [if_neg hc34] at hf
                refine lv_iconst (v := (1 : Int32)) G.1 G.2.1 dX1_allows_37 (by decide) ?_
                refine lv_goto (tgt := 42) G.1 G.2.1 dX1_allows_38 (by decide) ?_
                exact g_zretR G hr rfl hk hf hw dX1_allows_42
            · rw [if_pos hc26] at hf
              refine lv_iconst (v := (1 : Int32)) G.1 G.2.1 dX1_allows_29 (by decide) ?_
              refine lv_goto (tgt := 34) G.1 G.2.1 dX1_allows_30 (by decide) ?_
              refine lv_icmp_gt (tgt := 41) G.1 G.2.1 dX1_allows_34 (by decide) (fun hc34 => ?_) (fun hc34 => ?_)
              · rw [if_pos hc34] at hf
                refine lv_iconst (v := (0 : Int32)) G.1 G.2.1 dX1_allows_41 (by decide) ?_
                exact g_zretR G hr rfl hk hf hw dX1_allows_42
              · rw [if_neg hc34] at hf
                refine lv_iconst (v := (1 : Int32)) G.1 G.2.1 dX1_allows_37 (by decide) ?_
                refine lv_goto (tgt := 42) G.1 G.2.1 dX1_allows_38 (by decide) ?_
                exact g_zretR G hr rfl hk hf hw dX1_allows_42

set_option maxHeartbeats 4000000 in
set_option maxRecDepth 100000 in
theorem c_Ly_supply (l : Launch) (D : va_G) (X : va_W) (E : gE) (n : Nat) (a1 : Int32) (a2 : Int32) (a3 : Int32) (g : Mem) (g' : Mem) (hf : Ly_supply n a1 a2 a3 g = some g') : gMet l yX1_supply cX1_supply 4 none 0 0 D X idsC E [.ref (E.1 1 0), .int a1, .int a2, .int a3] g none g' := by
  rw [Ly_supply] at hf
  refine gt_code (by decide) (Nat.le_of_ble_eq_true rfl) (fun p en s m below meth c ls G hr hk hw hl => ?_)
  have hl : lv_has ls 4 [(0, .ref (E.1 1 0)), (1, .int a1), (2, .int a2), (3, .int a3)] := hl
  refine lv_aload_n G.1 G.2.1 dX1_supply_0 rfl (lv_at hl 0 rfl) ?_
  refine g_getC G hw C_1 iC_1 0 23 rfl (by decide) rfl fl_X1_9 dX1_supply_1 ?_
  refine lv_iload_n G.1 G.2.1 dX1_supply_4 rfl (lv_at hl 1 rfl) ?_
  refine lv_iload_n G.1 G.2.1 dX1_supply_5 rfl (lv_at hl 2 rfl) ?_
  obtain ⟨j1, hj1, hf⟩ := bd_some hf
  obtain ⟨g2, eg2, hf⟩ := lt9_some hf
  refine g_iast G hw iC_23 (by decide) rfl hj1 dX1_supply_6 (fun H locs hw => ?_)
  rw [← eg2] at hw
  refine lv_aload_n G.1 G.2.1 dX1_supply_7 rfl (lv_at hl 0 rfl) ?_
  refine g_getC G hw C_1 iC_1 1 24 rfl (by decide) rfl fl_X1_15 dX1_supply_8 ?_
  refine lv_iload_n G.1 G.2.1 dX1_supply_11 rfl (lv_at hl 1 rfl) ?_
  refine lv_iload_n G.1 G.2.1 dX1_supply_12 rfl (lv_at hl 3 rfl) ?_
  obtain ⟨j3, hj3, hf⟩ := bd_some hf
  obtain ⟨g4, eg4, hf⟩ := lt9_some hf
  refine g_iast G hw iC_24 (by decide) rfl hj3 dX1_supply_13 (fun H locs hw => ?_)
  rw [← eg4] at hw
  exact g_vretW G hr hk hf hw dX1_supply_14

set_option maxHeartbeats 4000000 in
set_option maxRecDepth 100000 in
theorem c_Ly_freeUnit (l : Launch) (D : va_G) (X : va_W) (E : gE) (n : Nat) (a1 : Int32) (a2 : Int32) (g : Mem) (r : Int32) (hf : Ly_freeUnit n a1 a2 g = some r) : gMet l yX1_freeUnit cX1_freeUnit 4 (some .int) 0 0 D X idsC E [.ref (E.1 1 0), .int a1, .int a2] g (some (.int r)) g := by
  rw [Ly_freeUnit] at hf
  refine gt_code (by decide) (Nat.le_of_ble_eq_true rfl) (fun p en s m below meth c ls G hr hk hw hl => ?_)
  have hl : lv_has ls 4 [(0, .ref (E.1 1 0)), (1, .int a1), (2, .int a2)] := hl
  refine lv_iconst (v := (0 : Int32)) G.1 G.2.1 dX1_freeUnit_0 (by decide) ?_
  refine lv_istore_n (lv' := [(3, .int (0 : Int32)), (0, .ref (E.1 1 0)), (1, .int a1), (2, .int a2)]) G.1 G.2.1 dX1_freeUnit_1 rfl hl (by decide) rfl (fun ls hl => ?_)
  have hL2 : ∀ (k1 : Nat) (x2 : Int32) (res1 : (Int32) ⊕ (Unit)) (H : Heap) (locs : List Loc) (ls : Array Slot), Ly_freeUnit_L2 n a1 a2 g k1 x2 = some res1 → GW D X idsC E (gA X idsC E s.heap.size) s g H locs → lv_has ls 4 [(0, .ref (E.1 1 0)), (1, .int a1), (2, .int a2), (3, .int x2)] → (∀ t : Int32, res1 = .inl t → ∀ (H : Heap) (locs : List Loc) (ls : Array Slot), GW D X idsC E (gA X idsC E s.heap.size) s g H locs → lv_has ls 4 [(3, .int t)] → W p l en { frames := 0, cells := 0, slots := 0, locals := 0 } s m [.ref (E.1 1 0), .int a1, .int a2].toArray below meth c H locs 0 0 (MQ below (gQ (some (.int r)) (GP D X idsC E g) (gA X idsC E s.heap.size)) [.ref (E.1 1 0), .int a1, .int a2].toArray s 0 0 (gA X idsC E s.heap.size)) (F0 m 26 ls [])) → (∀ t : Unit, res1 = .inr t → ∀ (H : Heap) (locs : List Loc) (ls : Array Slot), GW D X idsC E (gA X idsC E s.heap.size) s g H locs → lv_has ls 4 [] → W p l en { frames := 0, cells := 0, slots := 0, locals := 0 } s m [.ref (E.1 1 0), .int a1, .int a2].toArray below meth c H locs 0 0 (MQ below (gQ (some (.int r)) (GP D X idsC E g) (gA X idsC E s.heap.size)) [.ref (E.1 1 0), .int a1, .int a2].toArray s 0 0 (gA X idsC E s.heap.size)) (F0 m 34 ls [])) → W p l en { frames := 0, cells := 0, slots := 0, locals := 0 } s m [.ref (E.1 1 0), .int a1, .int a2].toArray below meth c H locs 0 0 (MQ below (gQ (some (.int r)) (GP D X idsC E g) (gA X idsC E s.heap.size)) [.ref (E.1 1 0), .int a1, .int a2].toArray s 0 0 (gA X idsC E s.heap.size)) (F0 m 2 ls []) := by
    intro k1
    induction k1 with
    | zero => intro x2 res1 H locs ls hf; rw [Ly_freeUnit_L2] at hf; cases hf
    | succ k1 ih1 =>
      intro x2 res1 H locs ls hf hw hl hk1_0 hk1_1
      rw [Ly_freeUnit_L2] at hf
      refine lv_iload_n G.1 G.2.1 dX1_freeUnit_2 rfl (lv_at hl 3 rfl) ?_
      refine lv_aload_n G.1 G.2.1 dX1_freeUnit_3 rfl (lv_at hl 0 rfl) ?_
      refine g_getC G hw C_1 iC_1 0 23 rfl (by decide) rfl fl_X1_9 dX1_freeUnit_4 ?_
      refine lv_iload_n G.1 G.2.1 dX1_freeUnit_7 rfl (lv_at hl 1 rfl) ?_
      obtain ⟨j3, hj3, hf⟩ := bd_some hf
      refine g_iald G hw iC_23 (by decide) rfl hj3 dX1_freeUnit_8 ?_
      refine lv_icmp_ge (tgt := 34) G.1 G.2.1 dX1_freeUnit_9 (by decide) (fun hc9 => ?_) (fun hc9 => ?_)
      · rw [if_pos hc9] at hf
        exact hk1_1 _ (Option.some.inj hf).symm _ _ ls hw (lv_sub hl [] rfl)
      · rw [if_neg hc9] at hf
        refine lv_aload_n G.1 G.2.1 dX1_freeUnit_12 rfl (lv_at hl 0 rfl) ?_
        refine g_getC G hw C_1 iC_1 2 25 rfl (by decide) rfl fl_X1_18 dX1_freeUnit_13 ?_
        refine lv_iload_n G.1 G.2.1 dX1_freeUnit_16 rfl (lv_at hl 1 rfl) ?_
        refine lv_iconst (v := (4 : Int32)) G.1 G.2.1 dX1_freeUnit_17 (by decide) ?_
        refine lv_imul G.1 G.2.1 dX1_freeUnit_18 ?_
        refine lv_iload_n G.1 G.2.1 dX1_freeUnit_19 rfl (lv_at hl 3 rfl) ?_
        refine lv_iadd G.1 G.2.1 dX1_freeUnit_20 ?_
        obtain ⟨j4, hj4, hf⟩ := bd_some hf
        refine g_iald G hw iC_25 (by decide) rfl hj4 dX1_freeUnit_21 ?_
        refine lv_iload_n G.1 G.2.1 dX1_freeUnit_22 rfl (lv_at hl 2 rfl) ?_
        refine lv_icmp_gt (tgt := 28) G.1 G.2.1 dX1_freeUnit_23 (by decide) (fun hc23 => ?_) (fun hc23 => ?_)
        · rw [if_pos hc23] at hf
          refine lv_iinc (v := x2 + 1) (lv' := [(3, .int (x2 + 1)), (0, .ref (E.1 1 0)), (1, .int a1), (2, .int a2)]) G.1 G.2.1 dX1_freeUnit_28 hl (k := 3) rfl rfl (by decide) rfl (fun ls hl => ?_)
          refine lv_goto (tgt := 2) G.1 G.2.1 dX1_freeUnit_31 (by decide) ?_
          exact ih1 (x2 + 1) _ _ _ ls hf hw (lv_sub hl [1, 2, 3, 0] rfl) hk1_0 hk1_1
        · rw [if_neg hc23] at hf
          exact hk1_0 _ (Option.some.inj hf).symm _ _ ls hw (lv_sub hl [3] rfl)
  obtain ⟨r5, hr5, hf⟩ := bd_some hf
  refine hL2 n (0 : Int32) r5 _ _ ls hr5 hw (lv_sub hl [1, 2, 3, 0] rfl) ?_ ?_
  · intro t6 htt6 H locs ls hw hl
    rw [htt6] at hf
    dsimp only at hf
    refine lv_iload_n G.1 G.2.1 dX1_freeUnit_26 rfl (lv_at hl 0 rfl) ?_
    exact g_iretR G hr hk hf hw dX1_freeUnit_27
  · intro t7 htt7 H locs ls hw hl
    rw [htt7] at hf
    dsimp only at hf
    refine lv_iconst (v := (-1 : Int32)) G.1 G.2.1 dX1_freeUnit_34 (by decide) ?_
    exact g_iretR G hr hk hf hw dX1_freeUnit_35

set_option maxHeartbeats 4000000 in
set_option maxRecDepth 100000 in
theorem c_Ly_begins (l : Launch) (D : va_G) (X : va_W) (E : gE) (n : Nat) (o1 : Nat) (a2 : Int32) (hv_o1 : o1 < 400) (g : Mem) (r : Int32) (g' : Mem) (hf : Ly_begins n o1 a2 g = some (r, g')) : gMet l yX1_begins cX1_begins 4 (some .boolean) 1 23 D X idsC E [.ref (E.1 1 0), .ref (E.1 3 o1), .int a2] g (some (.int r)) g' := by
  rw [Ly_begins] at hf
  refine gt_code (by decide) (Nat.le_of_ble_eq_true rfl) (fun p en s m below meth c ls G hr hk hw hl => ?_)
  have hl : lv_has ls 4 [(0, .ref (E.1 1 0)), (1, .ref (E.1 3 o1)), (2, .int a2)] := hl
  refine lv_aload_n G.1 G.2.1 dX1_begins_0 rfl (lv_at hl 1 rfl) ?_
  obtain ⟨z1, hcz1, hf⟩ := bd_some hf
  refine g_callV1 (As := []) (rest := []) G hw (gA_mono hw.2.2.2.1.1) C_3 (iC_3 hv_o1) mv_X1_120 (c_Op_hasBegun l D X E n o1 hv_o1 g z1 hcz1) hl.1 rfl rfl (Nat.le_of_ble_eq_true rfl) (Nat.le_of_ble_eq_true rfl) (Nat.le_of_ble_eq_true rfl) ⟨Nat.le_refl _, Nat.le_refl _⟩ dX1_begins_1 (fun H locs hw => ?_)
  refine lv_if_ne (tgt := 22) G.1 G.2.1 dX1_begins_4 (by decide) (fun hc4 => ?_) (fun hc4 => ?_)
  · rw [if_neg hc4] at hf
    refine lv_iconst (v := (0 : Int32)) G.1 G.2.1 dX1_begins_22 (by decide) ?_
    exact g_zretW G hr rfl hk hf hw dX1_begins_23
  · rw [if_pos hc4] at hf
    refine lv_aload_n G.1 G.2.1 dX1_begins_7 rfl (lv_at hl 1 rfl) ?_
    refine g_getI G hw C_3 (iC_3 hv_o1) 12 rfl fl_X1_80 dX1_begins_8 ?_
    refine lv_if_gt (tgt := 22) G.1 G.2.1 dX1_begins_11 (by decide) (fun hc11 => ?_) (fun hc11 => ?_)
    · rw [if_pos hc11] at hf
      refine lv_iconst (v := (0 : Int32)) G.1 G.2.1 dX1_begins_22 (by decide) ?_
      exact g_zretW G hr rfl hk hf hw dX1_begins_23
    · rw [if_neg hc11] at hf
      refine lv_aload_n G.1 G.2.1 dX1_begins_14 rfl (lv_at hl 1 rfl) ?_
      refine g_getI G hw C_3 (iC_3 hv_o1) 13 rfl fl_X1_83 dX1_begins_15 ?_
      refine lv_iload_n G.1 G.2.1 dX1_begins_18 rfl (lv_at hl 2 rfl) ?_
      refine lv_icmp_le (tgt := 24) G.1 G.2.1 dX1_begins_19 (by decide) (fun hc19 => ?_) (fun hc19 => ?_)
      · rw [if_pos hc19] at hf
        refine lv_aload_n G.1 G.2.1 dX1_begins_24 rfl (lv_at hl 1 rfl) ?_
        refine g_getI G hw C_3 (iC_3 hv_o1) 2 rfl fl_X1_69 dX1_begins_25 ?_
        refine lv_iconst (v := (3 : Int32)) G.1 G.2.1 dX1_begins_28 (by decide) ?_
        obtain ⟨j2, ej2, hf⟩ := lt9_some hf
        have hj2 : ∀ (v4 : Int32) (H : Heap) (locs : List Loc) (ls : Array Slot), j2 v4 = some (r, g') → GW D X idsC E (gA X idsC E s.heap.size) s g H locs → lv_has ls 4 [(0, .ref (E.1 1 0)), (1, .ref (E.1 3 o1)), (2, .int a2)] → W p l en { frames := 1, cells := 0, slots := 0, locals := 23 } s m [.ref (E.1 1 0), .ref (E.1 3 o1), .int a2].toArray below meth c H locs 0 0 (MQ below (gQ (some (.int r)) (GP D X idsC E g') (gA X idsC E s.heap.size)) [.ref (E.1 1 0), .ref (E.1 3 o1), .int a2].toArray s 0 0 (gA X idsC E s.heap.size)) (F0 m 48 ls [.int v4]) := by
          intro v4 H locs ls hf hw hl
          rw [ej2] at hf
          dsimp only at hf
          refine lv_istore_n (lv' := [(3, .int v4), (0, .ref (E.1 1 0)), (1, .ref (E.1 3 o1)), (2, .int a2)]) G.1 G.2.1 dX1_begins_48 rfl hl (by decide) rfl (fun ls hl => ?_)
          refine lv_iload_n G.1 G.2.1 dX1_begins_49 rfl (lv_at hl 0 rfl) ?_
          refine lv_iconst (v := (-1 : Int32)) G.1 G.2.1 dX1_begins_50 (by decide) ?_
          refine lv_icmp_ne (tgt := 56) G.1 G.2.1 dX1_begins_51 (by decide) (fun hc51 => ?_) (fun hc51 => ?_)
          · rw [if_neg hc51] at hf
            refine lv_aload_n G.1 G.2.1 dX1_begins_56 rfl (lv_at hl 2 rfl) ?_
            refine lv_iload_n G.1 G.2.1 dX1_begins_57 rfl (lv_at hl 3 rfl) ?_
            obtain ⟨g5, eg5, hf⟩ := lt9_some hf
            refine g_putI G hw C_3 (iC_3 hv_o1) 9 rfl fl_X1_74 rfl rfl rfl dX1_begins_58 (fun H locs hw => ?_)
            rw [← eg5] at hw
            refine lv_aload_n G.1 G.2.1 dX1_begins_61 rfl (lv_at hl 2 rfl) ?_
            refine lv_iload_n G.1 G.2.1 dX1_begins_62 rfl (lv_at hl 0 rfl) ?_
            obtain ⟨g6, eg6, hf⟩ := lt9_some hf
            refine g_putI G hw C_3 (iC_3 hv_o1) 10 rfl fl_X1_127 rfl rfl rfl dX1_begins_63 (fun H locs hw => ?_)
            rw [← eg6] at hw
            refine lv_aload_n G.1 G.2.1 dX1_begins_66 rfl (lv_at hl 2 rfl) ?_
            refine g_getI G hw C_3 (iC_3 hv_o1) 2 rfl fl_X1_69 dX1_begins_67 ?_
            refine lv_iconst (v := (3 : Int32)) G.1 G.2.1 dX1_begins_70 (by decide) ?_
            refine lv_icmp_ne (tgt := 87) G.1 G.2.1 dX1_begins_71 (by decide) (fun hc71 => ?_) (fun hc71 => ?_)
            · rw [if_neg hc71] at hf
              refine lv_aload_n G.1 G.2.1 dX1_begins_87 rfl (lv_at hl 1 rfl) ?_
              refine g_getC G hw C_1 iC_1 2 25 rfl (by decide) rfl fl_X1_18 dX1_begins_88 ?_
              refine lv_aload_n G.1 G.2.1 dX1_begins_91 rfl (lv_at hl 2 rfl) ?_
              refine g_getI G hw C_3 (iC_3 hv_o1) 2 rfl fl_X1_69 dX1_begins_92 ?_
              refine lv_iconst (v := (4 : Int32)) G.1 G.2.1 dX1_begins_95 (by decide) ?_
              refine lv_imul G.1 G.2.1 dX1_begins_96 ?_
              refine lv_iload_n G.1 G.2.1 dX1_begins_97 rfl (lv_at hl 0 rfl) ?_
              refine lv_iadd G.1 G.2.1 dX1_begins_98 ?_
              refine lv_aload_n G.1 G.2.1 dX1_begins_99 rfl (lv_at hl 2 rfl) ?_
              obtain ⟨z7, hcz7, hf⟩ := bd_some hf
              refine g_callV1 (As := []) (rest := [.int (((gI g6 3 o1 2) * (4 : Int32)) + v4), .ref (E.1 25 0)]) G hw (gA_mono hw.2.2.2.1.1) C_3 (iC_3 hv_o1) mv_X1_112 (c_Op_end l D X E n o1 hv_o1 g6 z7 hcz7) hl.1 rfl rfl (Nat.le_of_ble_eq_true rfl) (Nat.le_of_ble_eq_true rfl) (Nat.le_of_ble_eq_true rfl) ⟨Nat.le_refl _, Nat.le_refl _⟩ dX1_begins_100 (fun H locs hw => ?_)
              obtain ⟨j8, hj8, hf⟩ := bd_some hf
              obtain ⟨g9, eg9, hf⟩ := lt9_some hf
              refine g_iast G hw iC_25 (by decide) rfl hj8 dX1_begins_103 (fun H locs hw => ?_)
              rw [← eg9] at hw
              refine lv_iconst (v := (1 : Int32)) G.1 G.2.1 dX1_begins_104 (by decide) ?_
              exact g_zretW G hr rfl hk hf hw dX1_begins_105
            · rw [if_pos hc71] at hf
              refine lv_aload_n G.1 G.2.1 dX1_begins_74 rfl (lv_at hl 1 rfl) ?_
              refine lv_dup G.1 G.2.1 dX1_begins_75 rfl ?_
              refine g_getI G hw C_1 iC_1 5 rfl fl_X1_105 dX1_begins_76 ?_
              refine lv_iconst (v := (1 : Int32)) G.1 G.2.1 dX1_begins_79 (by decide) ?_
              refine lv_iadd G.1 G.2.1 dX1_begins_80 ?_
              obtain ⟨g10, eg10, hf⟩ := lt9_some hf
              refine g_putI G hw C_1 iC_1 5 rfl fl_X1_105 rfl rfl rfl dX1_begins_81 (fun H locs hw => ?_)
              rw [← eg10] at hw
              refine lv_goto (tgt := 104) G.1 G.2.1 dX1_begins_84 (by decide) ?_
              refine lv_iconst (v := (1 : Int32)) G.1 G.2.1 dX1_begins_104 (by decide) ?_
              exact g_zretW G hr rfl hk hf hw dX1_begins_105
          · rw [if_pos hc51] at hf
            refine lv_iconst (v := (0 : Int32)) G.1 G.2.1 dX1_begins_54 (by decide) ?_
            exact g_zretW G hr rfl hk hf hw dX1_begins_55
        refine lv_icmp_ne (tgt := 39) G.1 G.2.1 dX1_begins_29 (by decide) (fun hc29 => ?_) (fun hc29 => ?_)
        · rw [if_neg hc29] at hf
          refine lv_aload_n G.1 G.2.1 dX1_begins_39 rfl (lv_at hl 0 rfl) ?_
          refine lv_aload_n G.1 G.2.1 dX1_begins_40 rfl (lv_at hl 1 rfl) ?_
          refine g_getI G hw C_3 (iC_3 hv_o1) 2 rfl fl_X1_69 dX1_begins_41 ?_
          refine lv_iload_n G.1 G.2.1 dX1_begins_44 rfl (lv_at hl 2 rfl) ?_
          obtain ⟨z3, hcz3, hf⟩ := bd_some hf
          refine g_callV1 (As := [.int (gI g 3 o1 2), .int a2]) (rest := []) G hw (gA_mono hw.2.2.2.1.1) C_1 iC_1 mv_X1_124 (c_Ly_freeUnit l D X E n (gI g 3 o1 2) a2 g z3 hcz3) hl.1 rfl rfl (Nat.le_of_ble_eq_true rfl) (Nat.le_of_ble_eq_true rfl) (Nat.le_of_ble_eq_true rfl) ⟨Nat.le_refl _, Nat.le_refl _⟩ dX1_begins_45 (fun H locs hw => ?_)
          exact hj2 z3 _ _ ls hf hw (lv_sub hl [0, 1, 2] rfl)
        · rw [if_pos hc29] at hf
          refine lv_aload_n G.1 G.2.1 dX1_begins_32 rfl (lv_at hl 0 rfl) ?_
          refine g_getI G hw C_1 iC_1 5 rfl fl_X1_105 dX1_begins_33 ?_
          refine lv_goto (tgt := 48) G.1 G.2.1 dX1_begins_36 (by decide) ?_
          exact hj2 (gI g 1 0 5) _ _ ls hf hw (lv_sub hl [0, 1, 2] rfl)
      · rw [if_neg hc19] at hf
        refine lv_iconst (v := (0 : Int32)) G.1 G.2.1 dX1_begins_22 (by decide) ?_
        exact g_zretW G hr rfl hk hf hw dX1_begins_23

set_option maxHeartbeats 4000000 in
set_option maxRecDepth 100000 in
theorem c_Ly_tellThoseBehind (l : Launch) (D : va_G) (X : va_W) (E : gE) (n : Nat) (p1 : Nat) (b2 : Nat) (o3 : Nat) (hv_p1 : p1 < 2) (hv_b2 : b2 < 350) (hv_o3 : o3 < 400) (g : Mem) (g' : Mem) (hf : Ly_tellThoseBehind n p1 b2 o3 g = some g') : gMet l yX1_tellThoseBehind cX1_tellThoseBehind 6 none 4 84 D X idsC E [.ref (E.1 1 0), .ref (E.1 4 p1), .ref (E.1 0 b2), .ref (E.1 3 o3)] g none g' := by
  rw [Ly_tellThoseBehind] at hf
  refine gt_code (by decide) (Nat.le_of_ble_eq_true rfl) (fun p en s m below meth c ls G hr hk hw hl => ?_)
  have hl : lv_has ls 6 [(0, .ref (E.1 1 0)), (1, .ref (E.1 4 p1)), (2, .ref (E.1 0 b2)), (3, .ref (E.1 3 o3))] := hl
  refine lv_aload_n G.1 G.2.1 dX1_tellThoseBehind_0 rfl (lv_at hl 3 rfl) ?_
  refine g_getI G hw C_3 (iC_3 hv_o3) 0 rfl fl_X1_130 dX1_tellThoseBehind_1 ?_
  refine lv_iconst (v := (1 : Int32)) G.1 G.2.1 dX1_tellThoseBehind_4 (by decide) ?_
  refine lv_iadd G.1 G.2.1 dX1_tellThoseBehind_5 ?_
  refine lv_istore (lv' := [(4, .int ((gI g 3 o3 0) + (1 : Int32))), (0, .ref (E.1 1 0)), (1, .ref (E.1 4 p1)), (2, .ref (E.1 0 b2)), (3, .ref (E.1 3 o3))]) G.1 G.2.1 dX1_tellThoseBehind_6 hl (by decide) rfl (fun ls hl => ?_)
  have hL8 : ∀ (k1 : Nat) (x2 : Int32) (g3 : Mem) (res1 : Mem) (H : Heap) (locs : List Loc) (ls : Array Slot), Ly_tellThoseBehind_L8 n b2 o3 p1 k1 x2 g3 = some res1 → GW D X idsC E (gA X idsC E s.heap.size) s g3 H locs → lv_has ls 6 [(1, .ref (E.1 4 p1)), (2, .ref (E.1 0 b2)), (3, .ref (E.1 3 o3)), (4, .int x2)] → (∀ (H : Heap) (locs : List Loc) (ls : Array Slot), GW D X idsC E (gA X idsC E s.heap.size) s res1 H locs → lv_has ls 6 [] → W p l en { frames := 4, cells := 0, slots := 0, locals := 84 } s m [.ref (E.1 1 0), .ref (E.1 4 p1), .ref (E.1 0 b2), .ref (E.1 3 o3)].toArray below meth c H locs 0 0 (MQ below (gQ none (GP D X idsC E g') (gA X idsC E s.heap.size)) [.ref (E.1 1 0), .ref (E.1 4 p1), .ref (E.1 0 b2), .ref (E.1 3 o3)].toArray s 0 0 (gA X idsC E s.heap.size)) (F0 m 74 ls [])) → W p l en { frames := 4, cells := 0, slots := 0, locals := 84 } s m [.ref (E.1 1 0), .ref (E.1 4 p1), .ref (E.1 0 b2), .ref (E.1 3 o3)].toArray below meth c H locs 0 0 (MQ below (gQ none (GP D X idsC E g') (gA X idsC E s.heap.size)) [.ref (E.1 1 0), .ref (E.1 4 p1), .ref (E.1 0 b2), .ref (E.1 3 o3)].toArray s 0 0 (gA X idsC E s.heap.size)) (F0 m 8 ls []) := by
    intro k1
    induction k1 with
    | zero => intro x2 g3 res1 H locs ls hf; rw [Ly_tellThoseBehind_L8] at hf; cases hf
    | succ k1 ih1 =>
      intro x2 g3 res1 H locs ls hf hw hl hk1_0
      rw [Ly_tellThoseBehind_L8] at hf
      refine lv_iload G.1 G.2.1 dX1_tellThoseBehind_8 (lv_at hl 3 rfl) ?_
      refine lv_aload_n G.1 G.2.1 dX1_tellThoseBehind_10 rfl (lv_at hl 1 rfl) ?_
      refine g_getI G hw C_0 (iC_0 hv_b2) 0 rfl fl_X1_59 dX1_tellThoseBehind_11 ?_
      refine lv_aload_n G.1 G.2.1 dX1_tellThoseBehind_14 rfl (lv_at hl 1 rfl) ?_
      refine g_getI G hw C_0 (iC_0 hv_b2) 1 rfl fl_X1_64 dX1_tellThoseBehind_15 ?_
      refine lv_iadd G.1 G.2.1 dX1_tellThoseBehind_18 ?_
      refine lv_icmp_ge (tgt := 74) G.1 G.2.1 dX1_tellThoseBehind_19 (by decide) (fun hc19 => ?_) (fun hc19 => ?_)
      · rw [if_pos hc19] at hf
        obtain rfl := Option.some.inj hf
        exact hk1_0 _ _ ls hw (lv_sub hl [] rfl)
      · rw [if_neg hc19] at hf
        refine lv_aload_n G.1 G.2.1 dX1_tellThoseBehind_22 rfl (lv_at hl 0 rfl) ?_
        refine g_getC G hw C_4 (iC_4 hv_p1) 0 31 rfl (by decide) rfl fl_X1_66 dX1_tellThoseBehind_23 ?_
        refine lv_iload G.1 G.2.1 dX1_tellThoseBehind_26 (lv_at hl 3 rfl) ?_
        obtain ⟨j4, hj4, hf⟩ := bd_some hf
        refine g_oald G hw (iC_31 hv_p1) (by decide) rfl hj4 dX1_tellThoseBehind_28 ?_
        refine lv_astore (lv' := [(5, .ref (E.1 3 (200 * p1 + j4))), (1, .ref (E.1 4 p1)), (2, .ref (E.1 0 b2)), (3, .ref (E.1 3 o3)), (4, .int x2)]) G.1 G.2.1 dX1_tellThoseBehind_29 hl (by decide) rfl (fun ls hl => ?_)
        refine lv_aload G.1 G.2.1 dX1_tellThoseBehind_31 (lv_at hl 0 rfl) ?_
        refine lv_aload_n G.1 G.2.1 dX1_tellThoseBehind_33 rfl (lv_at hl 3 rfl) ?_
        obtain ⟨z5, hcz5, hf⟩ := bd_some hf
        refine g_callV1 (As := [.ref (E.1 3 o3)]) (rest := []) G hw (gA_mono hw.2.2.2.1.1) C_3 (iC_3 (v_3 hv_p1 hj4)) mv_X1_89 (c_Op_comesBehind l D X E n (200 * p1 + j4) o3 (v_3 hv_p1 hj4) hv_o3 g3 z5 hcz5) hl.1 rfl rfl (Nat.le_of_ble_eq_true rfl) (Nat.le_of_ble_eq_true rfl) (Nat.le_of_ble_eq_true rfl) ⟨Nat.le_refl _, Nat.le_refl _⟩ dX1_tellThoseBehind_34 (fun H locs hw => ?_)
        refine lv_if_eq (tgt := 68) G.1 G.2.1 dX1_tellThoseBehind_37 (by decide) (fun hc37 => ?_) (fun hc37 => ?_)
        · rw [if_pos hc37] at hf
          refine lv_iinc (v := x2 + 1) (lv' := [(4, .int (x2 + 1)), (5, .ref (E.1 3 (200 * p1 + j4))), (1, .ref (E.1 4 p1)), (2, .ref (E.1 0 b2)), (3, .ref (E.1 3 o3))]) G.1 G.2.1 dX1_tellThoseBehind_68 hl (k := 4) rfl rfl (by decide) rfl (fun ls hl => ?_)
          refine lv_goto (tgt := 8) G.1 G.2.1 dX1_tellThoseBehind_71 (by decide) ?_
          exact ih1 (x2 + 1) g3 _ _ _ ls hf hw (lv_sub hl [2, 3, 4, 0] rfl) hk1_0
        · rw [if_neg hc37] at hf
          refine lv_aload G.1 G.2.1 dX1_tellThoseBehind_40 (lv_at hl 0 rfl) ?_
          refine lv_dup G.1 G.2.1 dX1_tellThoseBehind_42 rfl ?_
          refine g_getI G hw C_3 (iC_3 (v_3 hv_p1 hj4)) 12 rfl fl_X1_80 dX1_tellThoseBehind_43 ?_
          refine lv_iconst (v := (1 : Int32)) G.1 G.2.1 dX1_tellThoseBehind_46 (by decide) ?_
          refine lv_isub G.1 G.2.1 dX1_tellThoseBehind_47 ?_
          obtain ⟨g6, eg6, hf⟩ := lt9_some hf
          refine g_putI G hw C_3 (iC_3 (v_3 hv_p1 hj4)) 12 rfl fl_X1_80 rfl rfl rfl dX1_tellThoseBehind_48 (fun H locs hw => ?_)
          rw [← eg6] at hw
          refine lv_aload G.1 G.2.1 dX1_tellThoseBehind_51 (lv_at hl 0 rfl) ?_
          refine lv_aload G.1 G.2.1 dX1_tellThoseBehind_53 (lv_at hl 0 rfl) ?_
          refine g_getI G hw C_3 (iC_3 (v_3 hv_p1 hj4)) 13 rfl fl_X1_83 dX1_tellThoseBehind_55 ?_
          refine lv_aload_n G.1 G.2.1 dX1_tellThoseBehind_58 rfl (lv_at hl 3 rfl) ?_
          obtain ⟨z7, hcz7, hf⟩ := bd_some hf
          refine g_callV1 (As := []) (rest := [.int (gI g6 3 (200 * p1 + j4) 13), .ref (E.1 3 (200 * p1 + j4))]) G hw (gA_mono hw.2.2.2.1.1) C_3 (iC_3 hv_o3) mv_X1_112 (c_Op_end l D X E n o3 hv_o3 g6 z7 hcz7) hl.1 rfl rfl (Nat.le_of_ble_eq_true rfl) (Nat.le_of_ble_eq_true rfl) (Nat.le_of_ble_eq_true rfl) ⟨Nat.le_refl _, Nat.le_refl _⟩ dX1_tellThoseBehind_59 (fun H locs hw => ?_)
          refine g_max (rest := [.ref (E.1 3 (200 * p1 + j4))]) G hl.1 mm_X1_96 (Nat.le_of_ble_eq_true rfl) dX1_tellThoseBehind_62 (Nat.le_of_ble_eq_true rfl) (Nat.le_of_ble_eq_true rfl) (Nat.le_refl _) (Nat.le_refl _) ?_
          obtain ⟨g8, eg8, hf⟩ := lt9_some hf
          refine g_putI G hw C_3 (iC_3 (v_3 hv_p1 hj4)) 13 rfl fl_X1_83 rfl rfl rfl dX1_tellThoseBehind_65 (fun H locs hw => ?_)
          rw [← eg8] at hw
          refine lv_iinc (v := x2 + 1) (lv' := [(4, .int (x2 + 1)), (5, .ref (E.1 3 (200 * p1 + j4))), (1, .ref (E.1 4 p1)), (2, .ref (E.1 0 b2)), (3, .ref (E.1 3 o3))]) G.1 G.2.1 dX1_tellThoseBehind_68 hl (k := 4) rfl rfl (by decide) rfl (fun ls hl => ?_)
          refine lv_goto (tgt := 8) G.1 G.2.1 dX1_tellThoseBehind_71 (by decide) ?_
          exact ih1 (x2 + 1) g8 _ _ _ ls hf hw (lv_sub hl [2, 3, 4, 0] rfl) hk1_0
  obtain ⟨r9, hr9, hf⟩ := bd_some hf
  refine hL8 n ((gI g 3 o3 0) + (1 : Int32)) g r9 _ _ ls hr9 hw (lv_sub hl [2, 3, 4, 0] rfl) ?_
  intro H locs ls hw hl
  exact g_vretW G hr hk hf hw dX1_tellThoseBehind_74

set_option maxHeartbeats 4000000 in
set_option maxRecDepth 100000 in
theorem c_Ly_beginAll (l : Launch) (D : va_G) (X : va_W) (E : gE) (n : Nat) (p1 : Nat) (b2 : Nat) (hv_p1 : p1 < 2) (hv_b2 : b2 < 350) (g : Mem) (g' : Mem) (hf : Ly_beginAll n p1 b2 g = some g') : gMet l yX1_beginAll cX1_beginAll 6 none 5 109 D X idsC E [.ref (E.1 1 0), .ref (E.1 4 p1), .ref (E.1 0 b2)] g none g' := by
  rw [Ly_beginAll] at hf
  refine gt_code (by decide) (Nat.le_of_ble_eq_true rfl) (fun p en s m below meth c ls G hr hk hw hl => ?_)
  have hl : lv_has ls 6 [(0, .ref (E.1 1 0)), (1, .ref (E.1 4 p1)), (2, .ref (E.1 0 b2))] := hl
  refine lv_aload_n G.1 G.2.1 dX1_beginAll_0 rfl (lv_at hl 2 rfl) ?_
  refine lv_iconst (v := (1 : Int32)) G.1 G.2.1 dX1_beginAll_1 (by decide) ?_
  obtain ⟨g1, eg1, hf⟩ := lt9_some hf
  refine g_putI G hw C_0 (iC_0 hv_b2) 6 rfl fl_X1_102 rfl rfl rfl dX1_beginAll_2 (fun H locs hw => ?_)
  rw [← eg1] at hw
  refine lv_iconst (v := (0 : Int32)) G.1 G.2.1 dX1_beginAll_5 (by decide) ?_
  refine lv_istore_n (lv' := [(3, .int (0 : Int32)), (0, .ref (E.1 1 0)), (1, .ref (E.1 4 p1)), (2, .ref (E.1 0 b2))]) G.1 G.2.1 dX1_beginAll_6 rfl hl (by decide) rfl (fun ls hl => ?_)
  refine lv_iconst (v := (0 : Int32)) G.1 G.2.1 dX1_beginAll_7 (by decide) ?_
  refine lv_istore (lv' := [(4, .int (0 : Int32)), (3, .int (0 : Int32)), (0, .ref (E.1 1 0)), (1, .ref (E.1 4 p1)), (2, .ref (E.1 0 b2))]) G.1 G.2.1 dX1_beginAll_8 hl (by decide) rfl (fun ls hl => ?_)
  have hL10 : ∀ (k2 : Nat) (x3 : Int32) (x4 : Int32) (g5 : Mem) (res2 : Mem) (H : Heap) (locs : List Loc) (ls : Array Slot), Ly_beginAll_L10 n b2 p1 k2 x3 x4 g5 = some res2 → GW D X idsC E (gA X idsC E s.heap.size) s g5 H locs → lv_has ls 6 [(0, .ref (E.1 1 0)), (1, .ref (E.1 4 p1)), (2, .ref (E.1 0 b2)), (3, .int x3), (4, .int x4)] → (∀ (H : Heap) (locs : List Loc) (ls : Array Slot), GW D X idsC E (gA X idsC E s.heap.size) s res2 H locs → lv_has ls 6 [] → W p l en { frames := 5, cells := 0, slots := 0, locals := 109 } s m [.ref (E.1 1 0), .ref (E.1 4 p1), .ref (E.1 0 b2)].toArray below meth c H locs 0 0 (MQ below (gQ none (GP D X idsC E g') (gA X idsC E s.heap.size)) [.ref (E.1 1 0), .ref (E.1 4 p1), .ref (E.1 0 b2)].toArray s 0 0 (gA X idsC E s.heap.size)) (F0 m 108 ls [])) → W p l en { frames := 5, cells := 0, slots := 0, locals := 109 } s m [.ref (E.1 1 0), .ref (E.1 4 p1), .ref (E.1 0 b2)].toArray below meth c H locs 0 0 (MQ below (gQ none (GP D X idsC E g') (gA X idsC E s.heap.size)) [.ref (E.1 1 0), .ref (E.1 4 p1), .ref (E.1 0 b2)].toArray s 0 0 (gA X idsC E s.heap.size)) (F0 m 10 ls []) := by
    intro k2
    induction k2 with
    | zero => intro x3 x4 g5 res2 H locs ls hf; rw [Ly_beginAll_L10] at hf; cases hf
    | succ k2 ih2 =>
      intro x3 x4 g5 res2 H locs ls hf hw hl hk2_0
      rw [Ly_beginAll_L10] at hf
      refine lv_iload G.1 G.2.1 dX1_beginAll_10 (lv_at hl 4 rfl) ?_
      refine lv_sipush (v := (800 : Int32)) G.1 G.2.1 dX1_beginAll_12 (by decide) ?_
      refine lv_icmp_ge (tgt := 108) G.1 G.2.1 dX1_beginAll_15 (by decide) (fun hc15 => ?_) (fun hc15 => ?_)
      · rw [if_pos hc15] at hf
        obtain rfl := Option.some.inj hf
        exact hk2_0 _ _ ls hw (lv_sub hl [] rfl)
      · rw [if_neg hc15] at hf
        refine lv_iload_n G.1 G.2.1 dX1_beginAll_18 rfl (lv_at hl 3 rfl) ?_
        refine lv_aload_n G.1 G.2.1 dX1_beginAll_19 rfl (lv_at hl 2 rfl) ?_
        refine g_getI G hw C_0 (iC_0 hv_b2) 1 rfl fl_X1_64 dX1_beginAll_20 ?_
        refine lv_icmp_ge (tgt := 108) G.1 G.2.1 dX1_beginAll_23 (by decide) (fun hc23 => ?_) (fun hc23 => ?_)
        · rw [if_pos hc23] at hf
          obtain rfl := Option.some.inj hf
          exact hk2_0 _ _ ls hw (lv_sub hl [] rfl)
        · rw [if_neg hc23] at hf
          refine lv_aload_n G.1 G.2.1 dX1_beginAll_26 rfl (lv_at hl 0 rfl) ?_
          refine lv_iconst (v := (0 : Int32)) G.1 G.2.1 dX1_beginAll_27 (by decide) ?_
          obtain ⟨g6, eg6, hf⟩ := lt9_some hf
          refine g_putI G hw C_1 iC_1 5 rfl fl_X1_105 rfl rfl rfl dX1_beginAll_28 (fun H locs hw => ?_)
          rw [← eg6] at hw
          refine lv_iconst (v := (0 : Int32)) G.1 G.2.1 dX1_beginAll_31 (by decide) ?_
          refine lv_istore (lv' := [(5, .int (0 : Int32)), (0, .ref (E.1 1 0)), (1, .ref (E.1 4 p1)), (2, .ref (E.1 0 b2)), (3, .int x3), (4, .int x4)]) G.1 G.2.1 dX1_beginAll_32 hl (by decide) rfl (fun ls hl => ?_)
          have hL34 : ∀ (k7 : Nat) (x8 : Int32) (x9 : Int32) (g10 : Mem) (res7 : Int32 × Mem) (H : Heap) (locs : List Loc) (ls : Array Slot), Ly_beginAll_L34 n b2 p1 x4 k7 x8 x9 g10 = some res7 → GW D X idsC E (gA X idsC E s.heap.size) s g10 H locs → lv_has ls 6 [(0, .ref (E.1 1 0)), (1, .ref (E.1 4 p1)), (2, .ref (E.1 0 b2)), (3, .int x8), (4, .int x4), (5, .int x9)] → (∀ (H : Heap) (locs : List Loc) (ls : Array Slot), GW D X idsC E (gA X idsC E s.heap.size) s res7.2 H locs → lv_has ls 6 [(0, .ref (E.1 1 0)), (1, .ref (E.1 4 p1)), (2, .ref (E.1 0 b2)), (3, .int res7.1), (4, .int x4)] → W p l en { frames := 5, cells := 0, slots := 0, locals := 109 } s m [.ref (E.1 1 0), .ref (E.1 4 p1), .ref (E.1 0 b2)].toArray below meth c H locs 0 0 (MQ below (gQ none (GP D X idsC E g') (gA X idsC E s.heap.size)) [.ref (E.1 1 0), .ref (E.1 4 p1), .ref (E.1 0 b2)].toArray s 0 0 (gA X idsC E s.heap.size)) (F0 m 102 ls [])) → W p l en { frames := 5, cells := 0, slots := 0, locals := 109 } s m [.ref (E.1 1 0), .ref (E.1 4 p1), .ref (E.1 0 b2)].toArray below meth c H locs 0 0 (MQ below (gQ none (GP D X idsC E g') (gA X idsC E s.heap.size)) [.ref (E.1 1 0), .ref (E.1 4 p1), .ref (E.1 0 b2)].toArray s 0 0 (gA X idsC E s.heap.size)) (F0 m 34 ls []) := by
            intro k7
            induction k7 with
            | zero => intro x8 x9 g10 res7 H locs ls hf; rw [Ly_beginAll_L34] at hf; cases hf
            | succ k7 ih7 =>
              intro x8 x9 g10 res7 H locs ls hf hw hl hk7_0
              rw [Ly_beginAll_L34] at hf
              refine lv_iload G.1 G.2.1 dX1_beginAll_34 (lv_at hl 5 rfl) ?_
              refine lv_aload_n G.1 G.2.1 dX1_beginAll_36 rfl (lv_at hl 2 rfl) ?_
              refine g_getI G hw C_0 (iC_0 hv_b2) 1 rfl fl_X1_64 dX1_beginAll_37 ?_
              refine lv_icmp_ge (tgt := 102) G.1 G.2.1 dX1_beginAll_40 (by decide) (fun hc40 => ?_) (fun hc40 => ?_)
              · rw [if_pos hc40] at hf
                obtain rfl := Option.some.inj hf
                exact hk7_0 _ _ ls hw (lv_sub hl [0, 1, 2, 3, 4] rfl)
              · rw [if_neg hc40] at hf
                refine lv_aload_n G.1 G.2.1 dX1_beginAll_43 rfl (lv_at hl 0 rfl) ?_
                refine lv_aload_n G.1 G.2.1 dX1_beginAll_44 rfl (lv_at hl 0 rfl) ?_
                refine g_getC G hw C_1 iC_1 4 27 rfl (by decide) rfl fl_X1_26 dX1_beginAll_45 ?_
                refine lv_iload G.1 G.2.1 dX1_beginAll_48 (lv_at hl 5 rfl) ?_
                obtain ⟨j11, hj11, hf⟩ := bd_some hf
                obtain ⟨o12, heo12, hf⟩ := bd_some hf
                obtain ⟨hvo12, hf⟩ := ck_some hf
                refine g_qald G hw iC_27 (by decide) rfl hj11 heo12 dX1_beginAll_50 ?_
                refine lv_iload G.1 G.2.1 dX1_beginAll_51 (lv_at hl 4 rfl) ?_
                obtain ⟨z13, hcz13, hf⟩ := bd_some hf
                refine g_callV1 (As := [.ref (E.1 3 o12), .int x4]) (rest := []) G hw (gA_mono hw.2.2.2.1.1) C_1 iC_1 mv_X1_108 (c_Ly_begins l D X E n o12 x4 hvo12 g10 z13.1 z13.2 hcz13) hl.1 rfl rfl (Nat.le_of_ble_eq_true rfl) (Nat.le_of_ble_eq_true rfl) (Nat.le_of_ble_eq_true rfl) ⟨Nat.le_refl _, Nat.le_refl _⟩ dX1_beginAll_53 (fun H locs hw => ?_)
                refine lv_if_eq (tgt := 96) G.1 G.2.1 dX1_beginAll_56 (by decide) (fun hc56 => ?_) (fun hc56 => ?_)
                · rw [if_pos hc56] at hf
                  refine lv_iinc (v := x9 + 1) (lv' := [(5, .int (x9 + 1)), (0, .ref (E.1 1 0)), (1, .ref (E.1 4 p1)), (2, .ref (E.1 0 b2)), (3, .int x8), (4, .int x4)]) G.1 G.2.1 dX1_beginAll_96 hl (k := 5) rfl rfl (by decide) rfl (fun ls hl => ?_)
                  refine lv_goto (tgt := 34) G.1 G.2.1 dX1_beginAll_99 (by decide) ?_
                  exact ih7 x8 (x9 + 1) z13.2 _ _ _ ls hf hw (lv_sub hl [1, 2, 3, 4, 5, 0] rfl) hk7_0
                · rw [if_neg hc56] at hf
                  refine lv_iinc (v := x8 + 1) (lv' := [(3, .int (x8 + 1)), (0, .ref (E.1 1 0)), (1, .ref (E.1 4 p1)), (2, .ref (E.1 0 b2)), (4, .int x4), (5, .int x9)]) G.1 G.2.1 dX1_beginAll_59 hl (k := 3) rfl rfl (by decide) rfl (fun ls hl => ?_)
                  refine lv_aload_n G.1 G.2.1 dX1_beginAll_62 rfl (lv_at hl 3 rfl) ?_
                  refine lv_aload_n G.1 G.2.1 dX1_beginAll_63 rfl (lv_at hl 3 rfl) ?_
                  refine g_getI G hw C_0 (iC_0 hv_b2) 6 rfl fl_X1_102 dX1_beginAll_64 ?_
                  refine lv_aload_n G.1 G.2.1 dX1_beginAll_67 rfl (lv_at hl 1 rfl) ?_
                  refine g_getC G hw C_1 iC_1 4 27 rfl (by decide) rfl fl_X1_26 dX1_beginAll_68 ?_
                  refine lv_iload G.1 G.2.1 dX1_beginAll_71 (lv_at hl 5 rfl) ?_
                  obtain ⟨j14, hj14, hf⟩ := bd_some hf
                  obtain ⟨o15, heo15, hf⟩ := bd_some hf
                  obtain ⟨hvo15, hf⟩ := ck_some hf
                  refine g_qald G hw iC_27 (by decide) rfl hj14 heo15 dX1_beginAll_73 ?_
                  obtain ⟨z16, hcz16, hf⟩ := bd_some hf
                  refine g_callV1 (As := []) (rest := [.int (gI z13.2 0 b2 6), .ref (E.1 0 b2)]) G hw (gA_mono hw.2.2.2.1.1) C_3 (iC_3 hvo15) mv_X1_112 (c_Op_end l D X E n o15 hvo15 z13.2 z16 hcz16) hl.1 rfl rfl (Nat.le_of_ble_eq_true rfl) (Nat.le_of_ble_eq_true rfl) (Nat.le_of_ble_eq_true rfl) ⟨Nat.le_refl _, Nat.le_refl _⟩ dX1_beginAll_74 (fun H locs hw => ?_)
                  refine g_max (rest := [.ref (E.1 0 b2)]) G hl.1 mm_X1_96 (Nat.le_of_ble_eq_true rfl) dX1_beginAll_77 (Nat.le_of_ble_eq_true rfl) (Nat.le_of_ble_eq_true rfl) (Nat.le_refl _) (Nat.le_refl _) ?_
                  obtain ⟨g17, eg17, hf⟩ := lt9_some hf
                  refine g_putI G hw C_0 (iC_0 hv_b2) 6 rfl fl_X1_102 rfl rfl rfl dX1_beginAll_80 (fun H locs hw => ?_)
                  rw [← eg17] at hw
                  refine lv_aload_n G.1 G.2.1 dX1_beginAll_83 rfl (lv_at hl 1 rfl) ?_
                  refine lv_aload_n G.1 G.2.1 dX1_beginAll_84 rfl (lv_at hl 2 rfl) ?_
                  refine lv_aload_n G.1 G.2.1 dX1_beginAll_85 rfl (lv_at hl 3 rfl) ?_
                  refine lv_aload_n G.1 G.2.1 dX1_beginAll_86 rfl (lv_at hl 1 rfl) ?_
                  refine g_getC G hw C_1 iC_1 4 27 rfl (by decide) rfl fl_X1_26 dX1_beginAll_87 ?_
                  refine lv_iload G.1 G.2.1 dX1_beginAll_90 (lv_at hl 5 rfl) ?_
                  obtain ⟨j18, hj18, hf⟩ := bd_some hf
                  obtain ⟨o19, heo19, hf⟩ := bd_some hf
                  obtain ⟨hvo19, hf⟩ := ck_some hf
                  refine g_qald G hw iC_27 (by decide) rfl hj18 heo19 dX1_beginAll_92 ?_
                  obtain ⟨g20, hcg20, hf⟩ := bd_some hf
                  refine g_callV0 (As := [.ref (E.1 4 p1), .ref (E.1 0 b2), .ref (E.1 3 o19)]) (rest := []) G hw (gA_mono hw.2.2.2.1.1) C_1 iC_1 mv_X1_116 (c_Ly_tellThoseBehind l D X E n p1 b2 o19 hv_p1 hv_b2 hvo19 g17 g20 hcg20) hl.1 rfl rfl (Nat.le_of_ble_eq_true rfl) (Nat.le_of_ble_eq_true rfl) (Nat.le_of_ble_eq_true rfl) ⟨Nat.le_refl _, Nat.le_refl _⟩ dX1_beginAll_93 (fun H locs hw => ?_)
                  refine lv_iinc (v := x9 + 1) (lv' := [(5, .int (x9 + 1)), (3, .int (x8 + 1)), (0, .ref (E.1 1 0)), (1, .ref (E.1 4 p1)), (2, .ref (E.1 0 b2)), (4, .int x4)]) G.1 G.2.1 dX1_beginAll_96 hl (k := 5) rfl rfl (by decide) rfl (fun ls hl => ?_)
                  refine lv_goto (tgt := 34) G.1 G.2.1 dX1_beginAll_99 (by decide) ?_
                  exact ih7 (x8 + 1) (x9 + 1) g20 _ _ _ ls hf hw (lv_sub hl [2, 3, 4, 1, 5, 0] rfl) hk7_0
          obtain ⟨r21, hr21, hf⟩ := bd_some hf
          refine hL34 n x3 (0 : Int32) g6 r21 _ _ ls hr21 hw (lv_sub hl [1, 2, 3, 4, 5, 0] rfl) ?_
          intro H locs ls hw hl
          refine lv_iinc (v := x4 + 1) (lv' := [(4, .int (x4 + 1)), (0, .ref (E.1 1 0)), (1, .ref (E.1 4 p1)), (2, .ref (E.1 0 b2)), (3, .int r21.1)]) G.1 G.2.1 dX1_beginAll_102 hl (k := 4) rfl rfl (by decide) rfl (fun ls hl => ?_)
          refine lv_goto (tgt := 10) G.1 G.2.1 dX1_beginAll_105 (by decide) ?_
          exact ih2 r21.1 (x4 + 1) r21.2 _ _ _ ls hf hw (lv_sub hl [1, 2, 3, 4, 0] rfl) hk2_0
  obtain ⟨r22, hr22, hf⟩ := bd_some hf
  refine hL10 n (0 : Int32) (0 : Int32) g1 r22 _ _ ls hr22 hw (lv_sub hl [2, 3, 4, 1, 0] rfl) ?_
  intro H locs ls hw hl
  exact g_vretW G hr hk hf hw dX1_beginAll_108

set_option maxHeartbeats 4000000 in
set_option maxRecDepth 100000 in
theorem c_Ly_freeRegister (l : Launch) (D : va_G) (X : va_W) (E : gE) (n : Nat) (a1 : Int32) (a2 : Int32) (g : Mem) (r : Int32) (g' : Mem) (hf : Ly_freeRegister n a1 a2 g = some (r, g')) : gMet l yX1_freeRegister cX1_freeRegister 4 (some .int) 0 0 D X idsC E [.ref (E.1 1 0), .int a1, .int a2] g (some (.int r)) g' := by
  rw [Ly_freeRegister] at hf
  refine gt_code (by decide) (Nat.le_of_ble_eq_true rfl) (fun p en s m below meth c ls G hr hk hw hl => ?_)
  have hl : lv_has ls 4 [(0, .ref (E.1 1 0)), (1, .int a1), (2, .int a2)] := hl
  refine lv_iload_n G.1 G.2.1 dX1_freeRegister_0 rfl (lv_at hl 2 rfl) ?_
  refine lv_iload_n G.1 G.2.1 dX1_freeRegister_1 rfl (lv_at hl 1 rfl) ?_
  refine lv_icmp_ge (tgt := 7) G.1 G.2.1 dX1_freeRegister_2 (by decide) (fun hc2 => ?_) (fun hc2 => ?_)
  · rw [if_pos hc2] at hf
    refine lv_iconst (v := (0 : Int32)) G.1 G.2.1 dX1_freeRegister_7 (by decide) ?_
    refine lv_istore_n (lv' := [(3, .int (0 : Int32)), (0, .ref (E.1 1 0)), (1, .int a1), (2, .int a2)]) G.1 G.2.1 dX1_freeRegister_8 rfl hl (by decide) rfl (fun ls hl => ?_)
    have hL9 : ∀ (k1 : Nat) (x2 : Int32) (res1 : (Int32) ⊕ (Unit)) (H : Heap) (locs : List Loc) (ls : Array Slot), Ly_freeRegister_L9 n a1 g k1 x2 = some res1 → GW D X idsC E (gA X idsC E s.heap.size) s g H locs → lv_has ls 4 [(0, .ref (E.1 1 0)), (1, .int a1), (2, .int a2), (3, .int x2)] → (∀ t : Int32, res1 = .inl t → ∀ (H : Heap) (locs : List Loc) (ls : Array Slot), GW D X idsC E (gA X idsC E s.heap.size) s g H locs → lv_has ls 4 [(0, .ref (E.1 1 0)), (2, .int a2), (3, .int t)] → W p l en { frames := 0, cells := 0, slots := 0, locals := 0 } s m [.ref (E.1 1 0), .int a1, .int a2].toArray below meth c H locs 0 0 (MQ below (gQ (some (.int r)) (GP D X idsC E g') (gA X idsC E s.heap.size)) [.ref (E.1 1 0), .int a1, .int a2].toArray s 0 0 (gA X idsC E s.heap.size)) (F0 m 26 ls [])) → (∀ t : Unit, res1 = .inr t → ∀ (H : Heap) (locs : List Loc) (ls : Array Slot), GW D X idsC E (gA X idsC E s.heap.size) s g H locs → lv_has ls 4 [] → W p l en { frames := 0, cells := 0, slots := 0, locals := 0 } s m [.ref (E.1 1 0), .int a1, .int a2].toArray below meth c H locs 0 0 (MQ below (gQ (some (.int r)) (GP D X idsC E g') (gA X idsC E s.heap.size)) [.ref (E.1 1 0), .int a1, .int a2].toArray s 0 0 (gA X idsC E s.heap.size)) (F0 m 41 ls [])) → W p l en { frames := 0, cells := 0, slots := 0, locals := 0 } s m [.ref (E.1 1 0), .int a1, .int a2].toArray below meth c H locs 0 0 (MQ below (gQ (some (.int r)) (GP D X idsC E g') (gA X idsC E s.heap.size)) [.ref (E.1 1 0), .int a1, .int a2].toArray s 0 0 (gA X idsC E s.heap.size)) (F0 m 9 ls []) := by
      intro k1
      induction k1 with
      | zero => intro x2 res1 H locs ls hf; rw [Ly_freeRegister_L9] at hf; cases hf
      | succ k1 ih1 =>
        intro x2 res1 H locs ls hf hw hl hk1_0 hk1_1
        rw [Ly_freeRegister_L9] at hf
        refine lv_iload_n G.1 G.2.1 dX1_freeRegister_9 rfl (lv_at hl 3 rfl) ?_
        refine lv_sipush (v := (200 : Int32)) G.1 G.2.1 dX1_freeRegister_10 (by decide) ?_
        refine lv_icmp_ge (tgt := 41) G.1 G.2.1 dX1_freeRegister_13 (by decide) (fun hc13 => ?_) (fun hc13 => ?_)
        · rw [if_pos hc13] at hf
          exact hk1_1 _ (Option.some.inj hf).symm _ _ ls hw (lv_sub hl [] rfl)
        · rw [if_neg hc13] at hf
          refine lv_aload_n G.1 G.2.1 dX1_freeRegister_16 rfl (lv_at hl 0 rfl) ?_
          refine g_getC G hw C_1 iC_1 3 26 rfl (by decide) rfl fl_X1_21 dX1_freeRegister_17 ?_
          refine lv_iload_n G.1 G.2.1 dX1_freeRegister_20 rfl (lv_at hl 3 rfl) ?_
          obtain ⟨j3, hj3, hf⟩ := bd_some hf
          refine g_iald G hw iC_26 (by decide) rfl hj3 dX1_freeRegister_21 ?_
          refine lv_iload_n G.1 G.2.1 dX1_freeRegister_22 rfl (lv_at hl 1 rfl) ?_
          refine lv_icmp_ge (tgt := 35) G.1 G.2.1 dX1_freeRegister_23 (by decide) (fun hc23 => ?_) (fun hc23 => ?_)
          · rw [if_pos hc23] at hf
            refine lv_iinc (v := x2 + 1) (lv' := [(3, .int (x2 + 1)), (0, .ref (E.1 1 0)), (1, .int a1), (2, .int a2)]) G.1 G.2.1 dX1_freeRegister_35 hl (k := 3) rfl rfl (by decide) rfl (fun ls hl => ?_)
            refine lv_goto (tgt := 9) G.1 G.2.1 dX1_freeRegister_38 (by decide) ?_
            exact ih1 (x2 + 1) _ _ _ ls hf hw (lv_sub hl [1, 2, 3, 0] rfl) hk1_0 hk1_1
          · rw [if_neg hc23] at hf
            exact hk1_0 _ (Option.some.inj hf).symm _ _ ls hw (lv_sub hl [0, 2, 3] rfl)
    obtain ⟨r4, hr4, hf⟩ := bd_some hf
    refine hL9 n (0 : Int32) r4 _ _ ls hr4 hw (lv_sub hl [1, 2, 3, 0] rfl) ?_ ?_
    · intro t5 htt5 H locs ls hw hl
      rw [htt5] at hf
      dsimp only at hf
      refine lv_aload_n G.1 G.2.1 dX1_freeRegister_26 rfl (lv_at hl 0 rfl) ?_
      refine g_getC G hw C_1 iC_1 3 26 rfl (by decide) rfl fl_X1_21 dX1_freeRegister_27 ?_
      refine lv_iload_n G.1 G.2.1 dX1_freeRegister_30 rfl (lv_at hl 2 rfl) ?_
      refine lv_iload_n G.1 G.2.1 dX1_freeRegister_31 rfl (lv_at hl 1 rfl) ?_
      obtain ⟨j6, hj6, hf⟩ := bd_some hf
      obtain ⟨g7, eg7, hf⟩ := lt9_some hf
      refine g_iast G hw iC_26 (by decide) rfl hj6 dX1_freeRegister_32 (fun H locs hw => ?_)
      rw [← eg7] at hw
      refine lv_iload_n G.1 G.2.1 dX1_freeRegister_33 rfl (lv_at hl 2 rfl) ?_
      exact g_iretW G hr hk hf hw dX1_freeRegister_34
    · intro t8 htt8 H locs ls hw hl
      rw [htt8] at hf
      dsimp only at hf
      refine lv_iconst (v := (-1 : Int32)) G.1 G.2.1 dX1_freeRegister_41 (by decide) ?_
      exact g_iretW G hr hk hf hw dX1_freeRegister_42
  · rw [if_neg hc2] at hf
    refine lv_iconst (v := (0 : Int32)) G.1 G.2.1 dX1_freeRegister_5 (by decide) ?_
    exact g_iretW G hr hk hf hw dX1_freeRegister_6

set_option maxHeartbeats 4000000 in
set_option maxRecDepth 100000 in
theorem c_Ly_bindRegisters (l : Launch) (D : va_G) (X : va_W) (E : gE) (n : Nat) (p1 : Nat) (b2 : Nat) (hv_p1 : p1 < 2) (hv_b2 : b2 < 350) (g : Mem) (g' : Mem) (hf : Ly_bindRegisters n p1 b2 g = some g') : gMet l yX1_bindRegisters cX1_bindRegisters 6 none 1 23 D X idsC E [.ref (E.1 1 0), .ref (E.1 4 p1), .ref (E.1 0 b2)] g none g' := by
  rw [Ly_bindRegisters] at hf
  refine gt_code (by decide) (Nat.le_of_ble_eq_true rfl) (fun p en s m below meth c ls G hr hk hw hl => ?_)
  have hl : lv_has ls 6 [(0, .ref (E.1 1 0)), (1, .ref (E.1 4 p1)), (2, .ref (E.1 0 b2))] := hl
  refine lv_iconst (v := (1 : Int32)) G.1 G.2.1 dX1_bindRegisters_0 (by decide) ?_
  refine lv_istore_n (lv' := [(3, .int (1 : Int32)), (0, .ref (E.1 1 0)), (1, .ref (E.1 4 p1)), (2, .ref (E.1 0 b2))]) G.1 G.2.1 dX1_bindRegisters_1 rfl hl (by decide) rfl (fun ls hl => ?_)
  have hL2 : ∀ (k1 : Nat) (x2 : Int32) (g3 : Mem) (res1 : Mem) (H : Heap) (locs : List Loc) (ls : Array Slot), Ly_bindRegisters_L2 n b2 p1 k1 x2 g3 = some res1 → GW D X idsC E (gA X idsC E s.heap.size) s g3 H locs → lv_has ls 6 [(0, .ref (E.1 1 0)), (1, .ref (E.1 4 p1)), (2, .ref (E.1 0 b2)), (3, .int x2)] → (∀ (H : Heap) (locs : List Loc) (ls : Array Slot), GW D X idsC E (gA X idsC E s.heap.size) s res1 H locs → lv_has ls 6 [] → W p l en { frames := 1, cells := 0, slots := 0, locals := 23 } s m [.ref (E.1 1 0), .ref (E.1 4 p1), .ref (E.1 0 b2)].toArray below meth c H locs 0 0 (MQ below (gQ none (GP D X idsC E g') (gA X idsC E s.heap.size)) [.ref (E.1 1 0), .ref (E.1 4 p1), .ref (E.1 0 b2)].toArray s 0 0 (gA X idsC E s.heap.size)) (F0 m 83 ls [])) → W p l en { frames := 1, cells := 0, slots := 0, locals := 23 } s m [.ref (E.1 1 0), .ref (E.1 4 p1), .ref (E.1 0 b2)].toArray below meth c H locs 0 0 (MQ below (gQ none (GP D X idsC E g') (gA X idsC E s.heap.size)) [.ref (E.1 1 0), .ref (E.1 4 p1), .ref (E.1 0 b2)].toArray s 0 0 (gA X idsC E s.heap.size)) (F0 m 2 ls []) := by
    intro k1
    induction k1 with
    | zero => intro x2 g3 res1 H locs ls hf; rw [Ly_bindRegisters_L2] at hf; cases hf
    | succ k1 ih1 =>
      intro x2 g3 res1 H locs ls hf hw hl hk1_0
      rw [Ly_bindRegisters_L2] at hf
      refine lv_iload_n G.1 G.2.1 dX1_bindRegisters_2 rfl (lv_at hl 3 rfl) ?_
      refine lv_aload_n G.1 G.2.1 dX1_bindRegisters_3 rfl (lv_at hl 2 rfl) ?_
      refine g_getI G hw C_0 (iC_0 hv_b2) 6 rfl fl_X1_102 dX1_bindRegisters_4 ?_
      refine lv_icmp_gt (tgt := 83) G.1 G.2.1 dX1_bindRegisters_7 (by decide) (fun hc7 => ?_) (fun hc7 => ?_)
      · rw [if_pos hc7] at hf
        obtain rfl := Option.some.inj hf
        exact hk1_0 _ _ ls hw (lv_sub hl [] rfl)
      · rw [if_neg hc7] at hf
        refine lv_aload_n G.1 G.2.1 dX1_bindRegisters_10 rfl (lv_at hl 2 rfl) ?_
        refine g_getI G hw C_0 (iC_0 hv_b2) 0 rfl fl_X1_59 dX1_bindRegisters_11 ?_
        refine lv_istore (lv' := [(4, .int (gI g3 0 b2 0)), (0, .ref (E.1 1 0)), (1, .ref (E.1 4 p1)), (2, .ref (E.1 0 b2)), (3, .int x2)]) G.1 G.2.1 dX1_bindRegisters_14 hl (by decide) rfl (fun ls hl => ?_)
        have hL16 : ∀ (k4 : Nat) (x5 : Int32) (g6 : Mem) (res4 : Mem) (H : Heap) (locs : List Loc) (ls : Array Slot), Ly_bindRegisters_L16 n b2 p1 x2 k4 x5 g6 = some res4 → GW D X idsC E (gA X idsC E s.heap.size) s g6 H locs → lv_has ls 6 [(0, .ref (E.1 1 0)), (1, .ref (E.1 4 p1)), (2, .ref (E.1 0 b2)), (3, .int x2), (4, .int x5)] → (∀ (H : Heap) (locs : List Loc) (ls : Array Slot), GW D X idsC E (gA X idsC E s.heap.size) s res4 H locs → lv_has ls 6 [(0, .ref (E.1 1 0)), (1, .ref (E.1 4 p1)), (2, .ref (E.1 0 b2)), (3, .int x2)] → W p l en { frames := 1, cells := 0, slots := 0, locals := 23 } s m [.ref (E.1 1 0), .ref (E.1 4 p1), .ref (E.1 0 b2)].toArray below meth c H locs 0 0 (MQ below (gQ none (GP D X idsC E g') (gA X idsC E s.heap.size)) [.ref (E.1 1 0), .ref (E.1 4 p1), .ref (E.1 0 b2)].toArray s 0 0 (gA X idsC E s.heap.size)) (F0 m 77 ls [])) → W p l en { frames := 1, cells := 0, slots := 0, locals := 23 } s m [.ref (E.1 1 0), .ref (E.1 4 p1), .ref (E.1 0 b2)].toArray below meth c H locs 0 0 (MQ below (gQ none (GP D X idsC E g') (gA X idsC E s.heap.size)) [.ref (E.1 1 0), .ref (E.1 4 p1), .ref (E.1 0 b2)].toArray s 0 0 (gA X idsC E s.heap.size)) (F0 m 16 ls []) := by
          intro k4
          induction k4 with
          | zero => intro x5 g6 res4 H locs ls hf; rw [Ly_bindRegisters_L16] at hf; cases hf
          | succ k4 ih4 =>
            intro x5 g6 res4 H locs ls hf hw hl hk4_0
            rw [Ly_bindRegisters_L16] at hf
            refine lv_iload G.1 G.2.1 dX1_bindRegisters_16 (lv_at hl 4 rfl) ?_
            refine lv_aload_n G.1 G.2.1 dX1_bindRegisters_18 rfl (lv_at hl 2 rfl) ?_
            refine g_getI G hw C_0 (iC_0 hv_b2) 0 rfl fl_X1_59 dX1_bindRegisters_19 ?_
            refine lv_aload_n G.1 G.2.1 dX1_bindRegisters_22 rfl (lv_at hl 2 rfl) ?_
            refine g_getI G hw C_0 (iC_0 hv_b2) 1 rfl fl_X1_64 dX1_bindRegisters_23 ?_
            refine lv_iadd G.1 G.2.1 dX1_bindRegisters_26 ?_
            refine lv_icmp_ge (tgt := 77) G.1 G.2.1 dX1_bindRegisters_27 (by decide) (fun hc27 => ?_) (fun hc27 => ?_)
            · rw [if_pos hc27] at hf
              obtain rfl := Option.some.inj hf
              exact hk4_0 _ _ ls hw (lv_sub hl [0, 1, 2, 3] rfl)
            · rw [if_neg hc27] at hf
              refine lv_aload_n G.1 G.2.1 dX1_bindRegisters_30 rfl (lv_at hl 1 rfl) ?_
              refine g_getC G hw C_4 (iC_4 hv_p1) 0 31 rfl (by decide) rfl fl_X1_66 dX1_bindRegisters_31 ?_
              refine lv_iload G.1 G.2.1 dX1_bindRegisters_34 (lv_at hl 4 rfl) ?_
              obtain ⟨j7, hj7, hf⟩ := bd_some hf
              refine g_oald G hw (iC_31 hv_p1) (by decide) rfl hj7 dX1_bindRegisters_36 ?_
              refine lv_astore (lv' := [(5, .ref (E.1 3 (200 * p1 + j7))), (0, .ref (E.1 1 0)), (1, .ref (E.1 4 p1)), (2, .ref (E.1 0 b2)), (3, .int x2), (4, .int x5)]) G.1 G.2.1 dX1_bindRegisters_37 hl (by decide) rfl (fun ls hl => ?_)
              refine lv_aload G.1 G.2.1 dX1_bindRegisters_39 (lv_at hl 0 rfl) ?_
              obtain ⟨z8, hcz8, hf⟩ := bd_some hf
              refine g_callV1 (As := []) (rest := []) G hw (gA_mono hw.2.2.2.1.1) C_3 (iC_3 (v_3 hv_p1 hj7)) mv_X1_112 (c_Op_end l D X E n (200 * p1 + j7) (v_3 hv_p1 hj7) g6 z8 hcz8) hl.1 rfl rfl (Nat.le_of_ble_eq_true rfl) (Nat.le_of_ble_eq_true rfl) (Nat.le_of_ble_eq_true rfl) ⟨Nat.le_refl _, Nat.le_refl _⟩ dX1_bindRegisters_41 (fun H locs hw => ?_)
              refine lv_iload_n G.1 G.2.1 dX1_bindRegisters_44 rfl (lv_at hl 4 rfl) ?_
              refine lv_icmp_ne (tgt := 71) G.1 G.2.1 dX1_bindRegisters_45 (by decide) (fun hc45 => ?_) (fun hc45 => ?_)
              · rw [if_neg hc45] at hf
                refine lv_iinc (v := x5 + 1) (lv' := [(4, .int (x5 + 1)), (5, .ref (E.1 3 (200 * p1 + j7))), (0, .ref (E.1 1 0)), (1, .ref (E.1 4 p1)), (2, .ref (E.1 0 b2)), (3, .int x2)]) G.1 G.2.1 dX1_bindRegisters_71 hl (k := 5) rfl rfl (by decide) rfl (fun ls hl => ?_)
                refine lv_goto (tgt := 16) G.1 G.2.1 dX1_bindRegisters_74 (by decide) ?_
                exact ih4 (x5 + 1) g6 _ _ _ ls hf hw (lv_sub hl [2, 3, 4, 5, 0] rfl) hk4_0
              · rw [if_pos hc45] at hf
                refine lv_aload G.1 G.2.1 dX1_bindRegisters_48 (lv_at hl 0 rfl) ?_
                obtain ⟨z9, hcz9, hf⟩ := bd_some hf
                refine g_callV1 (As := []) (rest := []) G hw (gA_mono hw.2.2.2.1.1) C_3 (iC_3 (v_3 hv_p1 hj7)) mv_X1_160 (c_Op_fillsRegister l D X E n (200 * p1 + j7) (v_3 hv_p1 hj7) g6 z9 hcz9) hl.1 rfl rfl (Nat.le_of_ble_eq_true rfl) (Nat.le_of_ble_eq_true rfl) (Nat.le_of_ble_eq_true rfl) ⟨Nat.le_refl _, Nat.le_refl _⟩ dX1_bindRegisters_50 (fun H locs hw => ?_)
                refine lv_if_eq (tgt := 71) G.1 G.2.1 dX1_bindRegisters_53 (by decide) (fun hc53 => ?_) (fun hc53 => ?_)
                · rw [if_pos hc53] at hf
                  refine lv_iinc (v := x5 + 1) (lv' := [(4, .int (x5 + 1)), (5, .ref (E.1 3 (200 * p1 + j7))), (0, .ref (E.1 1 0)), (1, .ref (E.1 4 p1)), (2, .ref (E.1 0 b2)), (3, .int x2)]) G.1 G.2.1 dX1_bindRegisters_71 hl (k := 5) rfl rfl (by decide) rfl (fun ls hl => ?_)
                  refine lv_goto (tgt := 16) G.1 G.2.1 dX1_bindRegisters_74 (by decide) ?_
                  exact ih4 (x5 + 1) g6 _ _ _ ls hf hw (lv_sub hl [2, 3, 4, 5, 0] rfl) hk4_0
                · rw [if_neg hc53] at hf
                  refine lv_aload G.1 G.2.1 dX1_bindRegisters_56 (lv_at hl 0 rfl) ?_
                  refine lv_aload_n G.1 G.2.1 dX1_bindRegisters_58 rfl (lv_at hl 1 rfl) ?_
                  refine lv_iload_n G.1 G.2.1 dX1_bindRegisters_59 rfl (lv_at hl 4 rfl) ?_
                  refine lv_aload G.1 G.2.1 dX1_bindRegisters_60 (lv_at hl 0 rfl) ?_
                  refine g_getI G hw C_3 (iC_3 (v_3 hv_p1 hj7)) 14 rfl fl_X1_86 dX1_bindRegisters_62 ?_
                  obtain ⟨z10, hcz10, hf⟩ := bd_some hf
                  refine g_callV1 (As := [.int x2, .int (gI g6 3 (200 * p1 + j7) 14)]) (rest := [.ref (E.1 3 (200 * p1 + j7))]) G hw (gA_mono hw.2.2.2.1.1) C_1 iC_1 mv_X1_163 (c_Ly_freeRegister l D X E n x2 (gI g6 3 (200 * p1 + j7) 14) g6 z10.1 z10.2 hcz10) hl.1 rfl rfl (Nat.le_of_ble_eq_true rfl) (Nat.le_of_ble_eq_true rfl) (Nat.le_of_ble_eq_true rfl) ⟨Nat.le_refl _, Nat.le_refl _⟩ dX1_bindRegisters_65 (fun H locs hw => ?_)
                  obtain ⟨g11, eg11, hf⟩ := lt9_some hf
                  refine g_putI G hw C_3 (iC_3 (v_3 hv_p1 hj7)) 11 rfl fl_X1_77 rfl rfl rfl dX1_bindRegisters_68 (fun H locs hw => ?_)
                  rw [← eg11] at hw
                  refine lv_iinc (v := x5 + 1) (lv' := [(4, .int (x5 + 1)), (5, .ref (E.1 3 (200 * p1 + j7))), (0, .ref (E.1 1 0)), (1, .ref (E.1 4 p1)), (2, .ref (E.1 0 b2)), (3, .int x2)]) G.1 G.2.1 dX1_bindRegisters_71 hl (k := 5) rfl rfl (by decide) rfl (fun ls hl => ?_)
                  refine lv_goto (tgt := 16) G.1 G.2.1 dX1_bindRegisters_74 (by decide) ?_
                  exact ih4 (x5 + 1) g11 _ _ _ ls hf hw (lv_sub hl [2, 3, 4, 5, 0] rfl) hk4_0
        obtain ⟨r12, hr12, hf⟩ := bd_some hf
        refine hL16 n (gI g3 0 b2 0) g3 r12 _ _ ls hr12 hw (lv_sub hl [1, 2, 3, 4, 0] rfl) ?_
        intro H locs ls hw hl
        refine lv_iinc (v := x2 + 1) (lv' := [(3, .int (x2 + 1)), (0, .ref (E.1 1 0)), (1, .ref (E.1 4 p1)), (2, .ref (E.1 0 b2))]) G.1 G.2.1 dX1_bindRegisters_77 hl (k := 3) rfl rfl (by decide) rfl (fun ls hl => ?_)
        refine lv_goto (tgt := 2) G.1 G.2.1 dX1_bindRegisters_80 (by decide) ?_
        exact ih1 (x2 + 1) r12 _ _ _ ls hf hw (lv_sub hl [1, 2, 3, 0] rfl) hk1_0
  obtain ⟨r13, hr13, hf⟩ := bd_some hf
  refine hL2 n (1 : Int32) g r13 _ _ ls hr13 hw (lv_sub hl [1, 2, 3, 0] rfl) ?_
  intro H locs ls hw hl
  exact g_vretW G hr hk hf hw dX1_bindRegisters_83

set_option maxHeartbeats 4000000 in
set_option maxRecDepth 100000 in
theorem c_Ly_measureHeights (l : Launch) (D : va_G) (X : va_W) (E : gE) (n : Nat) (p1 : Nat) (b2 : Nat) (hv_p1 : p1 < 2) (hv_b2 : b2 < 350) (g : Mem) (g' : Mem) (hf : Ly_measureHeights n p1 b2 g = some g') : gMet l yX1_measureHeights cX1_measureHeights 9 none 4 84 D X idsC E [.ref (E.1 1 0), .ref (E.1 4 p1), .ref (E.1 0 b2)] g none g' := by
  rw [Ly_measureHeights] at hf
  refine gt_code (by decide) (Nat.le_of_ble_eq_true rfl) (fun p en s m below meth c ls G hr hk hw hl => ?_)
  have hl : lv_has ls 9 [(0, .ref (E.1 1 0)), (1, .ref (E.1 4 p1)), (2, .ref (E.1 0 b2))] := hl
  refine lv_aload_n G.1 G.2.1 dX1_measureHeights_0 rfl (lv_at hl 2 rfl) ?_
  refine g_getI G hw C_0 (iC_0 hv_b2) 0 rfl fl_X1_59 dX1_measureHeights_1 ?_
  refine lv_aload_n G.1 G.2.1 dX1_measureHeights_4 rfl (lv_at hl 2 rfl) ?_
  refine g_getI G hw C_0 (iC_0 hv_b2) 1 rfl fl_X1_64 dX1_measureHeights_5 ?_
  refine lv_iadd G.1 G.2.1 dX1_measureHeights_8 ?_
  refine lv_istore_n (lv' := [(3, .int ((gI g 0 b2 0) + (gI g 0 b2 1))), (0, .ref (E.1 1 0)), (1, .ref (E.1 4 p1)), (2, .ref (E.1 0 b2))]) G.1 G.2.1 dX1_measureHeights_9 rfl hl (by decide) rfl (fun ls hl => ?_)
  refine lv_iload_n G.1 G.2.1 dX1_measureHeights_10 rfl (lv_at hl 0 rfl) ?_
  refine lv_iconst (v := (1 : Int32)) G.1 G.2.1 dX1_measureHeights_11 (by decide) ?_
  refine lv_isub G.1 G.2.1 dX1_measureHeights_12 ?_
  refine lv_istore (lv' := [(4, .int (((gI g 0 b2 0) + (gI g 0 b2 1)) - (1 : Int32))), (3, .int ((gI g 0 b2 0) + (gI g 0 b2 1))), (0, .ref (E.1 1 0)), (1, .ref (E.1 4 p1)), (2, .ref (E.1 0 b2))]) G.1 G.2.1 dX1_measureHeights_13 hl (by decide) rfl (fun ls hl => ?_)
  have hL15 : ∀ (k1 : Nat) (x2 : Int32) (g3 : Mem) (res1 : Mem) (H : Heap) (locs : List Loc) (ls : Array Slot), Ly_measureHeights_L15 n b2 g p1 k1 x2 g3 = some res1 → GW D X idsC E (gA X idsC E s.heap.size) s g3 H locs → lv_has ls 9 [(1, .ref (E.1 4 p1)), (2, .ref (E.1 0 b2)), (3, .int ((gI g 0 b2 0) + (gI g 0 b2 1))), (4, .int x2)] → (∀ (H : Heap) (locs : List Loc) (ls : Array Slot), GW D X idsC E (gA X idsC E s.heap.size) s res1 H locs → lv_has ls 9 [] → W p l en { frames := 4, cells := 0, slots := 0, locals := 84 } s m [.ref (E.1 1 0), .ref (E.1 4 p1), .ref (E.1 0 b2)].toArray below meth c H locs 0 0 (MQ below (gQ none (GP D X idsC E g') (gA X idsC E s.heap.size)) [.ref (E.1 1 0), .ref (E.1 4 p1), .ref (E.1 0 b2)].toArray s 0 0 (gA X idsC E s.heap.size)) (F0 m 115 ls [])) → W p l en { frames := 4, cells := 0, slots := 0, locals := 84 } s m [.ref (E.1 1 0), .ref (E.1 4 p1), .ref (E.1 0 b2)].toArray below meth c H locs 0 0 (MQ below (gQ none (GP D X idsC E g') (gA X idsC E s.heap.size)) [.ref (E.1 1 0), .ref (E.1 4 p1), .ref (E.1 0 b2)].toArray s 0 0 (gA X idsC E s.heap.size)) (F0 m 15 ls []) := by
    intro k1
    induction k1 with
    | zero => intro x2 g3 res1 H locs ls hf; rw [Ly_measureHeights_L15] at hf; cases hf
    | succ k1 ih1 =>
      intro x2 g3 res1 H locs ls hf hw hl hk1_0
      rw [Ly_measureHeights_L15] at hf
      refine lv_iload G.1 G.2.1 dX1_measureHeights_15 (lv_at hl 3 rfl) ?_
      refine lv_aload_n G.1 G.2.1 dX1_measureHeights_17 rfl (lv_at hl 1 rfl) ?_
      refine g_getI G hw C_0 (iC_0 hv_b2) 0 rfl fl_X1_59 dX1_measureHeights_18 ?_
      refine lv_icmp_lt (tgt := 115) G.1 G.2.1 dX1_measureHeights_21 (by decide) (fun hc21 => ?_) (fun hc21 => ?_)
      · rw [if_pos hc21] at hf
        obtain rfl := Option.some.inj hf
        exact hk1_0 _ _ ls hw (lv_sub hl [] rfl)
      · rw [if_neg hc21] at hf
        refine lv_aload_n G.1 G.2.1 dX1_measureHeights_24 rfl (lv_at hl 0 rfl) ?_
        refine g_getC G hw C_4 (iC_4 hv_p1) 0 31 rfl (by decide) rfl fl_X1_66 dX1_measureHeights_25 ?_
        refine lv_iload G.1 G.2.1 dX1_measureHeights_28 (lv_at hl 3 rfl) ?_
        obtain ⟨j4, hj4, hf⟩ := bd_some hf
        refine g_oald G hw (iC_31 hv_p1) (by decide) rfl hj4 dX1_measureHeights_30 ?_
        refine lv_astore (lv' := [(5, .ref (E.1 3 (200 * p1 + j4))), (1, .ref (E.1 4 p1)), (2, .ref (E.1 0 b2)), (3, .int ((gI g 0 b2 0) + (gI g 0 b2 1))), (4, .int x2)]) G.1 G.2.1 dX1_measureHeights_31 hl (by decide) rfl (fun ls hl => ?_)
        refine lv_iconst (v := (0 : Int32)) G.1 G.2.1 dX1_measureHeights_33 (by decide) ?_
        refine lv_istore (lv' := [(6, .int (0 : Int32)), (5, .ref (E.1 3 (200 * p1 + j4))), (1, .ref (E.1 4 p1)), (2, .ref (E.1 0 b2)), (3, .int ((gI g 0 b2 0) + (gI g 0 b2 1))), (4, .int x2)]) G.1 G.2.1 dX1_measureHeights_34 hl (by decide) rfl (fun ls hl => ?_)
        refine lv_iload G.1 G.2.1 dX1_measureHeights_36 (lv_at hl 5 rfl) ?_
        refine lv_iconst (v := (1 : Int32)) G.1 G.2.1 dX1_measureHeights_38 (by decide) ?_
        refine lv_iadd G.1 G.2.1 dX1_measureHeights_39 ?_
        refine lv_istore (lv' := [(7, .int (x2 + (1 : Int32))), (6, .int (0 : Int32)), (5, .ref (E.1 3 (200 * p1 + j4))), (1, .ref (E.1 4 p1)), (2, .ref (E.1 0 b2)), (3, .int ((gI g 0 b2 0) + (gI g 0 b2 1))), (4, .int x2)]) G.1 G.2.1 dX1_measureHeights_40 hl (by decide) rfl (fun ls hl => ?_)
        have hL42 : ∀ (k5 : Nat) (x6 : Int32) (x7 : Int32) (g8 : Mem) (res5 : Int32 × Mem) (H : Heap) (locs : List Loc) (ls : Array Slot), Ly_measureHeights_L42 n b2 g j4 p1 k5 x6 x7 g8 = some res5 → GW D X idsC E (gA X idsC E s.heap.size) s g8 H locs → lv_has ls 9 [(1, .ref (E.1 4 p1)), (2, .ref (E.1 0 b2)), (3, .int ((gI g 0 b2 0) + (gI g 0 b2 1))), (4, .int x2), (5, .ref (E.1 3 (200 * p1 + j4))), (6, .int x6), (7, .int x7)] → (∀ (H : Heap) (locs : List Loc) (ls : Array Slot), GW D X idsC E (gA X idsC E s.heap.size) s res5.2 H locs → lv_has ls 9 [(1, .ref (E.1 4 p1)), (2, .ref (E.1 0 b2)), (3, .int ((gI g 0 b2 0) + (gI g 0 b2 1))), (4, .int x2), (5, .ref (E.1 3 (200 * p1 + j4))), (6, .int res5.1)] → W p l en { frames := 4, cells := 0, slots := 0, locals := 84 } s m [.ref (E.1 1 0), .ref (E.1 4 p1), .ref (E.1 0 b2)].toArray below meth c H locs 0 0 (MQ below (gQ none (GP D X idsC E g') (gA X idsC E s.heap.size)) [.ref (E.1 1 0), .ref (E.1 4 p1), .ref (E.1 0 b2)].toArray s 0 0 (gA X idsC E s.heap.size)) (F0 m 96 ls [])) → W p l en { frames := 4, cells := 0, slots := 0, locals := 84 } s m [.ref (E.1 1 0), .ref (E.1 4 p1), .ref (E.1 0 b2)].toArray below meth c H locs 0 0 (MQ below (gQ none (GP D X idsC E g') (gA X idsC E s.heap.size)) [.ref (E.1 1 0), .ref (E.1 4 p1), .ref (E.1 0 b2)].toArray s 0 0 (gA X idsC E s.heap.size)) (F0 m 42 ls []) := by
          intro k5
          induction k5 with
          | zero => intro x6 x7 g8 res5 H locs ls hf; rw [Ly_measureHeights_L42] at hf; cases hf
          | succ k5 ih5 =>
            intro x6 x7 g8 res5 H locs ls hf hw hl hk5_0
            rw [Ly_measureHeights_L42] at hf
            refine lv_iload G.1 G.2.1 dX1_measureHeights_42 (lv_at hl 6 rfl) ?_
            refine lv_iload_n G.1 G.2.1 dX1_measureHeights_44 rfl (lv_at hl 2 rfl) ?_
            refine lv_icmp_ge (tgt := 96) G.1 G.2.1 dX1_measureHeights_45 (by decide) (fun hc45 => ?_) (fun hc45 => ?_)
            · rw [if_pos hc45] at hf
              obtain rfl := Option.some.inj hf
              exact hk5_0 _ _ ls hw (lv_sub hl [0, 1, 2, 3, 4, 5] rfl)
            · rw [if_neg hc45] at hf
              refine lv_aload_n G.1 G.2.1 dX1_measureHeights_48 rfl (lv_at hl 0 rfl) ?_
              refine g_getC G hw C_4 (iC_4 hv_p1) 0 31 rfl (by decide) rfl fl_X1_66 dX1_measureHeights_49 ?_
              refine lv_iload G.1 G.2.1 dX1_measureHeights_52 (lv_at hl 6 rfl) ?_
              obtain ⟨j9, hj9, hf⟩ := bd_some hf
              refine g_oald G hw (iC_31 hv_p1) (by decide) rfl hj9 dX1_measureHeights_54 ?_
              refine lv_astore (lv' := [(8, .ref (E.1 3 (200 * p1 + j9))), (1, .ref (E.1 4 p1)), (2, .ref (E.1 0 b2)), (3, .int ((gI g 0 b2 0) + (gI g 0 b2 1))), (4, .int x2), (5, .ref (E.1 3 (200 * p1 + j4))), (6, .int x6), (7, .int x7)]) G.1 G.2.1 dX1_measureHeights_55 hl (by decide) rfl (fun ls hl => ?_)
              refine lv_aload G.1 G.2.1 dX1_measureHeights_57 (lv_at hl 0 rfl) ?_
              refine lv_aload G.1 G.2.1 dX1_measureHeights_59 (lv_at hl 5 rfl) ?_
              obtain ⟨z10, hcz10, hf⟩ := bd_some hf
              refine g_callV1 (As := [.ref (E.1 3 (200 * p1 + j4))]) (rest := []) G hw (gA_mono hw.2.2.2.1.1) C_3 (iC_3 (v_3 hv_p1 hj9)) mv_X1_89 (c_Op_comesBehind l D X E n (200 * p1 + j9) (200 * p1 + j4) (v_3 hv_p1 hj9) (v_3 hv_p1 hj4) g8 z10 hcz10) hl.1 rfl rfl (Nat.le_of_ble_eq_true rfl) (Nat.le_of_ble_eq_true rfl) (Nat.le_of_ble_eq_true rfl) ⟨Nat.le_refl _, Nat.le_refl _⟩ dX1_measureHeights_61 (fun H locs hw => ?_)
              refine lv_if_eq (tgt := 90) G.1 G.2.1 dX1_measureHeights_64 (by decide) (fun hc64 => ?_) (fun hc64 => ?_)
              · rw [if_pos hc64] at hf
                refine lv_iinc (v := x7 + 1) (lv' := [(7, .int (x7 + 1)), (8, .ref (E.1 3 (200 * p1 + j9))), (1, .ref (E.1 4 p1)), (2, .ref (E.1 0 b2)), (3, .int ((gI g 0 b2 0) + (gI g 0 b2 1))), (4, .int x2), (5, .ref (E.1 3 (200 * p1 + j4))), (6, .int x6)]) G.1 G.2.1 dX1_measureHeights_90 hl (k := 7) rfl rfl (by decide) rfl (fun ls hl => ?_)
                refine lv_goto (tgt := 42) G.1 G.2.1 dX1_measureHeights_93 (by decide) ?_
                exact ih5 x6 (x7 + 1) g8 _ _ _ ls hf hw (lv_sub hl [2, 3, 4, 5, 6, 7, 0] rfl) hk5_0
              · rw [if_neg hc64] at hf
                refine lv_iload G.1 G.2.1 dX1_measureHeights_67 (lv_at hl 6 rfl) ?_
                refine lv_aload G.1 G.2.1 dX1_measureHeights_69 (lv_at hl 0 rfl) ?_
                refine g_getI G hw C_3 (iC_3 (v_3 hv_p1 hj9)) 8 rfl fl_X1_93 dX1_measureHeights_71 ?_
                refine g_max (rest := []) G hl.1 mm_X1_96 (Nat.le_of_ble_eq_true rfl) dX1_measureHeights_74 (Nat.le_of_ble_eq_true rfl) (Nat.le_of_ble_eq_true rfl) (Nat.le_refl _) (Nat.le_refl _) ?_
                refine lv_istore (lv' := [(6, .int (imax x6 (gI g8 3 (200 * p1 + j9) 8))), (8, .ref (E.1 3 (200 * p1 + j9))), (1, .ref (E.1 4 p1)), (2, .ref (E.1 0 b2)), (3, .int ((gI g 0 b2 0) + (gI g 0 b2 1))), (4, .int x2), (5, .ref (E.1 3 (200 * p1 + j4))), (7, .int x7)]) G.1 G.2.1 dX1_measureHeights_77 hl (by decide) rfl (fun ls hl => ?_)
                refine lv_aload G.1 G.2.1 dX1_measureHeights_79 (lv_at hl 1 rfl) ?_
                refine lv_dup G.1 G.2.1 dX1_measureHeights_81 rfl ?_
                refine g_getI G hw C_3 (iC_3 (v_3 hv_p1 hj9)) 12 rfl fl_X1_80 dX1_measureHeights_82 ?_
                refine lv_iconst (v := (1 : Int32)) G.1 G.2.1 dX1_measureHeights_85 (by decide) ?_
                refine lv_iadd G.1 G.2.1 dX1_measureHeights_86 ?_
                obtain ⟨g11, eg11, hf⟩ := lt9_some hf
                refine g_putI G hw C_3 (iC_3 (v_3 hv_p1 hj9)) 12 rfl fl_X1_80 rfl rfl rfl dX1_measureHeights_87 (fun H locs hw => ?_)
                rw [← eg11] at hw
                refine lv_iinc (v := x7 + 1) (lv' := [(7, .int (x7 + 1)), (6, .int (imax x6 (gI g8 3 (200 * p1 + j9) 8))), (8, .ref (E.1 3 (200 * p1 + j9))), (1, .ref (E.1 4 p1)), (2, .ref (E.1 0 b2)), (3, .int ((gI g 0 b2 0) + (gI g 0 b2 1))), (4, .int x2), (5, .ref (E.1 3 (200 * p1 + j4)))]) G.1 G.2.1 dX1_measureHeights_90 hl (k := 7) rfl rfl (by decide) rfl (fun ls hl => ?_)
                refine lv_goto (tgt := 42) G.1 G.2.1 dX1_measureHeights_93 (by decide) ?_
                exact ih5 (imax x6 (gI g8 3 (200 * p1 + j9) 8)) (x7 + 1) g11 _ _ _ ls hf hw (lv_sub hl [3, 4, 5, 6, 7, 1, 0] rfl) hk5_0
        obtain ⟨r12, hr12, hf⟩ := bd_some hf
        refine hL42 n (0 : Int32) (x2 + (1 : Int32)) g3 r12 _ _ ls hr12 hw (lv_sub hl [3, 4, 5, 6, 2, 1, 0] rfl) ?_
        intro H locs ls hw hl
        refine lv_aload G.1 G.2.1 dX1_measureHeights_96 (lv_at hl 4 rfl) ?_
        refine lv_aload G.1 G.2.1 dX1_measureHeights_98 (lv_at hl 4 rfl) ?_
        refine g_getI G hw C_3 (iC_3 (v_3 hv_p1 hj4)) 7 rfl fl_X1_72 dX1_measureHeights_100 ?_
        refine lv_iload G.1 G.2.1 dX1_measureHeights_103 (lv_at hl 5 rfl) ?_
        refine lv_iadd G.1 G.2.1 dX1_measureHeights_105 ?_
        obtain ⟨g13, eg13, hf⟩ := lt9_some hf
        refine g_putI G hw C_3 (iC_3 (v_3 hv_p1 hj4)) 8 rfl fl_X1_93 rfl rfl rfl dX1_measureHeights_106 (fun H locs hw => ?_)
        rw [← eg13] at hw
        refine lv_iinc (v := x2 + (-1)) (lv' := [(4, .int (x2 + (-1))), (1, .ref (E.1 4 p1)), (2, .ref (E.1 0 b2)), (3, .int ((gI g 0 b2 0) + (gI g 0 b2 1))), (5, .ref (E.1 3 (200 * p1 + j4))), (6, .int r12.1)]) G.1 G.2.1 dX1_measureHeights_109 hl (k := 3) rfl rfl (by decide) rfl (fun ls hl => ?_)
        refine lv_goto (tgt := 15) G.1 G.2.1 dX1_measureHeights_112 (by decide) ?_
        exact ih1 (x2 + (-1)) g13 _ _ _ ls hf hw (lv_sub hl [1, 2, 3, 0] rfl) hk1_0
  obtain ⟨r14, hr14, hf⟩ := bd_some hf
  refine hL15 n (((gI g 0 b2 0) + (gI g 0 b2 1)) - (1 : Int32)) g r14 _ _ ls hr14 hw (lv_sub hl [3, 4, 1, 0] rfl) ?_
  intro H locs ls hw hl
  exact g_vretW G hr hk hf hw dX1_measureHeights_115

set_option maxHeartbeats 4000000 in
set_option maxRecDepth 100000 in
theorem c_Ly_noteUse (l : Launch) (D : va_G) (X : va_W) (E : gE) (n : Nat) (p1 : Nat) (a2 : Int32) (a3 : Int32) (hv_p1 : p1 < 2) (g : Mem) (g' : Mem) (hf : Ly_noteUse n p1 a2 a3 g = some g') : gMet l yX1_noteUse cX1_noteUse 5 none 1 24 D X idsC E [.ref (E.1 1 0), .ref (E.1 4 p1), .int a2, .int a3] g none g' := by
  rw [Ly_noteUse] at hf
  refine gt_code (by decide) (Nat.le_of_ble_eq_true rfl) (fun p en s m below meth c ls G hr hk hw hl => ?_)
  have hl : lv_has ls 5 [(0, .ref (E.1 1 0)), (1, .ref (E.1 4 p1)), (2, .int a2), (3, .int a3)] := hl
  refine lv_iload_n G.1 G.2.1 dX1_noteUse_0 rfl (lv_at hl 2 rfl) ?_
  obtain ⟨z1, hcz1, hf⟩ := bd_some hf
  refine g_callS1 (As := [.int a2]) (rest := []) G hw (gA_mono hw.2.2.2.1.1)  ms_X1_150 (c_Od_isValue l D X E n a2 g z1 hcz1) hl.1 rfl rfl (Nat.le_of_ble_eq_true rfl) (Nat.le_of_ble_eq_true rfl) (Nat.le_of_ble_eq_true rfl) ⟨Nat.le_refl _, Nat.le_refl _⟩ dX1_noteUse_1 (fun H locs hw => ?_)
  refine lv_if_eq (tgt := 32) G.1 G.2.1 dX1_noteUse_4 (by decide) (fun hc4 => ?_) (fun hc4 => ?_)
  · rw [if_pos hc4] at hf
    exact g_vretW G hr hk hf hw dX1_noteUse_32
  · rw [if_neg hc4] at hf
    refine lv_aload_n G.1 G.2.1 dX1_noteUse_7 rfl (lv_at hl 1 rfl) ?_
    refine g_getC G hw C_4 (iC_4 hv_p1) 0 31 rfl (by decide) rfl fl_X1_66 dX1_noteUse_8 ?_
    refine lv_iload_n G.1 G.2.1 dX1_noteUse_11 rfl (lv_at hl 2 rfl) ?_
    obtain ⟨z2, hcz2, hf⟩ := bd_some hf
    refine g_callS1 (As := [.int a2]) (rest := [.ref (E.1 31 p1)]) G hw (gA_mono hw.2.2.2.1.1)  ms_X1_156 (c_Od_operationOf l D X E n a2 g z2 hcz2) hl.1 rfl rfl (Nat.le_of_ble_eq_true rfl) (Nat.le_of_ble_eq_true rfl) (Nat.le_of_ble_eq_true rfl) ⟨Nat.le_refl _, Nat.le_refl _⟩ dX1_noteUse_12 (fun H locs hw => ?_)
    obtain ⟨j3, hj3, hf⟩ := bd_some hf
    refine g_oald G hw (iC_31 hv_p1) (by decide) rfl hj3 dX1_noteUse_15 ?_
    refine lv_astore (lv' := [(4, .ref (E.1 3 (200 * p1 + j3))), (0, .ref (E.1 1 0)), (1, .ref (E.1 4 p1)), (2, .int a2), (3, .int a3)]) G.1 G.2.1 dX1_noteUse_16 hl (by decide) rfl (fun ls hl => ?_)
    refine lv_aload G.1 G.2.1 dX1_noteUse_18 (lv_at hl 0 rfl) ?_
    refine lv_aload G.1 G.2.1 dX1_noteUse_20 (lv_at hl 0 rfl) ?_
    refine g_getI G hw C_3 (iC_3 (v_3 hv_p1 hj3)) 14 rfl fl_X1_86 dX1_noteUse_22 ?_
    refine lv_iload_n G.1 G.2.1 dX1_noteUse_25 rfl (lv_at hl 4 rfl) ?_
    refine g_max (rest := [.ref (E.1 3 (200 * p1 + j3))]) G hl.1 mm_X1_96 (Nat.le_of_ble_eq_true rfl) dX1_noteUse_26 (Nat.le_of_ble_eq_true rfl) (Nat.le_of_ble_eq_true rfl) (Nat.le_refl _) (Nat.le_refl _) ?_
    obtain ⟨g4, eg4, hf⟩ := lt9_some hf
    refine g_putI G hw C_3 (iC_3 (v_3 hv_p1 hj3)) 14 rfl fl_X1_86 rfl rfl rfl dX1_noteUse_29 (fun H locs hw => ?_)
    rw [← eg4] at hw
    exact g_vretW G hr hk hf hw dX1_noteUse_32

set_option maxHeartbeats 4000000 in
set_option maxRecDepth 100000 in
theorem c_Ly_noteUses (l : Launch) (D : va_G) (X : va_W) (E : gE) (n : Nat) (p1 : Nat) (b2 : Nat) (hv_p1 : p1 < 2) (hv_b2 : b2 < 350) (g : Mem) (g' : Mem) (hf : Ly_noteUses n p1 b2 g = some g') : gMet l yX1_noteUses cX1_noteUses 5 none 2 48 D X idsC E [.ref (E.1 1 0), .ref (E.1 4 p1), .ref (E.1 0 b2)] g none g' := by
  rw [Ly_noteUses] at hf
  refine gt_code (by decide) (Nat.le_of_ble_eq_true rfl) (fun p en s m below meth c ls G hr hk hw hl => ?_)
  have hl : lv_has ls 5 [(0, .ref (E.1 1 0)), (1, .ref (E.1 4 p1)), (2, .ref (E.1 0 b2))] := hl
  refine lv_aload_n G.1 G.2.1 dX1_noteUses_0 rfl (lv_at hl 2 rfl) ?_
  refine g_getI G hw C_0 (iC_0 hv_b2) 0 rfl fl_X1_59 dX1_noteUses_1 ?_
  refine lv_istore_n (lv' := [(3, .int (gI g 0 b2 0)), (0, .ref (E.1 1 0)), (1, .ref (E.1 4 p1)), (2, .ref (E.1 0 b2))]) G.1 G.2.1 dX1_noteUses_4 rfl hl (by decide) rfl (fun ls hl => ?_)
  have hL5 : ∀ (k1 : Nat) (x2 : Int32) (g3 : Mem) (res1 : Mem) (H : Heap) (locs : List Loc) (ls : Array Slot), Ly_noteUses_L5 n b2 p1 k1 x2 g3 = some res1 → GW D X idsC E (gA X idsC E s.heap.size) s g3 H locs → lv_has ls 5 [(0, .ref (E.1 1 0)), (1, .ref (E.1 4 p1)), (2, .ref (E.1 0 b2)), (3, .int x2)] → (∀ (H : Heap) (locs : List Loc) (ls : Array Slot), GW D X idsC E (gA X idsC E s.heap.size) s res1 H locs → lv_has ls 5 [(0, .ref (E.1 1 0)), (1, .ref (E.1 4 p1)), (2, .ref (E.1 0 b2))] → W p l en { frames := 2, cells := 0, slots := 0, locals := 48 } s m [.ref (E.1 1 0), .ref (E.1 4 p1), .ref (E.1 0 b2)].toArray below meth c H locs 0 0 (MQ below (gQ none (GP D X idsC E g') (gA X idsC E s.heap.size)) [.ref (E.1 1 0), .ref (E.1 4 p1), .ref (E.1 0 b2)].toArray s 0 0 (gA X idsC E s.heap.size)) (F0 m 62 ls [])) → W p l en { frames := 2, cells := 0, slots := 0, locals := 48 } s m [.ref (E.1 1 0), .ref (E.1 4 p1), .ref (E.1 0 b2)].toArray below meth c H locs 0 0 (MQ below (gQ none (GP D X idsC E g') (gA X idsC E s.heap.size)) [.ref (E.1 1 0), .ref (E.1 4 p1), .ref (E.1 0 b2)].toArray s 0 0 (gA X idsC E s.heap.size)) (F0 m 5 ls []) := by
    intro k1
    induction k1 with
    | zero => intro x2 g3 res1 H locs ls hf; rw [Ly_noteUses_L5] at hf; cases hf
    | succ k1 ih1 =>
      intro x2 g3 res1 H locs ls hf hw hl hk1_0
      rw [Ly_noteUses_L5] at hf
      refine lv_iload_n G.1 G.2.1 dX1_noteUses_5 rfl (lv_at hl 3 rfl) ?_
      refine lv_aload_n G.1 G.2.1 dX1_noteUses_6 rfl (lv_at hl 2 rfl) ?_
      refine g_getI G hw C_0 (iC_0 hv_b2) 0 rfl fl_X1_59 dX1_noteUses_7 ?_
      refine lv_aload_n G.1 G.2.1 dX1_noteUses_10 rfl (lv_at hl 2 rfl) ?_
      refine g_getI G hw C_0 (iC_0 hv_b2) 1 rfl fl_X1_64 dX1_noteUses_11 ?_
      refine lv_iadd G.1 G.2.1 dX1_noteUses_14 ?_
      refine lv_icmp_ge (tgt := 62) G.1 G.2.1 dX1_noteUses_15 (by decide) (fun hc15 => ?_) (fun hc15 => ?_)
      · rw [if_pos hc15] at hf
        obtain rfl := Option.some.inj hf
        exact hk1_0 _ _ ls hw (lv_sub hl [0, 1, 2] rfl)
      · rw [if_neg hc15] at hf
        refine lv_aload_n G.1 G.2.1 dX1_noteUses_18 rfl (lv_at hl 1 rfl) ?_
        refine g_getC G hw C_4 (iC_4 hv_p1) 0 31 rfl (by decide) rfl fl_X1_66 dX1_noteUses_19 ?_
        refine lv_iload_n G.1 G.2.1 dX1_noteUses_22 rfl (lv_at hl 3 rfl) ?_
        obtain ⟨j4, hj4, hf⟩ := bd_some hf
        refine g_oald G hw (iC_31 hv_p1) (by decide) rfl hj4 dX1_noteUses_23 ?_
        refine lv_astore (lv' := [(4, .ref (E.1 3 (200 * p1 + j4))), (0, .ref (E.1 1 0)), (1, .ref (E.1 4 p1)), (2, .ref (E.1 0 b2)), (3, .int x2)]) G.1 G.2.1 dX1_noteUses_24 hl (by decide) rfl (fun ls hl => ?_)
        refine lv_aload_n G.1 G.2.1 dX1_noteUses_26 rfl (lv_at hl 1 rfl) ?_
        refine lv_aload_n G.1 G.2.1 dX1_noteUses_27 rfl (lv_at hl 2 rfl) ?_
        refine lv_aload G.1 G.2.1 dX1_noteUses_28 (lv_at hl 0 rfl) ?_
        refine g_getI G hw C_3 (iC_3 (v_3 hv_p1 hj4)) 3 rfl fl_X1_133 dX1_noteUses_30 ?_
        refine lv_aload G.1 G.2.1 dX1_noteUses_33 (lv_at hl 0 rfl) ?_
        refine g_getI G hw C_3 (iC_3 (v_3 hv_p1 hj4)) 9 rfl fl_X1_74 dX1_noteUses_35 ?_
        obtain ⟨g5, hcg5, hf⟩ := bd_some hf
        refine g_callV0 (As := [.ref (E.1 4 p1), .int (gI g3 3 (200 * p1 + j4) 3), .int (gI g3 3 (200 * p1 + j4) 9)]) (rest := []) G hw (gA_mono hw.2.2.2.1.1) C_1 iC_1 mv_X1_136 (c_Ly_noteUse l D X E n p1 (gI g3 3 (200 * p1 + j4) 3) (gI g3 3 (200 * p1 + j4) 9) hv_p1 g3 g5 hcg5) hl.1 rfl rfl (Nat.le_of_ble_eq_true rfl) (Nat.le_of_ble_eq_true rfl) (Nat.le_of_ble_eq_true rfl) ⟨Nat.le_refl _, Nat.le_refl _⟩ dX1_noteUses_38 (fun H locs hw => ?_)
        refine lv_aload_n G.1 G.2.1 dX1_noteUses_41 rfl (lv_at hl 1 rfl) ?_
        refine lv_aload_n G.1 G.2.1 dX1_noteUses_42 rfl (lv_at hl 2 rfl) ?_
        refine lv_aload G.1 G.2.1 dX1_noteUses_43 (lv_at hl 0 rfl) ?_
        refine g_getI G hw C_3 (iC_3 (v_3 hv_p1 hj4)) 4 rfl fl_X1_140 dX1_noteUses_45 ?_
        refine lv_aload G.1 G.2.1 dX1_noteUses_48 (lv_at hl 0 rfl) ?_
        refine g_getI G hw C_3 (iC_3 (v_3 hv_p1 hj4)) 9 rfl fl_X1_74 dX1_noteUses_50 ?_
        obtain ⟨g6, hcg6, hf⟩ := bd_some hf
        refine g_callV0 (As := [.ref (E.1 4 p1), .int (gI g5 3 (200 * p1 + j4) 4), .int (gI g5 3 (200 * p1 + j4) 9)]) (rest := []) G hw (gA_mono hw.2.2.2.1.1) C_1 iC_1 mv_X1_136 (c_Ly_noteUse l D X E n p1 (gI g5 3 (200 * p1 + j4) 4) (gI g5 3 (200 * p1 + j4) 9) hv_p1 g5 g6 hcg6) hl.1 rfl rfl (Nat.le_of_ble_eq_true rfl) (Nat.le_of_ble_eq_true rfl) (Nat.le_of_ble_eq_true rfl) ⟨Nat.le_refl _, Nat.le_refl _⟩ dX1_noteUses_53 (fun H locs hw => ?_)
        refine lv_iinc (v := x2 + 1) (lv' := [(3, .int (x2 + 1)), (4, .ref (E.1 3 (200 * p1 + j4))), (0, .ref (E.1 1 0)), (1, .ref (E.1 4 p1)), (2, .ref (E.1 0 b2))]) G.1 G.2.1 dX1_noteUses_56 hl (k := 4) rfl rfl (by decide) rfl (fun ls hl => ?_)
        refine lv_goto (tgt := 5) G.1 G.2.1 dX1_noteUses_59 (by decide) ?_
        exact ih1 (x2 + 1) g6 _ _ _ ls hf hw (lv_sub hl [2, 3, 4, 0] rfl) hk1_0
  obtain ⟨r7, hr7, hf⟩ := bd_some hf
  refine hL5 n (gI g 0 b2 0) g r7 _ _ ls hr7 hw (lv_sub hl [1, 2, 3, 0] rfl) ?_
  intro H locs ls hw hl
  refine lv_aload_n G.1 G.2.1 dX1_noteUses_62 rfl (lv_at hl 2 rfl) ?_
  refine g_getI G hw C_0 (iC_0 hv_b2) 2 rfl fl_X1_143 dX1_noteUses_63 ?_
  refine lv_if_eq (tgt := 84) G.1 G.2.1 dX1_noteUses_66 (by decide) (fun hc66 => ?_) (fun hc66 => ?_)
  · rw [if_pos hc66] at hf
    exact g_vretW G hr hk hf hw dX1_noteUses_84
  · rw [if_neg hc66] at hf
    refine lv_aload_n G.1 G.2.1 dX1_noteUses_69 rfl (lv_at hl 0 rfl) ?_
    refine lv_aload_n G.1 G.2.1 dX1_noteUses_70 rfl (lv_at hl 1 rfl) ?_
    refine lv_aload_n G.1 G.2.1 dX1_noteUses_71 rfl (lv_at hl 2 rfl) ?_
    refine g_getI G hw C_0 (iC_0 hv_b2) 3 rfl fl_X1_147 dX1_noteUses_72 ?_
    refine lv_aload_n G.1 G.2.1 dX1_noteUses_75 rfl (lv_at hl 2 rfl) ?_
    refine g_getI G hw C_0 (iC_0 hv_b2) 6 rfl fl_X1_102 dX1_noteUses_76 ?_
    refine lv_iconst (v := (1 : Int32)) G.1 G.2.1 dX1_noteUses_79 (by decide) ?_
    refine lv_isub G.1 G.2.1 dX1_noteUses_80 ?_
    obtain ⟨g8, hcg8, hf⟩ := bd_some hf
    refine g_callV0 (As := [.ref (E.1 4 p1), .int (gI r7 0 b2 3), .int ((gI r7 0 b2 6) - (1 : Int32))]) (rest := []) G hw (gA_mono hw.2.2.2.1.1) C_1 iC_1 mv_X1_136 (c_Ly_noteUse l D X E n p1 (gI r7 0 b2 3) ((gI r7 0 b2 6) - (1 : Int32)) hv_p1 r7 g8 hcg8) hl.1 rfl rfl (Nat.le_of_ble_eq_true rfl) (Nat.le_of_ble_eq_true rfl) (Nat.le_of_ble_eq_true rfl) ⟨Nat.le_refl _, Nat.le_refl _⟩ dX1_noteUses_81 (fun H locs hw => ?_)
    exact g_vretW G hr hk hf hw dX1_noteUses_84

set_option maxHeartbeats 4000000 in
set_option maxRecDepth 100000 in
theorem c_Ly_prepare (l : Launch) (D : va_G) (X : va_W) (E : gE) (n : Nat) (p1 : Nat) (b2 : Nat) (hv_p1 : p1 < 2) (hv_b2 : b2 < 350) (g : Mem) (g' : Mem) (hf : Ly_prepare n p1 b2 g = some g') : gMet l yX1_prepare cX1_prepare 5 none 0 0 D X idsC E [.ref (E.1 1 0), .ref (E.1 4 p1), .ref (E.1 0 b2)] g none g' := by
  rw [Ly_prepare] at hf
  refine gt_code (by decide) (Nat.le_of_ble_eq_true rfl) (fun p en s m below meth c ls G hr hk hw hl => ?_)
  have hl : lv_has ls 5 [(0, .ref (E.1 1 0)), (1, .ref (E.1 4 p1)), (2, .ref (E.1 0 b2))] := hl
  refine lv_aload_n G.1 G.2.1 dX1_prepare_0 rfl (lv_at hl 2 rfl) ?_
  refine g_getI G hw C_0 (iC_0 hv_b2) 0 rfl fl_X1_59 dX1_prepare_1 ?_
  refine lv_istore_n (lv' := [(3, .int (gI g 0 b2 0)), (0, .ref (E.1 1 0)), (1, .ref (E.1 4 p1)), (2, .ref (E.1 0 b2))]) G.1 G.2.1 dX1_prepare_4 rfl hl (by decide) rfl (fun ls hl => ?_)
  have hL5 : ∀ (k1 : Nat) (x2 : Int32) (g3 : Mem) (res1 : Mem) (H : Heap) (locs : List Loc) (ls : Array Slot), Ly_prepare_L5 n b2 p1 k1 x2 g3 = some res1 → GW D X idsC E (gA X idsC E s.heap.size) s g3 H locs → lv_has ls 5 [(0, .ref (E.1 1 0)), (1, .ref (E.1 4 p1)), (2, .ref (E.1 0 b2)), (3, .int x2)] → (∀ (H : Heap) (locs : List Loc) (ls : Array Slot), GW D X idsC E (gA X idsC E s.heap.size) s res1 H locs → lv_has ls 5 [(0, .ref (E.1 1 0))] → W p l en { frames := 0, cells := 0, slots := 0, locals := 0 } s m [.ref (E.1 1 0), .ref (E.1 4 p1), .ref (E.1 0 b2)].toArray below meth c H locs 0 0 (MQ below (gQ none (GP D X idsC E g') (gA X idsC E s.heap.size)) [.ref (E.1 1 0), .ref (E.1 4 p1), .ref (E.1 0 b2)].toArray s 0 0 (gA X idsC E s.heap.size)) (F0 m 77 ls [])) → W p l en { frames := 0, cells := 0, slots := 0, locals := 0 } s m [.ref (E.1 1 0), .ref (E.1 4 p1), .ref (E.1 0 b2)].toArray below meth c H locs 0 0 (MQ below (gQ none (GP D X idsC E g') (gA X idsC E s.heap.size)) [.ref (E.1 1 0), .ref (E.1 4 p1), .ref (E.1 0 b2)].toArray s 0 0 (gA X idsC E s.heap.size)) (F0 m 5 ls []) := by
    intro k1
    induction k1 with
    | zero => intro x2 g3 res1 H locs ls hf; rw [Ly_prepare_L5] at hf; cases hf
    | succ k1 ih1 =>
      intro x2 g3 res1 H locs ls hf hw hl hk1_0
      rw [Ly_prepare_L5] at hf
      refine lv_iload_n G.1 G.2.1 dX1_prepare_5 rfl (lv_at hl 3 rfl) ?_
      refine lv_aload_n G.1 G.2.1 dX1_prepare_6 rfl (lv_at hl 2 rfl) ?_
      refine g_getI G hw C_0 (iC_0 hv_b2) 0 rfl fl_X1_59 dX1_prepare_7 ?_
      refine lv_aload_n G.1 G.2.1 dX1_prepare_10 rfl (lv_at hl 2 rfl) ?_
      refine g_getI G hw C_0 (iC_0 hv_b2) 1 rfl fl_X1_64 dX1_prepare_11 ?_
      refine lv_iadd G.1 G.2.1 dX1_prepare_14 ?_
      refine lv_icmp_ge (tgt := 77) G.1 G.2.1 dX1_prepare_15 (by decide) (fun hc15 => ?_) (fun hc15 => ?_)
      · rw [if_pos hc15] at hf
        obtain rfl := Option.some.inj hf
        exact hk1_0 _ _ ls hw (lv_sub hl [0] rfl)
      · rw [if_neg hc15] at hf
        refine lv_aload_n G.1 G.2.1 dX1_prepare_18 rfl (lv_at hl 1 rfl) ?_
        refine g_getC G hw C_4 (iC_4 hv_p1) 0 31 rfl (by decide) rfl fl_X1_66 dX1_prepare_19 ?_
        refine lv_iload_n G.1 G.2.1 dX1_prepare_22 rfl (lv_at hl 3 rfl) ?_
        obtain ⟨j4, hj4, hf⟩ := bd_some hf
        refine g_oald G hw (iC_31 hv_p1) (by decide) rfl hj4 dX1_prepare_23 ?_
        refine lv_astore (lv' := [(4, .ref (E.1 3 (200 * p1 + j4))), (0, .ref (E.1 1 0)), (1, .ref (E.1 4 p1)), (2, .ref (E.1 0 b2)), (3, .int x2)]) G.1 G.2.1 dX1_prepare_24 hl (by decide) rfl (fun ls hl => ?_)
        refine lv_aload G.1 G.2.1 dX1_prepare_26 (lv_at hl 0 rfl) ?_
        refine lv_aload_n G.1 G.2.1 dX1_prepare_28 rfl (lv_at hl 1 rfl) ?_
        refine g_getC G hw C_1 iC_1 1 24 rfl (by decide) rfl fl_X1_15 dX1_prepare_29 ?_
        refine lv_aload G.1 G.2.1 dX1_prepare_32 (lv_at hl 0 rfl) ?_
        refine g_getI G hw C_3 (iC_3 (v_3 hv_p1 hj4)) 2 rfl fl_X1_69 dX1_prepare_34 ?_
        obtain ⟨j5, hj5, hf⟩ := bd_some hf
        refine g_iald G hw iC_24 (by decide) rfl hj5 dX1_prepare_37 ?_
        obtain ⟨g6, eg6, hf⟩ := lt9_some hf
        refine g_putI G hw C_3 (iC_3 (v_3 hv_p1 hj4)) 7 rfl fl_X1_72 rfl rfl rfl dX1_prepare_38 (fun H locs hw => ?_)
        rw [← eg6] at hw
        refine lv_aload G.1 G.2.1 dX1_prepare_41 (lv_at hl 0 rfl) ?_
        refine lv_iconst (v := (-1 : Int32)) G.1 G.2.1 dX1_prepare_43 (by decide) ?_
        obtain ⟨g7, eg7, hf⟩ := lt9_some hf
        refine g_putI G hw C_3 (iC_3 (v_3 hv_p1 hj4)) 9 rfl fl_X1_74 rfl rfl rfl dX1_prepare_44 (fun H locs hw => ?_)
        rw [← eg7] at hw
        refine lv_aload G.1 G.2.1 dX1_prepare_47 (lv_at hl 0 rfl) ?_
        refine lv_iconst (v := (-1 : Int32)) G.1 G.2.1 dX1_prepare_49 (by decide) ?_
        obtain ⟨g8, eg8, hf⟩ := lt9_some hf
        refine g_putI G hw C_3 (iC_3 (v_3 hv_p1 hj4)) 11 rfl fl_X1_77 rfl rfl rfl dX1_prepare_50 (fun H locs hw => ?_)
        rw [← eg8] at hw
        refine lv_aload G.1 G.2.1 dX1_prepare_53 (lv_at hl 0 rfl) ?_
        refine lv_iconst (v := (0 : Int32)) G.1 G.2.1 dX1_prepare_55 (by decide) ?_
        obtain ⟨g9, eg9, hf⟩ := lt9_some hf
        refine g_putI G hw C_3 (iC_3 (v_3 hv_p1 hj4)) 12 rfl fl_X1_80 rfl rfl rfl dX1_prepare_56 (fun H locs hw => ?_)
        rw [← eg9] at hw
        refine lv_aload G.1 G.2.1 dX1_prepare_59 (lv_at hl 0 rfl) ?_
        refine lv_iconst (v := (0 : Int32)) G.1 G.2.1 dX1_prepare_61 (by decide) ?_
        obtain ⟨g10, eg10, hf⟩ := lt9_some hf
        refine g_putI G hw C_3 (iC_3 (v_3 hv_p1 hj4)) 13 rfl fl_X1_83 rfl rfl rfl dX1_prepare_62 (fun H locs hw => ?_)
        rw [← eg10] at hw
        refine lv_aload G.1 G.2.1 dX1_prepare_65 (lv_at hl 0 rfl) ?_
        refine lv_iconst (v := (-1 : Int32)) G.1 G.2.1 dX1_prepare_67 (by decide) ?_
        obtain ⟨g11, eg11, hf⟩ := lt9_some hf
        refine g_putI G hw C_3 (iC_3 (v_3 hv_p1 hj4)) 14 rfl fl_X1_86 rfl rfl rfl dX1_prepare_68 (fun H locs hw => ?_)
        rw [← eg11] at hw
        refine lv_iinc (v := x2 + 1) (lv' := [(3, .int (x2 + 1)), (4, .ref (E.1 3 (200 * p1 + j4))), (0, .ref (E.1 1 0)), (1, .ref (E.1 4 p1)), (2, .ref (E.1 0 b2))]) G.1 G.2.1 dX1_prepare_71 hl (k := 4) rfl rfl (by decide) rfl (fun ls hl => ?_)
        refine lv_goto (tgt := 5) G.1 G.2.1 dX1_prepare_74 (by decide) ?_
        exact ih1 (x2 + 1) g11 _ _ _ ls hf hw (lv_sub hl [2, 3, 4, 0] rfl) hk1_0
  obtain ⟨r12, hr12, hf⟩ := bd_some hf
  refine hL5 n (gI g 0 b2 0) g r12 _ _ ls hr12 hw (lv_sub hl [1, 2, 3, 0] rfl) ?_
  intro H locs ls hw hl
  refine lv_iconst (v := (0 : Int32)) G.1 G.2.1 dX1_prepare_77 (by decide) ?_
  refine lv_istore_n (lv' := [(3, .int (0 : Int32)), (0, .ref (E.1 1 0))]) G.1 G.2.1 dX1_prepare_78 rfl hl (by decide) rfl (fun ls hl => ?_)
  have hL79 : ∀ (k13 : Nat) (x14 : Int32) (g15 : Mem) (res13 : Mem) (H : Heap) (locs : List Loc) (ls : Array Slot), Ly_prepare_L79 n k13 x14 g15 = some res13 → GW D X idsC E (gA X idsC E s.heap.size) s g15 H locs → lv_has ls 5 [(0, .ref (E.1 1 0)), (3, .int x14)] → (∀ (H : Heap) (locs : List Loc) (ls : Array Slot), GW D X idsC E (gA X idsC E s.heap.size) s res13 H locs → lv_has ls 5 [(0, .ref (E.1 1 0))] → W p l en { frames := 0, cells := 0, slots := 0, locals := 0 } s m [.ref (E.1 1 0), .ref (E.1 4 p1), .ref (E.1 0 b2)].toArray below meth c H locs 0 0 (MQ below (gQ none (GP D X idsC E g') (gA X idsC E s.heap.size)) [.ref (E.1 1 0), .ref (E.1 4 p1), .ref (E.1 0 b2)].toArray s 0 0 (gA X idsC E s.heap.size)) (F0 m 98 ls [])) → W p l en { frames := 0, cells := 0, slots := 0, locals := 0 } s m [.ref (E.1 1 0), .ref (E.1 4 p1), .ref (E.1 0 b2)].toArray below meth c H locs 0 0 (MQ below (gQ none (GP D X idsC E g') (gA X idsC E s.heap.size)) [.ref (E.1 1 0), .ref (E.1 4 p1), .ref (E.1 0 b2)].toArray s 0 0 (gA X idsC E s.heap.size)) (F0 m 79 ls []) := by
    intro k13
    induction k13 with
    | zero => intro x14 g15 res13 H locs ls hf; rw [Ly_prepare_L79] at hf; cases hf
    | succ k13 ih13 =>
      intro x14 g15 res13 H locs ls hf hw hl hk13_0
      rw [Ly_prepare_L79] at hf
      refine lv_iload_n G.1 G.2.1 dX1_prepare_79 rfl (lv_at hl 1 rfl) ?_
      refine lv_bipush (v := (12 : Int32)) G.1 G.2.1 dX1_prepare_80 (by decide) ?_
      refine lv_icmp_ge (tgt := 98) G.1 G.2.1 dX1_prepare_82 (by decide) (fun hc82 => ?_) (fun hc82 => ?_)
      · rw [if_pos hc82] at hf
        obtain rfl := Option.some.inj hf
        exact hk13_0 _ _ ls hw (lv_sub hl [0] rfl)
      · rw [if_neg hc82] at hf
        refine lv_aload_n G.1 G.2.1 dX1_prepare_85 rfl (lv_at hl 0 rfl) ?_
        refine g_getC G hw C_1 iC_1 2 25 rfl (by decide) rfl fl_X1_18 dX1_prepare_86 ?_
        refine lv_iload_n G.1 G.2.1 dX1_prepare_89 rfl (lv_at hl 1 rfl) ?_
        refine lv_iconst (v := (0 : Int32)) G.1 G.2.1 dX1_prepare_90 (by decide) ?_
        obtain ⟨j16, hj16, hf⟩ := bd_some hf
        obtain ⟨g17, eg17, hf⟩ := lt9_some hf
        refine g_iast G hw iC_25 (by decide) rfl hj16 dX1_prepare_91 (fun H locs hw => ?_)
        rw [← eg17] at hw
        refine lv_iinc (v := x14 + 1) (lv' := [(3, .int (x14 + 1)), (0, .ref (E.1 1 0))]) G.1 G.2.1 dX1_prepare_92 hl (k := 1) rfl rfl (by decide) rfl (fun ls hl => ?_)
        refine lv_goto (tgt := 79) G.1 G.2.1 dX1_prepare_95 (by decide) ?_
        exact ih13 (x14 + 1) g17 _ _ _ ls hf hw (lv_sub hl [1, 0] rfl) hk13_0
  obtain ⟨r18, hr18, hf⟩ := bd_some hf
  refine hL79 n (0 : Int32) r12 r18 _ _ ls hr18 hw (lv_sub hl [1, 0] rfl) ?_
  intro H locs ls hw hl
  refine lv_iconst (v := (0 : Int32)) G.1 G.2.1 dX1_prepare_98 (by decide) ?_
  refine lv_istore_n (lv' := [(3, .int (0 : Int32)), (0, .ref (E.1 1 0))]) G.1 G.2.1 dX1_prepare_99 rfl hl (by decide) rfl (fun ls hl => ?_)
  have hL100 : ∀ (k19 : Nat) (x20 : Int32) (g21 : Mem) (res19 : Mem) (H : Heap) (locs : List Loc) (ls : Array Slot), Ly_prepare_L100 n k19 x20 g21 = some res19 → GW D X idsC E (gA X idsC E s.heap.size) s g21 H locs → lv_has ls 5 [(0, .ref (E.1 1 0)), (3, .int x20)] → (∀ (H : Heap) (locs : List Loc) (ls : Array Slot), GW D X idsC E (gA X idsC E s.heap.size) s res19 H locs → lv_has ls 5 [] → W p l en { frames := 0, cells := 0, slots := 0, locals := 0 } s m [.ref (E.1 1 0), .ref (E.1 4 p1), .ref (E.1 0 b2)].toArray below meth c H locs 0 0 (MQ below (gQ none (GP D X idsC E g') (gA X idsC E s.heap.size)) [.ref (E.1 1 0), .ref (E.1 4 p1), .ref (E.1 0 b2)].toArray s 0 0 (gA X idsC E s.heap.size)) (F0 m 120 ls [])) → W p l en { frames := 0, cells := 0, slots := 0, locals := 0 } s m [.ref (E.1 1 0), .ref (E.1 4 p1), .ref (E.1 0 b2)].toArray below meth c H locs 0 0 (MQ below (gQ none (GP D X idsC E g') (gA X idsC E s.heap.size)) [.ref (E.1 1 0), .ref (E.1 4 p1), .ref (E.1 0 b2)].toArray s 0 0 (gA X idsC E s.heap.size)) (F0 m 100 ls []) := by
    intro k19
    induction k19 with
    | zero => intro x20 g21 res19 H locs ls hf; rw [Ly_prepare_L100] at hf; cases hf
    | succ k19 ih19 =>
      intro x20 g21 res19 H locs ls hf hw hl hk19_0
      rw [Ly_prepare_L100] at hf
      refine lv_iload_n G.1 G.2.1 dX1_prepare_100 rfl (lv_at hl 1 rfl) ?_
      refine lv_sipush (v := (200 : Int32)) G.1 G.2.1 dX1_prepare_101 (by decide) ?_
      refine lv_icmp_ge (tgt := 120) G.1 G.2.1 dX1_prepare_104 (by decide) (fun hc104 => ?_) (fun hc104 => ?_)
      · rw [if_pos hc104] at hf
        obtain rfl := Option.some.inj hf
        exact hk19_0 _ _ ls hw (lv_sub hl [] rfl)
      · rw [if_neg hc104] at hf
        refine lv_aload_n G.1 G.2.1 dX1_prepare_107 rfl (lv_at hl 0 rfl) ?_
        refine g_getC G hw C_1 iC_1 3 26 rfl (by decide) rfl fl_X1_21 dX1_prepare_108 ?_
        refine lv_iload_n G.1 G.2.1 dX1_prepare_111 rfl (lv_at hl 1 rfl) ?_
        refine lv_iconst (v := (-1 : Int32)) G.1 G.2.1 dX1_prepare_112 (by decide) ?_
        obtain ⟨j22, hj22, hf⟩ := bd_some hf
        obtain ⟨g23, eg23, hf⟩ := lt9_some hf
        refine g_iast G hw iC_26 (by decide) rfl hj22 dX1_prepare_113 (fun H locs hw => ?_)
        rw [← eg23] at hw
        refine lv_iinc (v := x20 + 1) (lv' := [(3, .int (x20 + 1)), (0, .ref (E.1 1 0))]) G.1 G.2.1 dX1_prepare_114 hl (k := 1) rfl rfl (by decide) rfl (fun ls hl => ?_)
        refine lv_goto (tgt := 100) G.1 G.2.1 dX1_prepare_117 (by decide) ?_
        exact ih19 (x20 + 1) g23 _ _ _ ls hf hw (lv_sub hl [1, 0] rfl) hk19_0
  obtain ⟨r24, hr24, hf⟩ := bd_some hf
  refine hL100 n (0 : Int32) r18 r24 _ _ ls hr24 hw (lv_sub hl [1, 0] rfl) ?_
  intro H locs ls hw hl
  exact g_vretW G hr hk hf hw dX1_prepare_120

set_option maxHeartbeats 4000000 in
set_option maxRecDepth 100000 in
theorem c_Ly_rank (l : Launch) (D : va_G) (X : va_W) (E : gE) (n : Nat) (p1 : Nat) (b2 : Nat) (hv_p1 : p1 < 2) (hv_b2 : b2 < 350) (g : Mem) (g' : Mem) (hf : Ly_rank n p1 b2 g = some g') : gMet l yX1_rank cX1_rank 6 none 0 0 D X idsC E [.ref (E.1 1 0), .ref (E.1 4 p1), .ref (E.1 0 b2)] g none g' := by
  rw [Ly_rank] at hf
  refine gt_code (by decide) (Nat.le_of_ble_eq_true rfl) (fun p en s m below meth c ls G hr hk hw hl => ?_)
  have hl : lv_has ls 6 [(0, .ref (E.1 1 0)), (1, .ref (E.1 4 p1)), (2, .ref (E.1 0 b2))] := hl
  refine lv_iconst (v := (0 : Int32)) G.1 G.2.1 dX1_rank_0 (by decide) ?_
  refine lv_istore_n (lv' := [(3, .int (0 : Int32)), (0, .ref (E.1 1 0)), (1, .ref (E.1 4 p1)), (2, .ref (E.1 0 b2))]) G.1 G.2.1 dX1_rank_1 rfl hl (by decide) rfl (fun ls hl => ?_)
  have hL2 : ∀ (k1 : Nat) (x2 : Int32) (g3 : Mem) (res1 : Mem) (H : Heap) (locs : List Loc) (ls : Array Slot), Ly_rank_L2 n b2 p1 k1 x2 g3 = some res1 → GW D X idsC E (gA X idsC E s.heap.size) s g3 H locs → lv_has ls 6 [(0, .ref (E.1 1 0)), (1, .ref (E.1 4 p1)), (2, .ref (E.1 0 b2)), (3, .int x2)] → (∀ (H : Heap) (locs : List Loc) (ls : Array Slot), GW D X idsC E (gA X idsC E s.heap.size) s res1 H locs → lv_has ls 6 [] → W p l en { frames := 0, cells := 0, slots := 0, locals := 0 } s m [.ref (E.1 1 0), .ref (E.1 4 p1), .ref (E.1 0 b2)].toArray below meth c H locs 0 0 (MQ below (gQ none (GP D X idsC E g') (gA X idsC E s.heap.size)) [.ref (E.1 1 0), .ref (E.1 4 p1), .ref (E.1 0 b2)].toArray s 0 0 (gA X idsC E s.heap.size)) (F0 m 88 ls [])) → W p l en { frames := 0, cells := 0, slots := 0, locals := 0 } s m [.ref (E.1 1 0), .ref (E.1 4 p1), .ref (E.1 0 b2)].toArray below meth c H locs 0 0 (MQ below (gQ none (GP D X idsC E g') (gA X idsC E s.heap.size)) [.ref (E.1 1 0), .ref (E.1 4 p1), .ref (E.1 0 b2)].toArray s 0 0 (gA X idsC E s.heap.size)) (F0 m 2 ls []) := by
    intro k1
    induction k1 with
    | zero => intro x2 g3 res1 H locs ls hf; rw [Ly_rank_L2] at hf; cases hf
    | succ k1 ih1 =>
      intro x2 g3 res1 H locs ls hf hw hl hk1_0
      rw [Ly_rank_L2] at hf
      refine lv_iload_n G.1 G.2.1 dX1_rank_2 rfl (lv_at hl 3 rfl) ?_
      refine lv_aload_n G.1 G.2.1 dX1_rank_3 rfl (lv_at hl 2 rfl) ?_
      refine g_getI G hw C_0 (iC_0 hv_b2) 1 rfl fl_X1_64 dX1_rank_4 ?_
      refine lv_icmp_ge (tgt := 88) G.1 G.2.1 dX1_rank_7 (by decide) (fun hc7 => ?_) (fun hc7 => ?_)
      · rw [if_pos hc7] at hf
        obtain rfl := Option.some.inj hf
        exact hk1_0 _ _ ls hw (lv_sub hl [] rfl)
      · rw [if_neg hc7] at hf
        refine lv_aload_n G.1 G.2.1 dX1_rank_10 rfl (lv_at hl 1 rfl) ?_
        refine g_getC G hw C_4 (iC_4 hv_p1) 0 31 rfl (by decide) rfl fl_X1_66 dX1_rank_11 ?_
        refine lv_aload_n G.1 G.2.1 dX1_rank_14 rfl (lv_at hl 2 rfl) ?_
        refine g_getI G hw C_0 (iC_0 hv_b2) 0 rfl fl_X1_59 dX1_rank_15 ?_
        refine lv_iload_n G.1 G.2.1 dX1_rank_18 rfl (lv_at hl 3 rfl) ?_
        refine lv_iadd G.1 G.2.1 dX1_rank_19 ?_
        obtain ⟨j4, hj4, hf⟩ := bd_some hf
        refine g_oald G hw (iC_31 hv_p1) (by decide) rfl hj4 dX1_rank_20 ?_
        refine lv_astore (lv' := [(4, .ref (E.1 3 (200 * p1 + j4))), (0, .ref (E.1 1 0)), (1, .ref (E.1 4 p1)), (2, .ref (E.1 0 b2)), (3, .int x2)]) G.1 G.2.1 dX1_rank_21 hl (by decide) rfl (fun ls hl => ?_)
        refine lv_iload_n G.1 G.2.1 dX1_rank_23 rfl (lv_at hl 4 rfl) ?_
        refine lv_istore (lv' := [(5, .int x2), (4, .ref (E.1 3 (200 * p1 + j4))), (0, .ref (E.1 1 0)), (1, .ref (E.1 4 p1)), (2, .ref (E.1 0 b2)), (3, .int x2)]) G.1 G.2.1 dX1_rank_24 hl (by decide) rfl (fun ls hl => ?_)
        have hL26 : ∀ (k5 : Nat) (x6 : Int32) (g7 : Mem) (res5 : Int32 × Mem) (H : Heap) (locs : List Loc) (ls : Array Slot), Ly_rank_L26 n j4 p1 k5 x6 g7 = some res5 → GW D X idsC E (gA X idsC E s.heap.size) s g7 H locs → lv_has ls 6 [(0, .ref (E.1 1 0)), (1, .ref (E.1 4 p1)), (2, .ref (E.1 0 b2)), (3, .int x2), (4, .ref (E.1 3 (200 * p1 + j4))), (5, .int x6)] → (∀ (H : Heap) (locs : List Loc) (ls : Array Slot), GW D X idsC E (gA X idsC E s.heap.size) s res5.2 H locs → lv_has ls 6 [(0, .ref (E.1 1 0)), (1, .ref (E.1 4 p1)), (2, .ref (E.1 0 b2)), (3, .int x2), (4, .ref (E.1 3 (200 * p1 + j4))), (5, .int res5.1)] → W p l en { frames := 0, cells := 0, slots := 0, locals := 0 } s m [.ref (E.1 1 0), .ref (E.1 4 p1), .ref (E.1 0 b2)].toArray below meth c H locs 0 0 (MQ below (gQ none (GP D X idsC E g') (gA X idsC E s.heap.size)) [.ref (E.1 1 0), .ref (E.1 4 p1), .ref (E.1 0 b2)].toArray s 0 0 (gA X idsC E s.heap.size)) (F0 m 73 ls [])) → W p l en { frames := 0, cells := 0, slots := 0, locals := 0 } s m [.ref (E.1 1 0), .ref (E.1 4 p1), .ref (E.1 0 b2)].toArray below meth c H locs 0 0 (MQ below (gQ none (GP D X idsC E g') (gA X idsC E s.heap.size)) [.ref (E.1 1 0), .ref (E.1 4 p1), .ref (E.1 0 b2)].toArray s 0 0 (gA X idsC E s.heap.size)) (F0 m 26 ls []) := by
          intro k5
          induction k5 with
          | zero => intro x6 g7 res5 H locs ls hf; rw [Ly_rank_L26] at hf; cases hf
          | succ k5 ih5 =>
            intro x6 g7 res5 H locs ls hf hw hl hk5_0
            rw [Ly_rank_L26] at hf
            refine lv_iload G.1 G.2.1 dX1_rank_26 (lv_at hl 5 rfl) ?_
            refine lv_if_le (tgt := 73) G.1 G.2.1 dX1_rank_28 (by decide) (fun hc28 => ?_) (fun hc28 => ?_)
            · rw [if_pos hc28] at hf
              obtain rfl := Option.some.inj hf
              exact hk5_0 _ _ ls hw (lv_sub hl [0, 1, 2, 3, 4, 5] rfl)
            · rw [if_neg hc28] at hf
              refine lv_aload_n G.1 G.2.1 dX1_rank_31 rfl (lv_at hl 0 rfl) ?_
              refine g_getC G hw C_1 iC_1 4 27 rfl (by decide) rfl fl_X1_26 dX1_rank_32 ?_
              refine lv_iload G.1 G.2.1 dX1_rank_35 (lv_at hl 5 rfl) ?_
              refine lv_iconst (v := (1 : Int32)) G.1 G.2.1 dX1_rank_37 (by decide) ?_
              refine lv_isub G.1 G.2.1 dX1_rank_38 ?_
              obtain ⟨j8, hj8, hf⟩ := bd_some hf
              obtain ⟨o9, heo9, hf⟩ := bd_some hf
              obtain ⟨hvo9, hf⟩ := ck_some hf
              refine g_qald G hw iC_27 (by decide) rfl hj8 heo9 dX1_rank_39 ?_
              refine g_getI G hw C_3 (iC_3 hvo9) 8 rfl fl_X1_93 dX1_rank_40 ?_
              refine lv_aload G.1 G.2.1 dX1_rank_43 (lv_at hl 4 rfl) ?_
              refine g_getI G hw C_3 (iC_3 (v_3 hv_p1 hj4)) 8 rfl fl_X1_93 dX1_rank_45 ?_
              refine lv_icmp_ge (tgt := 73) G.1 G.2.1 dX1_rank_48 (by decide) (fun hc48 => ?_) (fun hc48 => ?_)
              · rw [if_pos hc48] at hf
                obtain rfl := Option.some.inj hf
                exact hk5_0 _ _ ls hw (lv_sub hl [0, 1, 2, 3, 4, 5] rfl)
              · rw [if_neg hc48] at hf
                refine lv_aload_n G.1 G.2.1 dX1_rank_51 rfl (lv_at hl 0 rfl) ?_
                refine g_getC G hw C_1 iC_1 4 27 rfl (by decide) rfl fl_X1_26 dX1_rank_52 ?_
                refine lv_iload G.1 G.2.1 dX1_rank_55 (lv_at hl 5 rfl) ?_
                refine lv_aload_n G.1 G.2.1 dX1_rank_57 rfl (lv_at hl 0 rfl) ?_
                refine g_getC G hw C_1 iC_1 4 27 rfl (by decide) rfl fl_X1_26 dX1_rank_58 ?_
                refine lv_iload G.1 G.2.1 dX1_rank_61 (lv_at hl 5 rfl) ?_
                refine lv_iconst (v := (1 : Int32)) G.1 G.2.1 dX1_rank_63 (by decide) ?_
                refine lv_isub G.1 G.2.1 dX1_rank_64 ?_
                obtain ⟨j10, hj10, hf⟩ := bd_some hf
                obtain ⟨o11, heo11, hf⟩ := bd_some hf
                obtain ⟨hvo11, hf⟩ := ck_some hf
                refine g_qald G hw iC_27 (by decide) rfl hj10 heo11 dX1_rank_65 ?_
                obtain ⟨j12, hj12, hf⟩ := bd_some hf
                obtain ⟨g13, eg13, hf⟩ := lt9_some hf
                refine g_qast G hw iC_27 (by decide) rfl (iC_3 hvo11) hj12 dX1_rank_66 (fun H locs hw => ?_)
                rw [← eg13] at hw
                refine lv_iinc (v := x6 + (-1)) (lv' := [(5, .int (x6 + (-1))), (0, .ref (E.1 1 0)), (1, .ref (E.1 4 p1)), (2, .ref (E.1 0 b2)), (3, .int x2), (4, .ref (E.1 3 (200 * p1 + j4)))]) G.1 G.2.1 dX1_rank_67 hl (k := 5) rfl rfl (by decide) rfl (fun ls hl => ?_)
                refine lv_goto (tgt := 26) G.1 G.2.1 dX1_rank_70 (by decide) ?_
                exact ih5 (x6 + (-1)) g13 _ _ _ ls hf hw (lv_sub hl [1, 2, 3, 4, 5, 0] rfl) hk5_0
        obtain ⟨r14, hr14, hf⟩ := bd_some hf
        refine hL26 n x2 g3 r14 _ _ ls hr14 hw (lv_sub hl [2, 3, 4, 5, 1, 0] rfl) ?_
        intro H locs ls hw hl
        refine lv_aload_n G.1 G.2.1 dX1_rank_73 rfl (lv_at hl 0 rfl) ?_
        refine g_getC G hw C_1 iC_1 4 27 rfl (by decide) rfl fl_X1_26 dX1_rank_74 ?_
        refine lv_iload G.1 G.2.1 dX1_rank_77 (lv_at hl 5 rfl) ?_
        refine lv_aload G.1 G.2.1 dX1_rank_79 (lv_at hl 4 rfl) ?_
        obtain ⟨j15, hj15, hf⟩ := bd_some hf
        obtain ⟨g16, eg16, hf⟩ := lt9_some hf
        refine g_qast G hw iC_27 (by decide) rfl (iC_3 (v_3 hv_p1 hj4)) hj15 dX1_rank_81 (fun H locs hw => ?_)
        rw [← eg16] at hw
        refine lv_iinc (v := x2 + 1) (lv' := [(3, .int (x2 + 1)), (0, .ref (E.1 1 0)), (1, .ref (E.1 4 p1)), (2, .ref (E.1 0 b2)), (4, .ref (E.1 3 (200 * p1 + j4))), (5, .int r14.1)]) G.1 G.2.1 dX1_rank_82 hl (k := 3) rfl rfl (by decide) rfl (fun ls hl => ?_)
        refine lv_goto (tgt := 2) G.1 G.2.1 dX1_rank_85 (by decide) ?_
        exact ih1 (x2 + 1) g16 _ _ _ ls hf hw (lv_sub hl [1, 2, 3, 0] rfl) hk1_0
  obtain ⟨r17, hr17, hf⟩ := bd_some hf
  refine hL2 n (0 : Int32) g r17 _ _ ls hr17 hw (lv_sub hl [1, 2, 3, 0] rfl) ?_
  intro H locs ls hw hl
  exact g_vretW G hr hk hf hw dX1_rank_88

set_option maxHeartbeats 4000000 in
set_option maxRecDepth 100000 in
theorem c_Ly_lay (l : Launch) (D : va_G) (X : va_W) (E : gE) (n : Nat) (p1 : Nat) (hv_p1 : p1 < 2) (g : Mem) (g' : Mem) (hf : Ly_lay n p1 g = some g') : gMet l yX1_lay cX1_lay 4 none 6 134 D X idsC E [.ref (E.1 1 0), .ref (E.1 4 p1)] g none g' := by
  rw [Ly_lay] at hf
  refine gt_code (by decide) (Nat.le_of_ble_eq_true rfl) (fun p en s m below meth c ls G hr hk hw hl => ?_)
  have hl : lv_has ls 4 [(0, .ref (E.1 1 0)), (1, .ref (E.1 4 p1))] := hl
  refine lv_iconst (v := (0 : Int32)) G.1 G.2.1 dX1_lay_0 (by decide) ?_
  refine lv_istore_n (lv' := [(2, .int (0 : Int32)), (0, .ref (E.1 1 0)), (1, .ref (E.1 4 p1))]) G.1 G.2.1 dX1_lay_1 rfl hl (by decide) rfl (fun ls hl => ?_)
  have hL2 : ∀ (k1 : Nat) (x2 : Int32) (g3 : Mem) (res1 : Mem) (H : Heap) (locs : List Loc) (ls : Array Slot), Ly_lay_L2 n p1 k1 x2 g3 = some res1 → GW D X idsC E (gA X idsC E s.heap.size) s g3 H locs → lv_has ls 4 [(0, .ref (E.1 1 0)), (1, .ref (E.1 4 p1)), (2, .int x2)] → (∀ (H : Heap) (locs : List Loc) (ls : Array Slot), GW D X idsC E (gA X idsC E s.heap.size) s res1 H locs → lv_has ls 4 [] → W p l en { frames := 6, cells := 0, slots := 0, locals := 134 } s m [.ref (E.1 1 0), .ref (E.1 4 p1)].toArray below meth c H locs 0 0 (MQ below (gQ none (GP D X idsC E g') (gA X idsC E s.heap.size)) [.ref (E.1 1 0), .ref (E.1 4 p1)].toArray s 0 0 (gA X idsC E s.heap.size)) (F0 m 59 ls [])) → W p l en { frames := 6, cells := 0, slots := 0, locals := 134 } s m [.ref (E.1 1 0), .ref (E.1 4 p1)].toArray below meth c H locs 0 0 (MQ below (gQ none (GP D X idsC E g') (gA X idsC E s.heap.size)) [.ref (E.1 1 0), .ref (E.1 4 p1)].toArray s 0 0 (gA X idsC E s.heap.size)) (F0 m 2 ls []) := by
    intro k1
    induction k1 with
    | zero => intro x2 g3 res1 H locs ls hf; rw [Ly_lay_L2] at hf; cases hf
    | succ k1 ih1 =>
      intro x2 g3 res1 H locs ls hf hw hl hk1_0
      rw [Ly_lay_L2] at hf
      refine lv_iload_n G.1 G.2.1 dX1_lay_2 rfl (lv_at hl 2 rfl) ?_
      refine lv_aload_n G.1 G.2.1 dX1_lay_3 rfl (lv_at hl 1 rfl) ?_
      refine g_getI G hw C_4 (iC_4 hv_p1) 3 rfl fl_X1_30 dX1_lay_4 ?_
      refine lv_icmp_ge (tgt := 59) G.1 G.2.1 dX1_lay_7 (by decide) (fun hc7 => ?_) (fun hc7 => ?_)
      · rw [if_pos hc7] at hf
        obtain rfl := Option.some.inj hf
        exact hk1_0 _ _ ls hw (lv_sub hl [] rfl)
      · rw [if_neg hc7] at hf
        refine lv_aload_n G.1 G.2.1 dX1_lay_10 rfl (lv_at hl 1 rfl) ?_
        refine g_getC G hw C_4 (iC_4 hv_p1) 1 32 rfl (by decide) rfl fl_X1_36 dX1_lay_11 ?_
        refine lv_iload_n G.1 G.2.1 dX1_lay_14 rfl (lv_at hl 2 rfl) ?_
        obtain ⟨j4, hj4, hf⟩ := bd_some hf
        refine g_bald G hw (iC_32 hv_p1) (by decide) rfl hj4 dX1_lay_15 ?_
        refine lv_astore_n (lv' := [(3, .ref (E.1 0 (175 * p1 + j4))), (0, .ref (E.1 1 0)), (1, .ref (E.1 4 p1)), (2, .int x2)]) G.1 G.2.1 dX1_lay_16 rfl hl (by decide) rfl (fun ls hl => ?_)
        refine lv_aload_n G.1 G.2.1 dX1_lay_17 rfl (lv_at hl 1 rfl) ?_
        refine lv_aload_n G.1 G.2.1 dX1_lay_18 rfl (lv_at hl 2 rfl) ?_
        refine lv_aload_n G.1 G.2.1 dX1_lay_19 rfl (lv_at hl 0 rfl) ?_
        obtain ⟨g5, hcg5, hf⟩ := bd_some hf
        refine g_callV0 (As := [.ref (E.1 4 p1), .ref (E.1 0 (175 * p1 + j4))]) (rest := []) G hw (gA_mono hw.2.2.2.1.1) C_1 iC_1 mv_X1_40 (c_Ly_prepare l D X E n p1 (175 * p1 + j4) hv_p1 (v_0 hv_p1 hj4) g3 g5 hcg5) hl.1 rfl rfl (Nat.le_of_ble_eq_true rfl) (Nat.le_of_ble_eq_true rfl) (Nat.le_of_ble_eq_true rfl) ⟨Nat.le_refl _, Nat.le_refl _⟩ dX1_lay_20 (fun H locs hw => ?_)
        refine lv_aload_n G.1 G.2.1 dX1_lay_23 rfl (lv_at hl 1 rfl) ?_
        refine lv_aload_n G.1 G.2.1 dX1_lay_24 rfl (lv_at hl 2 rfl) ?_
        refine lv_aload_n G.1 G.2.1 dX1_lay_25 rfl (lv_at hl 0 rfl) ?_
        obtain ⟨g6, hcg6, hf⟩ := bd_some hf
        refine g_callV0 (As := [.ref (E.1 4 p1), .ref (E.1 0 (175 * p1 + j4))]) (rest := []) G hw (gA_mono hw.2.2.2.1.1) C_1 iC_1 mv_X1_44 (c_Ly_measureHeights l D X E n p1 (175 * p1 + j4) hv_p1 (v_0 hv_p1 hj4) g5 g6 hcg6) hl.1 rfl rfl (Nat.le_of_ble_eq_true rfl) (Nat.le_of_ble_eq_true rfl) (Nat.le_of_ble_eq_true rfl) ⟨Nat.le_refl _, Nat.le_refl _⟩ dX1_lay_26 (fun H locs hw => ?_)
        refine lv_aload_n G.1 G.2.1 dX1_lay_29 rfl (lv_at hl 1 rfl) ?_
        refine lv_aload_n G.1 G.2.1 dX1_lay_30 rfl (lv_at hl 2 rfl) ?_
        refine lv_aload_n G.1 G.2.1 dX1_lay_31 rfl (lv_at hl 0 rfl) ?_
        obtain ⟨g7, hcg7, hf⟩ := bd_some hf
        refine g_callV0 (As := [.ref (E.1 4 p1), .ref (E.1 0 (175 * p1 + j4))]) (rest := []) G hw (gA_mono hw.2.2.2.1.1) C_1 iC_1 mv_X1_47 (c_Ly_rank l D X E n p1 (175 * p1 + j4) hv_p1 (v_0 hv_p1 hj4) g6 g7 hcg7) hl.1 rfl rfl (Nat.le_of_ble_eq_true rfl) (Nat.le_of_ble_eq_true rfl) (Nat.le_of_ble_eq_true rfl) ⟨Nat.le_refl _, Nat.le_refl _⟩ dX1_lay_32 (fun H locs hw => ?_)
        refine lv_aload_n G.1 G.2.1 dX1_lay_35 rfl (lv_at hl 1 rfl) ?_
        refine lv_aload_n G.1 G.2.1 dX1_lay_36 rfl (lv_at hl 2 rfl) ?_
        refine lv_aload_n G.1 G.2.1 dX1_lay_37 rfl (lv_at hl 0 rfl) ?_
        obtain ⟨g8, hcg8, hf⟩ := bd_some hf
        refine g_callV0 (As := [.ref (E.1 4 p1), .ref (E.1 0 (175 * p1 + j4))]) (rest := []) G hw (gA_mono hw.2.2.2.1.1) C_1 iC_1 mv_X1_50 (c_Ly_beginAll l D X E n p1 (175 * p1 + j4) hv_p1 (v_0 hv_p1 hj4) g7 g8 hcg8) hl.1 rfl rfl (Nat.le_of_ble_eq_true rfl) (Nat.le_of_ble_eq_true rfl) (Nat.le_of_ble_eq_true rfl) ⟨Nat.le_refl _, Nat.le_refl _⟩ dX1_lay_38 (fun H locs hw => ?_)
        refine lv_aload_n G.1 G.2.1 dX1_lay_41 rfl (lv_at hl 1 rfl) ?_
        refine lv_aload_n G.1 G.2.1 dX1_lay_42 rfl (lv_at hl 2 rfl) ?_
        refine lv_aload_n G.1 G.2.1 dX1_lay_43 rfl (lv_at hl 0 rfl) ?_
        obtain ⟨g9, hcg9, hf⟩ := bd_some hf
        refine g_callV0 (As := [.ref (E.1 4 p1), .ref (E.1 0 (175 * p1 + j4))]) (rest := []) G hw (gA_mono hw.2.2.2.1.1) C_1 iC_1 mv_X1_53 (c_Ly_noteUses l D X E n p1 (175 * p1 + j4) hv_p1 (v_0 hv_p1 hj4) g8 g9 hcg9) hl.1 rfl rfl (Nat.le_of_ble_eq_true rfl) (Nat.le_of_ble_eq_true rfl) (Nat.le_of_ble_eq_true rfl) ⟨Nat.le_refl _, Nat.le_refl _⟩ dX1_lay_44 (fun H locs hw => ?_)
        refine lv_aload_n G.1 G.2.1 dX1_lay_47 rfl (lv_at hl 1 rfl) ?_
        refine lv_aload_n G.1 G.2.1 dX1_lay_48 rfl (lv_at hl 2 rfl) ?_
        refine lv_aload_n G.1 G.2.1 dX1_lay_49 rfl (lv_at hl 0 rfl) ?_
        obtain ⟨g10, hcg10, hf⟩ := bd_some hf
        refine g_callV0 (As := [.ref (E.1 4 p1), .ref (E.1 0 (175 * p1 + j4))]) (rest := []) G hw (gA_mono hw.2.2.2.1.1) C_1 iC_1 mv_X1_56 (c_Ly_bindRegisters l D X E n p1 (175 * p1 + j4) hv_p1 (v_0 hv_p1 hj4) g9 g10 hcg10) hl.1 rfl rfl (Nat.le_of_ble_eq_true rfl) (Nat.le_of_ble_eq_true rfl) (Nat.le_of_ble_eq_true rfl) ⟨Nat.le_refl _, Nat.le_refl _⟩ dX1_lay_50 (fun H locs hw => ?_)
        refine lv_iinc (v := x2 + 1) (lv' := [(2, .int (x2 + 1)), (3, .ref (E.1 0 (175 * p1 + j4))), (0, .ref (E.1 1 0)), (1, .ref (E.1 4 p1))]) G.1 G.2.1 dX1_lay_53 hl (k := 3) rfl rfl (by decide) rfl (fun ls hl => ?_)
        refine lv_goto (tgt := 2) G.1 G.2.1 dX1_lay_56 (by decide) ?_
        exact ih1 (x2 + 1) g10 _ _ _ ls hf hw (lv_sub hl [2, 3, 0] rfl) hk1_0
  obtain ⟨r11, hr11, hf⟩ := bd_some hf
  refine hL2 n (0 : Int32) g r11 _ _ ls hr11 hw (lv_sub hl [1, 2, 0] rfl) ?_
  intro H locs ls hw hl
  exact g_vretW G hr hk hf hw dX1_lay_59
