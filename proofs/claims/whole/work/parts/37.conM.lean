/-! contracts (printed by program) -/
set_option maxHeartbeats 4000000 in
set_option maxRecDepth 100000 in
theorem c_M_thrown (l : Launch) (D : va_G) (X : va_W) (E : gE) (n : Nat) (g : Mem) (r : Int32) (hf : M_thrown n g = some r) : gMet l yX11_thrown cX11_thrown 1 (some .int) 0 0 D X idsM E [.ref (E.1 10 0)] g (some (.int r)) g := by
  rw [M_thrown] at hf
  refine gt_code (by decide) (Nat.le_of_ble_eq_true rfl) (fun p en s m below meth c ls G hr hk hw hl => ?_)
  have hl : lv_has ls 1 [(0, .ref (E.1 10 0))] := hl
  refine lv_aload_n G.1 G.2.1 dX11_thrown_0 rfl (lv_at hl 0 rfl) ?_
  refine g_getI G hw C_10 iM_10 0 rfl fl_X11_117 dX11_thrown_1 ?_
  exact g_iretR G hr hk hf hw dX11_thrown_4

set_option maxHeartbeats 4000000 in
set_option maxRecDepth 100000 in
theorem c_M_feed (l : Launch) (D : va_G) (X : va_W) (E : gE) (n : Nat) (a1 : Int32) (a2 : Int64) (g : Mem) (r : Int32) (g' : Mem) (hf : M_feed n a1 a2 g = some (r, g')) : gMet l yX11_feed cX11_feed 5 (some .int) 0 0 D X idsM E [.ref (E.1 10 0), .int a1, .long a2] g (some (.int r)) g' := by
  rw [M_feed] at hf
  refine gt_code (by decide) (Nat.le_of_ble_eq_true rfl) (fun p en s m below meth c ls G hr hk hw hl => ?_)
  have hl : lv_has ls 5 [(0, .ref (E.1 10 0)), (1, .int a1), (2, .long a2)] := hl
  refine lv_aload_n G.1 G.2.1 dX11_feed_0 rfl (lv_at hl 0 rfl) ?_
  refine lv_iload_n G.1 G.2.1 dX11_feed_1 rfl (lv_at hl 1 rfl) ?_
  refine lv_iconst (v := (1 : Int32)) G.1 G.2.1 dX11_feed_2 (by decide) ?_
  obtain ⟨j2, ej2, hf⟩ := lt9_some hf
  have hj2 : ∀ (v3 : Int32) (H : Heap) (locs : List Loc) (ls : Array Slot), j2 v3 = some (r, g') → GW D X idsM E (gA X idsM E s.heap.size) s g H locs → lv_has ls 5 [(0, .ref (E.1 10 0)), (1, .int a1), (2, .long a2)] → W p l en { frames := 0, cells := 0, slots := 0, locals := 0 } s m [.ref (E.1 10 0), .int a1, .long a2].toArray below meth c H locs 0 0 (MQ below (gQ (some (.int r)) (GP D X idsM E g') (gA X idsM E s.heap.size)) [.ref (E.1 10 0), .int a1, .long a2].toArray s 0 0 (gA X idsM E s.heap.size)) (F0 m 17 ls [.int v3, .ref (E.1 10 0)]) := by
    intro v3 H locs ls hf hw hl
    rw [ej2] at hf
    dsimp only at hf
    obtain ⟨g4, eg4, hf⟩ := lt9_some hf
    refine g_putI G hw C_10 iM_10 0 rfl fl_X11_117 rfl rfl rfl dX11_feed_17 (fun H locs hw => ?_)
    rw [← eg4] at hw
    refine lv_aload_n G.1 G.2.1 dX11_feed_20 rfl (lv_at hl 0 rfl) ?_
    refine g_getI G hw C_10 iM_10 0 rfl fl_X11_117 dX11_feed_21 ?_
    refine lv_if_le (tgt := 29) G.1 G.2.1 dX11_feed_24 (by decide) (fun hc24 => ?_) (fun hc24 => ?_)
    · rw [if_pos hc24] at hf
      refine lv_aload_n G.1 G.2.1 dX11_feed_29 rfl (lv_at hl 0 rfl) ?_
      refine g_getI G hw C_10 iM_10 2 rfl fl_X11_120 dX11_feed_30 ?_
      refine lv_iload_n G.1 G.2.1 dX11_feed_33 rfl (lv_at hl 1 rfl) ?_
      refine lv_iadd G.1 G.2.1 dX11_feed_34 ?_
      refine lv_sipush (v := (700 : Int32)) G.1 G.2.1 dX11_feed_35 (by decide) ?_
      refine lv_icmp_le (tgt := 43) G.1 G.2.1 dX11_feed_38 (by decide) (fun hc38 => ?_) (fun hc38 => ?_)
      · rw [if_pos hc38] at hf
        refine lv_iconst (v := (0 : Int32)) G.1 G.2.1 dX11_feed_43 (by decide) ?_
        refine lv_istore (lv' := [(4, .int (0 : Int32)), (0, .ref (E.1 10 0)), (1, .int a1), (2, .long a2)]) G.1 G.2.1 dX11_feed_44 hl (by decide) rfl (fun ls hl => ?_)
        have hL46 : ∀ (k5 : Nat) (x6 : Int32) (g7 : Mem) (res5 : Mem) (H : Heap) (locs : List Loc) (ls : Array Slot), M_feed_L46 n a1 a2 k5 x6 g7 = some res5 → GW D X idsM E (gA X idsM E s.heap.size) s g7 H locs → lv_has ls 5 [(0, .ref (E.1 10 0)), (1, .int a1), (2, .long a2), (4, .int x6)] → (∀ (H : Heap) (locs : List Loc) (ls : Array Slot), GW D X idsM E (gA X idsM E s.heap.size) s res5 H locs → lv_has ls 5 [(0, .ref (E.1 10 0))] → W p l en { frames := 0, cells := 0, slots := 0, locals := 0 } s m [.ref (E.1 10 0), .int a1, .long a2].toArray below meth c H locs 0 0 (MQ below (gQ (some (.int r)) (GP D X idsM E g') (gA X idsM E s.heap.size)) [.ref (E.1 10 0), .int a1, .long a2].toArray s 0 0 (gA X idsM E s.heap.size)) (F0 m 89 ls [])) → W p l en { frames := 0, cells := 0, slots := 0, locals := 0 } s m [.ref (E.1 10 0), .int a1, .long a2].toArray below meth c H locs 0 0 (MQ below (gQ (some (.int r)) (GP D X idsM E g') (gA X idsM E s.heap.size)) [.ref (E.1 10 0), .int a1, .long a2].toArray s 0 0 (gA X idsM E s.heap.size)) (F0 m 46 ls []) := by
          intro k5
          induction k5 with
          | zero => intro x6 g7 res5 H locs ls hf; rw [M_feed_L46] at hf; cases hf
          | succ k5 ih5 =>
            intro x6 g7 res5 H locs ls hf hw hl hk5_0
            rw [M_feed_L46] at hf
            refine lv_iload G.1 G.2.1 dX11_feed_46 (lv_at hl 3 rfl) ?_
            refine lv_iload_n G.1 G.2.1 dX11_feed_48 rfl (lv_at hl 1 rfl) ?_
            refine lv_icmp_ge (tgt := 89) G.1 G.2.1 dX11_feed_49 (by decide) (fun hc49 => ?_) (fun hc49 => ?_)
            · rw [if_pos hc49] at hf
              obtain rfl := Option.some.inj hf
              exact hk5_0 _ _ ls hw (lv_sub hl [0] rfl)
            · rw [if_neg hc49] at hf
              refine lv_aload_n G.1 G.2.1 dX11_feed_52 rfl (lv_at hl 0 rfl) ?_
              refine g_getC G hw C_10 iM_10 1 101 rfl (by decide) rfl fl_X11_7 dX11_feed_53 ?_
              refine lv_aload_n G.1 G.2.1 dX11_feed_56 rfl (lv_at hl 0 rfl) ?_
              refine g_getI G hw C_10 iM_10 2 rfl fl_X11_120 dX11_feed_57 ?_
              refine lv_lload_n G.1 G.2.1 dX11_feed_60 rfl (lv_at hl 2 rfl) ?_
              refine lv_bipush (v := (8 : Int32)) G.1 G.2.1 dX11_feed_61 (by decide) ?_
              refine lv_iload G.1 G.2.1 dX11_feed_63 (lv_at hl 3 rfl) ?_
              refine lv_imul G.1 G.2.1 dX11_feed_65 ?_
              refine lv_lshr G.1 G.2.1 dX11_feed_66 rfl ?_
              refine lv_ldc2 (v := (255 : Int64)) G.1 G.2.1 G.2.2.2.1 (G.2.2.2.2 _ cl_X11_123) dX11_feed_67 ?_
              refine lv_land G.1 G.2.1 dX11_feed_70 ?_
              refine lv_l2i G.1 G.2.1 dX11_feed_71 rfl ?_
              obtain ⟨j8, hj8, hf⟩ := bd_some hf
              obtain ⟨g9, eg9, hf⟩ := lt9_some hf
              refine g_iast G hw iM_101 (by decide) rfl hj8 dX11_feed_72 (fun H locs hw => ?_)
              rw [← eg9] at hw
              refine lv_aload_n G.1 G.2.1 dX11_feed_73 rfl (lv_at hl 0 rfl) ?_
              refine lv_dup G.1 G.2.1 dX11_feed_74 rfl ?_
              refine g_getI G hw C_10 iM_10 2 rfl fl_X11_120 dX11_feed_75 ?_
              refine lv_iconst (v := (1 : Int32)) G.1 G.2.1 dX11_feed_78 (by decide) ?_
              refine lv_iadd G.1 G.2.1 dX11_feed_79 ?_
              obtain ⟨g10, eg10, hf⟩ := lt9_some hf
              refine g_putI G hw C_10 iM_10 2 rfl fl_X11_120 rfl rfl rfl dX11_feed_80 (fun H locs hw => ?_)
              rw [← eg10] at hw
              refine lv_iinc (v := x6 + 1) (lv' := [(4, .int (x6 + 1)), (0, .ref (E.1 10 0)), (1, .int a1), (2, .long a2)]) G.1 G.2.1 dX11_feed_83 hl (k := 3) rfl rfl (by decide) rfl (fun ls hl => ?_)
              refine lv_goto (tgt := 46) G.1 G.2.1 dX11_feed_86 (by decide) ?_
              exact ih5 (x6 + 1) g10 _ _ _ ls hf hw (lv_sub hl [1, 2, 3, 0] rfl) hk5_0
        obtain ⟨r11, hr11, hf⟩ := bd_some hf
        refine hL46 n (0 : Int32) g4 r11 _ _ ls hr11 hw (lv_sub hl [1, 2, 3, 0] rfl) ?_
        intro H locs ls hw hl
        refine lv_aload_n G.1 G.2.1 dX11_feed_89 rfl (lv_at hl 0 rfl) ?_
        refine g_getI G hw C_10 iM_10 2 rfl fl_X11_120 dX11_feed_90 ?_
        exact g_iretW G hr hk hf hw dX11_feed_93
      · rw [if_neg hc38] at hf
        refine lv_iconst (v := (-1 : Int32)) G.1 G.2.1 dX11_feed_41 (by decide) ?_
        exact g_iretW G hr hk hf hw dX11_feed_42
    · rw [if_neg hc24] at hf
      refine lv_iconst (v := (0 : Int32)) G.1 G.2.1 dX11_feed_27 (by decide) ?_
      exact g_iretW G hr hk hf hw dX11_feed_28
  obtain ⟨j1, ej1, hf⟩ := lt9_some hf
  have hj1 : ∀ (_u : Unit) (H : Heap) (locs : List Loc) (ls : Array Slot), j1 _u = some (r, g') → GW D X idsM E (gA X idsM E s.heap.size) s g H locs → lv_has ls 5 [(0, .ref (E.1 10 0)), (1, .int a1), (2, .long a2)] → W p l en { frames := 0, cells := 0, slots := 0, locals := 0 } s m [.ref (E.1 10 0), .int a1, .long a2].toArray below meth c H locs 0 0 (MQ below (gQ (some (.int r)) (GP D X idsM E g') (gA X idsM E s.heap.size)) [.ref (E.1 10 0), .int a1, .long a2].toArray s 0 0 (gA X idsM E s.heap.size)) (F0 m 12 ls [.ref (E.1 10 0)]) := by
    intro _u H locs ls hf hw hl
    rw [ej1] at hf
    dsimp only at hf
    refine lv_iconst (v := (1 : Int32)) G.1 G.2.1 dX11_feed_12 (by decide) ?_
    refine lv_goto (tgt := 17) G.1 G.2.1 dX11_feed_13 (by decide) ?_
    exact hj2 (1 : Int32) _ _ ls hf hw (lv_sub hl [0, 1, 2] rfl)
  refine lv_icmp_lt (tgt := 12) G.1 G.2.1 dX11_feed_3 (by decide) (fun hc3 => ?_) (fun hc3 => ?_)
  · rw [if_pos hc3] at hf
    exact hj1 () _ _ ls hf hw (lv_sub hl [0, 1, 2] rfl)
  · rw [if_neg hc3] at hf
    refine lv_iload_n G.1 G.2.1 dX11_feed_6 rfl (lv_at hl 1 rfl) ?_
    refine lv_bipush (v := (8 : Int32)) G.1 G.2.1 dX11_feed_7 (by decide) ?_
    refine lv_icmp_le (tgt := 16) G.1 G.2.1 dX11_feed_9 (by decide) (fun hc9 => ?_) (fun hc9 => ?_)
    · rw [if_pos hc9] at hf
      refine lv_iconst (v := (0 : Int32)) G.1 G.2.1 dX11_feed_16 (by decide) ?_
      exact hj2 (0 : Int32) _ _ ls hf hw (lv_sub hl [0, 1, 2] rfl)
    · rw [if_neg hc9] at hf
      exact hj1 () _ _ ls hf hw (lv_sub hl [0, 1, 2] rfl)

set_option maxHeartbeats 4000000 in
set_option maxRecDepth 100000 in
theorem c_M_wipe (l : Launch) (D : va_G) (X : va_W) (E : gE) (n : Nat) (g : Mem) (r : Int32) (g' : Mem) (hf : M_wipe n g = some (r, g')) : gMet l yX11_wipe cX11_wipe 2 (some .int) 0 0 D X idsM E [.ref (E.1 10 0)] g (some (.int r)) g' := by
  rw [M_wipe] at hf
  refine gt_code (by decide) (Nat.le_of_ble_eq_true rfl) (fun p en s m below meth c ls G hr hk hw hl => ?_)
  have hl : lv_has ls 2 [(0, .ref (E.1 10 0))] := hl
  refine lv_aload_n G.1 G.2.1 dX11_wipe_0 rfl (lv_at hl 0 rfl) ?_
  refine lv_iconst (v := (0 : Int32)) G.1 G.2.1 dX11_wipe_1 (by decide) ?_
  obtain ⟨g1, eg1, hf⟩ := lt9_some hf
  refine g_putI G hw C_10 iM_10 0 rfl fl_X11_117 rfl rfl rfl dX11_wipe_2 (fun H locs hw => ?_)
  rw [← eg1] at hw
  refine lv_aload_n G.1 G.2.1 dX11_wipe_5 rfl (lv_at hl 0 rfl) ?_
  refine g_getI G hw C_10 iM_10 2 rfl fl_X11_120 dX11_wipe_6 ?_
  refine lv_istore_n (lv' := [(1, .int (gI g1 10 0 2)), (0, .ref (E.1 10 0))]) G.1 G.2.1 dX11_wipe_9 rfl hl (by decide) rfl (fun ls hl => ?_)
  refine lv_aload_n G.1 G.2.1 dX11_wipe_10 rfl (lv_at hl 1 rfl) ?_
  refine lv_iconst (v := (0 : Int32)) G.1 G.2.1 dX11_wipe_11 (by decide) ?_
  obtain ⟨g2, eg2, hf⟩ := lt9_some hf
  refine g_putI G hw C_10 iM_10 2 rfl fl_X11_120 rfl rfl rfl dX11_wipe_12 (fun H locs hw => ?_)
  rw [← eg2] at hw
  refine lv_iload_n G.1 G.2.1 dX11_wipe_15 rfl (lv_at hl 0 rfl) ?_
  exact g_iretW G hr hk hf hw dX11_wipe_16

set_option maxHeartbeats 4000000 in
set_option maxRecDepth 100000 in
theorem c_M_fail (l : Launch) (D : va_G) (X : va_W) (E : gE) (n : Nat) (a1 : Int32) (a2 : Int32) (g : Mem) (g' : Mem) (hf : M_fail n a1 a2 g = some g') : gMet l yX11_fail cX11_fail 3 none 0 0 D X idsM E [.ref (E.1 10 0), .int a1, .int a2] g none g' := by
  rw [M_fail] at hf
  refine gt_code (by decide) (Nat.le_of_ble_eq_true rfl) (fun p en s m below meth c ls G hr hk hw hl => ?_)
  have hl : lv_has ls 3 [(0, .ref (E.1 10 0)), (1, .int a1), (2, .int a2)] := hl
  refine lv_aload_n G.1 G.2.1 dX11_fail_0 rfl (lv_at hl 0 rfl) ?_
  refine g_getI G hw C_10 iM_10 3 rfl fl_X11_125 dX11_fail_1 ?_
  refine lv_if_ne (tgt := 17) G.1 G.2.1 dX11_fail_4 (by decide) (fun hc4 => ?_) (fun hc4 => ?_)
  · rw [if_neg hc4] at hf
    exact g_vretW G hr hk hf hw dX11_fail_17
  · rw [if_pos hc4] at hf
    refine lv_aload_n G.1 G.2.1 dX11_fail_7 rfl (lv_at hl 0 rfl) ?_
    refine lv_iload_n G.1 G.2.1 dX11_fail_8 rfl (lv_at hl 1 rfl) ?_
    obtain ⟨g1, eg1, hf⟩ := lt9_some hf
    refine g_putI G hw C_10 iM_10 3 rfl fl_X11_125 rfl rfl rfl dX11_fail_9 (fun H locs hw => ?_)
    rw [← eg1] at hw
    refine lv_aload_n G.1 G.2.1 dX11_fail_12 rfl (lv_at hl 0 rfl) ?_
    refine lv_iload_n G.1 G.2.1 dX11_fail_13 rfl (lv_at hl 2 rfl) ?_
    obtain ⟨g2, eg2, hf⟩ := lt9_some hf
    refine g_putI G hw C_10 iM_10 4 rfl fl_X11_13 rfl rfl rfl dX11_fail_14 (fun H locs hw => ?_)
    rw [← eg2] at hw
    exact g_vretW G hr hk hf hw dX11_fail_17

set_option maxHeartbeats 4000000 in
set_option maxRecDepth 100000 in
theorem c_M_byteAt (l : Launch) (D : va_G) (X : va_W) (E : gE) (n : Nat) (a1 : Int32) (g : Mem) (r : Int32) (hf : M_byteAt n a1 g = some r) : gMet l yX11_byteAt cX11_byteAt 2 (some .int) 0 0 D X idsM E [.ref (E.1 10 0), .int a1] g (some (.int r)) g := by
  rw [M_byteAt] at hf
  refine gt_code (by decide) (Nat.le_of_ble_eq_true rfl) (fun p en s m below meth c ls G hr hk hw hl => ?_)
  have hl : lv_has ls 2 [(0, .ref (E.1 10 0)), (1, .int a1)] := hl
  refine lv_iload_n G.1 G.2.1 dX11_byteAt_0 rfl (lv_at hl 1 rfl) ?_
  refine lv_aload_n G.1 G.2.1 dX11_byteAt_1 rfl (lv_at hl 0 rfl) ?_
  refine g_getI G hw C_10 iM_10 2 rfl fl_X11_120 dX11_byteAt_2 ?_
  refine lv_icmp_ge (tgt := 17) G.1 G.2.1 dX11_byteAt_5 (by decide) (fun hc5 => ?_) (fun hc5 => ?_)
  · rw [if_pos hc5] at hf
    refine lv_iconst (v := (-1 : Int32)) G.1 G.2.1 dX11_byteAt_17 (by decide) ?_
    exact g_iretR G hr hk hf hw dX11_byteAt_18
  · rw [if_neg hc5] at hf
    refine lv_aload_n G.1 G.2.1 dX11_byteAt_8 rfl (lv_at hl 0 rfl) ?_
    refine g_getC G hw C_10 iM_10 1 101 rfl (by decide) rfl fl_X11_7 dX11_byteAt_9 ?_
    refine lv_iload_n G.1 G.2.1 dX11_byteAt_12 rfl (lv_at hl 1 rfl) ?_
    obtain ⟨j1, hj1, hf⟩ := bd_some hf
    refine g_iald G hw iM_101 (by decide) rfl hj1 dX11_byteAt_13 ?_
    refine lv_goto (tgt := 18) G.1 G.2.1 dX11_byteAt_14 (by decide) ?_
    exact g_iretR G hr hk hf hw dX11_byteAt_18

set_option maxHeartbeats 4000000 in
set_option maxRecDepth 100000 in
theorem c_M_isLetter (l : Launch) (D : va_G) (X : va_W) (E : gE) (n : Nat) (a1 : Int32) (g : Mem) (r : Int32) (hf : M_isLetter n a1 = some r) : gMet l yX11_isLetter cX11_isLetter 1 (some .boolean) 0 0 D X idsM E [.int a1] g (some (.int r)) g := by
  rw [M_isLetter] at hf
  refine gt_code (by decide) (Nat.le_of_ble_eq_true rfl) (fun p en s m below meth c ls G hr hk hw hl => ?_)
  have hl : lv_has ls 1 [(0, .int a1)] := hl
  refine lv_iload_n G.1 G.2.1 dX11_isLetter_0 rfl (lv_at hl 0 rfl) ?_
  refine lv_bipush (v := (97 : Int32)) G.1 G.2.1 dX11_isLetter_1 (by decide) ?_
  refine lv_icmp_lt (tgt := 16) G.1 G.2.1 dX11_isLetter_3 (by decide) (fun hc3 => ?_) (fun hc3 => ?_)
  · rw [if_pos hc3] at hf
    refine lv_iconst (v := (0 : Int32)) G.1 G.2.1 dX11_isLetter_16 (by decide) ?_
    exact g_zretR G hr rfl hk hf hw dX11_isLetter_17
  · rw [if_neg hc3] at hf
    refine lv_iload_n G.1 G.2.1 dX11_isLetter_6 rfl (lv_at hl 0 rfl) ?_
    refine lv_bipush (v := (122 : Int32)) G.1 G.2.1 dX11_isLetter_7 (by decide) ?_
    refine lv_icmp_gt (tgt := 16) G.1 G.2.1 dX11_isLetter_9 (by decide) (fun hc9 => ?_) (fun hc9 => ?_)
    · rw [if_pos hc9] at hf
      refine lv_iconst (v := (0 : Int32)) G.1 G.2.1 dX11_isLetter_16 (by decide) ?_
      exact g_zretR G hr rfl hk hf hw dX11_isLetter_17
    · rw [if_neg hc9] at hf
      refine lv_iconst (v := (1 : Int32)) G.1 G.2.1 dX11_isLetter_12 (by decide) ?_
      refine lv_goto (tgt := 17) G.1 G.2.1 dX11_isLetter_13 (by decide) ?_
      exact g_zretR G hr rfl hk hf hw dX11_isLetter_17

set_option maxHeartbeats 4000000 in
set_option maxRecDepth 100000 in
theorem c_M_isFigure (l : Launch) (D : va_G) (X : va_W) (E : gE) (n : Nat) (a1 : Int32) (g : Mem) (r : Int32) (hf : M_isFigure n a1 = some r) : gMet l yX11_isFigure cX11_isFigure 1 (some .boolean) 0 0 D X idsM E [.int a1] g (some (.int r)) g := by
  rw [M_isFigure] at hf
  refine gt_code (by decide) (Nat.le_of_ble_eq_true rfl) (fun p en s m below meth c ls G hr hk hw hl => ?_)
  have hl : lv_has ls 1 [(0, .int a1)] := hl
  refine lv_iload_n G.1 G.2.1 dX11_isFigure_0 rfl (lv_at hl 0 rfl) ?_
  refine lv_bipush (v := (48 : Int32)) G.1 G.2.1 dX11_isFigure_1 (by decide) ?_
  refine lv_icmp_lt (tgt := 16) G.1 G.2.1 dX11_isFigure_3 (by decide) (fun hc3 => ?_) (fun hc3 => ?_)
  · rw [if_pos hc3] at hf
    refine lv_iconst (v := (0 : Int32)) G.1 G.2.1 dX11_isFigure_16 (by decide) ?_
    exact g_zretR G hr rfl hk hf hw dX11_isFigure_17
  · rw [if_neg hc3] at hf
    refine lv_iload_n G.1 G.2.1 dX11_isFigure_6 rfl (lv_at hl 0 rfl) ?_
    refine lv_bipush (v := (57 : Int32)) G.1 G.2.1 dX11_isFigure_7 (by decide) ?_
    refine lv_icmp_gt (tgt := 16) G.1 G.2.1 dX11_isFigure_9 (by decide) (fun hc9 => ?_) (fun hc9 => ?_)
    · rw [if_pos hc9] at hf
      refine lv_iconst (v := (0 : Int32)) G.1 G.2.1 dX11_isFigure_16 (by decide) ?_
      exact g_zretR G hr rfl hk hf hw dX11_isFigure_17
    · rw [if_neg hc9] at hf
      refine lv_iconst (v := (1 : Int32)) G.1 G.2.1 dX11_isFigure_12 (by decide) ?_
      refine lv_goto (tgt := 17) G.1 G.2.1 dX11_isFigure_13 (by decide) ?_
      exact g_zretR G hr rfl hk hf hw dX11_isFigure_17

set_option maxHeartbeats 4000000 in
set_option maxRecDepth 100000 in
theorem c_M_next (l : Launch) (D : va_G) (X : va_W) (E : gE) (n : Nat) (g : Mem) (r : Int32) (g' : Mem) (hf : M_next n g = some (r, g')) : gMet l yX11_next cX11_next 1 (some .int) 1 21 D X idsM E [.ref (E.1 10 0)] g (some (.int r)) g' := by
  rw [M_next] at hf
  refine gt_code (by decide) (Nat.le_of_ble_eq_true rfl) (fun p en s m below meth c ls G hr hk hw hl => ?_)
  have hl : lv_has ls 1 [(0, .ref (E.1 10 0))] := hl
  have hL0 : ∀ (k1 : Nat) (g2 : Mem) (res1 : Mem) (H : Heap) (locs : List Loc) (ls : Array Slot), M_next_L0 n k1 g2 = some res1 → GW D X idsM E (gA X idsM E s.heap.size) s g2 H locs → lv_has ls 1 [(0, .ref (E.1 10 0))] → (∀ (H : Heap) (locs : List Loc) (ls : Array Slot), GW D X idsM E (gA X idsM E s.heap.size) s res1 H locs → lv_has ls 1 [(0, .ref (E.1 10 0))] → W p l en { frames := 1, cells := 0, slots := 0, locals := 21 } s m [.ref (E.1 10 0)].toArray below meth c H locs 0 0 (MQ below (gQ (some (.int r)) (GP D X idsM E g') (gA X idsM E s.heap.size)) [.ref (E.1 10 0)].toArray s 0 0 (gA X idsM E s.heap.size)) (F0 m 38 ls [])) → W p l en { frames := 1, cells := 0, slots := 0, locals := 21 } s m [.ref (E.1 10 0)].toArray below meth c H locs 0 0 (MQ below (gQ (some (.int r)) (GP D X idsM E g') (gA X idsM E s.heap.size)) [.ref (E.1 10 0)].toArray s 0 0 (gA X idsM E s.heap.size)) (F0 m 0 ls []) := by
    intro k1
    induction k1 with
    | zero => intro g2 res1 H locs ls hf; rw [M_next_L0] at hf; cases hf
    | succ k1 ih1 =>
      intro g2 res1 H locs ls hf hw hl hk1_0
      rw [M_next_L0] at hf
      refine lv_aload_n G.1 G.2.1 dX11_next_0 rfl (lv_at hl 0 rfl) ?_
      refine g_getI G hw C_10 iM_10 5 rfl fl_X11_128 dX11_next_1 ?_
      refine lv_aload_n G.1 G.2.1 dX11_next_4 rfl (lv_at hl 0 rfl) ?_
      refine g_getI G hw C_10 iM_10 2 rfl fl_X11_120 dX11_next_5 ?_
      refine lv_icmp_ge (tgt := 38) G.1 G.2.1 dX11_next_8 (by decide) (fun hc8 => ?_) (fun hc8 => ?_)
      · rw [if_pos hc8] at hf
        obtain rfl := Option.some.inj hf
        exact hk1_0 _ _ ls hw (lv_sub hl [0] rfl)
      · rw [if_neg hc8] at hf
        refine lv_aload_n G.1 G.2.1 dX11_next_11 rfl (lv_at hl 0 rfl) ?_
        refine g_getC G hw C_10 iM_10 1 101 rfl (by decide) rfl fl_X11_7 dX11_next_12 ?_
        refine lv_aload_n G.1 G.2.1 dX11_next_15 rfl (lv_at hl 0 rfl) ?_
        refine g_getI G hw C_10 iM_10 5 rfl fl_X11_128 dX11_next_16 ?_
        obtain ⟨j3, hj3, hf⟩ := bd_some hf
        refine g_iald G hw iM_101 (by decide) rfl hj3 dX11_next_19 ?_
        refine lv_bipush (v := (32 : Int32)) G.1 G.2.1 dX11_next_20 (by decide) ?_
        refine lv_icmp_gt (tgt := 38) G.1 G.2.1 dX11_next_22 (by decide) (fun hc22 => ?_) (fun hc22 => ?_)
        · rw [if_pos hc22] at hf
          obtain rfl := Option.some.inj hf
          exact hk1_0 _ _ ls hw (lv_sub hl [0] rfl)
        · rw [if_neg hc22] at hf
          refine lv_aload_n G.1 G.2.1 dX11_next_25 rfl (lv_at hl 0 rfl) ?_
          refine lv_dup G.1 G.2.1 dX11_next_26 rfl ?_
          refine g_getI G hw C_10 iM_10 5 rfl fl_X11_128 dX11_next_27 ?_
          refine lv_iconst (v := (1 : Int32)) G.1 G.2.1 dX11_next_30 (by decide) ?_
          refine lv_iadd G.1 G.2.1 dX11_next_31 ?_
          obtain ⟨g4, eg4, hf⟩ := lt9_some hf
          refine g_putI G hw C_10 iM_10 5 rfl fl_X11_128 rfl rfl rfl dX11_next_32 (fun H locs hw => ?_)
          rw [← eg4] at hw
          refine lv_goto (tgt := 0) G.1 G.2.1 dX11_next_35 (by decide) ?_
          exact ih1 g4 _ _ _ ls hf hw (lv_sub hl [0] rfl) hk1_0
  obtain ⟨r5, hr5, hf⟩ := bd_some hf
  refine hL0 n g r5 _ _ ls hr5 hw (lv_sub hl [0] rfl) ?_
  intro H locs ls hw hl
  refine lv_aload_n G.1 G.2.1 dX11_next_38 rfl (lv_at hl 0 rfl) ?_
  refine lv_aload_n G.1 G.2.1 dX11_next_39 rfl (lv_at hl 0 rfl) ?_
  refine g_getI G hw C_10 iM_10 5 rfl fl_X11_128 dX11_next_40 ?_
  obtain ⟨z6, hcz6, hf⟩ := bd_some hf
  refine g_callV1 (As := [.int (gI r5 10 0 5)]) (rest := []) G hw (gA_mono hw.2.2.2.1.1) C_10 iM_10 mv_X11_131 (c_M_byteAt l D X E n (gI r5 10 0 5) r5 z6 hcz6) hl.1 rfl rfl (Nat.le_of_ble_eq_true rfl) (Nat.le_of_ble_eq_true rfl) (Nat.le_of_ble_eq_true rfl) ⟨Nat.le_refl _, Nat.le_refl _⟩ dX11_next_43 (fun H locs hw => ?_)
  exact g_iretW G hr hk hf hw dX11_next_46

set_option maxHeartbeats 4000000 in
set_option maxRecDepth 100000 in
theorem c_M_want (l : Launch) (D : va_G) (X : va_W) (E : gE) (n : Nat) (a1 : Int32) (g : Mem) (g' : Mem) (hf : M_want n a1 g = some g') : gMet l yX11_want cX11_want 2 none 2 41 D X idsM E [.ref (E.1 10 0), .int a1] g none g' := by
  rw [M_want] at hf
  refine gt_code (by decide) (Nat.le_of_ble_eq_true rfl) (fun p en s m below meth c ls G hr hk hw hl => ?_)
  have hl : lv_has ls 2 [(0, .ref (E.1 10 0)), (1, .int a1)] := hl
  refine lv_aload_n G.1 G.2.1 dX11_want_0 rfl (lv_at hl 0 rfl) ?_
  refine g_getI G hw C_10 iM_10 3 rfl fl_X11_125 dX11_want_1 ?_
  refine lv_if_ne (tgt := 37) G.1 G.2.1 dX11_want_4 (by decide) (fun hc4 => ?_) (fun hc4 => ?_)
  · rw [if_neg hc4] at hf
    exact g_vretW G hr hk hf hw dX11_want_37
  · rw [if_pos hc4] at hf
    refine lv_aload_n G.1 G.2.1 dX11_want_7 rfl (lv_at hl 0 rfl) ?_
    obtain ⟨z1, hcz1, hf⟩ := bd_some hf
    refine g_callV1 (As := []) (rest := []) G hw (gA_mono hw.2.2.2.1.1) C_10 iM_10 mv_X11_135 (c_M_next l D X E n g z1.1 z1.2 hcz1) hl.1 rfl rfl (Nat.le_of_ble_eq_true rfl) (Nat.le_of_ble_eq_true rfl) (Nat.le_of_ble_eq_true rfl) ⟨Nat.le_refl _, Nat.le_refl _⟩ dX11_want_8 (fun H locs hw => ?_)
    refine lv_iload_n G.1 G.2.1 dX11_want_11 rfl (lv_at hl 1 rfl) ?_
    refine lv_icmp_ne (tgt := 28) G.1 G.2.1 dX11_want_12 (by decide) (fun hc12 => ?_) (fun hc12 => ?_)
    · rw [if_neg hc12] at hf
      refine lv_aload_n G.1 G.2.1 dX11_want_28 rfl (lv_at hl 0 rfl) ?_
      refine lv_iconst (v := (1 : Int32)) G.1 G.2.1 dX11_want_29 (by decide) ?_
      refine lv_aload_n G.1 G.2.1 dX11_want_30 rfl (lv_at hl 0 rfl) ?_
      refine g_getI G hw C_10 iM_10 5 rfl fl_X11_128 dX11_want_31 ?_
      obtain ⟨g2, hcg2, hf⟩ := bd_some hf
      refine g_callV0 (As := [.int (1 : Int32), .int (gI z1.2 10 0 5)]) (rest := []) G hw (gA_mono hw.2.2.2.1.1) C_10 iM_10 mv_X11_139 (c_M_fail l D X E n (1 : Int32) (gI z1.2 10 0 5) z1.2 g2 hcg2) hl.1 rfl rfl (Nat.le_of_ble_eq_true rfl) (Nat.le_of_ble_eq_true rfl) (Nat.le_of_ble_eq_true rfl) ⟨Nat.le_refl _, Nat.le_refl _⟩ dX11_want_34 (fun H locs hw => ?_)
      exact g_vretW G hr hk hf hw dX11_want_37
    · rw [if_pos hc12] at hf
      refine lv_aload_n G.1 G.2.1 dX11_want_15 rfl (lv_at hl 0 rfl) ?_
      refine lv_dup G.1 G.2.1 dX11_want_16 rfl ?_
      refine g_getI G hw C_10 iM_10 5 rfl fl_X11_128 dX11_want_17 ?_
      refine lv_iconst (v := (1 : Int32)) G.1 G.2.1 dX11_want_20 (by decide) ?_
      refine lv_iadd G.1 G.2.1 dX11_want_21 ?_
      obtain ⟨g3, eg3, hf⟩ := lt9_some hf
      refine g_putI G hw C_10 iM_10 5 rfl fl_X11_128 rfl rfl rfl dX11_want_22 (fun H locs hw => ?_)
      rw [← eg3] at hw
      refine lv_goto (tgt := 37) G.1 G.2.1 dX11_want_25 (by decide) ?_
      exact g_vretW G hr hk hf hw dX11_want_37

set_option maxHeartbeats 4000000 in
set_option maxRecDepth 100000 in
theorem c_M_wordSize (l : Launch) (D : va_G) (X : va_W) (E : gE) (n : Nat) (a1 : Int32) (g : Mem) (r : Int32) (hf : M_wordSize n a1 g = some r) : gMet l yX11_wordSize cX11_wordSize 3 (some .int) 1 21 D X idsM E [.ref (E.1 10 0), .int a1] g (some (.int r)) g := by
  rw [M_wordSize] at hf
  refine gt_code (by decide) (Nat.le_of_ble_eq_true rfl) (fun p en s m below meth c ls G hr hk hw hl => ?_)
  have hl : lv_has ls 3 [(0, .ref (E.1 10 0)), (1, .int a1)] := hl
  refine lv_iconst (v := (0 : Int32)) G.1 G.2.1 dX11_wordSize_0 (by decide) ?_
  refine lv_istore_n (lv' := [(2, .int (0 : Int32)), (0, .ref (E.1 10 0)), (1, .int a1)]) G.1 G.2.1 dX11_wordSize_1 rfl hl (by decide) rfl (fun ls hl => ?_)
  have hL2 : ∀ (k1 : Nat) (x2 : Int32) (res1 : Int32) (H : Heap) (locs : List Loc) (ls : Array Slot), M_wordSize_L2 n a1 g k1 x2 = some res1 → GW D X idsM E (gA X idsM E s.heap.size) s g H locs → lv_has ls 3 [(0, .ref (E.1 10 0)), (1, .int a1), (2, .int x2)] → (∀ (H : Heap) (locs : List Loc) (ls : Array Slot), GW D X idsM E (gA X idsM E s.heap.size) s g H locs → lv_has ls 3 [(2, .int res1)] → W p l en { frames := 1, cells := 0, slots := 0, locals := 21 } s m [.ref (E.1 10 0), .int a1].toArray below meth c H locs 0 0 (MQ below (gQ (some (.int r)) (GP D X idsM E g) (gA X idsM E s.heap.size)) [.ref (E.1 10 0), .int a1].toArray s 0 0 (gA X idsM E s.heap.size)) (F0 m 21 ls [])) → W p l en { frames := 1, cells := 0, slots := 0, locals := 21 } s m [.ref (E.1 10 0), .int a1].toArray below meth c H locs 0 0 (MQ below (gQ (some (.int r)) (GP D X idsM E g) (gA X idsM E s.heap.size)) [.ref (E.1 10 0), .int a1].toArray s 0 0 (gA X idsM E s.heap.size)) (F0 m 2 ls []) := by
    intro k1
    induction k1 with
    | zero => intro x2 res1 H locs ls hf; rw [M_wordSize_L2] at hf; cases hf
    | succ k1 ih1 =>
      intro x2 res1 H locs ls hf hw hl hk1_0
      rw [M_wordSize_L2] at hf
      refine lv_aload_n G.1 G.2.1 dX11_wordSize_2 rfl (lv_at hl 0 rfl) ?_
      refine lv_iload_n G.1 G.2.1 dX11_wordSize_3 rfl (lv_at hl 1 rfl) ?_
      refine lv_iload_n G.1 G.2.1 dX11_wordSize_4 rfl (lv_at hl 2 rfl) ?_
      refine lv_iadd G.1 G.2.1 dX11_wordSize_5 ?_
      obtain ⟨z3, hcz3, hf⟩ := bd_some hf
      refine g_callV1 (As := [.int (a1 + x2)]) (rest := []) G hw (gA_mono hw.2.2.2.1.1) C_10 iM_10 mv_X11_131 (c_M_byteAt l D X E n (a1 + x2) g z3 hcz3) hl.1 rfl rfl (Nat.le_of_ble_eq_true rfl) (Nat.le_of_ble_eq_true rfl) (Nat.le_of_ble_eq_true rfl) ⟨Nat.le_refl _, Nat.le_refl _⟩ dX11_wordSize_6 (fun H locs hw => ?_)
      obtain ⟨z4, hcz4, hf⟩ := bd_some hf
      refine g_callS1 (As := [.int z3]) (rest := []) G hw (gA_mono hw.2.2.2.1.1)  ms_X11_143 (c_M_isLetter l D X E n z3 g z4 hcz4) hl.1 rfl rfl (Nat.le_of_ble_eq_true rfl) (Nat.le_of_ble_eq_true rfl) (Nat.le_of_ble_eq_true rfl) ⟨Nat.le_refl _, Nat.le_refl _⟩ dX11_wordSize_9 (fun H locs hw => ?_)
      refine lv_if_eq (tgt := 21) G.1 G.2.1 dX11_wordSize_12 (by decide) (fun hc12 => ?_) (fun hc12 => ?_)
      · rw [if_pos hc12] at hf
        obtain rfl := Option.some.inj hf
        exact hk1_0 _ _ ls hw (lv_sub hl [2] rfl)
      · rw [if_neg hc12] at hf
        refine lv_iinc (v := x2 + 1) (lv' := [(2, .int (x2 + 1)), (0, .ref (E.1 10 0)), (1, .int a1)]) G.1 G.2.1 dX11_wordSize_15 hl (k := 2) rfl rfl (by decide) rfl (fun ls hl => ?_)
        refine lv_goto (tgt := 2) G.1 G.2.1 dX11_wordSize_18 (by decide) ?_
        exact ih1 (x2 + 1) _ _ _ ls hf hw (lv_sub hl [1, 2, 0] rfl) hk1_0
  obtain ⟨r5, hr5, hf⟩ := bd_some hf
  refine hL2 n (0 : Int32) r5 _ _ ls hr5 hw (lv_sub hl [1, 2, 0] rfl) ?_
  intro H locs ls hw hl
  refine lv_iload_n G.1 G.2.1 dX11_wordSize_21 rfl (lv_at hl 0 rfl) ?_
  exact g_iretR G hr hk hf hw dX11_wordSize_22

set_option maxHeartbeats 4000000 in
set_option maxRecDepth 100000 in
theorem c_M_word (l : Launch) (D : va_G) (X : va_W) (E : gE) (n : Nat) (g : Mem) (r : Int32) (g' : Mem) (hf : M_word n g = some (r, g')) : gMet l yX11_word cX11_word 8 (some .int) 2 43 D X idsM E [.ref (E.1 10 0)] g (some (.int r)) g' := by
  rw [M_word] at hf
  refine gt_code (by decide) (Nat.le_of_ble_eq_true rfl) (fun p en s m below meth c ls G hr hk hw hl => ?_)
  have hl : lv_has ls 8 [(0, .ref (E.1 10 0))] := hl
  refine lv_aload_n G.1 G.2.1 dX11_word_0 rfl (lv_at hl 0 rfl) ?_
  obtain ⟨z1, hcz1, hf⟩ := bd_some hf
  refine g_callV1 (As := []) (rest := []) G hw (gA_mono hw.2.2.2.1.1) C_10 iM_10 mv_X11_135 (c_M_next l D X E n g z1.1 z1.2 hcz1) hl.1 rfl rfl (Nat.le_of_ble_eq_true rfl) (Nat.le_of_ble_eq_true rfl) (Nat.le_of_ble_eq_true rfl) ⟨Nat.le_refl _, Nat.le_refl _⟩ dX11_word_1 (fun H locs hw => ?_)
  refine lv_istore_n (lv' := [(1, .int z1.1), (0, .ref (E.1 10 0))]) G.1 G.2.1 dX11_word_4 rfl hl (by decide) rfl (fun ls hl => ?_)
  refine lv_aload_n G.1 G.2.1 dX11_word_5 rfl (lv_at hl 1 rfl) ?_
  refine lv_aload_n G.1 G.2.1 dX11_word_6 rfl (lv_at hl 1 rfl) ?_
  refine g_getI G hw C_10 iM_10 5 rfl fl_X11_128 dX11_word_7 ?_
  obtain ⟨z2, hcz2, hf⟩ := bd_some hf
  refine g_callV1 (As := [.int (gI z1.2 10 0 5)]) (rest := []) G hw (gA_mono hw.2.2.2.1.1) C_10 iM_10 mv_X11_147 (c_M_wordSize l D X E n (gI z1.2 10 0 5) z1.2 z2 hcz2) hl.1 rfl rfl (Nat.le_of_ble_eq_true rfl) (Nat.le_of_ble_eq_true rfl) (Nat.le_of_ble_eq_true rfl) ⟨Nat.le_refl _, Nat.le_refl _⟩ dX11_word_10 (fun H locs hw => ?_)
  refine lv_istore_n (lv' := [(2, .int z2), (1, .int z1.1), (0, .ref (E.1 10 0))]) G.1 G.2.1 dX11_word_13 rfl hl (by decide) rfl (fun ls hl => ?_)
  refine lv_lconst (v := (0 : Int64)) G.1 G.2.1 dX11_word_14 (by decide) ?_
  refine lv_lstore_n (lv' := [(3, .long (0 : Int64)), (2, .int z2), (1, .int z1.1), (0, .ref (E.1 10 0))]) G.1 G.2.1 dX11_word_15 rfl hl (by decide) rfl (fun ls hl => ?_)
  refine lv_iconst (v := (0 : Int32)) G.1 G.2.1 dX11_word_16 (by decide) ?_
  refine lv_istore (lv' := [(5, .int (0 : Int32)), (3, .long (0 : Int64)), (2, .int z2), (1, .int z1.1), (0, .ref (E.1 10 0))]) G.1 G.2.1 dX11_word_17 hl (by decide) rfl (fun ls hl => ?_)
  have hL19 : ∀ (k3 : Nat) (x4 : Int64) (x5 : Int32) (res3 : Int64) (H : Heap) (locs : List Loc) (ls : Array Slot), M_word_L19 n z1 z2 k3 x4 x5 = some res3 → GW D X idsM E (gA X idsM E s.heap.size) s z1.2 H locs → lv_has ls 8 [(0, .ref (E.1 10 0)), (1, .int z1.1), (2, .int z2), (3, .long x4), (5, .int x5)] → (∀ (H : Heap) (locs : List Loc) (ls : Array Slot), GW D X idsM E (gA X idsM E s.heap.size) s z1.2 H locs → lv_has ls 8 [(1, .int z1.1), (2, .int z2), (3, .long res3)] → W p l en { frames := 2, cells := 0, slots := 0, locals := 43 } s m [.ref (E.1 10 0)].toArray below meth c H locs 0 0 (MQ below (gQ (some (.int r)) (GP D X idsM E g') (gA X idsM E s.heap.size)) [.ref (E.1 10 0)].toArray s 0 0 (gA X idsM E s.heap.size)) (F0 m 56 ls [])) → W p l en { frames := 2, cells := 0, slots := 0, locals := 43 } s m [.ref (E.1 10 0)].toArray below meth c H locs 0 0 (MQ below (gQ (some (.int r)) (GP D X idsM E g') (gA X idsM E s.heap.size)) [.ref (E.1 10 0)].toArray s 0 0 (gA X idsM E s.heap.size)) (F0 m 19 ls []) := by
    intro k3
    induction k3 with
    | zero => intro x4 x5 res3 H locs ls hf; rw [M_word_L19] at hf; cases hf
    | succ k3 ih3 =>
      intro x4 x5 res3 H locs ls hf hw hl hk3_0
      rw [M_word_L19] at hf
      refine lv_iload G.1 G.2.1 dX11_word_19 (lv_at hl 4 rfl) ?_
      refine lv_iload_n G.1 G.2.1 dX11_word_21 rfl (lv_at hl 2 rfl) ?_
      refine lv_icmp_ge (tgt := 56) G.1 G.2.1 dX11_word_22 (by decide) (fun hc22 => ?_) (fun hc22 => ?_)
      · rw [if_pos hc22] at hf
        obtain rfl := Option.some.inj hf
        exact hk3_0 _ _ ls hw (lv_sub hl [1, 2, 3] rfl)
      · rw [if_neg hc22] at hf
        refine lv_iload G.1 G.2.1 dX11_word_25 (lv_at hl 4 rfl) ?_
        refine lv_bipush (v := (6 : Int32)) G.1 G.2.1 dX11_word_27 (by decide) ?_
        refine lv_icmp_ge (tgt := 56) G.1 G.2.1 dX11_word_29 (by decide) (fun hc29 => ?_) (fun hc29 => ?_)
        · rw [if_pos hc29] at hf
          obtain rfl := Option.some.inj hf
          exact hk3_0 _ _ ls hw (lv_sub hl [1, 2, 3] rfl)
        · rw [if_neg hc29] at hf
          refine lv_lload_n G.1 G.2.1 dX11_word_32 rfl (lv_at hl 3 rfl) ?_
          refine lv_bipush (v := (8 : Int32)) G.1 G.2.1 dX11_word_33 (by decide) ?_
          refine lv_lshl G.1 G.2.1 dX11_word_35 rfl ?_
          refine lv_aload_n G.1 G.2.1 dX11_word_36 rfl (lv_at hl 0 rfl) ?_
          refine lv_aload_n G.1 G.2.1 dX11_word_37 rfl (lv_at hl 0 rfl) ?_
          refine g_getI G hw C_10 iM_10 5 rfl fl_X11_128 dX11_word_38 ?_
          refine lv_iload G.1 G.2.1 dX11_word_41 (lv_at hl 4 rfl) ?_
          refine lv_iadd G.1 G.2.1 dX11_word_43 ?_
          obtain ⟨z6, hcz6, hf⟩ := bd_some hf
          refine g_callV1 (As := [.int ((gI z1.2 10 0 5) + x5)]) (rest := [.long (x4 <<< ((8 : Int32).toInt64 &&& 63))]) G hw (gA_mono hw.2.2.2.1.1) C_10 iM_10 mv_X11_131 (c_M_byteAt l D X E n ((gI z1.2 10 0 5) + x5) z1.2 z6 hcz6) hl.1 rfl rfl (Nat.le_of_ble_eq_true rfl) (Nat.le_of_ble_eq_true rfl) (Nat.le_of_ble_eq_true rfl) ⟨Nat.le_refl _, Nat.le_refl _⟩ dX11_word_44 (fun H locs hw => ?_)
          refine lv_i2l G.1 G.2.1 dX11_word_47 rfl ?_
          refine lv_lor G.1 G.2.1 dX11_word_48 ?_
          refine lv_lstore_n (lv' := [(3, .long ((x4 <<< ((8 : Int32).toInt64 &&& 63)) ||| z6.toInt64)), (0, .ref (E.1 10 0)), (1, .int z1.1), (2, .int z2), (5, .int x5)]) G.1 G.2.1 dX11_word_49 rfl hl (by decide) rfl (fun ls hl => ?_)
          refine lv_iinc (v := x5 + 1) (lv' := [(5, .int (x5 + 1)), (3, .long ((x4 <<< ((8 : Int32).toInt64 &&& 63)) ||| z6.toInt64)), (0, .ref (E.1 10 0)), (1, .int z1.1), (2, .int z2)]) G.1 G.2.1 dX11_word_50 hl (k := 4) rfl rfl (by decide) rfl (fun ls hl => ?_)
          refine lv_goto (tgt := 19) G.1 G.2.1 dX11_word_53 (by decide) ?_
          exact ih3 ((x4 <<< ((8 : Int32).toInt64 &&& 63)) ||| z6.toInt64) (x5 + 1) _ _ _ ls hf hw (lv_sub hl [2, 3, 4, 1, 0] rfl) hk3_0
  obtain ⟨r7, hr7, hf⟩ := bd_some hf
  refine hL19 n (0 : Int64) (0 : Int32) r7 _ _ ls hr7 hw (lv_sub hl [4, 3, 2, 1, 0] rfl) ?_
  intro H locs ls hw hl
  refine lv_iload_n G.1 G.2.1 dX11_word_56 rfl (lv_at hl 1 rfl) ?_
  refine lv_iconst (v := (1 : Int32)) G.1 G.2.1 dX11_word_57 (by decide) ?_
  refine lv_icmp_ne (tgt := 83) G.1 G.2.1 dX11_word_58 (by decide) (fun hc58 => ?_) (fun hc58 => ?_)
  · rw [if_neg hc58] at hf
    refine lv_iload_n G.1 G.2.1 dX11_word_83 rfl (lv_at hl 1 rfl) ?_
    refine lv_iconst (v := (2 : Int32)) G.1 G.2.1 dX11_word_84 (by decide) ?_
    obtain ⟨j9, ej9, hf⟩ := lt9_some hf
    have hj9 : ∀ (v10 : Int32) (H : Heap) (locs : List Loc) (ls : Array Slot), j9 v10 = some (r, g') → GW D X idsM E (gA X idsM E s.heap.size) s z1.2 H locs → lv_has ls 8 [(2, .int z2), (3, .long r7)] → W p l en { frames := 2, cells := 0, slots := 0, locals := 43 } s m [.ref (E.1 10 0)].toArray below meth c H locs 0 0 (MQ below (gQ (some (.int r)) (GP D X idsM E g') (gA X idsM E s.heap.size)) [.ref (E.1 10 0)].toArray s 0 0 (gA X idsM E s.heap.size)) (F0 m 101 ls [.int v10]) := by
      intro v10 H locs ls hf hw hl
      rw [ej9] at hf
      dsimp only at hf
      refine lv_istore (lv' := [(5, .int v10), (2, .int z2), (3, .long r7)]) G.1 G.2.1 dX11_word_101 hl (by decide) rfl (fun ls hl => ?_)
      refine lv_iload_n G.1 G.2.1 dX11_word_103 rfl (lv_at hl 1 rfl) ?_
      refine lv_iconst (v := (4 : Int32)) G.1 G.2.1 dX11_word_104 (by decide) ?_
      obtain ⟨j12, ej12, hf⟩ := lt9_some hf
      have hj12 : ∀ (v13 : Int32) (H : Heap) (locs : List Loc) (ls : Array Slot), j12 v13 = some (r, g') → GW D X idsM E (gA X idsM E s.heap.size) s z1.2 H locs → lv_has ls 8 [(2, .int z2), (3, .long r7), (5, .int v10)] → W p l en { frames := 2, cells := 0, slots := 0, locals := 43 } s m [.ref (E.1 10 0)].toArray below meth c H locs 0 0 (MQ below (gQ (some (.int r)) (GP D X idsM E g') (gA X idsM E s.heap.size)) [.ref (E.1 10 0)].toArray s 0 0 (gA X idsM E s.heap.size)) (F0 m 121 ls [.int v13]) := by
        intro v13 H locs ls hf hw hl
        rw [ej12] at hf
        dsimp only at hf
        refine lv_istore (lv' := [(6, .int v13), (2, .int z2), (3, .long r7), (5, .int v10)]) G.1 G.2.1 dX11_word_121 hl (by decide) rfl (fun ls hl => ?_)
        refine lv_iload_n G.1 G.2.1 dX11_word_123 rfl (lv_at hl 1 rfl) ?_
        refine lv_iconst (v := (5 : Int32)) G.1 G.2.1 dX11_word_124 (by decide) ?_
        obtain ⟨j15, ej15, hf⟩ := lt9_some hf
        have hj15 : ∀ (v16 : Int32) (H : Heap) (locs : List Loc) (ls : Array Slot), j15 v16 = some (r, g') → GW D X idsM E (gA X idsM E s.heap.size) s z1.2 H locs → lv_has ls 8 [(5, .int v10), (6, .int v13)] → W p l en { frames := 2, cells := 0, slots := 0, locals := 43 } s m [.ref (E.1 10 0)].toArray below meth c H locs 0 0 (MQ below (gQ (some (.int r)) (GP D X idsM E g') (gA X idsM E s.heap.size)) [.ref (E.1 10 0)].toArray s 0 0 (gA X idsM E s.heap.size)) (F0 m 141 ls [.int v16]) := by
          intro v16 H locs ls hf hw hl
          rw [ej15] at hf
          dsimp only at hf
          refine lv_istore (lv' := [(7, .int v16), (5, .int v10), (6, .int v13)]) G.1 G.2.1 dX11_word_141 hl (by decide) rfl (fun ls hl => ?_)
          refine lv_iload G.1 G.2.1 dX11_word_143 (lv_at hl 1 rfl) ?_
          refine lv_if_eq (tgt := 152) G.1 G.2.1 dX11_word_145 (by decide) (fun hc145 => ?_) (fun hc145 => ?_)
          · rw [if_pos hc145] at hf
            refine lv_iload G.1 G.2.1 dX11_word_152 (lv_at hl 2 rfl) ?_
            refine lv_if_eq (tgt := 161) G.1 G.2.1 dX11_word_154 (by decide) (fun hc154 => ?_) (fun hc154 => ?_)
            · rw [if_pos hc154] at hf
              refine lv_iload G.1 G.2.1 dX11_word_161 (lv_at hl 0 rfl) ?_
              refine lv_if_eq (tgt := 170) G.1 G.2.1 dX11_word_163 (by decide) (fun hc163 => ?_) (fun hc163 => ?_)
              · rw [if_pos hc163] at hf
                refine lv_iconst (v := (0 : Int32)) G.1 G.2.1 dX11_word_170 (by decide) ?_
                exact g_iretW G hr hk hf hw dX11_word_171
              · rw [if_neg hc163] at hf
                refine lv_iconst (v := (3 : Int32)) G.1 G.2.1 dX11_word_166 (by decide) ?_
                refine lv_goto (tgt := 171) G.1 G.2.1 dX11_word_167 (by decide) ?_
                exact g_iretW G hr hk hf hw dX11_word_171
            · rw [if_neg hc154] at hf
              refine lv_iconst (v := (2 : Int32)) G.1 G.2.1 dX11_word_157 (by decide) ?_
              refine lv_goto (tgt := 171) G.1 G.2.1 dX11_word_158 (by decide) ?_
              exact g_iretW G hr hk hf hw dX11_word_171
          · rw [if_neg hc145] at hf
            refine lv_iconst (v := (1 : Int32)) G.1 G.2.1 dX11_word_148 (by decide) ?_
            refine lv_goto (tgt := 171) G.1 G.2.1 dX11_word_149 (by decide) ?_
            exact g_iretW G hr hk hf hw dX11_word_171
        obtain ⟨j14, ej14, hf⟩ := lt9_some hf
        have hj14 : ∀ (_u : Unit) (H : Heap) (locs : List Loc) (ls : Array Slot), j14 _u = some (r, g') → GW D X idsM E (gA X idsM E s.heap.size) s z1.2 H locs → lv_has ls 8 [(5, .int v10), (6, .int v13)] → W p l en { frames := 2, cells := 0, slots := 0, locals := 43 } s m [.ref (E.1 10 0)].toArray below meth c H locs 0 0 (MQ below (gQ (some (.int r)) (GP D X idsM E g') (gA X idsM E s.heap.size)) [.ref (E.1 10 0)].toArray s 0 0 (gA X idsM E s.heap.size)) (F0 m 140 ls []) := by
          intro _u H locs ls hf hw hl
          rw [ej14] at hf
          dsimp only at hf
          refine lv_iconst (v := (0 : Int32)) G.1 G.2.1 dX11_word_140 (by decide) ?_
          exact hj15 (0 : Int32) _ _ ls hf hw (lv_sub hl [0, 1] rfl)
        refine lv_icmp_ne (tgt := 140) G.1 G.2.1 dX11_word_125 (by decide) (fun hc125 => ?_) (fun hc125 => ?_)
        · rw [if_neg hc125] at hf
          exact hj14 () _ _ ls hf hw (lv_sub hl [3, 0] rfl)
        · rw [if_pos hc125] at hf
          refine lv_lload_n G.1 G.2.1 dX11_word_128 rfl (lv_at hl 2 rfl) ?_
          refine lv_ldc2 (v := (512852847717 : Int64)) G.1 G.2.1 G.2.2.2.1 (G.2.2.2.2 _ cl_X11_154) dX11_word_129 ?_
          refine W.lcmp G.1 G.2.1 dX11_word_132 ?_
          refine lv_if_ne (tgt := 140) G.1 G.2.1 dX11_word_133 (by decide) (fun hc133 => ?_) (fun hc133 => ?_)
          · rw [if_neg hc133] at hf
            exact hj14 () _ _ ls hf hw (lv_sub hl [3, 0] rfl)
          · rw [if_pos hc133] at hf
            refine lv_iconst (v := (1 : Int32)) G.1 G.2.1 dX11_word_136 (by decide) ?_
            refine lv_goto (tgt := 141) G.1 G.2.1 dX11_word_137 (by decide) ?_
            exact hj15 (1 : Int32) _ _ ls hf hw (lv_sub hl [3, 0] rfl)
      obtain ⟨j11, ej11, hf⟩ := lt9_some hf
      have hj11 : ∀ (_u : Unit) (H : Heap) (locs : List Loc) (ls : Array Slot), j11 _u = some (r, g') → GW D X idsM E (gA X idsM E s.heap.size) s z1.2 H locs → lv_has ls 8 [(2, .int z2), (3, .long r7), (5, .int v10)] → W p l en { frames := 2, cells := 0, slots := 0, locals := 43 } s m [.ref (E.1 10 0)].toArray below meth c H locs 0 0 (MQ below (gQ (some (.int r)) (GP D X idsM E g') (gA X idsM E s.heap.size)) [.ref (E.1 10 0)].toArray s 0 0 (gA X idsM E s.heap.size)) (F0 m 120 ls []) := by
        intro _u H locs ls hf hw hl
        rw [ej11] at hf
        dsimp only at hf
        refine lv_iconst (v := (0 : Int32)) G.1 G.2.1 dX11_word_120 (by decide) ?_
        exact hj12 (0 : Int32) _ _ ls hf hw (lv_sub hl [0, 1, 2] rfl)
      refine lv_icmp_ne (tgt := 120) G.1 G.2.1 dX11_word_105 (by decide) (fun hc105 => ?_) (fun hc105 => ?_)
      · rw [if_neg hc105] at hf
        exact hj11 () _ _ ls hf hw (lv_sub hl [1, 2, 0] rfl)
      · rw [if_pos hc105] at hf
        refine lv_lload_n G.1 G.2.1 dX11_word_108 rfl (lv_at hl 2 rfl) ?_
        refine lv_ldc2 (v := (1701606245 : Int64)) G.1 G.2.1 G.2.2.2.1 (G.2.2.2.2 _ cl_X11_152) dX11_word_109 ?_
        refine W.lcmp G.1 G.2.1 dX11_word_112 ?_
        refine lv_if_ne (tgt := 120) G.1 G.2.1 dX11_word_113 (by decide) (fun hc113 => ?_) (fun hc113 => ?_)
        · rw [if_neg hc113] at hf
          exact hj11 () _ _ ls hf hw (lv_sub hl [1, 2, 0] rfl)
        · rw [if_pos hc113] at hf
          refine lv_iconst (v := (1 : Int32)) G.1 G.2.1 dX11_word_116 (by decide) ?_
          refine lv_goto (tgt := 121) G.1 G.2.1 dX11_word_117 (by decide) ?_
          exact hj12 (1 : Int32) _ _ ls hf hw (lv_sub hl [1, 2, 0] rfl)
    obtain ⟨j8, ej8, hf⟩ := lt9_some hf
    have hj8 : ∀ (_u : Unit) (H : Heap) (locs : List Loc) (ls : Array Slot), j8 _u = some (r, g') → GW D X idsM E (gA X idsM E s.heap.size) s z1.2 H locs → lv_has ls 8 [(2, .int z2), (3, .long r7)] → W p l en { frames := 2, cells := 0, slots := 0, locals := 43 } s m [.ref (E.1 10 0)].toArray below meth c H locs 0 0 (MQ below (gQ (some (.int r)) (GP D X idsM E g') (gA X idsM E s.heap.size)) [.ref (E.1 10 0)].toArray s 0 0 (gA X idsM E s.heap.size)) (F0 m 100 ls []) := by
      intro _u H locs ls hf hw hl
      rw [ej8] at hf
      dsimp only at hf
      refine lv_iconst (v := (0 : Int32)) G.1 G.2.1 dX11_word_100 (by decide) ?_
      exact hj9 (0 : Int32) _ _ ls hf hw (lv_sub hl [0, 1] rfl)
    refine lv_icmp_ne (tgt := 100) G.1 G.2.1 dX11_word_85 (by decide) (fun hc85 => ?_) (fun hc85 => ?_)
    · rw [if_neg hc85] at hf
      exact hj8 () _ _ ls hf hw (lv_sub hl [1, 2] rfl)
    · rw [if_pos hc85] at hf
      refine lv_lload_n G.1 G.2.1 dX11_word_88 rfl (lv_at hl 2 rfl) ?_
      refine lv_ldc2 (v := (26982 : Int64)) G.1 G.2.1 G.2.2.2.1 (G.2.2.2.2 _ cl_X11_150) dX11_word_89 ?_
      refine W.lcmp G.1 G.2.1 dX11_word_92 ?_
      refine lv_if_ne (tgt := 100) G.1 G.2.1 dX11_word_93 (by decide) (fun hc93 => ?_) (fun hc93 => ?_)
      · rw [if_neg hc93] at hf
        exact hj8 () _ _ ls hf hw (lv_sub hl [1, 2] rfl)
      · rw [if_pos hc93] at hf
        refine lv_iconst (v := (1 : Int32)) G.1 G.2.1 dX11_word_96 (by decide) ?_
        refine lv_goto (tgt := 101) G.1 G.2.1 dX11_word_97 (by decide) ?_
        exact hj9 (1 : Int32) _ _ ls hf hw (lv_sub hl [1, 2] rfl)
  · rw [if_pos hc58] at hf
    refine lv_iload_n G.1 G.2.1 dX11_word_61 rfl (lv_at hl 0 rfl) ?_
    refine lv_bipush (v := (104 : Int32)) G.1 G.2.1 dX11_word_62 (by decide) ?_
    refine lv_icmp_gt (tgt := 71) G.1 G.2.1 dX11_word_64 (by decide) (fun hc64 => ?_) (fun hc64 => ?_)
    · rw [if_pos hc64] at hf
      refine lv_iload_n G.1 G.2.1 dX11_word_71 rfl (lv_at hl 0 rfl) ?_
      refine lv_bipush (v := (109 : Int32)) G.1 G.2.1 dX11_word_72 (by decide) ?_
      refine lv_icmp_ne (tgt := 81) G.1 G.2.1 dX11_word_74 (by decide) (fun hc74 => ?_) (fun hc74 => ?_)
      · rw [if_neg hc74] at hf
        refine lv_iconst (v := (0 : Int32)) G.1 G.2.1 dX11_word_81 (by decide) ?_
        exact g_iretW G hr hk hf hw dX11_word_82
      · rw [if_pos hc74] at hf
        refine lv_iconst (v := (5 : Int32)) G.1 G.2.1 dX11_word_77 (by decide) ?_
        refine lv_goto (tgt := 82) G.1 G.2.1 dX11_word_78 (by decide) ?_
        exact g_iretW G hr hk hf hw dX11_word_82
    · rw [if_neg hc64] at hf
      refine lv_iconst (v := (4 : Int32)) G.1 G.2.1 dX11_word_67 (by decide) ?_
      refine lv_goto (tgt := 82) G.1 G.2.1 dX11_word_68 (by decide) ?_
      exact g_iretW G hr hk hf hw dX11_word_82

set_option maxHeartbeats 4000000 in
set_option maxRecDepth 100000 in
theorem c_M_way (l : Launch) (D : va_G) (X : va_W) (E : gE) (n : Nat) (a1 : Int32) (a2 : Int32) (g : Mem) (g' : Mem) (hf : M_way n a1 a2 g = some g') : gMet l yX11_way cX11_way 3 none 0 0 D X idsM E [.ref (E.1 10 0), .int a1, .int a2] g none g' := by
  rw [M_way] at hf
  refine gt_code (by decide) (Nat.le_of_ble_eq_true rfl) (fun p en s m below meth c ls G hr hk hw hl => ?_)
  have hl : lv_has ls 3 [(0, .ref (E.1 10 0)), (1, .int a1), (2, .int a2)] := hl
  refine lv_aload_n G.1 G.2.1 dX11_way_0 rfl (lv_at hl 0 rfl) ?_
  refine g_getC G hw C_10 iM_10 23 123 rfl (by decide) rfl fl_X11_48 dX11_way_1 ?_
  refine lv_aload_n G.1 G.2.1 dX11_way_4 rfl (lv_at hl 0 rfl) ?_
  refine g_getI G hw C_10 iM_10 24 rfl fl_X11_156 dX11_way_5 ?_
  refine lv_iconst (v := (2 : Int32)) G.1 G.2.1 dX11_way_8 (by decide) ?_
  refine lv_iload_n G.1 G.2.1 dX11_way_9 rfl (lv_at hl 1 rfl) ?_
  refine lv_imul G.1 G.2.1 dX11_way_10 ?_
  refine lv_iload_n G.1 G.2.1 dX11_way_11 rfl (lv_at hl 2 rfl) ?_
  obtain ⟨j1, ej1, hf⟩ := lt9_some hf
  have hj1 : ∀ (v2 : Int32) (H : Heap) (locs : List Loc) (ls : Array Slot), j1 v2 = some g' → GW D X idsM E (gA X idsM E s.heap.size) s g H locs → lv_has ls 3 [(0, .ref (E.1 10 0))] → W p l en { frames := 0, cells := 0, slots := 0, locals := 0 } s m [.ref (E.1 10 0), .int a1, .int a2].toArray below meth c H locs 0 0 (MQ below (gQ none (GP D X idsM E g') (gA X idsM E s.heap.size)) [.ref (E.1 10 0), .int a1, .int a2].toArray s 0 0 (gA X idsM E s.heap.size)) (F0 m 20 ls [.int v2, .int ((2 : Int32) * a1), .int (gI g 10 0 24), .ref (E.1 123 0)]) := by
    intro v2 H locs ls hf hw hl
    rw [ej1] at hf
    dsimp only at hf
    refine lv_iadd G.1 G.2.1 dX11_way_20 ?_
    obtain ⟨j3, hj3, hf⟩ := bd_some hf
    obtain ⟨g4, eg4, hf⟩ := lt9_some hf
    refine g_iast G hw iM_123 (by decide) rfl hj3 dX11_way_21 (fun H locs hw => ?_)
    rw [← eg4] at hw
    refine lv_aload_n G.1 G.2.1 dX11_way_22 rfl (lv_at hl 0 rfl) ?_
    refine lv_dup G.1 G.2.1 dX11_way_23 rfl ?_
    refine g_getI G hw C_10 iM_10 24 rfl fl_X11_156 dX11_way_24 ?_
    refine lv_iconst (v := (1 : Int32)) G.1 G.2.1 dX11_way_27 (by decide) ?_
    refine lv_iadd G.1 G.2.1 dX11_way_28 ?_
    obtain ⟨g5, eg5, hf⟩ := lt9_some hf
    refine g_putI G hw C_10 iM_10 24 rfl fl_X11_156 rfl rfl rfl dX11_way_29 (fun H locs hw => ?_)
    rw [← eg5] at hw
    exact g_vretW G hr hk hf hw dX11_way_32
  refine lv_if_eq (tgt := 19) G.1 G.2.1 dX11_way_12 (by decide) (fun hc12 => ?_) (fun hc12 => ?_)
  · rw [if_pos hc12] at hf
    refine lv_iconst (v := (0 : Int32)) G.1 G.2.1 dX11_way_19 (by decide) ?_
    exact hj1 (0 : Int32) _ _ ls hf hw (lv_sub hl [0] rfl)
  · rw [if_neg hc12] at hf
    refine lv_iconst (v := (1 : Int32)) G.1 G.2.1 dX11_way_15 (by decide) ?_
    refine lv_goto (tgt := 20) G.1 G.2.1 dX11_way_16 (by decide) ?_
    exact hj1 (1 : Int32) _ _ ls hf hw (lv_sub hl [0] rfl)

set_option maxHeartbeats 4000000 in
set_option maxRecDepth 100000 in
theorem c_M_lead (l : Launch) (D : va_G) (X : va_W) (E : gE) (n : Nat) (a1 : Int32) (a2 : Int32) (g : Mem) (g' : Mem) (hf : M_lead n a1 a2 g = some g') : gMet l yX11_lead cX11_lead 5 none 0 0 D X idsM E [.ref (E.1 10 0), .int a1, .int a2] g none g' := by
  rw [M_lead] at hf
  refine gt_code (by decide) (Nat.le_of_ble_eq_true rfl) (fun p en s m below meth c ls G hr hk hw hl => ?_)
  have hl : lv_has ls 5 [(0, .ref (E.1 10 0)), (1, .int a1), (2, .int a2)] := hl
  refine lv_iload_n G.1 G.2.1 dX11_lead_0 rfl (lv_at hl 1 rfl) ?_
  refine lv_istore_n (lv' := [(3, .int a1), (0, .ref (E.1 10 0)), (1, .int a1), (2, .int a2)]) G.1 G.2.1 dX11_lead_1 rfl hl (by decide) rfl (fun ls hl => ?_)
  have hL2 : ∀ (k1 : Nat) (x2 : Int32) (g3 : Mem) (res1 : Mem) (H : Heap) (locs : List Loc) (ls : Array Slot), M_lead_L2 n a2 k1 x2 g3 = some res1 → GW D X idsM E (gA X idsM E s.heap.size) s g3 H locs → lv_has ls 5 [(0, .ref (E.1 10 0)), (1, .int a1), (2, .int a2), (3, .int x2)] → (∀ (H : Heap) (locs : List Loc) (ls : Array Slot), GW D X idsM E (gA X idsM E s.heap.size) s res1 H locs → lv_has ls 5 [(0, .ref (E.1 10 0)), (1, .int a1)] → W p l en { frames := 0, cells := 0, slots := 0, locals := 0 } s m [.ref (E.1 10 0), .int a1, .int a2].toArray below meth c H locs 0 0 (MQ below (gQ none (GP D X idsM E g') (gA X idsM E s.heap.size)) [.ref (E.1 10 0), .int a1, .int a2].toArray s 0 0 (gA X idsM E s.heap.size)) (F0 m 56 ls [])) → W p l en { frames := 0, cells := 0, slots := 0, locals := 0 } s m [.ref (E.1 10 0), .int a1, .int a2].toArray below meth c H locs 0 0 (MQ below (gQ none (GP D X idsM E g') (gA X idsM E s.heap.size)) [.ref (E.1 10 0), .int a1, .int a2].toArray s 0 0 (gA X idsM E s.heap.size)) (F0 m 2 ls []) := by
    intro k1
    induction k1 with
    | zero => intro x2 g3 res1 H locs ls hf; rw [M_lead_L2] at hf; cases hf
    | succ k1 ih1 =>
      intro x2 g3 res1 H locs ls hf hw hl hk1_0
      rw [M_lead_L2] at hf
      refine lv_iload_n G.1 G.2.1 dX11_lead_2 rfl (lv_at hl 3 rfl) ?_
      refine lv_aload_n G.1 G.2.1 dX11_lead_3 rfl (lv_at hl 0 rfl) ?_
      refine g_getI G hw C_10 iM_10 24 rfl fl_X11_156 dX11_lead_4 ?_
      refine lv_icmp_ge (tgt := 56) G.1 G.2.1 dX11_lead_7 (by decide) (fun hc7 => ?_) (fun hc7 => ?_)
      · rw [if_pos hc7] at hf
        obtain rfl := Option.some.inj hf
        exact hk1_0 _ _ ls hw (lv_sub hl [0, 1] rfl)
      · rw [if_neg hc7] at hf
        refine lv_aload_n G.1 G.2.1 dX11_lead_10 rfl (lv_at hl 0 rfl) ?_
        refine g_getC G hw C_10 iM_10 23 123 rfl (by decide) rfl fl_X11_48 dX11_lead_11 ?_
        refine lv_iload_n G.1 G.2.1 dX11_lead_14 rfl (lv_at hl 3 rfl) ?_
        obtain ⟨j4, hj4, hf⟩ := bd_some hf
        refine g_iald G hw iM_123 (by decide) rfl hj4 dX11_lead_15 ?_
        refine lv_iconst (v := (2 : Int32)) G.1 G.2.1 dX11_lead_16 (by decide) ?_
        refine lv_idiv G.1 G.2.1 dX11_lead_17 (by decide) ?_
        refine lv_istore (lv' := [(4, .int ((gI g3 123 0 j4) / (2 : Int32))), (0, .ref (E.1 10 0)), (1, .int a1), (2, .int a2), (3, .int x2)]) G.1 G.2.1 dX11_lead_18 hl (by decide) rfl (fun ls hl => ?_)
        refine lv_aload_n G.1 G.2.1 dX11_lead_20 rfl (lv_at hl 1 rfl) ?_
        refine g_getC G hw C_10 iM_10 23 123 rfl (by decide) rfl fl_X11_48 dX11_lead_21 ?_
        refine lv_iload_n G.1 G.2.1 dX11_lead_24 rfl (lv_at hl 4 rfl) ?_
        obtain ⟨j5, hj5, hf⟩ := bd_some hf
        refine g_iald G hw iM_123 (by decide) rfl hj5 dX11_lead_25 ?_
        refine lv_iconst (v := (2 : Int32)) G.1 G.2.1 dX11_lead_26 (by decide) ?_
        refine lv_irem G.1 G.2.1 dX11_lead_27 (by decide) ?_
        refine lv_if_ne (tgt := 42) G.1 G.2.1 dX11_lead_28 (by decide) (fun hc28 => ?_) (fun hc28 => ?_)
        · rw [if_neg hc28] at hf
          refine lv_aload_n G.1 G.2.1 dX11_lead_42 rfl (lv_at hl 1 rfl) ?_
          refine g_getC G hw C_10 iM_10 20 120 rfl (by decide) rfl fl_X11_41 dX11_lead_43 ?_
          refine lv_iload G.1 G.2.1 dX11_lead_46 (lv_at hl 0 rfl) ?_
          refine lv_iload_n G.1 G.2.1 dX11_lead_48 rfl (lv_at hl 3 rfl) ?_
          obtain ⟨j6, hj6, hf⟩ := bd_some hf
          obtain ⟨g7, eg7, hf⟩ := lt9_some hf
          refine g_iast G hw iM_120 (by decide) rfl hj6 dX11_lead_49 (fun H locs hw => ?_)
          rw [← eg7] at hw
          refine lv_iinc (v := x2 + 1) (lv' := [(3, .int (x2 + 1)), (4, .int ((gI g3 123 0 j4) / (2 : Int32))), (0, .ref (E.1 10 0)), (1, .int a1), (2, .int a2)]) G.1 G.2.1 dX11_lead_50 hl (k := 4) rfl rfl (by decide) rfl (fun ls hl => ?_)
          refine lv_goto (tgt := 2) G.1 G.2.1 dX11_lead_53 (by decide) ?_
          exact ih1 (x2 + 1) g7 _ _ _ ls hf hw (lv_sub hl [2, 3, 4, 0] rfl) hk1_0
        · rw [if_pos hc28] at hf
          refine lv_aload_n G.1 G.2.1 dX11_lead_31 rfl (lv_at hl 1 rfl) ?_
          refine g_getC G hw C_10 iM_10 19 119 rfl (by decide) rfl fl_X11_38 dX11_lead_32 ?_
          refine lv_iload G.1 G.2.1 dX11_lead_35 (lv_at hl 0 rfl) ?_
          refine lv_iload_n G.1 G.2.1 dX11_lead_37 rfl (lv_at hl 3 rfl) ?_
          obtain ⟨j8, hj8, hf⟩ := bd_some hf
          obtain ⟨g9, eg9, hf⟩ := lt9_some hf
          refine g_iast G hw iM_119 (by decide) rfl hj8 dX11_lead_38 (fun H locs hw => ?_)
          rw [← eg9] at hw
          refine lv_goto (tgt := 50) G.1 G.2.1 dX11_lead_39 (by decide) ?_
          refine lv_iinc (v := x2 + 1) (lv' := [(3, .int (x2 + 1)), (4, .int ((gI g3 123 0 j4) / (2 : Int32))), (0, .ref (E.1 10 0)), (1, .int a1), (2, .int a2)]) G.1 G.2.1 dX11_lead_50 hl (k := 4) rfl rfl (by decide) rfl (fun ls hl => ?_)
          refine lv_goto (tgt := 2) G.1 G.2.1 dX11_lead_53 (by decide) ?_
          exact ih1 (x2 + 1) g9 _ _ _ ls hf hw (lv_sub hl [2, 3, 4, 0] rfl) hk1_0
  obtain ⟨r10, hr10, hf⟩ := bd_some hf
  refine hL2 n a1 g r10 _ _ ls hr10 hw (lv_sub hl [1, 2, 3, 0] rfl) ?_
  intro H locs ls hw hl
  refine lv_aload_n G.1 G.2.1 dX11_lead_56 rfl (lv_at hl 0 rfl) ?_
  refine lv_iload_n G.1 G.2.1 dX11_lead_57 rfl (lv_at hl 1 rfl) ?_
  obtain ⟨g11, eg11, hf⟩ := lt9_some hf
  refine g_putI G hw C_10 iM_10 24 rfl fl_X11_156 rfl rfl rfl dX11_lead_58 (fun H locs hw => ?_)
  rw [← eg11] at hw
  exact g_vretW G hr hk hf hw dX11_lead_61

set_option maxHeartbeats 4000000 in
set_option maxRecDepth 100000 in
theorem c_M_needBlock (l : Launch) (D : va_G) (X : va_W) (E : gE) (n : Nat) (g : Mem) (g' : Mem) (hf : M_needBlock n g = some g') : gMet l yX11_needBlock cX11_needBlock 1 none 1 24 D X idsM E [.ref (E.1 10 0)] g none g' := by
  rw [M_needBlock] at hf
  refine gt_code (by decide) (Nat.le_of_ble_eq_true rfl) (fun p en s m below meth c ls G hr hk hw hl => ?_)
  have hl : lv_has ls 1 [(0, .ref (E.1 10 0))] := hl
  refine lv_aload_n G.1 G.2.1 dX11_needBlock_0 rfl (lv_at hl 0 rfl) ?_
  refine g_getI G hw C_10 iM_10 22 rfl fl_X11_159 dX11_needBlock_1 ?_
  refine lv_iconst (v := (-1 : Int32)) G.1 G.2.1 dX11_needBlock_4 (by decide) ?_
  refine lv_icmp_ne (tgt := 68) G.1 G.2.1 dX11_needBlock_5 (by decide) (fun hc5 => ?_) (fun hc5 => ?_)
  · rw [if_neg hc5] at hf
    exact g_vretW G hr hk hf hw dX11_needBlock_68
  · rw [if_pos hc5] at hf
    refine lv_aload_n G.1 G.2.1 dX11_needBlock_8 rfl (lv_at hl 0 rfl) ?_
    refine lv_aload_n G.1 G.2.1 dX11_needBlock_9 rfl (lv_at hl 0 rfl) ?_
    refine g_getI G hw C_10 iM_10 16 rfl fl_X11_162 dX11_needBlock_10 ?_
    obtain ⟨g1, eg1, hf⟩ := lt9_some hf
    refine g_putI G hw C_10 iM_10 22 rfl fl_X11_159 rfl rfl rfl dX11_needBlock_13 (fun H locs hw => ?_)
    rw [← eg1] at hw
    refine lv_aload_n G.1 G.2.1 dX11_needBlock_16 rfl (lv_at hl 0 rfl) ?_
    refine lv_dup G.1 G.2.1 dX11_needBlock_17 rfl ?_
    refine g_getI G hw C_10 iM_10 16 rfl fl_X11_162 dX11_needBlock_18 ?_
    refine lv_iconst (v := (1 : Int32)) G.1 G.2.1 dX11_needBlock_21 (by decide) ?_
    refine lv_iadd G.1 G.2.1 dX11_needBlock_22 ?_
    obtain ⟨g2, eg2, hf⟩ := lt9_some hf
    refine g_putI G hw C_10 iM_10 16 rfl fl_X11_162 rfl rfl rfl dX11_needBlock_23 (fun H locs hw => ?_)
    rw [← eg2] at hw
    refine lv_aload_n G.1 G.2.1 dX11_needBlock_26 rfl (lv_at hl 0 rfl) ?_
    refine g_getC G hw C_10 iM_10 19 119 rfl (by decide) rfl fl_X11_38 dX11_needBlock_27 ?_
    refine lv_aload_n G.1 G.2.1 dX11_needBlock_30 rfl (lv_at hl 0 rfl) ?_
    refine g_getI G hw C_10 iM_10 22 rfl fl_X11_159 dX11_needBlock_31 ?_
    refine lv_iconst (v := (-1 : Int32)) G.1 G.2.1 dX11_needBlock_34 (by decide) ?_
    obtain ⟨j3, hj3, hf⟩ := bd_some hf
    obtain ⟨g4, eg4, hf⟩ := lt9_some hf
    refine g_iast G hw iM_119 (by decide) rfl hj3 dX11_needBlock_35 (fun H locs hw => ?_)
    rw [← eg4] at hw
    refine lv_aload_n G.1 G.2.1 dX11_needBlock_36 rfl (lv_at hl 0 rfl) ?_
    refine g_getC G hw C_10 iM_10 20 120 rfl (by decide) rfl fl_X11_41 dX11_needBlock_37 ?_
    refine lv_aload_n G.1 G.2.1 dX11_needBlock_40 rfl (lv_at hl 0 rfl) ?_
    refine g_getI G hw C_10 iM_10 22 rfl fl_X11_159 dX11_needBlock_41 ?_
    refine lv_iconst (v := (-1 : Int32)) G.1 G.2.1 dX11_needBlock_44 (by decide) ?_
    obtain ⟨j5, hj5, hf⟩ := bd_some hf
    obtain ⟨g6, eg6, hf⟩ := lt9_some hf
    refine g_iast G hw iM_120 (by decide) rfl hj5 dX11_needBlock_45 (fun H locs hw => ?_)
    rw [← eg6] at hw
    refine lv_aload_n G.1 G.2.1 dX11_needBlock_46 rfl (lv_at hl 0 rfl) ?_
    refine g_getC G hw C_10 iM_10 21 121 rfl (by decide) rfl fl_X11_44 dX11_needBlock_47 ?_
    refine lv_aload_n G.1 G.2.1 dX11_needBlock_50 rfl (lv_at hl 0 rfl) ?_
    refine g_getI G hw C_10 iM_10 22 rfl fl_X11_159 dX11_needBlock_51 ?_
    refine lv_iconst (v := (0 : Int32)) G.1 G.2.1 dX11_needBlock_54 (by decide) ?_
    obtain ⟨j7, hj7, hf⟩ := bd_some hf
    obtain ⟨g8, eg8, hf⟩ := lt9_some hf
    refine g_zast G hw iM_121 (by decide) rfl hj7 rfl dX11_needBlock_55 (fun H locs hw => ?_)
    rw [← eg8] at hw
    refine lv_aload_n G.1 G.2.1 dX11_needBlock_56 rfl (lv_at hl 0 rfl) ?_
    refine lv_aload_n G.1 G.2.1 dX11_needBlock_57 rfl (lv_at hl 0 rfl) ?_
    refine g_getI G hw C_10 iM_10 49 rfl fl_X11_165 dX11_needBlock_58 ?_
    refine lv_aload_n G.1 G.2.1 dX11_needBlock_61 rfl (lv_at hl 0 rfl) ?_
    refine g_getI G hw C_10 iM_10 22 rfl fl_X11_159 dX11_needBlock_62 ?_
    obtain ⟨g9, hcg9, hf⟩ := bd_some hf
    refine g_callV0 (As := [.int (gI g8 10 0 49), .int (gI g8 10 0 22)]) (rest := []) G hw (gA_mono hw.2.2.2.1.1) C_10 iM_10 mv_X11_168 (c_M_lead l D X E n (gI g8 10 0 49) (gI g8 10 0 22) g8 g9 hcg9) hl.1 rfl rfl (Nat.le_of_ble_eq_true rfl) (Nat.le_of_ble_eq_true rfl) (Nat.le_of_ble_eq_true rfl) ⟨Nat.le_refl _, Nat.le_refl _⟩ dX11_needBlock_65 (fun H locs hw => ?_)
    exact g_vretW G hr hk hf hw dX11_needBlock_68

set_option maxHeartbeats 4000000 in
set_option maxRecDepth 100000 in
theorem c_M_emit (l : Launch) (D : va_G) (X : va_W) (E : gE) (n : Nat) (a1 : Int32) (a2 : Int32) (a3 : Int32) (a4 : Int32) (g : Mem) (r : Int32) (g' : Mem) (hf : M_emit n a1 a2 a3 a4 g = some (r, g')) : gMet l yX11_emit cX11_emit 6 (some .int) 2 44 D X idsM E [.ref (E.1 10 0), .int a1, .int a2, .int a3, .int a4] g (some (.int r)) g' := by
  rw [M_emit] at hf
  refine gt_code (by decide) (Nat.le_of_ble_eq_true rfl) (fun p en s m below meth c ls G hr hk hw hl => ?_)
  have hl : lv_has ls 6 [(0, .ref (E.1 10 0)), (1, .int a1), (2, .int a2), (3, .int a3), (4, .int a4)] := hl
  refine lv_aload_n G.1 G.2.1 dX11_emit_0 rfl (lv_at hl 0 rfl) ?_
  refine g_getI G hw C_10 iM_10 3 rfl fl_X11_125 dX11_emit_1 ?_
  obtain ⟨j1, ej1, hf⟩ := lt9_some hf
  have hj1 : ∀ (g3 : Mem) (H : Heap) (locs : List Loc) (ls : Array Slot), j1 g3 = some (r, g') → GW D X idsM E (gA X idsM E s.heap.size) s g3 H locs → lv_has ls 6 [(0, .ref (E.1 10 0)), (1, .int a1), (3, .int a3), (4, .int a4)] → W p l en { frames := 2, cells := 0, slots := 0, locals := 44 } s m [.ref (E.1 10 0), .int a1, .int a2, .int a3, .int a4].toArray below meth c H locs 0 0 (MQ below (gQ (some (.int r)) (GP D X idsM E g') (gA X idsM E s.heap.size)) [.ref (E.1 10 0), .int a1, .int a2, .int a3, .int a4].toArray s 0 0 (gA X idsM E s.heap.size)) (F0 m 23 ls []) := by
    intro g3 H locs ls hf hw hl
    rw [ej1] at hf
    dsimp only at hf
    refine lv_aload_n G.1 G.2.1 dX11_emit_23 rfl (lv_at hl 0 rfl) ?_
    refine g_getI G hw C_10 iM_10 3 rfl fl_X11_125 dX11_emit_24 ?_
    refine lv_if_le (tgt := 32) G.1 G.2.1 dX11_emit_27 (by decide) (fun hc27 => ?_) (fun hc27 => ?_)
    · rw [if_pos hc27] at hf
      refine lv_aload_n G.1 G.2.1 dX11_emit_32 rfl (lv_at hl 0 rfl) ?_
      obtain ⟨g4, hcg4, hf⟩ := bd_some hf
      refine g_callV0 (As := []) (rest := []) G hw (gA_mono hw.2.2.2.1.1) C_10 iM_10 mv_X11_174 (c_M_needBlock l D X E n g3 g4 hcg4) hl.1 rfl rfl (Nat.le_of_ble_eq_true rfl) (Nat.le_of_ble_eq_true rfl) (Nat.le_of_ble_eq_true rfl) ⟨Nat.le_refl _, Nat.le_refl _⟩ dX11_emit_33 (fun H locs hw => ?_)
      refine lv_aload_n G.1 G.2.1 dX11_emit_36 rfl (lv_at hl 0 rfl) ?_
      refine g_getI G hw C_10 iM_10 10 rfl fl_X11_171 dX11_emit_37 ?_
      refine lv_istore (lv' := [(5, .int (gI g4 10 0 10)), (0, .ref (E.1 10 0)), (1, .int a1), (3, .int a3), (4, .int a4)]) G.1 G.2.1 dX11_emit_40 hl (by decide) rfl (fun ls hl => ?_)
      refine lv_aload_n G.1 G.2.1 dX11_emit_42 rfl (lv_at hl 1 rfl) ?_
      refine lv_dup G.1 G.2.1 dX11_emit_43 rfl ?_
      refine g_getI G hw C_10 iM_10 10 rfl fl_X11_171 dX11_emit_44 ?_
      refine lv_iconst (v := (1 : Int32)) G.1 G.2.1 dX11_emit_47 (by decide) ?_
      refine lv_iadd G.1 G.2.1 dX11_emit_48 ?_
      obtain ⟨g5, eg5, hf⟩ := lt9_some hf
      refine g_putI G hw C_10 iM_10 10 rfl fl_X11_171 rfl rfl rfl dX11_emit_49 (fun H locs hw => ?_)
      rw [← eg5] at hw
      refine lv_aload_n G.1 G.2.1 dX11_emit_52 rfl (lv_at hl 1 rfl) ?_
      refine g_getC G hw C_10 iM_10 11 111 rfl (by decide) rfl fl_X11_17 dX11_emit_53 ?_
      refine lv_iload G.1 G.2.1 dX11_emit_56 (lv_at hl 0 rfl) ?_
      refine lv_iload_n G.1 G.2.1 dX11_emit_58 rfl (lv_at hl 2 rfl) ?_
      obtain ⟨j6, hj6, hf⟩ := bd_some hf
      obtain ⟨g7, eg7, hf⟩ := lt9_some hf
      refine g_iast G hw iM_111 (by decide) rfl hj6 dX11_emit_59 (fun H locs hw => ?_)
      rw [← eg7] at hw
      refine lv_aload_n G.1 G.2.1 dX11_emit_60 rfl (lv_at hl 1 rfl) ?_
      refine g_getC G hw C_10 iM_10 12 112 rfl (by decide) rfl fl_X11_20 dX11_emit_61 ?_
      refine lv_iconst (v := (2 : Int32)) G.1 G.2.1 dX11_emit_64 (by decide) ?_
      refine lv_iload G.1 G.2.1 dX11_emit_65 (lv_at hl 0 rfl) ?_
      refine lv_imul G.1 G.2.1 dX11_emit_67 ?_
      refine lv_iload_n G.1 G.2.1 dX11_emit_68 rfl (lv_at hl 3 rfl) ?_
      obtain ⟨j8, hj8, hf⟩ := bd_some hf
      obtain ⟨g9, eg9, hf⟩ := lt9_some hf
      refine g_iast G hw iM_112 (by decide) rfl hj8 dX11_emit_69 (fun H locs hw => ?_)
      rw [← eg9] at hw
      refine lv_aload_n G.1 G.2.1 dX11_emit_70 rfl (lv_at hl 1 rfl) ?_
      refine g_getC G hw C_10 iM_10 13 113 rfl (by decide) rfl fl_X11_23 dX11_emit_71 ?_
      refine lv_iconst (v := (2 : Int32)) G.1 G.2.1 dX11_emit_74 (by decide) ?_
      refine lv_iload G.1 G.2.1 dX11_emit_75 (lv_at hl 0 rfl) ?_
      refine lv_imul G.1 G.2.1 dX11_emit_77 ?_
      refine lv_iload G.1 G.2.1 dX11_emit_78 (lv_at hl 4 rfl) ?_
      obtain ⟨j10, hj10, hf⟩ := bd_some hf
      obtain ⟨g11, eg11, hf⟩ := lt9_some hf
      refine g_iast G hw iM_113 (by decide) rfl hj10 dX11_emit_80 (fun H locs hw => ?_)
      rw [← eg11] at hw
      refine lv_aload_n G.1 G.2.1 dX11_emit_81 rfl (lv_at hl 1 rfl) ?_
      refine g_getC G hw C_10 iM_10 12 112 rfl (by decide) rfl fl_X11_20 dX11_emit_82 ?_
      refine lv_iconst (v := (2 : Int32)) G.1 G.2.1 dX11_emit_85 (by decide) ?_
      refine lv_iload G.1 G.2.1 dX11_emit_86 (lv_at hl 0 rfl) ?_
      refine lv_imul G.1 G.2.1 dX11_emit_88 ?_
      refine lv_iconst (v := (1 : Int32)) G.1 G.2.1 dX11_emit_89 (by decide) ?_
      refine lv_iadd G.1 G.2.1 dX11_emit_90 ?_
      refine lv_aload_n G.1 G.2.1 dX11_emit_91 rfl (lv_at hl 1 rfl) ?_
      refine g_getI G hw C_10 iM_10 8 rfl fl_X11_177 dX11_emit_92 ?_
      obtain ⟨j12, hj12, hf⟩ := bd_some hf
      obtain ⟨g13, eg13, hf⟩ := lt9_some hf
      refine g_iast G hw iM_112 (by decide) rfl hj12 dX11_emit_95 (fun H locs hw => ?_)
      rw [← eg13] at hw
      refine lv_aload_n G.1 G.2.1 dX11_emit_96 rfl (lv_at hl 1 rfl) ?_
      refine g_getC G hw C_10 iM_10 13 113 rfl (by decide) rfl fl_X11_23 dX11_emit_97 ?_
      refine lv_iconst (v := (2 : Int32)) G.1 G.2.1 dX11_emit_100 (by decide) ?_
      refine lv_iload G.1 G.2.1 dX11_emit_101 (lv_at hl 0 rfl) ?_
      refine lv_imul G.1 G.2.1 dX11_emit_103 ?_
      refine lv_iconst (v := (1 : Int32)) G.1 G.2.1 dX11_emit_104 (by decide) ?_
      refine lv_iadd G.1 G.2.1 dX11_emit_105 ?_
      refine lv_aload_n G.1 G.2.1 dX11_emit_106 rfl (lv_at hl 1 rfl) ?_
      refine g_getI G hw C_10 iM_10 9 rfl fl_X11_180 dX11_emit_107 ?_
      obtain ⟨j14, hj14, hf⟩ := bd_some hf
      obtain ⟨g15, eg15, hf⟩ := lt9_some hf
      refine g_iast G hw iM_113 (by decide) rfl hj14 dX11_emit_110 (fun H locs hw => ?_)
      rw [← eg15] at hw
      refine lv_aload_n G.1 G.2.1 dX11_emit_111 rfl (lv_at hl 1 rfl) ?_
      refine g_getC G hw C_10 iM_10 14 114 rfl (by decide) rfl fl_X11_26 dX11_emit_112 ?_
      refine lv_iload G.1 G.2.1 dX11_emit_115 (lv_at hl 0 rfl) ?_
      refine lv_iconst (v := (-1 : Int32)) G.1 G.2.1 dX11_emit_117 (by decide) ?_
      obtain ⟨j16, hj16, hf⟩ := bd_some hf
      obtain ⟨g17, eg17, hf⟩ := lt9_some hf
      refine g_iast G hw iM_114 (by decide) rfl hj16 dX11_emit_118 (fun H locs hw => ?_)
      rw [← eg17] at hw
      refine lv_aload_n G.1 G.2.1 dX11_emit_119 rfl (lv_at hl 1 rfl) ?_
      refine g_getC G hw C_10 iM_10 15 115 rfl (by decide) rfl fl_X11_29 dX11_emit_120 ?_
      refine lv_iload G.1 G.2.1 dX11_emit_123 (lv_at hl 0 rfl) ?_
      refine lv_aload_n G.1 G.2.1 dX11_emit_125 rfl (lv_at hl 1 rfl) ?_
      refine g_getI G hw C_10 iM_10 22 rfl fl_X11_159 dX11_emit_126 ?_
      obtain ⟨j18, hj18, hf⟩ := bd_some hf
      obtain ⟨g19, eg19, hf⟩ := lt9_some hf
      refine g_iast G hw iM_115 (by decide) rfl hj18 dX11_emit_129 (fun H locs hw => ?_)
      rw [← eg19] at hw
      refine lv_aload_n G.1 G.2.1 dX11_emit_130 rfl (lv_at hl 1 rfl) ?_
      refine lv_iconst (v := (3 : Int32)) G.1 G.2.1 dX11_emit_131 (by decide) ?_
      obtain ⟨g20, eg20, hf⟩ := lt9_some hf
      refine g_putI G hw C_10 iM_10 8 rfl fl_X11_177 rfl rfl rfl dX11_emit_132 (fun H locs hw => ?_)
      rw [← eg20] at hw
      refine lv_aload_n G.1 G.2.1 dX11_emit_135 rfl (lv_at hl 1 rfl) ?_
      refine lv_iload G.1 G.2.1 dX11_emit_136 (lv_at hl 0 rfl) ?_
      obtain ⟨g21, eg21, hf⟩ := lt9_some hf
      refine g_putI G hw C_10 iM_10 9 rfl fl_X11_180 rfl rfl rfl dX11_emit_138 (fun H locs hw => ?_)
      rw [← eg21] at hw
      refine lv_iload G.1 G.2.1 dX11_emit_141 (lv_at hl 0 rfl) ?_
      exact g_iretW G hr hk hf hw dX11_emit_143
    · rw [if_neg hc27] at hf
      refine lv_iconst (v := (0 : Int32)) G.1 G.2.1 dX11_emit_30 (by decide) ?_
      exact g_iretW G hr hk hf hw dX11_emit_31
  refine lv_if_ne (tgt := 23) G.1 G.2.1 dX11_emit_4 (by decide) (fun hc4 => ?_) (fun hc4 => ?_)
  · rw [if_neg hc4] at hf
    exact hj1 g _ _ ls hf hw (lv_sub hl [0, 1, 3, 4] rfl)
  · rw [if_pos hc4] at hf
    refine lv_aload_n G.1 G.2.1 dX11_emit_7 rfl (lv_at hl 0 rfl) ?_
    refine g_getI G hw C_10 iM_10 10 rfl fl_X11_171 dX11_emit_8 ?_
    refine lv_sipush (v := (200 : Int32)) G.1 G.2.1 dX11_emit_11 (by decide) ?_
    refine lv_icmp_ne (tgt := 23) G.1 G.2.1 dX11_emit_14 (by decide) (fun hc14 => ?_) (fun hc14 => ?_)
    · rw [if_neg hc14] at hf
      exact hj1 g _ _ ls hf hw (lv_sub hl [0, 1, 3, 4] rfl)
    · rw [if_pos hc14] at hf
      refine lv_aload_n G.1 G.2.1 dX11_emit_17 rfl (lv_at hl 0 rfl) ?_
      refine lv_iconst (v := (3 : Int32)) G.1 G.2.1 dX11_emit_18 (by decide) ?_
      refine lv_iload_n G.1 G.2.1 dX11_emit_19 rfl (lv_at hl 2 rfl) ?_
      obtain ⟨g2, hcg2, hf⟩ := bd_some hf
      refine g_callV0 (As := [.int (3 : Int32), .int a2]) (rest := []) G hw (gA_mono hw.2.2.2.1.1) C_10 iM_10 mv_X11_139 (c_M_fail l D X E n (3 : Int32) a2 g g2 hcg2) hl.1 rfl rfl (Nat.le_of_ble_eq_true rfl) (Nat.le_of_ble_eq_true rfl) (Nat.le_of_ble_eq_true rfl) ⟨Nat.le_refl _, Nat.le_refl _⟩ dX11_emit_20 (fun H locs hw => ?_)
      exact hj1 g2 _ _ ls hf hw (lv_sub hl [0, 1, 3, 4] rfl)

set_option maxHeartbeats 4000000 in
set_option maxRecDepth 100000 in
theorem c_M_open (l : Launch) (D : va_G) (X : va_W) (E : gE) (n : Nat) (g : Mem) (g' : Mem) (hf : M_open n g = some g') : gMet l yX11_open cX11_open 1 none 1 22 D X idsM E [.ref (E.1 10 0)] g none g' := by
  rw [M_open] at hf
  refine gt_code (by decide) (Nat.le_of_ble_eq_true rfl) (fun p en s m below meth c ls G hr hk hw hl => ?_)
  have hl : lv_has ls 1 [(0, .ref (E.1 10 0))] := hl
  refine lv_aload_n G.1 G.2.1 dX11_open_0 rfl (lv_at hl 0 rfl) ?_
  refine g_getI G hw C_10 iM_10 6 rfl fl_X11_183 dX11_open_1 ?_
  refine lv_bipush (v := (20 : Int32)) G.1 G.2.1 dX11_open_4 (by decide) ?_
  obtain ⟨j1, ej1, hf⟩ := lt9_some hf
  have hj1 : ∀ (g3 : Mem) (H : Heap) (locs : List Loc) (ls : Array Slot), j1 g3 = some g' → GW D X idsM E (gA X idsM E s.heap.size) s g3 H locs → lv_has ls 1 [(0, .ref (E.1 10 0))] → W p l en { frames := 1, cells := 0, slots := 0, locals := 22 } s m [.ref (E.1 10 0)].toArray below meth c H locs 0 0 (MQ below (gQ none (GP D X idsM E g') (gA X idsM E s.heap.size)) [.ref (E.1 10 0)].toArray s 0 0 (gA X idsM E s.heap.size)) (F0 m 18 ls []) := by
    intro g3 H locs ls hf hw hl
    rw [ej1] at hf
    dsimp only at hf
    refine lv_aload_n G.1 G.2.1 dX11_open_18 rfl (lv_at hl 0 rfl) ?_
    refine lv_dup G.1 G.2.1 dX11_open_19 rfl ?_
    refine g_getI G hw C_10 iM_10 6 rfl fl_X11_183 dX11_open_20 ?_
    refine lv_iconst (v := (1 : Int32)) G.1 G.2.1 dX11_open_23 (by decide) ?_
    refine lv_iadd G.1 G.2.1 dX11_open_24 ?_
    obtain ⟨g4, eg4, hf⟩ := lt9_some hf
    refine g_putI G hw C_10 iM_10 6 rfl fl_X11_183 rfl rfl rfl dX11_open_25 (fun H locs hw => ?_)
    rw [← eg4] at hw
    refine lv_aload_n G.1 G.2.1 dX11_open_28 rfl (lv_at hl 0 rfl) ?_
    refine lv_dup G.1 G.2.1 dX11_open_29 rfl ?_
    refine g_getI G hw C_10 iM_10 5 rfl fl_X11_128 dX11_open_30 ?_
    refine lv_iconst (v := (1 : Int32)) G.1 G.2.1 dX11_open_33 (by decide) ?_
    refine lv_iadd G.1 G.2.1 dX11_open_34 ?_
    obtain ⟨g5, eg5, hf⟩ := lt9_some hf
    refine g_putI G hw C_10 iM_10 5 rfl fl_X11_128 rfl rfl rfl dX11_open_35 (fun H locs hw => ?_)
    rw [← eg5] at hw
    exact g_vretW G hr hk hf hw dX11_open_38
  refine lv_icmp_ne (tgt := 18) G.1 G.2.1 dX11_open_6 (by decide) (fun hc6 => ?_) (fun hc6 => ?_)
  · rw [if_neg hc6] at hf
    exact hj1 g _ _ ls hf hw (lv_sub hl [0] rfl)
  · rw [if_pos hc6] at hf
    refine lv_aload_n G.1 G.2.1 dX11_open_9 rfl (lv_at hl 0 rfl) ?_
    refine lv_iconst (v := (3 : Int32)) G.1 G.2.1 dX11_open_10 (by decide) ?_
    refine lv_aload_n G.1 G.2.1 dX11_open_11 rfl (lv_at hl 0 rfl) ?_
    refine g_getI G hw C_10 iM_10 5 rfl fl_X11_128 dX11_open_12 ?_
    obtain ⟨g2, hcg2, hf⟩ := bd_some hf
    refine g_callV0 (As := [.int (3 : Int32), .int (gI g 10 0 5)]) (rest := []) G hw (gA_mono hw.2.2.2.1.1) C_10 iM_10 mv_X11_139 (c_M_fail l D X E n (3 : Int32) (gI g 10 0 5) g g2 hcg2) hl.1 rfl rfl (Nat.le_of_ble_eq_true rfl) (Nat.le_of_ble_eq_true rfl) (Nat.le_of_ble_eq_true rfl) ⟨Nat.le_refl _, Nat.le_refl _⟩ dX11_open_15 (fun H locs hw => ?_)
    exact hj1 g2 _ _ ls hf hw (lv_sub hl [0] rfl)

set_option maxHeartbeats 4000000 in
set_option maxRecDepth 100000 in
theorem c_M_number (l : Launch) (D : va_G) (X : va_W) (E : gE) (n : Nat) (g : Mem) (g' : Mem) (hf : M_number n g = some g') : gMet l yX11_number cX11_number 4 none 1 22 D X idsM E [.ref (E.1 10 0)] g none g' := by
  rw [M_number] at hf
  refine gt_code (by decide) (Nat.le_of_ble_eq_true rfl) (fun p en s m below meth c ls G hr hk hw hl => ?_)
  have hl : lv_has ls 4 [(0, .ref (E.1 10 0))] := hl
  refine lv_aload_n G.1 G.2.1 dX11_number_0 rfl (lv_at hl 0 rfl) ?_
  refine g_getI G hw C_10 iM_10 5 rfl fl_X11_128 dX11_number_1 ?_
  refine lv_istore_n (lv' := [(1, .int (gI g 10 0 5)), (0, .ref (E.1 10 0))]) G.1 G.2.1 dX11_number_4 rfl hl (by decide) rfl (fun ls hl => ?_)
  refine lv_lconst (v := (0 : Int64)) G.1 G.2.1 dX11_number_5 (by decide) ?_
  refine lv_lstore_n (lv' := [(2, .long (0 : Int64)), (1, .int (gI g 10 0 5)), (0, .ref (E.1 10 0))]) G.1 G.2.1 dX11_number_6 rfl hl (by decide) rfl (fun ls hl => ?_)
  have hL7 : ∀ (k1 : Nat) (x2 : Int64) (g3 : Mem) (res1 : Int64 × Mem) (H : Heap) (locs : List Loc) (ls : Array Slot), M_number_L7 n k1 x2 g3 = some res1 → GW D X idsM E (gA X idsM E s.heap.size) s g3 H locs → lv_has ls 4 [(0, .ref (E.1 10 0)), (1, .int (gI g 10 0 5)), (2, .long x2)] → (∀ (H : Heap) (locs : List Loc) (ls : Array Slot), GW D X idsM E (gA X idsM E s.heap.size) s res1.2 H locs → lv_has ls 4 [(0, .ref (E.1 10 0)), (1, .int (gI g 10 0 5)), (2, .long res1.1)] → W p l en { frames := 1, cells := 0, slots := 0, locals := 22 } s m [.ref (E.1 10 0)].toArray below meth c H locs 0 0 (MQ below (gQ none (GP D X idsM E g') (gA X idsM E s.heap.size)) [.ref (E.1 10 0)].toArray s 0 0 (gA X idsM E s.heap.size)) (F0 m 70 ls [])) → W p l en { frames := 1, cells := 0, slots := 0, locals := 22 } s m [.ref (E.1 10 0)].toArray below meth c H locs 0 0 (MQ below (gQ none (GP D X idsM E g') (gA X idsM E s.heap.size)) [.ref (E.1 10 0)].toArray s 0 0 (gA X idsM E s.heap.size)) (F0 m 7 ls []) := by
    intro k1
    induction k1 with
    | zero => intro x2 g3 res1 H locs ls hf; rw [M_number_L7] at hf; cases hf
    | succ k1 ih1 =>
      intro x2 g3 res1 H locs ls hf hw hl hk1_0
      rw [M_number_L7] at hf
      refine lv_aload_n G.1 G.2.1 dX11_number_7 rfl (lv_at hl 0 rfl) ?_
      refine lv_aload_n G.1 G.2.1 dX11_number_8 rfl (lv_at hl 0 rfl) ?_
      refine g_getI G hw C_10 iM_10 5 rfl fl_X11_128 dX11_number_9 ?_
      obtain ⟨z4, hcz4, hf⟩ := bd_some hf
      refine g_callV1 (As := [.int (gI g3 10 0 5)]) (rest := []) G hw (gA_mono hw.2.2.2.1.1) C_10 iM_10 mv_X11_131 (c_M_byteAt l D X E n (gI g3 10 0 5) g3 z4 hcz4) hl.1 rfl rfl (Nat.le_of_ble_eq_true rfl) (Nat.le_of_ble_eq_true rfl) (Nat.le_of_ble_eq_true rfl) ⟨Nat.le_refl _, Nat.le_refl _⟩ dX11_number_12 (fun H locs hw => ?_)
      obtain ⟨z5, hcz5, hf⟩ := bd_some hf
      refine g_callS1 (As := [.int z4]) (rest := []) G hw (gA_mono hw.2.2.2.1.1)  ms_X11_186 (c_M_isFigure l D X E n z4 g3 z5 hcz5) hl.1 rfl rfl (Nat.le_of_ble_eq_true rfl) (Nat.le_of_ble_eq_true rfl) (Nat.le_of_ble_eq_true rfl) ⟨Nat.le_refl _, Nat.le_refl _⟩ dX11_number_15 (fun H locs hw => ?_)
      refine lv_if_eq (tgt := 70) G.1 G.2.1 dX11_number_18 (by decide) (fun hc18 => ?_) (fun hc18 => ?_)
      · rw [if_pos hc18] at hf
        obtain rfl := Option.some.inj hf
        exact hk1_0 _ _ ls hw (lv_sub hl [0, 1, 2] rfl)
      · rw [if_neg hc18] at hf
        refine lv_lload_n G.1 G.2.1 dX11_number_21 rfl (lv_at hl 2 rfl) ?_
        refine lv_ldc2 (v := (10 : Int64)) G.1 G.2.1 G.2.2.2.1 (G.2.2.2.2 _ cl_X11_189) dX11_number_22 ?_
        refine lv_lmul G.1 G.2.1 dX11_number_25 ?_
        refine lv_aload_n G.1 G.2.1 dX11_number_26 rfl (lv_at hl 0 rfl) ?_
        refine lv_aload_n G.1 G.2.1 dX11_number_27 rfl (lv_at hl 0 rfl) ?_
        refine g_getI G hw C_10 iM_10 5 rfl fl_X11_128 dX11_number_28 ?_
        obtain ⟨z6, hcz6, hf⟩ := bd_some hf
        refine g_callV1 (As := [.int (gI g3 10 0 5)]) (rest := [.long (x2 * (10 : Int64))]) G hw (gA_mono hw.2.2.2.1.1) C_10 iM_10 mv_X11_131 (c_M_byteAt l D X E n (gI g3 10 0 5) g3 z6 hcz6) hl.1 rfl rfl (Nat.le_of_ble_eq_true rfl) (Nat.le_of_ble_eq_true rfl) (Nat.le_of_ble_eq_true rfl) ⟨Nat.le_refl _, Nat.le_refl _⟩ dX11_number_31 (fun H locs hw => ?_)
        refine lv_i2l G.1 G.2.1 dX11_number_34 rfl ?_
        refine lv_ladd G.1 G.2.1 dX11_number_35 ?_
        refine lv_ldc2 (v := (48 : Int64)) G.1 G.2.1 G.2.2.2.1 (G.2.2.2.2 _ cl_X11_191) dX11_number_36 ?_
        refine lv_lsub G.1 G.2.1 dX11_number_39 ?_
        refine lv_lstore_n (lv' := [(2, .long (((x2 * (10 : Int64)) + z6.toInt64) - (48 : Int64))), (0, .ref (E.1 10 0)), (1, .int (gI g 10 0 5))]) G.1 G.2.1 dX11_number_40 rfl hl (by decide) rfl (fun ls hl => ?_)
        refine lv_lload_n G.1 G.2.1 dX11_number_41 rfl (lv_at hl 0 rfl) ?_
        refine lv_ldc2 (v := (9999999999 : Int64)) G.1 G.2.1 G.2.2.2.1 (G.2.2.2.2 _ cl_X11_193) dX11_number_42 ?_
        refine W.lcmp G.1 G.2.1 dX11_number_45 ?_
        obtain ⟨j7, ej7, hf⟩ := lt9_some hf
        have hj7 : ∀ (v8 : Int64) (H : Heap) (locs : List Loc) (ls : Array Slot), j7 v8 = some res1 → GW D X idsM E (gA X idsM E s.heap.size) s g3 H locs → lv_has ls 4 [(0, .ref (E.1 10 0)), (1, .int (gI g 10 0 5))] → W p l en { frames := 1, cells := 0, slots := 0, locals := 22 } s m [.ref (E.1 10 0)].toArray below meth c H locs 0 0 (MQ below (gQ none (GP D X idsM E g') (gA X idsM E s.heap.size)) [.ref (E.1 10 0)].toArray s 0 0 (gA X idsM E s.heap.size)) (F0 m 56 ls [.long v8]) := by
          intro v8 H locs ls hf hw hl
          rw [ej7] at hf
          dsimp only at hf
          refine lv_lstore_n (lv' := [(2, .long v8), (0, .ref (E.1 10 0)), (1, .int (gI g 10 0 5))]) G.1 G.2.1 dX11_number_56 rfl hl (by decide) rfl (fun ls hl => ?_)
          refine lv_aload_n G.1 G.2.1 dX11_number_57 rfl (lv_at hl 1 rfl) ?_
          refine lv_dup G.1 G.2.1 dX11_number_58 rfl ?_
          refine g_getI G hw C_10 iM_10 5 rfl fl_X11_128 dX11_number_59 ?_
          refine lv_iconst (v := (1 : Int32)) G.1 G.2.1 dX11_number_62 (by decide) ?_
          refine lv_iadd G.1 G.2.1 dX11_number_63 ?_
          obtain ⟨g9, eg9, hf⟩ := lt9_some hf
          refine g_putI G hw C_10 iM_10 5 rfl fl_X11_128 rfl rfl rfl dX11_number_64 (fun H locs hw => ?_)
          rw [← eg9] at hw
          refine lv_goto (tgt := 7) G.1 G.2.1 dX11_number_67 (by decide) ?_
          exact ih1 v8 g9 _ _ _ ls hf hw (lv_sub hl [1, 2, 0] rfl) hk1_0
        refine lv_if_le (tgt := 55) G.1 G.2.1 dX11_number_46 (by decide) (fun hc46 => ?_) (fun hc46 => ?_)
        · rw [if_pos hc46] at hf
          refine lv_lload_n G.1 G.2.1 dX11_number_55 rfl (lv_at hl 0 rfl) ?_
          exact hj7 (((x2 * (10 : Int64)) + z6.toInt64) - (48 : Int64)) _ _ ls hf hw (lv_sub hl [1, 2] rfl)
        · rw [if_neg hc46] at hf
          refine lv_ldc2 (v := (9999999999 : Int64)) G.1 G.2.1 G.2.2.2.1 (G.2.2.2.2 _ cl_X11_193) dX11_number_49 ?_
          refine lv_goto (tgt := 56) G.1 G.2.1 dX11_number_52 (by decide) ?_
          exact hj7 (9999999999 : Int64) _ _ ls hf hw (lv_sub hl [1, 2] rfl)
  obtain ⟨r10, hr10, hf⟩ := bd_some hf
  refine hL7 n (0 : Int64) g r10 _ _ ls hr10 hw (lv_sub hl [2, 1, 0] rfl) ?_
  intro H locs ls hw hl
  refine lv_lload_n G.1 G.2.1 dX11_number_70 rfl (lv_at hl 2 rfl) ?_
  refine lv_ldc2 (v := (2147483647 : Int64)) G.1 G.2.1 G.2.2.2.1 (G.2.2.2.2 _ cl_X11_195) dX11_number_71 ?_
  refine W.lcmp G.1 G.2.1 dX11_number_74 ?_
  obtain ⟨j11, ej11, hf⟩ := lt9_some hf
  have hj11 : ∀ (g13 : Mem) (H : Heap) (locs : List Loc) (ls : Array Slot), j11 g13 = some g' → GW D X idsM E (gA X idsM E s.heap.size) s g13 H locs → lv_has ls 4 [(0, .ref (E.1 10 0)), (2, .long r10.1)] → W p l en { frames := 1, cells := 0, slots := 0, locals := 22 } s m [.ref (E.1 10 0)].toArray below meth c H locs 0 0 (MQ below (gQ none (GP D X idsM E g') (gA X idsM E s.heap.size)) [.ref (E.1 10 0)].toArray s 0 0 (gA X idsM E s.heap.size)) (F0 m 84 ls []) := by
    intro g13 H locs ls hf hw hl
    rw [ej11] at hf
    dsimp only at hf
    refine lv_aload_n G.1 G.2.1 dX11_number_84 rfl (lv_at hl 0 rfl) ?_
    refine lv_iconst (v := (1 : Int32)) G.1 G.2.1 dX11_number_85 (by decide) ?_
    obtain ⟨g14, eg14, hf⟩ := lt9_some hf
    refine g_putI G hw C_10 iM_10 8 rfl fl_X11_177 rfl rfl rfl dX11_number_86 (fun H locs hw => ?_)
    rw [← eg14] at hw
    refine lv_aload_n G.1 G.2.1 dX11_number_89 rfl (lv_at hl 0 rfl) ?_
    refine lv_lload_n G.1 G.2.1 dX11_number_90 rfl (lv_at hl 1 rfl) ?_
    refine lv_l2i G.1 G.2.1 dX11_number_91 rfl ?_
    obtain ⟨g15, eg15, hf⟩ := lt9_some hf
    refine g_putI G hw C_10 iM_10 9 rfl fl_X11_180 rfl rfl rfl dX11_number_92 (fun H locs hw => ?_)
    rw [← eg15] at hw
    exact g_vretW G hr hk hf hw dX11_number_95
  refine lv_if_le (tgt := 84) G.1 G.2.1 dX11_number_75 (by decide) (fun hc75 => ?_) (fun hc75 => ?_)
  · rw [if_pos hc75] at hf
    exact hj11 r10.2 _ _ ls hf hw (lv_sub hl [0, 2] rfl)
  · rw [if_neg hc75] at hf
    refine lv_aload_n G.1 G.2.1 dX11_number_78 rfl (lv_at hl 0 rfl) ?_
    refine lv_iconst (v := (2 : Int32)) G.1 G.2.1 dX11_number_79 (by decide) ?_
    refine lv_iload_n G.1 G.2.1 dX11_number_80 rfl (lv_at hl 1 rfl) ?_
    obtain ⟨g12, hcg12, hf⟩ := bd_some hf
    refine g_callV0 (As := [.int (2 : Int32), .int (gI g 10 0 5)]) (rest := []) G hw (gA_mono hw.2.2.2.1.1) C_10 iM_10 mv_X11_139 (c_M_fail l D X E n (2 : Int32) (gI g 10 0 5) r10.2 g12 hcg12) hl.1 rfl rfl (Nat.le_of_ble_eq_true rfl) (Nat.le_of_ble_eq_true rfl) (Nat.le_of_ble_eq_true rfl) ⟨Nat.le_refl _, Nat.le_refl _⟩ dX11_number_81 (fun H locs hw => ?_)
    exact hj11 g12 _ _ ls hf hw (lv_sub hl [0, 2] rfl)

set_option maxHeartbeats 4000000 in
set_option maxRecDepth 100000 in
theorem c_M_factor (l : Launch) (D : va_G) (X : va_W) (E : gE) (n : Nat) (rc : Mem → Option (Mem)) (fr0 lo0 : Nat) (hfr0 : 4 ≤ fr0) (hlo0 : 94 ≤ lo0) (hrc : ∀ (g : Mem) (g' : Mem), rc g = some g' → gMet l yX11_expression cX11_expression 5 none fr0 lo0 D X idsM E [.ref (E.1 10 0)] g none g') (g : Mem) (g' : Mem) (hf : M_factor rc n g = some g') : gMet l yX11_factor cX11_factor 6 none (fr0 + 1) (lo0 + 24) D X idsM E [.ref (E.1 10 0)] g none g' := by
  rw [M_factor] at hf
  refine gt_code (by decide) (Nat.le_of_ble_eq_true rfl) (fun p en s m below meth c ls G hr hk hw hl => ?_)
  have hl : lv_has ls 6 [(0, .ref (E.1 10 0))] := hl
  refine lv_aload_n G.1 G.2.1 dX11_factor_0 rfl (lv_at hl 0 rfl) ?_
  obtain ⟨z1, hcz1, hf⟩ := bd_some hf
  refine g_callV1 (As := []) (rest := []) G hw (gA_mono hw.2.2.2.1.1) C_10 iM_10 mv_X11_135 (c_M_next l D X E n g z1.1 z1.2 hcz1) hl.1 rfl rfl (Nat.le_of_ble_eq_true rfl) (by dsimp only; omega) (by dsimp only; omega) ⟨Nat.le_refl _, Nat.le_refl _⟩ dX11_factor_1 (fun H locs hw => ?_)
  refine lv_istore_n (lv' := [(1, .int z1.1), (0, .ref (E.1 10 0))]) G.1 G.2.1 dX11_factor_4 rfl hl (by decide) rfl (fun ls hl => ?_)
  refine lv_aload_n G.1 G.2.1 dX11_factor_5 rfl (lv_at hl 1 rfl) ?_
  refine g_getI G hw C_10 iM_10 5 rfl fl_X11_128 dX11_factor_6 ?_
  refine lv_istore_n (lv' := [(2, .int (gI z1.2 10 0 5)), (1, .int z1.1), (0, .ref (E.1 10 0))]) G.1 G.2.1 dX11_factor_9 rfl hl (by decide) rfl (fun ls hl => ?_)
  refine lv_aload_n G.1 G.2.1 dX11_factor_10 rfl (lv_at hl 2 rfl) ?_
  refine g_getI G hw C_10 iM_10 3 rfl fl_X11_125 dX11_factor_11 ?_
  refine lv_if_le (tgt := 18) G.1 G.2.1 dX11_factor_14 (by decide) (fun hc14 => ?_) (fun hc14 => ?_)
  · rw [if_pos hc14] at hf
    refine lv_iload_n G.1 G.2.1 dX11_factor_18 rfl (lv_at hl 1 rfl) ?_
    obtain ⟨z2, hcz2, hf⟩ := bd_some hf
    refine g_callS1 (As := [.int z1.1]) (rest := []) G hw (gA_mono hw.2.2.2.1.1)  ms_X11_186 (c_M_isFigure l D X E n z1.1 z1.2 z2 hcz2) hl.1 rfl rfl (Nat.le_of_ble_eq_true rfl) (by dsimp only; omega) (by dsimp only; omega) ⟨Nat.le_refl _, Nat.le_refl _⟩ dX11_factor_19 (fun H locs hw => ?_)
    refine lv_if_eq (tgt := 32) G.1 G.2.1 dX11_factor_22 (by decide) (fun hc22 => ?_) (fun hc22 => ?_)
    · rw [if_pos hc22] at hf
      refine lv_iload_n G.1 G.2.1 dX11_factor_32 rfl (lv_at hl 1 rfl) ?_
      refine lv_bipush (v := (40 : Int32)) G.1 G.2.1 dX11_factor_33 (by decide) ?_
      refine lv_icmp_ne (tgt := 65) G.1 G.2.1 dX11_factor_35 (by decide) (fun hc35 => ?_) (fun hc35 => ?_)
      · rw [if_neg hc35] at hf
        refine lv_iload_n G.1 G.2.1 dX11_factor_65 rfl (lv_at hl 1 rfl) ?_
        obtain ⟨z3, hcz3, hf⟩ := bd_some hf
        refine g_callS1 (As := [.int z1.1]) (rest := []) G hw (gA_mono hw.2.2.2.1.1)  ms_X11_143 (c_M_isLetter l D X E n z1.1 z1.2 z3 hcz3) hl.1 rfl rfl (Nat.le_of_ble_eq_true rfl) (by dsimp only; omega) (by dsimp only; omega) ⟨Nat.le_refl _, Nat.le_refl _⟩ dX11_factor_66 (fun H locs hw => ?_)
        obtain ⟨j4, ej4, hf⟩ := lt9_some hf
        have hj4 : ∀ (g9 : Mem) (H : Heap) (locs : List Loc) (ls : Array Slot), j4 g9 = some g' → GW D X idsM E (gA X idsM E s.heap.size) s g9 H locs → lv_has ls 6 [(0, .ref (E.1 10 0)), (1, .int z1.1), (2, .int (gI z1.2 10 0 5))] → W p l en { frames := (fr0 + 1), cells := 0, slots := 0, locals := (lo0 + 24) } s m [.ref (E.1 10 0)].toArray below meth c H locs 0 0 (MQ below (gQ none (GP D X idsM E g') (gA X idsM E s.heap.size)) [.ref (E.1 10 0)].toArray s 0 0 (gA X idsM E s.heap.size)) (F0 m 106 ls []) := by
          intro g9 H locs ls hf hw hl
          rw [ej4] at hf
          dsimp only at hf
          refine lv_iload_n G.1 G.2.1 dX11_factor_106 rfl (lv_at hl 1 rfl) ?_
          obtain ⟨z10, hcz10, hf⟩ := bd_some hf
          refine g_callS1 (As := [.int z1.1]) (rest := []) G hw (gA_mono hw.2.2.2.1.1)  ms_X11_143 (c_M_isLetter l D X E n z1.1 g9 z10 hcz10) hl.1 rfl rfl (Nat.le_of_ble_eq_true rfl) (by dsimp only; omega) (by dsimp only; omega) ⟨Nat.le_refl _, Nat.le_refl _⟩ dX11_factor_107 (fun H locs hw => ?_)
          refine lv_if_eq (tgt := 204) G.1 G.2.1 dX11_factor_110 (by decide) (fun hc110 => ?_) (fun hc110 => ?_)
          · rw [if_pos hc110] at hf
            refine lv_aload_n G.1 G.2.1 dX11_factor_204 rfl (lv_at hl 0 rfl) ?_
            refine lv_iconst (v := (1 : Int32)) G.1 G.2.1 dX11_factor_205 (by decide) ?_
            refine lv_aload_n G.1 G.2.1 dX11_factor_206 rfl (lv_at hl 0 rfl) ?_
            refine g_getI G hw C_10 iM_10 5 rfl fl_X11_128 dX11_factor_207 ?_
            obtain ⟨g11, hcg11, hf⟩ := bd_some hf
            refine g_callV0 (As := [.int (1 : Int32), .int (gI g9 10 0 5)]) (rest := []) G hw (gA_mono hw.2.2.2.1.1) C_10 iM_10 mv_X11_139 (c_M_fail l D X E n (1 : Int32) (gI g9 10 0 5) g9 g11 hcg11) hl.1 rfl rfl (Nat.le_of_ble_eq_true rfl) (by dsimp only; omega) (by dsimp only; omega) ⟨Nat.le_refl _, Nat.le_refl _⟩ dX11_factor_210 (fun H locs hw => ?_)
            exact g_vretW G hr hk hf hw dX11_factor_213
          · rw [if_neg hc110] at hf
            refine lv_aload_n G.1 G.2.1 dX11_factor_113 rfl (lv_at hl 0 rfl) ?_
            obtain ⟨z12, hcz12, hf⟩ := bd_some hf
            refine g_callV1 (As := []) (rest := []) G hw (gA_mono hw.2.2.2.1.1) C_10 iM_10 mv_X11_210 (c_M_word l D X E n g9 z12.1 z12.2 hcz12) hl.1 rfl rfl (Nat.le_of_ble_eq_true rfl) (by dsimp only; omega) (by dsimp only; omega) ⟨Nat.le_refl _, Nat.le_refl _⟩ dX11_factor_114 (fun H locs hw => ?_)
            refine lv_iconst (v := (5 : Int32)) G.1 G.2.1 dX11_factor_117 (by decide) ?_
            refine lv_icmp_ne (tgt := 204) G.1 G.2.1 dX11_factor_118 (by decide) (fun hc118 => ?_) (fun hc118 => ?_)
            · rw [if_neg hc118] at hf
              refine lv_aload_n G.1 G.2.1 dX11_factor_204 rfl (lv_at hl 0 rfl) ?_
              refine lv_iconst (v := (1 : Int32)) G.1 G.2.1 dX11_factor_205 (by decide) ?_
              refine lv_aload_n G.1 G.2.1 dX11_factor_206 rfl (lv_at hl 0 rfl) ?_
              refine g_getI G hw C_10 iM_10 5 rfl fl_X11_128 dX11_factor_207 ?_
              obtain ⟨g13, hcg13, hf⟩ := bd_some hf
              refine g_callV0 (As := [.int (1 : Int32), .int (gI z12.2 10 0 5)]) (rest := []) G hw (gA_mono hw.2.2.2.1.1) C_10 iM_10 mv_X11_139 (c_M_fail l D X E n (1 : Int32) (gI z12.2 10 0 5) z12.2 g13 hcg13) hl.1 rfl rfl (Nat.le_of_ble_eq_true rfl) (by dsimp only; omega) (by dsimp only; omega) ⟨Nat.le_refl _, Nat.le_refl _⟩ dX11_factor_210 (fun H locs hw => ?_)
              exact g_vretW G hr hk hf hw dX11_factor_213
            · rw [if_pos hc118] at hf
              refine lv_aload_n G.1 G.2.1 dX11_factor_121 rfl (lv_at hl 0 rfl) ?_
              refine lv_dup G.1 G.2.1 dX11_factor_122 rfl ?_
              refine g_getI G hw C_10 iM_10 5 rfl fl_X11_128 dX11_factor_123 ?_
              refine lv_iconst (v := (1 : Int32)) G.1 G.2.1 dX11_factor_126 (by decide) ?_
              refine lv_iadd G.1 G.2.1 dX11_factor_127 ?_
              obtain ⟨g14, eg14, hf⟩ := lt9_some hf
              refine g_putI G hw C_10 iM_10 5 rfl fl_X11_128 rfl rfl rfl dX11_factor_128 (fun H locs hw => ?_)
              rw [← eg14] at hw
              refine lv_aload_n G.1 G.2.1 dX11_factor_131 rfl (lv_at hl 0 rfl) ?_
              obtain ⟨z15, hcz15, hf⟩ := bd_some hf
              refine g_callV1 (As := []) (rest := []) G hw (gA_mono hw.2.2.2.1.1) C_10 iM_10 mv_X11_135 (c_M_next l D X E n g14 z15.1 z15.2 hcz15) hl.1 rfl rfl (Nat.le_of_ble_eq_true rfl) (by dsimp only; omega) (by dsimp only; omega) ⟨Nat.le_refl _, Nat.le_refl _⟩ dX11_factor_132 (fun H locs hw => ?_)
              refine lv_bipush (v := (91 : Int32)) G.1 G.2.1 dX11_factor_135 (by decide) ?_
              refine lv_icmp_eq (tgt := 150) G.1 G.2.1 dX11_factor_137 (by decide) (fun hc137 => ?_) (fun hc137 => ?_)
              · rw [if_pos hc137] at hf
                refine lv_aload_n G.1 G.2.1 dX11_factor_150 rfl (lv_at hl 0 rfl) ?_
                obtain ⟨g16, hcg16, hf⟩ := bd_some hf
                refine g_callV0 (As := []) (rest := []) G hw (gA_mono hw.2.2.2.1.1) C_10 iM_10 mv_X11_200 (c_M_open l D X E n z15.2 g16 hcg16) hl.1 rfl rfl (Nat.le_of_ble_eq_true rfl) (by dsimp only; omega) (by dsimp only; omega) ⟨Nat.le_refl _, Nat.le_refl _⟩ dX11_factor_151 (fun H locs hw => ?_)
                refine lv_aload_n G.1 G.2.1 dX11_factor_154 rfl (lv_at hl 0 rfl) ?_
                obtain ⟨g17, hcg17, hf⟩ := bd_some hf
                refine g_callV0 (As := []) (rest := []) G hw (gA_mono hw.2.2.2.1.1) C_10 iM_10 mv_X11_203 (hrc g16 g17 hcg17) hl.1 rfl rfl (Nat.le_of_ble_eq_true rfl) (by dsimp only; omega) (by dsimp only; omega) ⟨Nat.le_refl _, Nat.le_refl _⟩ dX11_factor_155 (fun H locs hw => ?_)
                refine lv_aload_n G.1 G.2.1 dX11_factor_158 rfl (lv_at hl 0 rfl) ?_
                refine lv_bipush (v := (93 : Int32)) G.1 G.2.1 dX11_factor_159 (by decide) ?_
                obtain ⟨g18, hcg18, hf⟩ := bd_some hf
                refine g_callV0 (As := [.int (93 : Int32)]) (rest := []) G hw (gA_mono hw.2.2.2.1.1) C_10 iM_10 mv_X11_206 (c_M_want l D X E n (93 : Int32) g17 g18 hcg18) hl.1 rfl rfl (Nat.le_of_ble_eq_true rfl) (by dsimp only; omega) (by dsimp only; omega) ⟨Nat.le_refl _, Nat.le_refl _⟩ dX11_factor_161 (fun H locs hw => ?_)
                refine lv_aload_n G.1 G.2.1 dX11_factor_164 rfl (lv_at hl 0 rfl) ?_
                refine lv_dup G.1 G.2.1 dX11_factor_165 rfl ?_
                refine g_getI G hw C_10 iM_10 6 rfl fl_X11_183 dX11_factor_166 ?_
                refine lv_iconst (v := (1 : Int32)) G.1 G.2.1 dX11_factor_169 (by decide) ?_
                refine lv_isub G.1 G.2.1 dX11_factor_170 ?_
                obtain ⟨g19, eg19, hf⟩ := lt9_some hf
                refine g_putI G hw C_10 iM_10 6 rfl fl_X11_183 rfl rfl rfl dX11_factor_171 (fun H locs hw => ?_)
                rw [← eg19] at hw
                refine lv_aload_n G.1 G.2.1 dX11_factor_174 rfl (lv_at hl 0 rfl) ?_
                refine g_getI G hw C_10 iM_10 8 rfl fl_X11_177 dX11_factor_175 ?_
                refine lv_istore_n (lv' := [(3, .int (gI g19 10 0 8)), (0, .ref (E.1 10 0)), (1, .int z1.1), (2, .int (gI z1.2 10 0 5))]) G.1 G.2.1 dX11_factor_178 rfl hl (by decide) rfl (fun ls hl => ?_)
                refine lv_aload_n G.1 G.2.1 dX11_factor_179 rfl (lv_at hl 1 rfl) ?_
                refine g_getI G hw C_10 iM_10 9 rfl fl_X11_180 dX11_factor_180 ?_
                refine lv_istore (lv' := [(4, .int (gI g19 10 0 9)), (3, .int (gI g19 10 0 8)), (0, .ref (E.1 10 0)), (1, .int z1.1), (2, .int (gI z1.2 10 0 5))]) G.1 G.2.1 dX11_factor_183 hl (by decide) rfl (fun ls hl => ?_)
                refine lv_aload_n G.1 G.2.1 dX11_factor_185 rfl (lv_at hl 2 rfl) ?_
                refine lv_iconst (v := (0 : Int32)) G.1 G.2.1 dX11_factor_186 (by decide) ?_
                obtain ⟨g20, eg20, hf⟩ := lt9_some hf
                refine g_putI G hw C_10 iM_10 8 rfl fl_X11_177 rfl rfl rfl dX11_factor_187 (fun H locs hw => ?_)
                rw [← eg20] at hw
                refine lv_aload_n G.1 G.2.1 dX11_factor_190 rfl (lv_at hl 2 rfl) ?_
                refine lv_iconst (v := (5 : Int32)) G.1 G.2.1 dX11_factor_191 (by decide) ?_
                refine lv_iload_n G.1 G.2.1 dX11_factor_192 rfl (lv_at hl 4 rfl) ?_
                refine lv_iload_n G.1 G.2.1 dX11_factor_193 rfl (lv_at hl 1 rfl) ?_
                refine lv_iload G.1 G.2.1 dX11_factor_194 (lv_at hl 0 rfl) ?_
                obtain ⟨z21, hcz21, hf⟩ := bd_some hf
                refine g_callV1 (As := [.int (5 : Int32), .int (gI z1.2 10 0 5), .int (gI g19 10 0 8), .int (gI g19 10 0 9)]) (rest := []) G hw (gA_mono hw.2.2.2.1.1) C_10 iM_10 mv_X11_213 (c_M_emit l D X E n (5 : Int32) (gI z1.2 10 0 5) (gI g19 10 0 8) (gI g19 10 0 9) g20 z21.1 z21.2 hcz21) hl.1 rfl rfl (Nat.le_of_ble_eq_true rfl) (by dsimp only; omega) (by dsimp only; omega) ⟨Nat.le_refl _, Nat.le_refl _⟩ dX11_factor_196 (fun H locs hw => ?_)
                refine lv_istore (lv' := [(5, .int z21.1), (4, .int (gI g19 10 0 9)), (3, .int (gI g19 10 0 8)), (0, .ref (E.1 10 0)), (1, .int z1.1), (2, .int (gI z1.2 10 0 5))]) G.1 G.2.1 dX11_factor_199 hl (by decide) rfl (fun ls hl => ?_)
                refine lv_goto (tgt := 213) G.1 G.2.1 dX11_factor_201 (by decide) ?_
                exact g_vretW G hr hk hf hw dX11_factor_213
              · rw [if_neg hc137] at hf
                refine lv_aload_n G.1 G.2.1 dX11_factor_140 rfl (lv_at hl 0 rfl) ?_
                refine lv_iconst (v := (1 : Int32)) G.1 G.2.1 dX11_factor_141 (by decide) ?_
                refine lv_aload_n G.1 G.2.1 dX11_factor_142 rfl (lv_at hl 0 rfl) ?_
                refine g_getI G hw C_10 iM_10 5 rfl fl_X11_128 dX11_factor_143 ?_
                obtain ⟨g22, hcg22, hf⟩ := bd_some hf
                refine g_callV0 (As := [.int (1 : Int32), .int (gI z15.2 10 0 5)]) (rest := []) G hw (gA_mono hw.2.2.2.1.1) C_10 iM_10 mv_X11_139 (c_M_fail l D X E n (1 : Int32) (gI z15.2 10 0 5) z15.2 g22 hcg22) hl.1 rfl rfl (Nat.le_of_ble_eq_true rfl) (by dsimp only; omega) (by dsimp only; omega) ⟨Nat.le_refl _, Nat.le_refl _⟩ dX11_factor_146 (fun H locs hw => ?_)
                exact g_vretW G hr hk hf hw dX11_factor_149
        refine lv_if_eq (tgt := 106) G.1 G.2.1 dX11_factor_69 (by decide) (fun hc69 => ?_) (fun hc69 => ?_)
        · rw [if_pos hc69] at hf
          exact hj4 z1.2 _ _ ls hf hw (lv_sub hl [2, 1, 0] rfl)
        · rw [if_neg hc69] at hf
          refine lv_aload_n G.1 G.2.1 dX11_factor_72 rfl (lv_at hl 2 rfl) ?_
          obtain ⟨z5, hcz5, hf⟩ := bd_some hf
          refine g_callV1 (As := []) (rest := []) G hw (gA_mono hw.2.2.2.1.1) C_10 iM_10 mv_X11_210 (c_M_word l D X E n z1.2 z5.1 z5.2 hcz5) hl.1 rfl rfl (Nat.le_of_ble_eq_true rfl) (by dsimp only; omega) (by dsimp only; omega) ⟨Nat.le_refl _, Nat.le_refl _⟩ dX11_factor_73 (fun H locs hw => ?_)
          refine lv_iconst (v := (4 : Int32)) G.1 G.2.1 dX11_factor_76 (by decide) ?_
          refine lv_icmp_ne (tgt := 106) G.1 G.2.1 dX11_factor_77 (by decide) (fun hc77 => ?_) (fun hc77 => ?_)
          · rw [if_neg hc77] at hf
            exact hj4 z5.2 _ _ ls hf hw (lv_sub hl [2, 1, 0] rfl)
          · rw [if_pos hc77] at hf
            refine lv_aload_n G.1 G.2.1 dX11_factor_80 rfl (lv_at hl 2 rfl) ?_
            refine lv_iconst (v := (2 : Int32)) G.1 G.2.1 dX11_factor_81 (by decide) ?_
            obtain ⟨g6, eg6, hf⟩ := lt9_some hf
            refine g_putI G hw C_10 iM_10 8 rfl fl_X11_177 rfl rfl rfl dX11_factor_82 (fun H locs hw => ?_)
            rw [← eg6] at hw
            refine lv_aload_n G.1 G.2.1 dX11_factor_85 rfl (lv_at hl 2 rfl) ?_
            refine lv_iload_n G.1 G.2.1 dX11_factor_86 rfl (lv_at hl 1 rfl) ?_
            refine lv_bipush (v := (97 : Int32)) G.1 G.2.1 dX11_factor_87 (by decide) ?_
            refine lv_isub G.1 G.2.1 dX11_factor_89 ?_
            obtain ⟨g7, eg7, hf⟩ := lt9_some hf
            refine g_putI G hw C_10 iM_10 9 rfl fl_X11_180 rfl rfl rfl dX11_factor_90 (fun H locs hw => ?_)
            rw [← eg7] at hw
            refine lv_aload_n G.1 G.2.1 dX11_factor_93 rfl (lv_at hl 2 rfl) ?_
            refine lv_dup G.1 G.2.1 dX11_factor_94 rfl ?_
            refine g_getI G hw C_10 iM_10 5 rfl fl_X11_128 dX11_factor_95 ?_
            refine lv_iconst (v := (1 : Int32)) G.1 G.2.1 dX11_factor_98 (by decide) ?_
            refine lv_iadd G.1 G.2.1 dX11_factor_99 ?_
            obtain ⟨g8, eg8, hf⟩ := lt9_some hf
            refine g_putI G hw C_10 iM_10 5 rfl fl_X11_128 rfl rfl rfl dX11_factor_100 (fun H locs hw => ?_)
            rw [← eg8] at hw
            refine lv_goto (tgt := 213) G.1 G.2.1 dX11_factor_103 (by decide) ?_
            exact g_vretW G hr hk hf hw dX11_factor_213
      · rw [if_pos hc35] at hf
        refine lv_aload_n G.1 G.2.1 dX11_factor_38 rfl (lv_at hl 2 rfl) ?_
        obtain ⟨g23, hcg23, hf⟩ := bd_some hf
        refine g_callV0 (As := []) (rest := []) G hw (gA_mono hw.2.2.2.1.1) C_10 iM_10 mv_X11_200 (c_M_open l D X E n z1.2 g23 hcg23) hl.1 rfl rfl (Nat.le_of_ble_eq_true rfl) (by dsimp only; omega) (by dsimp only; omega) ⟨Nat.le_refl _, Nat.le_refl _⟩ dX11_factor_39 (fun H locs hw => ?_)
        refine lv_aload_n G.1 G.2.1 dX11_factor_42 rfl (lv_at hl 2 rfl) ?_
        obtain ⟨g24, hcg24, hf⟩ := bd_some hf
        refine g_callV0 (As := []) (rest := []) G hw (gA_mono hw.2.2.2.1.1) C_10 iM_10 mv_X11_203 (hrc g23 g24 hcg24) hl.1 rfl rfl (Nat.le_of_ble_eq_true rfl) (by dsimp only; omega) (by dsimp only; omega) ⟨Nat.le_refl _, Nat.le_refl _⟩ dX11_factor_43 (fun H locs hw => ?_)
        refine lv_aload_n G.1 G.2.1 dX11_factor_46 rfl (lv_at hl 2 rfl) ?_
        refine lv_bipush (v := (41 : Int32)) G.1 G.2.1 dX11_factor_47 (by decide) ?_
        obtain ⟨g25, hcg25, hf⟩ := bd_some hf
        refine g_callV0 (As := [.int (41 : Int32)]) (rest := []) G hw (gA_mono hw.2.2.2.1.1) C_10 iM_10 mv_X11_206 (c_M_want l D X E n (41 : Int32) g24 g25 hcg25) hl.1 rfl rfl (Nat.le_of_ble_eq_true rfl) (by dsimp only; omega) (by dsimp only; omega) ⟨Nat.le_refl _, Nat.le_refl _⟩ dX11_factor_49 (fun H locs hw => ?_)
        refine lv_aload_n G.1 G.2.1 dX11_factor_52 rfl (lv_at hl 2 rfl) ?_
        refine lv_dup G.1 G.2.1 dX11_factor_53 rfl ?_
        refine g_getI G hw C_10 iM_10 6 rfl fl_X11_183 dX11_factor_54 ?_
        refine lv_iconst (v := (1 : Int32)) G.1 G.2.1 dX11_factor_57 (by decide) ?_
        refine lv_isub G.1 G.2.1 dX11_factor_58 ?_
        obtain ⟨g26, eg26, hf⟩ := lt9_some hf
        refine g_putI G hw C_10 iM_10 6 rfl fl_X11_183 rfl rfl rfl dX11_factor_59 (fun H locs hw => ?_)
        rw [← eg26] at hw
        refine lv_goto (tgt := 213) G.1 G.2.1 dX11_factor_62 (by decide) ?_
        exact g_vretW G hr hk hf hw dX11_factor_213
    · rw [if_neg hc22] at hf
      refine lv_aload_n G.1 G.2.1 dX11_factor_25 rfl (lv_at hl 2 rfl) ?_
      obtain ⟨g27, hcg27, hf⟩ := bd_some hf
      refine g_callV0 (As := []) (rest := []) G hw (gA_mono hw.2.2.2.1.1) C_10 iM_10 mv_X11_197 (c_M_number l D X E n z1.2 g27 hcg27) hl.1 rfl rfl (Nat.le_of_ble_eq_true rfl) (by dsimp only; omega) (by dsimp only; omega) ⟨Nat.le_refl _, Nat.le_refl _⟩ dX11_factor_26 (fun H locs hw => ?_)
      refine lv_goto (tgt := 213) G.1 G.2.1 dX11_factor_29 (by decide) ?_
      exact g_vretW G hr hk hf hw dX11_factor_213
  · rw [if_neg hc14] at hf
    exact g_vretW G hr hk hf hw dX11_factor_17

set_option maxHeartbeats 4000000 in
set_option maxRecDepth 100000 in
theorem c_M_join (l : Launch) (D : va_G) (X : va_W) (E : gE) (n : Nat) (a1 : Int32) (a2 : Int32) (a3 : Int32) (a4 : Int32) (g : Mem) (g' : Mem) (hf : M_join n a1 a2 a3 a4 g = some g') : gMet l yX11_join cX11_join 6 none 3 69 D X idsM E [.ref (E.1 10 0), .int a1, .int a2, .int a3, .int a4] g none g' := by
  rw [M_join] at hf
  refine gt_code (by decide) (Nat.le_of_ble_eq_true rfl) (fun p en s m below meth c ls G hr hk hw hl => ?_)
  have hl : lv_has ls 6 [(0, .ref (E.1 10 0)), (1, .int a1), (2, .int a2), (3, .int a3), (4, .int a4)] := hl
  refine lv_aload_n G.1 G.2.1 dX11_join_0 rfl (lv_at hl 0 rfl) ?_
  refine g_getI G hw C_10 iM_10 3 rfl fl_X11_125 dX11_join_1 ?_
  refine lv_if_ne (tgt := 18) G.1 G.2.1 dX11_join_4 (by decide) (fun hc4 => ?_) (fun hc4 => ?_)
  · rw [if_neg hc4] at hf
    exact g_vretW G hr hk hf hw dX11_join_18
  · rw [if_pos hc4] at hf
    refine lv_aload_n G.1 G.2.1 dX11_join_7 rfl (lv_at hl 0 rfl) ?_
    refine lv_iload_n G.1 G.2.1 dX11_join_8 rfl (lv_at hl 1 rfl) ?_
    refine lv_iload_n G.1 G.2.1 dX11_join_9 rfl (lv_at hl 2 rfl) ?_
    refine lv_iload_n G.1 G.2.1 dX11_join_10 rfl (lv_at hl 3 rfl) ?_
    refine lv_iload G.1 G.2.1 dX11_join_11 (lv_at hl 4 rfl) ?_
    obtain ⟨z1, hcz1, hf⟩ := bd_some hf
    refine g_callV1 (As := [.int a1, .int a2, .int a3, .int a4]) (rest := []) G hw (gA_mono hw.2.2.2.1.1) C_10 iM_10 mv_X11_213 (c_M_emit l D X E n a1 a2 a3 a4 g z1.1 z1.2 hcz1) hl.1 rfl rfl (Nat.le_of_ble_eq_true rfl) (Nat.le_of_ble_eq_true rfl) (Nat.le_of_ble_eq_true rfl) ⟨Nat.le_refl _, Nat.le_refl _⟩ dX11_join_13 (fun H locs hw => ?_)
    refine lv_istore (lv' := [(5, .int z1.1), (0, .ref (E.1 10 0)), (1, .int a1), (2, .int a2), (3, .int a3), (4, .int a4)]) G.1 G.2.1 dX11_join_16 hl (by decide) rfl (fun ls hl => ?_)
    exact g_vretW G hr hk hf hw dX11_join_18

set_option maxHeartbeats 4000000 in
set_option maxRecDepth 100000 in
theorem c_M_term (l : Launch) (D : va_G) (X : va_W) (E : gE) (n : Nat) (rc : Mem → Option (Mem)) (fr0 lo0 : Nat) (hfr0 : 4 ≤ fr0) (hlo0 : 94 ≤ lo0) (hrc : ∀ (g : Mem) (g' : Mem), rc g = some g' → gMet l yX11_expression cX11_expression 5 none fr0 lo0 D X idsM E [.ref (E.1 10 0)] g none g') (g : Mem) (g' : Mem) (hf : M_term rc n g = some g') : gMet l yX11_term cX11_term 4 none (fr0 + 2) (lo0 + 49) D X idsM E [.ref (E.1 10 0)] g none g' := by
  rw [M_term] at hf
  refine gt_code (by decide) (Nat.le_of_ble_eq_true rfl) (fun p en s m below meth c ls G hr hk hw hl => ?_)
  have hl : lv_has ls 4 [(0, .ref (E.1 10 0))] := hl
  refine lv_aload_n G.1 G.2.1 dX11_term_0 rfl (lv_at hl 0 rfl) ?_
  obtain ⟨g1, hcg1, hf⟩ := bd_some hf
  refine g_callV0 (As := []) (rest := []) G hw (gA_mono hw.2.2.2.1.1) C_10 iM_10 mv_X11_217 (c_M_factor l D X E n rc fr0 lo0 hfr0 hlo0 hrc g g1 hcg1) hl.1 rfl rfl (Nat.le_of_ble_eq_true rfl) (by dsimp only; omega) (by dsimp only; omega) ⟨Nat.le_refl _, Nat.le_refl _⟩ dX11_term_1 (fun H locs hw => ?_)
  have hL4 : ∀ (k2 : Nat) (g3 : Mem) (res2 : Mem) (H : Heap) (locs : List Loc) (ls : Array Slot), M_term_L4 n rc k2 g3 = some res2 → GW D X idsM E (gA X idsM E s.heap.size) s g3 H locs → lv_has ls 4 [(0, .ref (E.1 10 0))] → (∀ (H : Heap) (locs : List Loc) (ls : Array Slot), GW D X idsM E (gA X idsM E s.heap.size) s res2 H locs → lv_has ls 4 [] → W p l en { frames := (fr0 + 2), cells := 0, slots := 0, locals := (lo0 + 49) } s m [.ref (E.1 10 0)].toArray below meth c H locs 0 0 (MQ below (gQ none (GP D X idsM E g') (gA X idsM E s.heap.size)) [.ref (E.1 10 0)].toArray s 0 0 (gA X idsM E s.heap.size)) (F0 m 60 ls [])) → W p l en { frames := (fr0 + 2), cells := 0, slots := 0, locals := (lo0 + 49) } s m [.ref (E.1 10 0)].toArray below meth c H locs 0 0 (MQ below (gQ none (GP D X idsM E g') (gA X idsM E s.heap.size)) [.ref (E.1 10 0)].toArray s 0 0 (gA X idsM E s.heap.size)) (F0 m 4 ls []) := by
    intro k2
    induction k2 with
    | zero => intro g3 res2 H locs ls hf; rw [M_term_L4] at hf; cases hf
    | succ k2 ih2 =>
      intro g3 res2 H locs ls hf hw hl hk2_0
      rw [M_term_L4] at hf
      refine lv_aload_n G.1 G.2.1 dX11_term_4 rfl (lv_at hl 0 rfl) ?_
      refine g_getI G hw C_10 iM_10 3 rfl fl_X11_125 dX11_term_5 ?_
      refine lv_if_ne (tgt := 60) G.1 G.2.1 dX11_term_8 (by decide) (fun hc8 => ?_) (fun hc8 => ?_)
      · rw [if_neg hc8] at hf
        obtain rfl := Option.some.inj hf
        exact hk2_0 _ _ ls hw (lv_sub hl [] rfl)
      · rw [if_pos hc8] at hf
        refine lv_aload_n G.1 G.2.1 dX11_term_11 rfl (lv_at hl 0 rfl) ?_
        obtain ⟨z4, hcz4, hf⟩ := bd_some hf
        refine g_callV1 (As := []) (rest := []) G hw (gA_mono hw.2.2.2.1.1) C_10 iM_10 mv_X11_135 (c_M_next l D X E n g3 z4.1 z4.2 hcz4) hl.1 rfl rfl (Nat.le_of_ble_eq_true rfl) (by dsimp only; omega) (by dsimp only; omega) ⟨Nat.le_refl _, Nat.le_refl _⟩ dX11_term_12 (fun H locs hw => ?_)
        refine lv_bipush (v := (42 : Int32)) G.1 G.2.1 dX11_term_15 (by decide) ?_
        refine lv_icmp_ne (tgt := 60) G.1 G.2.1 dX11_term_17 (by decide) (fun hc17 => ?_) (fun hc17 => ?_)
        · rw [if_neg hc17] at hf
          obtain rfl := Option.some.inj hf
          exact hk2_0 _ _ ls hw (lv_sub hl [] rfl)
        · rw [if_pos hc17] at hf
          refine lv_aload_n G.1 G.2.1 dX11_term_20 rfl (lv_at hl 0 rfl) ?_
          refine g_getI G hw C_10 iM_10 5 rfl fl_X11_128 dX11_term_21 ?_
          refine lv_istore_n (lv' := [(1, .int (gI z4.2 10 0 5)), (0, .ref (E.1 10 0))]) G.1 G.2.1 dX11_term_24 rfl hl (by decide) rfl (fun ls hl => ?_)
          refine lv_aload_n G.1 G.2.1 dX11_term_25 rfl (lv_at hl 1 rfl) ?_
          refine g_getI G hw C_10 iM_10 8 rfl fl_X11_177 dX11_term_26 ?_
          refine lv_istore_n (lv' := [(2, .int (gI z4.2 10 0 8)), (1, .int (gI z4.2 10 0 5)), (0, .ref (E.1 10 0))]) G.1 G.2.1 dX11_term_29 rfl hl (by decide) rfl (fun ls hl => ?_)
          refine lv_aload_n G.1 G.2.1 dX11_term_30 rfl (lv_at hl 2 rfl) ?_
          refine g_getI G hw C_10 iM_10 9 rfl fl_X11_180 dX11_term_31 ?_
          refine lv_istore_n (lv' := [(3, .int (gI z4.2 10 0 9)), (2, .int (gI z4.2 10 0 8)), (1, .int (gI z4.2 10 0 5)), (0, .ref (E.1 10 0))]) G.1 G.2.1 dX11_term_34 rfl hl (by decide) rfl (fun ls hl => ?_)
          refine lv_aload_n G.1 G.2.1 dX11_term_35 rfl (lv_at hl 3 rfl) ?_
          refine lv_dup G.1 G.2.1 dX11_term_36 rfl ?_
          refine g_getI G hw C_10 iM_10 5 rfl fl_X11_128 dX11_term_37 ?_
          refine lv_iconst (v := (1 : Int32)) G.1 G.2.1 dX11_term_40 (by decide) ?_
          refine lv_iadd G.1 G.2.1 dX11_term_41 ?_
          obtain ⟨g5, eg5, hf⟩ := lt9_some hf
          refine g_putI G hw C_10 iM_10 5 rfl fl_X11_128 rfl rfl rfl dX11_term_42 (fun H locs hw => ?_)
          rw [← eg5] at hw
          refine lv_aload_n G.1 G.2.1 dX11_term_45 rfl (lv_at hl 3 rfl) ?_
          obtain ⟨g6, hcg6, hf⟩ := bd_some hf
          refine g_callV0 (As := []) (rest := []) G hw (gA_mono hw.2.2.2.1.1) C_10 iM_10 mv_X11_217 (c_M_factor l D X E n rc fr0 lo0 hfr0 hlo0 hrc g5 g6 hcg6) hl.1 rfl rfl (Nat.le_of_ble_eq_true rfl) (by dsimp only; omega) (by dsimp only; omega) ⟨Nat.le_refl _, Nat.le_refl _⟩ dX11_term_46 (fun H locs hw => ?_)
          refine lv_aload_n G.1 G.2.1 dX11_term_49 rfl (lv_at hl 3 rfl) ?_
          refine lv_iconst (v := (2 : Int32)) G.1 G.2.1 dX11_term_50 (by decide) ?_
          refine lv_iload_n G.1 G.2.1 dX11_term_51 rfl (lv_at hl 2 rfl) ?_
          refine lv_iload_n G.1 G.2.1 dX11_term_52 rfl (lv_at hl 1 rfl) ?_
          refine lv_iload_n G.1 G.2.1 dX11_term_53 rfl (lv_at hl 0 rfl) ?_
          obtain ⟨g7, hcg7, hf⟩ := bd_some hf
          refine g_callV0 (As := [.int (2 : Int32), .int (gI z4.2 10 0 5), .int (gI z4.2 10 0 8), .int (gI z4.2 10 0 9)]) (rest := []) G hw (gA_mono hw.2.2.2.1.1) C_10 iM_10 mv_X11_220 (c_M_join l D X E n (2 : Int32) (gI z4.2 10 0 5) (gI z4.2 10 0 8) (gI z4.2 10 0 9) g6 g7 hcg7) hl.1 rfl rfl (Nat.le_of_ble_eq_true rfl) (by dsimp only; omega) (by dsimp only; omega) ⟨Nat.le_refl _, Nat.le_refl _⟩ dX11_term_54 (fun H locs hw => ?_)
          refine lv_goto (tgt := 4) G.1 G.2.1 dX11_term_57 (by decide) ?_
          exact ih2 g7 _ _ _ ls hf hw (lv_sub hl [3] rfl) hk2_0
  obtain ⟨r8, hr8, hf⟩ := bd_some hf
  refine hL4 n g1 r8 _ _ ls hr8 hw (lv_sub hl [0] rfl) ?_
  intro H locs ls hw hl
  exact g_vretW G hr hk hf hw dX11_term_60

set_option maxHeartbeats 4000000 in
set_option maxRecDepth 100000 in
theorem c_M_sum (l : Launch) (D : va_G) (X : va_W) (E : gE) (n : Nat) (rc : Mem → Option (Mem)) (fr0 lo0 : Nat) (hfr0 : 4 ≤ fr0) (hlo0 : 94 ≤ lo0) (hrc : ∀ (g : Mem) (g' : Mem), rc g = some g' → gMet l yX11_expression cX11_expression 5 none fr0 lo0 D X idsM E [.ref (E.1 10 0)] g none g') (g : Mem) (g' : Mem) (hf : M_sum rc n g = some g') : gMet l yX11_sum cX11_sum 5 none (fr0 + 3) (lo0 + 72) D X idsM E [.ref (E.1 10 0)] g none g' := by
  rw [M_sum] at hf
  refine gt_code (by decide) (Nat.le_of_ble_eq_true rfl) (fun p en s m below meth c ls G hr hk hw hl => ?_)
  have hl : lv_has ls 5 [(0, .ref (E.1 10 0))] := hl
  refine lv_aload_n G.1 G.2.1 dX11_sum_0 rfl (lv_at hl 0 rfl) ?_
  obtain ⟨g1, hcg1, hf⟩ := bd_some hf
  refine g_callV0 (As := []) (rest := []) G hw (gA_mono hw.2.2.2.1.1) C_10 iM_10 mv_X11_224 (c_M_term l D X E n rc fr0 lo0 hfr0 hlo0 hrc g g1 hcg1) hl.1 rfl rfl (Nat.le_of_ble_eq_true rfl) (by dsimp only; omega) (by dsimp only; omega) ⟨Nat.le_refl _, Nat.le_refl _⟩ dX11_sum_1 (fun H locs hw => ?_)
  have hL4 : ∀ (k2 : Nat) (g3 : Mem) (res2 : Mem) (H : Heap) (locs : List Loc) (ls : Array Slot), M_sum_L4 n rc k2 g3 = some res2 → GW D X idsM E (gA X idsM E s.heap.size) s g3 H locs → lv_has ls 5 [(0, .ref (E.1 10 0))] → (∀ (H : Heap) (locs : List Loc) (ls : Array Slot), GW D X idsM E (gA X idsM E s.heap.size) s res2 H locs → lv_has ls 5 [] → W p l en { frames := (fr0 + 3), cells := 0, slots := 0, locals := (lo0 + 72) } s m [.ref (E.1 10 0)].toArray below meth c H locs 0 0 (MQ below (gQ none (GP D X idsM E g') (gA X idsM E s.heap.size)) [.ref (E.1 10 0)].toArray s 0 0 (gA X idsM E s.heap.size)) (F0 m 90 ls [])) → W p l en { frames := (fr0 + 3), cells := 0, slots := 0, locals := (lo0 + 72) } s m [.ref (E.1 10 0)].toArray below meth c H locs 0 0 (MQ below (gQ none (GP D X idsM E g') (gA X idsM E s.heap.size)) [.ref (E.1 10 0)].toArray s 0 0 (gA X idsM E s.heap.size)) (F0 m 4 ls []) := by
    intro k2
    induction k2 with
    | zero => intro g3 res2 H locs ls hf; rw [M_sum_L4] at hf; cases hf
    | succ k2 ih2 =>
      intro g3 res2 H locs ls hf hw hl hk2_0
      rw [M_sum_L4] at hf
      refine lv_aload_n G.1 G.2.1 dX11_sum_4 rfl (lv_at hl 0 rfl) ?_
      refine g_getI G hw C_10 iM_10 3 rfl fl_X11_125 dX11_sum_5 ?_
      refine lv_if_ne (tgt := 90) G.1 G.2.1 dX11_sum_8 (by decide) (fun hc8 => ?_) (fun hc8 => ?_)
      · rw [if_neg hc8] at hf
        obtain rfl := Option.some.inj hf
        exact hk2_0 _ _ ls hw (lv_sub hl [] rfl)
      · rw [if_pos hc8] at hf
        refine lv_aload_n G.1 G.2.1 dX11_sum_11 rfl (lv_at hl 0 rfl) ?_
        obtain ⟨z4, hcz4, hf⟩ := bd_some hf
        refine g_callV1 (As := []) (rest := []) G hw (gA_mono hw.2.2.2.1.1) C_10 iM_10 mv_X11_135 (c_M_next l D X E n g3 z4.1 z4.2 hcz4) hl.1 rfl rfl (Nat.le_of_ble_eq_true rfl) (by dsimp only; omega) (by dsimp only; omega) ⟨Nat.le_refl _, Nat.le_refl _⟩ dX11_sum_12 (fun H locs hw => ?_)
        refine lv_bipush (v := (43 : Int32)) G.1 G.2.1 dX11_sum_15 (by decide) ?_
        obtain ⟨j5, ej5, hf⟩ := lt9_some hf
        have hj5 : ∀ (g7 : Mem) (H : Heap) (locs : List Loc) (ls : Array Slot), j5 g7 = some res2 → GW D X idsM E (gA X idsM E s.heap.size) s g7 H locs → lv_has ls 5 [(0, .ref (E.1 10 0))] → W p l en { frames := (fr0 + 3), cells := 0, slots := 0, locals := (lo0 + 72) } s m [.ref (E.1 10 0)].toArray below meth c H locs 0 0 (MQ below (gQ none (GP D X idsM E g') (gA X idsM E s.heap.size)) [.ref (E.1 10 0)].toArray s 0 0 (gA X idsM E s.heap.size)) (F0 m 29 ls []) := by
          intro g7 H locs ls hf hw hl
          rw [ej5] at hf
          dsimp only at hf
          refine lv_aload_n G.1 G.2.1 dX11_sum_29 rfl (lv_at hl 0 rfl) ?_
          refine g_getI G hw C_10 iM_10 5 rfl fl_X11_128 dX11_sum_30 ?_
          refine lv_istore_n (lv' := [(1, .int (gI g7 10 0 5)), (0, .ref (E.1 10 0))]) G.1 G.2.1 dX11_sum_33 rfl hl (by decide) rfl (fun ls hl => ?_)
          refine lv_aload_n G.1 G.2.1 dX11_sum_34 rfl (lv_at hl 1 rfl) ?_
          refine lv_aload_n G.1 G.2.1 dX11_sum_35 rfl (lv_at hl 1 rfl) ?_
          refine g_getI G hw C_10 iM_10 5 rfl fl_X11_128 dX11_sum_36 ?_
          obtain ⟨z8, hcz8, hf⟩ := bd_some hf
          refine g_callV1 (As := [.int (gI g7 10 0 5)]) (rest := []) G hw (gA_mono hw.2.2.2.1.1) C_10 iM_10 mv_X11_131 (c_M_byteAt l D X E n (gI g7 10 0 5) g7 z8 hcz8) hl.1 rfl rfl (Nat.le_of_ble_eq_true rfl) (by dsimp only; omega) (by dsimp only; omega) ⟨Nat.le_refl _, Nat.le_refl _⟩ dX11_sum_39 (fun H locs hw => ?_)
          refine lv_bipush (v := (43 : Int32)) G.1 G.2.1 dX11_sum_42 (by decide) ?_
          obtain ⟨j9, ej9, hf⟩ := lt9_some hf
          have hj9 : ∀ (v10 : Int32) (H : Heap) (locs : List Loc) (ls : Array Slot), j9 v10 = some res2 → GW D X idsM E (gA X idsM E s.heap.size) s g7 H locs → lv_has ls 5 [(0, .ref (E.1 10 0)), (1, .int (gI g7 10 0 5))] → W p l en { frames := (fr0 + 3), cells := 0, slots := 0, locals := (lo0 + 72) } s m [.ref (E.1 10 0)].toArray below meth c H locs 0 0 (MQ below (gQ none (GP D X idsM E g') (gA X idsM E s.heap.size)) [.ref (E.1 10 0)].toArray s 0 0 (gA X idsM E s.heap.size)) (F0 m 52 ls [.int v10]) := by
            intro v10 H locs ls hf hw hl
            rw [ej9] at hf
            dsimp only at hf
            refine lv_istore_n (lv' := [(2, .int v10), (0, .ref (E.1 10 0)), (1, .int (gI g7 10 0 5))]) G.1 G.2.1 dX11_sum_52 rfl hl (by decide) rfl (fun ls hl => ?_)
            refine lv_aload_n G.1 G.2.1 dX11_sum_53 rfl (lv_at hl 1 rfl) ?_
            refine g_getI G hw C_10 iM_10 8 rfl fl_X11_177 dX11_sum_54 ?_
            refine lv_istore_n (lv' := [(3, .int (gI g7 10 0 8)), (2, .int v10), (0, .ref (E.1 10 0)), (1, .int (gI g7 10 0 5))]) G.1 G.2.1 dX11_sum_57 rfl hl (by decide) rfl (fun ls hl => ?_)
            refine lv_aload_n G.1 G.2.1 dX11_sum_58 rfl (lv_at hl 2 rfl) ?_
            refine g_getI G hw C_10 iM_10 9 rfl fl_X11_180 dX11_sum_59 ?_
            refine lv_istore (lv' := [(4, .int (gI g7 10 0 9)), (3, .int (gI g7 10 0 8)), (2, .int v10), (0, .ref (E.1 10 0)), (1, .int (gI g7 10 0 5))]) G.1 G.2.1 dX11_sum_62 hl (by decide) rfl (fun ls hl => ?_)
            refine lv_aload_n G.1 G.2.1 dX11_sum_64 rfl (lv_at hl 3 rfl) ?_
            refine lv_dup G.1 G.2.1 dX11_sum_65 rfl ?_
            refine g_getI G hw C_10 iM_10 5 rfl fl_X11_128 dX11_sum_66 ?_
            refine lv_iconst (v := (1 : Int32)) G.1 G.2.1 dX11_sum_69 (by decide) ?_
            refine lv_iadd G.1 G.2.1 dX11_sum_70 ?_
            obtain ⟨g11, eg11, hf⟩ := lt9_some hf
            refine g_putI G hw C_10 iM_10 5 rfl fl_X11_128 rfl rfl rfl dX11_sum_71 (fun H locs hw => ?_)
            rw [← eg11] at hw
            refine lv_aload_n G.1 G.2.1 dX11_sum_74 rfl (lv_at hl 3 rfl) ?_
            obtain ⟨g12, hcg12, hf⟩ := bd_some hf
            refine g_callV0 (As := []) (rest := []) G hw (gA_mono hw.2.2.2.1.1) C_10 iM_10 mv_X11_224 (c_M_term l D X E n rc fr0 lo0 hfr0 hlo0 hrc g11 g12 hcg12) hl.1 rfl rfl (Nat.le_of_ble_eq_true rfl) (by dsimp only; omega) (by dsimp only; omega) ⟨Nat.le_refl _, Nat.le_refl _⟩ dX11_sum_75 (fun H locs hw => ?_)
            refine lv_aload_n G.1 G.2.1 dX11_sum_78 rfl (lv_at hl 3 rfl) ?_
            refine lv_iload_n G.1 G.2.1 dX11_sum_79 rfl (lv_at hl 2 rfl) ?_
            refine lv_iload_n G.1 G.2.1 dX11_sum_80 rfl (lv_at hl 4 rfl) ?_
            refine lv_iload_n G.1 G.2.1 dX11_sum_81 rfl (lv_at hl 1 rfl) ?_
            refine lv_iload G.1 G.2.1 dX11_sum_82 (lv_at hl 0 rfl) ?_
            obtain ⟨g13, hcg13, hf⟩ := bd_some hf
            refine g_callV0 (As := [.int v10, .int (gI g7 10 0 5), .int (gI g7 10 0 8), .int (gI g7 10 0 9)]) (rest := []) G hw (gA_mono hw.2.2.2.1.1) C_10 iM_10 mv_X11_220 (c_M_join l D X E n v10 (gI g7 10 0 5) (gI g7 10 0 8) (gI g7 10 0 9) g12 g13 hcg13) hl.1 rfl rfl (Nat.le_of_ble_eq_true rfl) (by dsimp only; omega) (by dsimp only; omega) ⟨Nat.le_refl _, Nat.le_refl _⟩ dX11_sum_84 (fun H locs hw => ?_)
            refine lv_goto (tgt := 4) G.1 G.2.1 dX11_sum_87 (by decide) ?_
            exact ih2 g13 _ _ _ ls hf hw (lv_sub hl [3] rfl) hk2_0
          refine lv_icmp_ne (tgt := 51) G.1 G.2.1 dX11_sum_44 (by decide) (fun hc44 => ?_) (fun hc44 => ?_)
          · rw [if_neg hc44] at hf
            refine lv_iconst (v := (1 : Int32)) G.1 G.2.1 dX11_sum_51 (by decide) ?_
            exact hj9 (1 : Int32) _ _ ls hf hw (lv_sub hl [1, 0] rfl)
          · rw [if_pos hc44] at hf
            refine lv_iconst (v := (0 : Int32)) G.1 G.2.1 dX11_sum_47 (by decide) ?_
            refine lv_goto (tgt := 52) G.1 G.2.1 dX11_sum_48 (by decide) ?_
            exact hj9 (0 : Int32) _ _ ls hf hw (lv_sub hl [1, 0] rfl)
        refine lv_icmp_eq (tgt := 29) G.1 G.2.1 dX11_sum_17 (by decide) (fun hc17 => ?_) (fun hc17 => ?_)
        · rw [if_pos hc17] at hf
          exact hj5 z4.2 _ _ ls hf hw (lv_sub hl [0] rfl)
        · rw [if_neg hc17] at hf
          refine lv_aload_n G.1 G.2.1 dX11_sum_20 rfl (lv_at hl 0 rfl) ?_
          obtain ⟨z6, hcz6, hf⟩ := bd_some hf
          refine g_callV1 (As := []) (rest := []) G hw (gA_mono hw.2.2.2.1.1) C_10 iM_10 mv_X11_135 (c_M_next l D X E n z4.2 z6.1 z6.2 hcz6) hl.1 rfl rfl (Nat.le_of_ble_eq_true rfl) (by dsimp only; omega) (by dsimp only; omega) ⟨Nat.le_refl _, Nat.le_refl _⟩ dX11_sum_21 (fun H locs hw => ?_)
          refine lv_bipush (v := (45 : Int32)) G.1 G.2.1 dX11_sum_24 (by decide) ?_
          refine lv_icmp_ne (tgt := 90) G.1 G.2.1 dX11_sum_26 (by decide) (fun hc26 => ?_) (fun hc26 => ?_)
          · rw [if_neg hc26] at hf
            obtain rfl := Option.some.inj hf
            exact hk2_0 _ _ ls hw (lv_sub hl [] rfl)
          · rw [if_pos hc26] at hf
            exact hj5 z6.2 _ _ ls hf hw (lv_sub hl [0] rfl)
  obtain ⟨r14, hr14, hf⟩ := bd_some hf
  refine hL4 n g1 r14 _ _ ls hr14 hw (lv_sub hl [0] rfl) ?_
  intro H locs ls hw hl
  exact g_vretW G hr hk hf hw dX11_sum_90

set_option maxHeartbeats 4000000 in
set_option maxRecDepth 100000 in
theorem c_M_expression_b (l : Launch) (D : va_G) (X : va_W) (E : gE) (n : Nat) (rc : Mem → Option (Mem)) (fr0 lo0 : Nat) (hfr0 : 4 ≤ fr0) (hlo0 : 94 ≤ lo0) (hrc : ∀ (g : Mem) (g' : Mem), rc g = some g' → gMet l yX11_expression cX11_expression 5 none fr0 lo0 D X idsM E [.ref (E.1 10 0)] g none g') (g : Mem) (g' : Mem) (hf : M_expression_b rc n g = some g') : gMet l yX11_expression cX11_expression 5 none (fr0 + 4) (lo0 + 96) D X idsM E [.ref (E.1 10 0)] g none g' := by
  rw [M_expression_b] at hf
  refine gt_code (by decide) (Nat.le_of_ble_eq_true rfl) (fun p en s m below meth c ls G hr hk hw hl => ?_)
  have hl : lv_has ls 5 [(0, .ref (E.1 10 0))] := hl
  refine lv_aload_n G.1 G.2.1 dX11_expression_0 rfl (lv_at hl 0 rfl) ?_
  obtain ⟨g1, hcg1, hf⟩ := bd_some hf
  refine g_callV0 (As := []) (rest := []) G hw (gA_mono hw.2.2.2.1.1) C_10 iM_10 mv_X11_227 (c_M_sum l D X E n rc fr0 lo0 hfr0 hlo0 hrc g g1 hcg1) hl.1 rfl rfl (Nat.le_of_ble_eq_true rfl) (by dsimp only; omega) (by dsimp only; omega) ⟨Nat.le_refl _, Nat.le_refl _⟩ dX11_expression_1 (fun H locs hw => ?_)
  refine lv_aload_n G.1 G.2.1 dX11_expression_4 rfl (lv_at hl 0 rfl) ?_
  refine g_getI G hw C_10 iM_10 3 rfl fl_X11_125 dX11_expression_5 ?_
  refine lv_if_ne (tgt := 87) G.1 G.2.1 dX11_expression_8 (by decide) (fun hc8 => ?_) (fun hc8 => ?_)
  · rw [if_neg hc8] at hf
    exact g_vretW G hr hk hf hw dX11_expression_87
  · rw [if_pos hc8] at hf
    refine lv_aload_n G.1 G.2.1 dX11_expression_11 rfl (lv_at hl 0 rfl) ?_
    obtain ⟨z2, hcz2, hf⟩ := bd_some hf
    refine g_callV1 (As := []) (rest := []) G hw (gA_mono hw.2.2.2.1.1) C_10 iM_10 mv_X11_135 (c_M_next l D X E n g1 z2.1 z2.2 hcz2) hl.1 rfl rfl (Nat.le_of_ble_eq_true rfl) (by dsimp only; omega) (by dsimp only; omega) ⟨Nat.le_refl _, Nat.le_refl _⟩ dX11_expression_12 (fun H locs hw => ?_)
    refine lv_bipush (v := (60 : Int32)) G.1 G.2.1 dX11_expression_15 (by decide) ?_
    obtain ⟨j3, ej3, hf⟩ := lt9_some hf
    have hj3 : ∀ (g5 : Mem) (H : Heap) (locs : List Loc) (ls : Array Slot), j3 g5 = some g' → GW D X idsM E (gA X idsM E s.heap.size) s g5 H locs → lv_has ls 5 [(0, .ref (E.1 10 0))] → W p l en { frames := (fr0 + 4), cells := 0, slots := 0, locals := (lo0 + 96) } s m [.ref (E.1 10 0)].toArray below meth c H locs 0 0 (MQ below (gQ none (GP D X idsM E g') (gA X idsM E s.heap.size)) [.ref (E.1 10 0)].toArray s 0 0 (gA X idsM E s.heap.size)) (F0 m 29 ls []) := by
      intro g5 H locs ls hf hw hl
      rw [ej3] at hf
      dsimp only at hf
      refine lv_aload_n G.1 G.2.1 dX11_expression_29 rfl (lv_at hl 0 rfl) ?_
      refine g_getI G hw C_10 iM_10 5 rfl fl_X11_128 dX11_expression_30 ?_
      refine lv_istore_n (lv' := [(1, .int (gI g5 10 0 5)), (0, .ref (E.1 10 0))]) G.1 G.2.1 dX11_expression_33 rfl hl (by decide) rfl (fun ls hl => ?_)
      refine lv_aload_n G.1 G.2.1 dX11_expression_34 rfl (lv_at hl 1 rfl) ?_
      refine lv_aload_n G.1 G.2.1 dX11_expression_35 rfl (lv_at hl 1 rfl) ?_
      refine g_getI G hw C_10 iM_10 5 rfl fl_X11_128 dX11_expression_36 ?_
      obtain ⟨z6, hcz6, hf⟩ := bd_some hf
      refine g_callV1 (As := [.int (gI g5 10 0 5)]) (rest := []) G hw (gA_mono hw.2.2.2.1.1) C_10 iM_10 mv_X11_131 (c_M_byteAt l D X E n (gI g5 10 0 5) g5 z6 hcz6) hl.1 rfl rfl (Nat.le_of_ble_eq_true rfl) (by dsimp only; omega) (by dsimp only; omega) ⟨Nat.le_refl _, Nat.le_refl _⟩ dX11_expression_39 (fun H locs hw => ?_)
      refine lv_bipush (v := (60 : Int32)) G.1 G.2.1 dX11_expression_42 (by decide) ?_
      obtain ⟨j7, ej7, hf⟩ := lt9_some hf
      have hj7 : ∀ (v8 : Int32) (H : Heap) (locs : List Loc) (ls : Array Slot), j7 v8 = some g' → GW D X idsM E (gA X idsM E s.heap.size) s g5 H locs → lv_has ls 5 [(0, .ref (E.1 10 0)), (1, .int (gI g5 10 0 5))] → W p l en { frames := (fr0 + 4), cells := 0, slots := 0, locals := (lo0 + 96) } s m [.ref (E.1 10 0)].toArray below meth c H locs 0 0 (MQ below (gQ none (GP D X idsM E g') (gA X idsM E s.heap.size)) [.ref (E.1 10 0)].toArray s 0 0 (gA X idsM E s.heap.size)) (F0 m 52 ls [.int v8]) := by
        intro v8 H locs ls hf hw hl
        rw [ej7] at hf
        dsimp only at hf
        refine lv_istore_n (lv' := [(2, .int v8), (0, .ref (E.1 10 0)), (1, .int (gI g5 10 0 5))]) G.1 G.2.1 dX11_expression_52 rfl hl (by decide) rfl (fun ls hl => ?_)
        refine lv_aload_n G.1 G.2.1 dX11_expression_53 rfl (lv_at hl 1 rfl) ?_
        refine g_getI G hw C_10 iM_10 8 rfl fl_X11_177 dX11_expression_54 ?_
        refine lv_istore_n (lv' := [(3, .int (gI g5 10 0 8)), (2, .int v8), (0, .ref (E.1 10 0)), (1, .int (gI g5 10 0 5))]) G.1 G.2.1 dX11_expression_57 rfl hl (by decide) rfl (fun ls hl => ?_)
        refine lv_aload_n G.1 G.2.1 dX11_expression_58 rfl (lv_at hl 2 rfl) ?_
        refine g_getI G hw C_10 iM_10 9 rfl fl_X11_180 dX11_expression_59 ?_
        refine lv_istore (lv' := [(4, .int (gI g5 10 0 9)), (3, .int (gI g5 10 0 8)), (2, .int v8), (0, .ref (E.1 10 0)), (1, .int (gI g5 10 0 5))]) G.1 G.2.1 dX11_expression_62 hl (by decide) rfl (fun ls hl => ?_)
        refine lv_aload_n G.1 G.2.1 dX11_expression_64 rfl (lv_at hl 3 rfl) ?_
        refine lv_dup G.1 G.2.1 dX11_expression_65 rfl ?_
        refine g_getI G hw C_10 iM_10 5 rfl fl_X11_128 dX11_expression_66 ?_
        refine lv_iconst (v := (1 : Int32)) G.1 G.2.1 dX11_expression_69 (by decide) ?_
        refine lv_iadd G.1 G.2.1 dX11_expression_70 ?_
        obtain ⟨g9, eg9, hf⟩ := lt9_some hf
        refine g_putI G hw C_10 iM_10 5 rfl fl_X11_128 rfl rfl rfl dX11_expression_71 (fun H locs hw => ?_)
        rw [← eg9] at hw
        refine lv_aload_n G.1 G.2.1 dX11_expression_74 rfl (lv_at hl 3 rfl) ?_
        obtain ⟨g10, hcg10, hf⟩ := bd_some hf
        refine g_callV0 (As := []) (rest := []) G hw (gA_mono hw.2.2.2.1.1) C_10 iM_10 mv_X11_227 (c_M_sum l D X E n rc fr0 lo0 hfr0 hlo0 hrc g9 g10 hcg10) hl.1 rfl rfl (Nat.le_of_ble_eq_true rfl) (by dsimp only; omega) (by dsimp only; omega) ⟨Nat.le_refl _, Nat.le_refl _⟩ dX11_expression_75 (fun H locs hw => ?_)
        refine lv_aload_n G.1 G.2.1 dX11_expression_78 rfl (lv_at hl 3 rfl) ?_
        refine lv_iload_n G.1 G.2.1 dX11_expression_79 rfl (lv_at hl 2 rfl) ?_
        refine lv_iload_n G.1 G.2.1 dX11_expression_80 rfl (lv_at hl 4 rfl) ?_
        refine lv_iload_n G.1 G.2.1 dX11_expression_81 rfl (lv_at hl 1 rfl) ?_
        refine lv_iload G.1 G.2.1 dX11_expression_82 (lv_at hl 0 rfl) ?_
        obtain ⟨g11, hcg11, hf⟩ := bd_some hf
        refine g_callV0 (As := [.int v8, .int (gI g5 10 0 5), .int (gI g5 10 0 8), .int (gI g5 10 0 9)]) (rest := []) G hw (gA_mono hw.2.2.2.1.1) C_10 iM_10 mv_X11_220 (c_M_join l D X E n v8 (gI g5 10 0 5) (gI g5 10 0 8) (gI g5 10 0 9) g10 g11 hcg11) hl.1 rfl rfl (Nat.le_of_ble_eq_true rfl) (by dsimp only; omega) (by dsimp only; omega) ⟨Nat.le_refl _, Nat.le_refl _⟩ dX11_expression_84 (fun H locs hw => ?_)
        exact g_vretW G hr hk hf hw dX11_expression_87
      refine lv_icmp_ne (tgt := 51) G.1 G.2.1 dX11_expression_44 (by decide) (fun hc44 => ?_) (fun hc44 => ?_)
      · rw [if_neg hc44] at hf
        refine lv_iconst (v := (4 : Int32)) G.1 G.2.1 dX11_expression_51 (by decide) ?_
        exact hj7 (4 : Int32) _ _ ls hf hw (lv_sub hl [1, 0] rfl)
      · rw [if_pos hc44] at hf
        refine lv_iconst (v := (3 : Int32)) G.1 G.2.1 dX11_expression_47 (by decide) ?_
        refine lv_goto (tgt := 52) G.1 G.2.1 dX11_expression_48 (by decide) ?_
        exact hj7 (3 : Int32) _ _ ls hf hw (lv_sub hl [1, 0] rfl)
    refine lv_icmp_eq (tgt := 29) G.1 G.2.1 dX11_expression_17 (by decide) (fun hc17 => ?_) (fun hc17 => ?_)
    · rw [if_pos hc17] at hf
      exact hj3 z2.2 _ _ ls hf hw (lv_sub hl [0] rfl)
    · rw [if_neg hc17] at hf
      refine lv_aload_n G.1 G.2.1 dX11_expression_20 rfl (lv_at hl 0 rfl) ?_
      obtain ⟨z4, hcz4, hf⟩ := bd_some hf
      refine g_callV1 (As := []) (rest := []) G hw (gA_mono hw.2.2.2.1.1) C_10 iM_10 mv_X11_135 (c_M_next l D X E n z2.2 z4.1 z4.2 hcz4) hl.1 rfl rfl (Nat.le_of_ble_eq_true rfl) (by dsimp only; omega) (by dsimp only; omega) ⟨Nat.le_refl _, Nat.le_refl _⟩ dX11_expression_21 (fun H locs hw => ?_)
      refine lv_bipush (v := (61 : Int32)) G.1 G.2.1 dX11_expression_24 (by decide) ?_
      refine lv_icmp_ne (tgt := 87) G.1 G.2.1 dX11_expression_26 (by decide) (fun hc26 => ?_) (fun hc26 => ?_)
      · rw [if_neg hc26] at hf
        exact g_vretW G hr hk hf hw dX11_expression_87
      · rw [if_pos hc26] at hf
        exact hj3 z4.2 _ _ ls hf hw (lv_sub hl [0] rfl)
theorem c_M_expression (l : Launch) (D : va_G) (X : va_W) (E : gE) (n : Nat) : ∀ (d : Nat) (g : Mem) (g' : Mem), M_expression n d g = some g' → gMet l yX11_expression cX11_expression 5 none (4 + d * 4) (94 + d * 96) D X idsM E [.ref (E.1 10 0)] g none g' := by
  intro d
  induction d with
  | zero => intro g g' hf; rw [M_expression] at hf; cases hf
  | succ d ih =>
    intro g g' hf
    rw [M_expression] at hf
    rw [show 4 + (d + 1) * 4 = (4 + d * 4) + 4 by omega, show 94 + (d + 1) * 96 = (94 + d * 96) + 96 by omega]
    exact c_M_expression_b l D X E n (M_expression n d) _ _ (Nat.le_add_right _ _) (Nat.le_add_right _ _) ih g g' hf

set_option maxHeartbeats 4000000 in
set_option maxRecDepth 100000 in
theorem c_M_assignment (l : Launch) (D : va_G) (X : va_W) (E : gE) (n : Nat) (g : Mem) (g' : Mem) (hf : M_assignment n g = some g') : gMet l yX11_assignment cX11_assignment 7 none 125 2998 D X idsM E [.ref (E.1 10 0)] g none g' := by
  rw [M_assignment] at hf
  refine gt_code (by decide) (Nat.le_of_ble_eq_true rfl) (fun p en s m below meth c ls G hr hk hw hl => ?_)
  have hl : lv_has ls 7 [(0, .ref (E.1 10 0))] := hl
  refine lv_aload_n G.1 G.2.1 dX11_assignment_0 rfl (lv_at hl 0 rfl) ?_
  refine g_getI G hw C_10 iM_10 5 rfl fl_X11_128 dX11_assignment_1 ?_
  refine lv_istore_n (lv' := [(1, .int (gI g 10 0 5)), (0, .ref (E.1 10 0))]) G.1 G.2.1 dX11_assignment_4 rfl hl (by decide) rfl (fun ls hl => ?_)
  refine lv_aload_n G.1 G.2.1 dX11_assignment_5 rfl (lv_at hl 1 rfl) ?_
  obtain ⟨z1, hcz1, hf⟩ := bd_some hf
  refine g_callV1 (As := []) (rest := []) G hw (gA_mono hw.2.2.2.1.1) C_10 iM_10 mv_X11_135 (c_M_next l D X E n g z1.1 z1.2 hcz1) hl.1 rfl rfl (Nat.le_of_ble_eq_true rfl) (Nat.le_of_ble_eq_true rfl) (Nat.le_of_ble_eq_true rfl) ⟨Nat.le_refl _, Nat.le_refl _⟩ dX11_assignment_6 (fun H locs hw => ?_)
  refine lv_bipush (v := (97 : Int32)) G.1 G.2.1 dX11_assignment_9 (by decide) ?_
  refine lv_isub G.1 G.2.1 dX11_assignment_11 ?_
  refine lv_istore_n (lv' := [(2, .int (z1.1 - (97 : Int32))), (1, .int (gI g 10 0 5)), (0, .ref (E.1 10 0))]) G.1 G.2.1 dX11_assignment_12 rfl hl (by decide) rfl (fun ls hl => ?_)
  refine lv_aload_n G.1 G.2.1 dX11_assignment_13 rfl (lv_at hl 2 rfl) ?_
  refine lv_dup G.1 G.2.1 dX11_assignment_14 rfl ?_
  refine g_getI G hw C_10 iM_10 5 rfl fl_X11_128 dX11_assignment_15 ?_
  refine lv_iconst (v := (1 : Int32)) G.1 G.2.1 dX11_assignment_18 (by decide) ?_
  refine lv_iadd G.1 G.2.1 dX11_assignment_19 ?_
  obtain ⟨g2, eg2, hf⟩ := lt9_some hf
  refine g_putI G hw C_10 iM_10 5 rfl fl_X11_128 rfl rfl rfl dX11_assignment_20 (fun H locs hw => ?_)
  rw [← eg2] at hw
  refine lv_aload_n G.1 G.2.1 dX11_assignment_23 rfl (lv_at hl 2 rfl) ?_
  refine lv_bipush (v := (61 : Int32)) G.1 G.2.1 dX11_assignment_24 (by decide) ?_
  obtain ⟨g3, hcg3, hf⟩ := bd_some hf
  refine g_callV0 (As := [.int (61 : Int32)]) (rest := []) G hw (gA_mono hw.2.2.2.1.1) C_10 iM_10 mv_X11_206 (c_M_want l D X E n (61 : Int32) g2 g3 hcg3) hl.1 rfl rfl (Nat.le_of_ble_eq_true rfl) (Nat.le_of_ble_eq_true rfl) (Nat.le_of_ble_eq_true rfl) ⟨Nat.le_refl _, Nat.le_refl _⟩ dX11_assignment_26 (fun H locs hw => ?_)
  refine lv_aload_n G.1 G.2.1 dX11_assignment_29 rfl (lv_at hl 2 rfl) ?_
  refine g_getI G hw C_10 iM_10 10 rfl fl_X11_171 dX11_assignment_30 ?_
  refine lv_istore_n (lv' := [(3, .int (gI g3 10 0 10)), (2, .int (z1.1 - (97 : Int32))), (1, .int (gI g 10 0 5)), (0, .ref (E.1 10 0))]) G.1 G.2.1 dX11_assignment_33 rfl hl (by decide) rfl (fun ls hl => ?_)
  refine lv_aload_n G.1 G.2.1 dX11_assignment_34 rfl (lv_at hl 3 rfl) ?_
  obtain ⟨g4, hcg4, hf⟩ := bd_some hf
  refine g_callV0 (As := []) (rest := []) G hw (gA_mono hw.2.2.2.1.1) C_10 iM_10 mv_X11_203 (c_M_expression l D X E n 30 g3 g4 hcg4) hl.1 rfl rfl (Nat.le_of_ble_eq_true rfl) (Nat.le_of_ble_eq_true rfl) (Nat.le_of_ble_eq_true rfl) ⟨Nat.le_refl _, Nat.le_refl _⟩ dX11_assignment_35 (fun H locs hw => ?_)
  refine lv_aload_n G.1 G.2.1 dX11_assignment_38 rfl (lv_at hl 3 rfl) ?_
  refine lv_bipush (v := (59 : Int32)) G.1 G.2.1 dX11_assignment_39 (by decide) ?_
  obtain ⟨g5, hcg5, hf⟩ := bd_some hf
  refine g_callV0 (As := [.int (59 : Int32)]) (rest := []) G hw (gA_mono hw.2.2.2.1.1) C_10 iM_10 mv_X11_206 (c_M_want l D X E n (59 : Int32) g4 g5 hcg5) hl.1 rfl rfl (Nat.le_of_ble_eq_true rfl) (Nat.le_of_ble_eq_true rfl) (Nat.le_of_ble_eq_true rfl) ⟨Nat.le_refl _, Nat.le_refl _⟩ dX11_assignment_41 (fun H locs hw => ?_)
  refine lv_aload_n G.1 G.2.1 dX11_assignment_44 rfl (lv_at hl 3 rfl) ?_
  refine g_getI G hw C_10 iM_10 3 rfl fl_X11_125 dX11_assignment_45 ?_
  refine lv_if_le (tgt := 52) G.1 G.2.1 dX11_assignment_48 (by decide) (fun hc48 => ?_) (fun hc48 => ?_)
  · rw [if_pos hc48] at hf
    refine lv_aload_n G.1 G.2.1 dX11_assignment_52 rfl (lv_at hl 3 rfl) ?_
    refine g_getI G hw C_10 iM_10 10 rfl fl_X11_171 dX11_assignment_53 ?_
    refine lv_iload_n G.1 G.2.1 dX11_assignment_56 rfl (lv_at hl 0 rfl) ?_
    obtain ⟨j6, ej6, hf⟩ := lt9_some hf
    have hj6 : ∀ (g9 : Mem) (H : Heap) (locs : List Loc) (ls : Array Slot), j6 g9 = some g' → GW D X idsM E (gA X idsM E s.heap.size) s g9 H locs → lv_has ls 7 [(0, .ref (E.1 10 0)), (2, .int (z1.1 - (97 : Int32)))] → W p l en { frames := 125, cells := 0, slots := 0, locals := 2998 } s m [.ref (E.1 10 0)].toArray below meth c H locs 0 0 (MQ below (gQ none (GP D X idsM E g') (gA X idsM E s.heap.size)) [.ref (E.1 10 0)].toArray s 0 0 (gA X idsM E s.heap.size)) (F0 m 90 ls []) := by
      intro g9 H locs ls hf hw hl
      rw [ej6] at hf
      dsimp only at hf
      refine lv_aload_n G.1 G.2.1 dX11_assignment_90 rfl (lv_at hl 0 rfl) ?_
      refine g_getI G hw C_10 iM_10 3 rfl fl_X11_125 dX11_assignment_91 ?_
      refine lv_if_ne (tgt := 109) G.1 G.2.1 dX11_assignment_94 (by decide) (fun hc94 => ?_) (fun hc94 => ?_)
      · rw [if_neg hc94] at hf
        exact g_vretW G hr hk hf hw dX11_assignment_109
      · rw [if_pos hc94] at hf
        refine lv_aload_n G.1 G.2.1 dX11_assignment_97 rfl (lv_at hl 0 rfl) ?_
        refine g_getC G hw C_10 iM_10 14 114 rfl (by decide) rfl fl_X11_26 dX11_assignment_98 ?_
        refine lv_aload_n G.1 G.2.1 dX11_assignment_101 rfl (lv_at hl 0 rfl) ?_
        refine g_getI G hw C_10 iM_10 10 rfl fl_X11_171 dX11_assignment_102 ?_
        refine lv_iconst (v := (1 : Int32)) G.1 G.2.1 dX11_assignment_105 (by decide) ?_
        refine lv_isub G.1 G.2.1 dX11_assignment_106 ?_
        refine lv_iload_n G.1 G.2.1 dX11_assignment_107 rfl (lv_at hl 1 rfl) ?_
        obtain ⟨j10, hj10, hf⟩ := bd_some hf
        obtain ⟨g11, eg11, hf⟩ := lt9_some hf
        refine g_iast G hw iM_114 (by decide) rfl hj10 dX11_assignment_108 (fun H locs hw => ?_)
        rw [← eg11] at hw
        exact g_vretW G hr hk hf hw dX11_assignment_109
    refine lv_icmp_ne (tgt := 90) G.1 G.2.1 dX11_assignment_57 (by decide) (fun hc57 => ?_) (fun hc57 => ?_)
    · rw [if_neg hc57] at hf
      exact hj6 g5 _ _ ls hf hw (lv_sub hl [3, 1] rfl)
    · rw [if_pos hc57] at hf
      refine lv_aload_n G.1 G.2.1 dX11_assignment_60 rfl (lv_at hl 3 rfl) ?_
      refine g_getI G hw C_10 iM_10 8 rfl fl_X11_177 dX11_assignment_61 ?_
      refine lv_istore (lv' := [(4, .int (gI g5 10 0 8)), (3, .int (gI g3 10 0 10)), (2, .int (z1.1 - (97 : Int32))), (1, .int (gI g 10 0 5)), (0, .ref (E.1 10 0))]) G.1 G.2.1 dX11_assignment_64 hl (by decide) rfl (fun ls hl => ?_)
      refine lv_aload_n G.1 G.2.1 dX11_assignment_66 rfl (lv_at hl 4 rfl) ?_
      refine g_getI G hw C_10 iM_10 9 rfl fl_X11_180 dX11_assignment_67 ?_
      refine lv_istore (lv' := [(5, .int (gI g5 10 0 9)), (4, .int (gI g5 10 0 8)), (3, .int (gI g3 10 0 10)), (2, .int (z1.1 - (97 : Int32))), (1, .int (gI g 10 0 5)), (0, .ref (E.1 10 0))]) G.1 G.2.1 dX11_assignment_70 hl (by decide) rfl (fun ls hl => ?_)
      refine lv_aload_n G.1 G.2.1 dX11_assignment_72 rfl (lv_at hl 5 rfl) ?_
      refine lv_iconst (v := (0 : Int32)) G.1 G.2.1 dX11_assignment_73 (by decide) ?_
      obtain ⟨g7, eg7, hf⟩ := lt9_some hf
      refine g_putI G hw C_10 iM_10 8 rfl fl_X11_177 rfl rfl rfl dX11_assignment_74 (fun H locs hw => ?_)
      rw [← eg7] at hw
      refine lv_aload_n G.1 G.2.1 dX11_assignment_77 rfl (lv_at hl 5 rfl) ?_
      refine lv_bipush (v := (7 : Int32)) G.1 G.2.1 dX11_assignment_78 (by decide) ?_
      refine lv_iload_n G.1 G.2.1 dX11_assignment_80 rfl (lv_at hl 4 rfl) ?_
      refine lv_iload G.1 G.2.1 dX11_assignment_81 (lv_at hl 1 rfl) ?_
      refine lv_iload G.1 G.2.1 dX11_assignment_83 (lv_at hl 0 rfl) ?_
      obtain ⟨z8, hcz8, hf⟩ := bd_some hf
      refine g_callV1 (As := [.int (7 : Int32), .int (gI g 10 0 5), .int (gI g5 10 0 8), .int (gI g5 10 0 9)]) (rest := []) G hw (gA_mono hw.2.2.2.1.1) C_10 iM_10 mv_X11_213 (c_M_emit l D X E n (7 : Int32) (gI g 10 0 5) (gI g5 10 0 8) (gI g5 10 0 9) g7 z8.1 z8.2 hcz8) hl.1 rfl rfl (Nat.le_of_ble_eq_true rfl) (Nat.le_of_ble_eq_true rfl) (Nat.le_of_ble_eq_true rfl) ⟨Nat.le_refl _, Nat.le_refl _⟩ dX11_assignment_85 (fun H locs hw => ?_)
      refine lv_istore (lv' := [(6, .int z8.1), (5, .int (gI g5 10 0 9)), (4, .int (gI g5 10 0 8)), (3, .int (gI g3 10 0 10)), (2, .int (z1.1 - (97 : Int32))), (1, .int (gI g 10 0 5)), (0, .ref (E.1 10 0))]) G.1 G.2.1 dX11_assignment_88 hl (by decide) rfl (fun ls hl => ?_)
      exact hj6 z8.2 _ _ ls hf hw (lv_sub hl [6, 4] rfl)
  · rw [if_neg hc48] at hf
    exact g_vretW G hr hk hf hw dX11_assignment_51

set_option maxHeartbeats 4000000 in
set_option maxRecDepth 100000 in
theorem c_M_writing (l : Launch) (D : va_G) (X : va_W) (E : gE) (n : Nat) (g : Mem) (g' : Mem) (hf : M_writing n g = some g') : gMet l yX11_writing cX11_writing 5 none 125 2998 D X idsM E [.ref (E.1 10 0)] g none g' := by
  rw [M_writing] at hf
  refine gt_code (by decide) (Nat.le_of_ble_eq_true rfl) (fun p en s m below meth c ls G hr hk hw hl => ?_)
  have hl : lv_has ls 5 [(0, .ref (E.1 10 0))] := hl
  refine lv_aload_n G.1 G.2.1 dX11_writing_0 rfl (lv_at hl 0 rfl) ?_
  refine g_getI G hw C_10 iM_10 5 rfl fl_X11_128 dX11_writing_1 ?_
  refine lv_istore_n (lv' := [(1, .int (gI g 10 0 5)), (0, .ref (E.1 10 0))]) G.1 G.2.1 dX11_writing_4 rfl hl (by decide) rfl (fun ls hl => ?_)
  refine lv_aload_n G.1 G.2.1 dX11_writing_5 rfl (lv_at hl 1 rfl) ?_
  refine lv_dup G.1 G.2.1 dX11_writing_6 rfl ?_
  refine g_getI G hw C_10 iM_10 5 rfl fl_X11_128 dX11_writing_7 ?_
  refine lv_iconst (v := (1 : Int32)) G.1 G.2.1 dX11_writing_10 (by decide) ?_
  refine lv_iadd G.1 G.2.1 dX11_writing_11 ?_
  obtain ⟨g1, eg1, hf⟩ := lt9_some hf
  refine g_putI G hw C_10 iM_10 5 rfl fl_X11_128 rfl rfl rfl dX11_writing_12 (fun H locs hw => ?_)
  rw [← eg1] at hw
  refine lv_aload_n G.1 G.2.1 dX11_writing_15 rfl (lv_at hl 1 rfl) ?_
  obtain ⟨z2, hcz2, hf⟩ := bd_some hf
  refine g_callV1 (As := []) (rest := []) G hw (gA_mono hw.2.2.2.1.1) C_10 iM_10 mv_X11_135 (c_M_next l D X E n g1 z2.1 z2.2 hcz2) hl.1 rfl rfl (Nat.le_of_ble_eq_true rfl) (Nat.le_of_ble_eq_true rfl) (Nat.le_of_ble_eq_true rfl) ⟨Nat.le_refl _, Nat.le_refl _⟩ dX11_writing_16 (fun H locs hw => ?_)
  refine lv_bipush (v := (91 : Int32)) G.1 G.2.1 dX11_writing_19 (by decide) ?_
  refine lv_icmp_eq (tgt := 34) G.1 G.2.1 dX11_writing_21 (by decide) (fun hc21 => ?_) (fun hc21 => ?_)
  · rw [if_pos hc21] at hf
    refine lv_aload_n G.1 G.2.1 dX11_writing_34 rfl (lv_at hl 1 rfl) ?_
    obtain ⟨g3, hcg3, hf⟩ := bd_some hf
    refine g_callV0 (As := []) (rest := []) G hw (gA_mono hw.2.2.2.1.1) C_10 iM_10 mv_X11_200 (c_M_open l D X E n z2.2 g3 hcg3) hl.1 rfl rfl (Nat.le_of_ble_eq_true rfl) (Nat.le_of_ble_eq_true rfl) (Nat.le_of_ble_eq_true rfl) ⟨Nat.le_refl _, Nat.le_refl _⟩ dX11_writing_35 (fun H locs hw => ?_)
    refine lv_aload_n G.1 G.2.1 dX11_writing_38 rfl (lv_at hl 1 rfl) ?_
    obtain ⟨g4, hcg4, hf⟩ := bd_some hf
    refine g_callV0 (As := []) (rest := []) G hw (gA_mono hw.2.2.2.1.1) C_10 iM_10 mv_X11_203 (c_M_expression l D X E n 30 g3 g4 hcg4) hl.1 rfl rfl (Nat.le_of_ble_eq_true rfl) (Nat.le_of_ble_eq_true rfl) (Nat.le_of_ble_eq_true rfl) ⟨Nat.le_refl _, Nat.le_refl _⟩ dX11_writing_39 (fun H locs hw => ?_)
    refine lv_aload_n G.1 G.2.1 dX11_writing_42 rfl (lv_at hl 1 rfl) ?_
    refine lv_bipush (v := (93 : Int32)) G.1 G.2.1 dX11_writing_43 (by decide) ?_
    obtain ⟨g5, hcg5, hf⟩ := bd_some hf
    refine g_callV0 (As := [.int (93 : Int32)]) (rest := []) G hw (gA_mono hw.2.2.2.1.1) C_10 iM_10 mv_X11_206 (c_M_want l D X E n (93 : Int32) g4 g5 hcg5) hl.1 rfl rfl (Nat.le_of_ble_eq_true rfl) (Nat.le_of_ble_eq_true rfl) (Nat.le_of_ble_eq_true rfl) ⟨Nat.le_refl _, Nat.le_refl _⟩ dX11_writing_45 (fun H locs hw => ?_)
    refine lv_aload_n G.1 G.2.1 dX11_writing_48 rfl (lv_at hl 1 rfl) ?_
    refine lv_dup G.1 G.2.1 dX11_writing_49 rfl ?_
    refine g_getI G hw C_10 iM_10 6 rfl fl_X11_183 dX11_writing_50 ?_
    refine lv_iconst (v := (1 : Int32)) G.1 G.2.1 dX11_writing_53 (by decide) ?_
    refine lv_isub G.1 G.2.1 dX11_writing_54 ?_
    obtain ⟨g6, eg6, hf⟩ := lt9_some hf
    refine g_putI G hw C_10 iM_10 6 rfl fl_X11_183 rfl rfl rfl dX11_writing_55 (fun H locs hw => ?_)
    rw [← eg6] at hw
    refine lv_aload_n G.1 G.2.1 dX11_writing_58 rfl (lv_at hl 1 rfl) ?_
    refine g_getI G hw C_10 iM_10 8 rfl fl_X11_177 dX11_writing_59 ?_
    refine lv_istore_n (lv' := [(2, .int (gI g6 10 0 8)), (1, .int (gI g 10 0 5)), (0, .ref (E.1 10 0))]) G.1 G.2.1 dX11_writing_62 rfl hl (by decide) rfl (fun ls hl => ?_)
    refine lv_aload_n G.1 G.2.1 dX11_writing_63 rfl (lv_at hl 2 rfl) ?_
    refine g_getI G hw C_10 iM_10 9 rfl fl_X11_180 dX11_writing_64 ?_
    refine lv_istore_n (lv' := [(3, .int (gI g6 10 0 9)), (2, .int (gI g6 10 0 8)), (1, .int (gI g 10 0 5)), (0, .ref (E.1 10 0))]) G.1 G.2.1 dX11_writing_67 rfl hl (by decide) rfl (fun ls hl => ?_)
    refine lv_aload_n G.1 G.2.1 dX11_writing_68 rfl (lv_at hl 3 rfl) ?_
    refine lv_bipush (v := (61 : Int32)) G.1 G.2.1 dX11_writing_69 (by decide) ?_
    obtain ⟨g7, hcg7, hf⟩ := bd_some hf
    refine g_callV0 (As := [.int (61 : Int32)]) (rest := []) G hw (gA_mono hw.2.2.2.1.1) C_10 iM_10 mv_X11_206 (c_M_want l D X E n (61 : Int32) g6 g7 hcg7) hl.1 rfl rfl (Nat.le_of_ble_eq_true rfl) (Nat.le_of_ble_eq_true rfl) (Nat.le_of_ble_eq_true rfl) ⟨Nat.le_refl _, Nat.le_refl _⟩ dX11_writing_71 (fun H locs hw => ?_)
    refine lv_aload_n G.1 G.2.1 dX11_writing_74 rfl (lv_at hl 3 rfl) ?_
    refine g_getI G hw C_10 iM_10 3 rfl fl_X11_125 dX11_writing_75 ?_
    obtain ⟨j8, ej8, hf⟩ := lt9_some hf
    have hj8 : ∀ (g10 : Mem) (H : Heap) (locs : List Loc) (ls : Array Slot), j8 g10 = some g' → GW D X idsM E (gA X idsM E s.heap.size) s g10 H locs → lv_has ls 5 [(0, .ref (E.1 10 0)), (1, .int (gI g 10 0 5)), (2, .int (gI g6 10 0 8)), (3, .int (gI g6 10 0 9))] → W p l en { frames := 125, cells := 0, slots := 0, locals := 2998 } s m [.ref (E.1 10 0)].toArray below meth c H locs 0 0 (MQ below (gQ none (GP D X idsM E g') (gA X idsM E s.heap.size)) [.ref (E.1 10 0)].toArray s 0 0 (gA X idsM E s.heap.size)) (F0 m 85 ls []) := by
      intro g10 H locs ls hf hw hl
      rw [ej8] at hf
      dsimp only at hf
      refine lv_aload_n G.1 G.2.1 dX11_writing_85 rfl (lv_at hl 0 rfl) ?_
      refine lv_bipush (v := (59 : Int32)) G.1 G.2.1 dX11_writing_86 (by decide) ?_
      obtain ⟨g11, hcg11, hf⟩ := bd_some hf
      refine g_callV0 (As := [.int (59 : Int32)]) (rest := []) G hw (gA_mono hw.2.2.2.1.1) C_10 iM_10 mv_X11_206 (c_M_want l D X E n (59 : Int32) g10 g11 hcg11) hl.1 rfl rfl (Nat.le_of_ble_eq_true rfl) (Nat.le_of_ble_eq_true rfl) (Nat.le_of_ble_eq_true rfl) ⟨Nat.le_refl _, Nat.le_refl _⟩ dX11_writing_88 (fun H locs hw => ?_)
      refine lv_aload_n G.1 G.2.1 dX11_writing_91 rfl (lv_at hl 0 rfl) ?_
      refine g_getI G hw C_10 iM_10 3 rfl fl_X11_125 dX11_writing_92 ?_
      refine lv_if_ne (tgt := 109) G.1 G.2.1 dX11_writing_95 (by decide) (fun hc95 => ?_) (fun hc95 => ?_)
      · rw [if_neg hc95] at hf
        exact g_vretW G hr hk hf hw dX11_writing_109
      · rw [if_pos hc95] at hf
        refine lv_aload_n G.1 G.2.1 dX11_writing_98 rfl (lv_at hl 0 rfl) ?_
        refine lv_bipush (v := (6 : Int32)) G.1 G.2.1 dX11_writing_99 (by decide) ?_
        refine lv_iload_n G.1 G.2.1 dX11_writing_101 rfl (lv_at hl 1 rfl) ?_
        refine lv_iload_n G.1 G.2.1 dX11_writing_102 rfl (lv_at hl 2 rfl) ?_
        refine lv_iload_n G.1 G.2.1 dX11_writing_103 rfl (lv_at hl 3 rfl) ?_
        obtain ⟨z12, hcz12, hf⟩ := bd_some hf
        refine g_callV1 (As := [.int (6 : Int32), .int (gI g 10 0 5), .int (gI g6 10 0 8), .int (gI g6 10 0 9)]) (rest := []) G hw (gA_mono hw.2.2.2.1.1) C_10 iM_10 mv_X11_213 (c_M_emit l D X E n (6 : Int32) (gI g 10 0 5) (gI g6 10 0 8) (gI g6 10 0 9) g11 z12.1 z12.2 hcz12) hl.1 rfl rfl (Nat.le_of_ble_eq_true rfl) (Nat.le_of_ble_eq_true rfl) (Nat.le_of_ble_eq_true rfl) ⟨Nat.le_refl _, Nat.le_refl _⟩ dX11_writing_104 (fun H locs hw => ?_)
        refine lv_istore (lv' := [(4, .int z12.1), (0, .ref (E.1 10 0)), (1, .int (gI g 10 0 5)), (2, .int (gI g6 10 0 8)), (3, .int (gI g6 10 0 9))]) G.1 G.2.1 dX11_writing_107 hl (by decide) rfl (fun ls hl => ?_)
        exact g_vretW G hr hk hf hw dX11_writing_109
    refine lv_if_ne (tgt := 85) G.1 G.2.1 dX11_writing_78 (by decide) (fun hc78 => ?_) (fun hc78 => ?_)
    · rw [if_neg hc78] at hf
      exact hj8 g7 _ _ ls hf hw (lv_sub hl [3, 2, 1, 0] rfl)
    · rw [if_pos hc78] at hf
      refine lv_aload_n G.1 G.2.1 dX11_writing_81 rfl (lv_at hl 3 rfl) ?_
      obtain ⟨g9, hcg9, hf⟩ := bd_some hf
      refine g_callV0 (As := []) (rest := []) G hw (gA_mono hw.2.2.2.1.1) C_10 iM_10 mv_X11_203 (c_M_expression l D X E n 30 g7 g9 hcg9) hl.1 rfl rfl (Nat.le_of_ble_eq_true rfl) (Nat.le_of_ble_eq_true rfl) (Nat.le_of_ble_eq_true rfl) ⟨Nat.le_refl _, Nat.le_refl _⟩ dX11_writing_82 (fun H locs hw => ?_)
      exact hj8 g9 _ _ ls hf hw (lv_sub hl [3, 2, 1, 0] rfl)
  · rw [if_neg hc21] at hf
    refine lv_aload_n G.1 G.2.1 dX11_writing_24 rfl (lv_at hl 1 rfl) ?_
    refine lv_iconst (v := (1 : Int32)) G.1 G.2.1 dX11_writing_25 (by decide) ?_
    refine lv_aload_n G.1 G.2.1 dX11_writing_26 rfl (lv_at hl 1 rfl) ?_
    refine g_getI G hw C_10 iM_10 5 rfl fl_X11_128 dX11_writing_27 ?_
    obtain ⟨g13, hcg13, hf⟩ := bd_some hf
    refine g_callV0 (As := [.int (1 : Int32), .int (gI z2.2 10 0 5)]) (rest := []) G hw (gA_mono hw.2.2.2.1.1) C_10 iM_10 mv_X11_139 (c_M_fail l D X E n (1 : Int32) (gI z2.2 10 0 5) z2.2 g13 hcg13) hl.1 rfl rfl (Nat.le_of_ble_eq_true rfl) (Nat.le_of_ble_eq_true rfl) (Nat.le_of_ble_eq_true rfl) ⟨Nat.le_refl _, Nat.le_refl _⟩ dX11_writing_30 (fun H locs hw => ?_)
    exact g_vretW G hr hk hf hw dX11_writing_33

set_option maxHeartbeats 4000000 in
set_option maxRecDepth 100000 in
theorem c_M_inBraces (l : Launch) (D : va_G) (X : va_W) (E : gE) (n : Nat) (rc : Mem → Option (Mem)) (fr0 lo0 : Nat) (hfr0 : 126 ≤ fr0) (hlo0 : 3024 ≤ lo0) (hrc : ∀ (g : Mem) (g' : Mem), rc g = some g' → gMet l yX11_statements cX11_statements 2 none fr0 lo0 D X idsM E [.ref (E.1 10 0)] g none g') (g : Mem) (g' : Mem) (hf : M_inBraces rc n g = some g') : gMet l yX11_inBraces cX11_inBraces 1 none (fr0 + 1) (lo0 + 21) D X idsM E [.ref (E.1 10 0)] g none g' := by
  rw [M_inBraces] at hf
  refine gt_code (by decide) (Nat.le_of_ble_eq_true rfl) (fun p en s m below meth c ls G hr hk hw hl => ?_)
  have hl : lv_has ls 1 [(0, .ref (E.1 10 0))] := hl
  refine lv_aload_n G.1 G.2.1 dX11_inBraces_0 rfl (lv_at hl 0 rfl) ?_
  refine g_getI G hw C_10 iM_10 3 rfl fl_X11_125 dX11_inBraces_1 ?_
  obtain ⟨j1, ej1, hf⟩ := lt9_some hf
  have hj1 : ∀ (g4 : Mem) (H : Heap) (locs : List Loc) (ls : Array Slot), j1 g4 = some g' → GW D X idsM E (gA X idsM E s.heap.size) s g4 H locs → lv_has ls 1 [(0, .ref (E.1 10 0))] → W p l en { frames := (fr0 + 1), cells := 0, slots := 0, locals := (lo0 + 21) } s m [.ref (E.1 10 0)].toArray below meth c H locs 0 0 (MQ below (gQ none (GP D X idsM E g') (gA X idsM E s.heap.size)) [.ref (E.1 10 0)].toArray s 0 0 (gA X idsM E s.heap.size)) (F0 m 34 ls []) := by
    intro g4 H locs ls hf hw hl
    rw [ej1] at hf
    dsimp only at hf
    refine lv_aload_n G.1 G.2.1 dX11_inBraces_34 rfl (lv_at hl 0 rfl) ?_
    refine lv_bipush (v := (123 : Int32)) G.1 G.2.1 dX11_inBraces_35 (by decide) ?_
    obtain ⟨g5, hcg5, hf⟩ := bd_some hf
    refine g_callV0 (As := [.int (123 : Int32)]) (rest := []) G hw (gA_mono hw.2.2.2.1.1) C_10 iM_10 mv_X11_206 (c_M_want l D X E n (123 : Int32) g4 g5 hcg5) hl.1 rfl rfl (Nat.le_of_ble_eq_true rfl) (by dsimp only; omega) (by dsimp only; omega) ⟨Nat.le_refl _, Nat.le_refl _⟩ dX11_inBraces_37 (fun H locs hw => ?_)
    refine lv_aload_n G.1 G.2.1 dX11_inBraces_40 rfl (lv_at hl 0 rfl) ?_
    refine lv_dup G.1 G.2.1 dX11_inBraces_41 rfl ?_
    refine g_getI G hw C_10 iM_10 7 rfl fl_X11_230 dX11_inBraces_42 ?_
    refine lv_iconst (v := (1 : Int32)) G.1 G.2.1 dX11_inBraces_45 (by decide) ?_
    refine lv_iadd G.1 G.2.1 dX11_inBraces_46 ?_
    obtain ⟨g6, eg6, hf⟩ := lt9_some hf
    refine g_putI G hw C_10 iM_10 7 rfl fl_X11_230 rfl rfl rfl dX11_inBraces_47 (fun H locs hw => ?_)
    rw [← eg6] at hw
    refine lv_aload_n G.1 G.2.1 dX11_inBraces_50 rfl (lv_at hl 0 rfl) ?_
    obtain ⟨g7, hcg7, hf⟩ := bd_some hf
    refine g_callV0 (As := []) (rest := []) G hw (gA_mono hw.2.2.2.1.1) C_10 iM_10 mv_X11_233 (hrc g6 g7 hcg7) hl.1 rfl rfl (Nat.le_of_ble_eq_true rfl) (by dsimp only; omega) (by dsimp only; omega) ⟨Nat.le_refl _, Nat.le_refl _⟩ dX11_inBraces_51 (fun H locs hw => ?_)
    refine lv_aload_n G.1 G.2.1 dX11_inBraces_54 rfl (lv_at hl 0 rfl) ?_
    refine lv_bipush (v := (125 : Int32)) G.1 G.2.1 dX11_inBraces_55 (by decide) ?_
    obtain ⟨g8, hcg8, hf⟩ := bd_some hf
    refine g_callV0 (As := [.int (125 : Int32)]) (rest := []) G hw (gA_mono hw.2.2.2.1.1) C_10 iM_10 mv_X11_206 (c_M_want l D X E n (125 : Int32) g7 g8 hcg8) hl.1 rfl rfl (Nat.le_of_ble_eq_true rfl) (by dsimp only; omega) (by dsimp only; omega) ⟨Nat.le_refl _, Nat.le_refl _⟩ dX11_inBraces_57 (fun H locs hw => ?_)
    refine lv_aload_n G.1 G.2.1 dX11_inBraces_60 rfl (lv_at hl 0 rfl) ?_
    refine lv_dup G.1 G.2.1 dX11_inBraces_61 rfl ?_
    refine g_getI G hw C_10 iM_10 7 rfl fl_X11_230 dX11_inBraces_62 ?_
    refine lv_iconst (v := (1 : Int32)) G.1 G.2.1 dX11_inBraces_65 (by decide) ?_
    refine lv_isub G.1 G.2.1 dX11_inBraces_66 ?_
    obtain ⟨g9, eg9, hf⟩ := lt9_some hf
    refine g_putI G hw C_10 iM_10 7 rfl fl_X11_230 rfl rfl rfl dX11_inBraces_67 (fun H locs hw => ?_)
    rw [← eg9] at hw
    exact g_vretW G hr hk hf hw dX11_inBraces_70
  refine lv_if_ne (tgt := 34) G.1 G.2.1 dX11_inBraces_4 (by decide) (fun hc4 => ?_) (fun hc4 => ?_)
  · rw [if_neg hc4] at hf
    exact hj1 g _ _ ls hf hw (lv_sub hl [0] rfl)
  · rw [if_pos hc4] at hf
    refine lv_aload_n G.1 G.2.1 dX11_inBraces_7 rfl (lv_at hl 0 rfl) ?_
    obtain ⟨z2, hcz2, hf⟩ := bd_some hf
    refine g_callV1 (As := []) (rest := []) G hw (gA_mono hw.2.2.2.1.1) C_10 iM_10 mv_X11_135 (c_M_next l D X E n g z2.1 z2.2 hcz2) hl.1 rfl rfl (Nat.le_of_ble_eq_true rfl) (by dsimp only; omega) (by dsimp only; omega) ⟨Nat.le_refl _, Nat.le_refl _⟩ dX11_inBraces_8 (fun H locs hw => ?_)
    refine lv_bipush (v := (123 : Int32)) G.1 G.2.1 dX11_inBraces_11 (by decide) ?_
    refine lv_icmp_ne (tgt := 34) G.1 G.2.1 dX11_inBraces_13 (by decide) (fun hc13 => ?_) (fun hc13 => ?_)
    · rw [if_neg hc13] at hf
      exact hj1 z2.2 _ _ ls hf hw (lv_sub hl [0] rfl)
    · rw [if_pos hc13] at hf
      refine lv_aload_n G.1 G.2.1 dX11_inBraces_16 rfl (lv_at hl 0 rfl) ?_
      refine g_getI G hw C_10 iM_10 7 rfl fl_X11_230 dX11_inBraces_17 ?_
      refine lv_bipush (v := (10 : Int32)) G.1 G.2.1 dX11_inBraces_20 (by decide) ?_
      refine lv_icmp_ne (tgt := 34) G.1 G.2.1 dX11_inBraces_22 (by decide) (fun hc22 => ?_) (fun hc22 => ?_)
      · rw [if_neg hc22] at hf
        exact hj1 z2.2 _ _ ls hf hw (lv_sub hl [0] rfl)
      · rw [if_pos hc22] at hf
        refine lv_aload_n G.1 G.2.1 dX11_inBraces_25 rfl (lv_at hl 0 rfl) ?_
        refine lv_iconst (v := (3 : Int32)) G.1 G.2.1 dX11_inBraces_26 (by decide) ?_
        refine lv_aload_n G.1 G.2.1 dX11_inBraces_27 rfl (lv_at hl 0 rfl) ?_
        refine g_getI G hw C_10 iM_10 5 rfl fl_X11_128 dX11_inBraces_28 ?_
        obtain ⟨g3, hcg3, hf⟩ := bd_some hf
        refine g_callV0 (As := [.int (3 : Int32), .int (gI z2.2 10 0 5)]) (rest := []) G hw (gA_mono hw.2.2.2.1.1) C_10 iM_10 mv_X11_139 (c_M_fail l D X E n (3 : Int32) (gI z2.2 10 0 5) z2.2 g3 hcg3) hl.1 rfl rfl (Nat.le_of_ble_eq_true rfl) (by dsimp only; omega) (by dsimp only; omega) ⟨Nat.le_refl _, Nat.le_refl _⟩ dX11_inBraces_31 (fun H locs hw => ?_)
        exact hj1 g3 _ _ ls hf hw (lv_sub hl [0] rfl)

set_option maxHeartbeats 4000000 in
set_option maxRecDepth 100000 in
theorem c_M_endBlock (l : Launch) (D : va_G) (X : va_W) (E : gE) (n : Nat) (g : Mem) (r : Int32) (g' : Mem) (hf : M_endBlock n g = some (r, g')) : gMet l yX11_endBlock cX11_endBlock 2 (some .int) 2 44 D X idsM E [.ref (E.1 10 0)] g (some (.int r)) g' := by
  rw [M_endBlock] at hf
  refine gt_code (by decide) (Nat.le_of_ble_eq_true rfl) (fun p en s m below meth c ls G hr hk hw hl => ?_)
  have hl : lv_has ls 2 [(0, .ref (E.1 10 0))] := hl
  refine lv_aload_n G.1 G.2.1 dX11_endBlock_0 rfl (lv_at hl 0 rfl) ?_
  obtain ⟨g1, hcg1, hf⟩ := bd_some hf
  refine g_callV0 (As := []) (rest := []) G hw (gA_mono hw.2.2.2.1.1) C_10 iM_10 mv_X11_174 (c_M_needBlock l D X E n g g1 hcg1) hl.1 rfl rfl (Nat.le_of_ble_eq_true rfl) (Nat.le_of_ble_eq_true rfl) (Nat.le_of_ble_eq_true rfl) ⟨Nat.le_refl _, Nat.le_refl _⟩ dX11_endBlock_1 (fun H locs hw => ?_)
  refine lv_aload_n G.1 G.2.1 dX11_endBlock_4 rfl (lv_at hl 0 rfl) ?_
  refine g_getI G hw C_10 iM_10 22 rfl fl_X11_159 dX11_endBlock_5 ?_
  refine lv_istore_n (lv' := [(1, .int (gI g1 10 0 22)), (0, .ref (E.1 10 0))]) G.1 G.2.1 dX11_endBlock_8 rfl hl (by decide) rfl (fun ls hl => ?_)
  refine lv_aload_n G.1 G.2.1 dX11_endBlock_9 rfl (lv_at hl 1 rfl) ?_
  refine g_getC G hw C_10 iM_10 21 121 rfl (by decide) rfl fl_X11_44 dX11_endBlock_10 ?_
  refine lv_iload_n G.1 G.2.1 dX11_endBlock_13 rfl (lv_at hl 0 rfl) ?_
  refine lv_iconst (v := (1 : Int32)) G.1 G.2.1 dX11_endBlock_14 (by decide) ?_
  obtain ⟨j2, hj2, hf⟩ := bd_some hf
  obtain ⟨g3, eg3, hf⟩ := lt9_some hf
  refine g_zast G hw iM_121 (by decide) rfl hj2 rfl dX11_endBlock_15 (fun H locs hw => ?_)
  rw [← eg3] at hw
  refine lv_aload_n G.1 G.2.1 dX11_endBlock_16 rfl (lv_at hl 1 rfl) ?_
  refine g_getC G hw C_10 iM_10 17 117 rfl (by decide) rfl fl_X11_32 dX11_endBlock_17 ?_
  refine lv_iload_n G.1 G.2.1 dX11_endBlock_20 rfl (lv_at hl 0 rfl) ?_
  refine lv_aload_n G.1 G.2.1 dX11_endBlock_21 rfl (lv_at hl 1 rfl) ?_
  refine g_getI G hw C_10 iM_10 8 rfl fl_X11_177 dX11_endBlock_22 ?_
  obtain ⟨j4, hj4, hf⟩ := bd_some hf
  obtain ⟨g5, eg5, hf⟩ := lt9_some hf
  refine g_iast G hw iM_117 (by decide) rfl hj4 dX11_endBlock_25 (fun H locs hw => ?_)
  rw [← eg5] at hw
  refine lv_aload_n G.1 G.2.1 dX11_endBlock_26 rfl (lv_at hl 1 rfl) ?_
  refine g_getC G hw C_10 iM_10 18 118 rfl (by decide) rfl fl_X11_35 dX11_endBlock_27 ?_
  refine lv_iload_n G.1 G.2.1 dX11_endBlock_30 rfl (lv_at hl 0 rfl) ?_
  refine lv_aload_n G.1 G.2.1 dX11_endBlock_31 rfl (lv_at hl 1 rfl) ?_
  refine g_getI G hw C_10 iM_10 9 rfl fl_X11_180 dX11_endBlock_32 ?_
  obtain ⟨j6, hj6, hf⟩ := bd_some hf
  obtain ⟨g7, eg7, hf⟩ := lt9_some hf
  refine g_iast G hw iM_118 (by decide) rfl hj6 dX11_endBlock_35 (fun H locs hw => ?_)
  rw [← eg7] at hw
  refine lv_aload_n G.1 G.2.1 dX11_endBlock_36 rfl (lv_at hl 1 rfl) ?_
  refine lv_iconst (v := (-1 : Int32)) G.1 G.2.1 dX11_endBlock_37 (by decide) ?_
  obtain ⟨g8, eg8, hf⟩ := lt9_some hf
  refine g_putI G hw C_10 iM_10 22 rfl fl_X11_159 rfl rfl rfl dX11_endBlock_38 (fun H locs hw => ?_)
  rw [← eg8] at hw
  refine lv_iload_n G.1 G.2.1 dX11_endBlock_41 rfl (lv_at hl 0 rfl) ?_
  exact g_iretW G hr hk hf hw dX11_endBlock_42

set_option maxHeartbeats 4000000 in
set_option maxRecDepth 100000 in
theorem c_M_leaveOpen (l : Launch) (D : va_G) (X : va_W) (E : gE) (n : Nat) (g : Mem) (g' : Mem) (hf : M_leaveOpen n g = some g') : gMet l yX11_leaveOpen cX11_leaveOpen 1 none 1 22 D X idsM E [.ref (E.1 10 0)] g none g' := by
  rw [M_leaveOpen] at hf
  refine gt_code (by decide) (Nat.le_of_ble_eq_true rfl) (fun p en s m below meth c ls G hr hk hw hl => ?_)
  have hl : lv_has ls 1 [(0, .ref (E.1 10 0))] := hl
  refine lv_aload_n G.1 G.2.1 dX11_leaveOpen_0 rfl (lv_at hl 0 rfl) ?_
  refine g_getI G hw C_10 iM_10 22 rfl fl_X11_159 dX11_leaveOpen_1 ?_
  refine lv_iconst (v := (-1 : Int32)) G.1 G.2.1 dX11_leaveOpen_4 (by decide) ?_
  refine lv_icmp_eq (tgt := 22) G.1 G.2.1 dX11_leaveOpen_5 (by decide) (fun hc5 => ?_) (fun hc5 => ?_)
  · rw [if_pos hc5] at hf
    exact g_vretW G hr hk hf hw dX11_leaveOpen_22
  · rw [if_neg hc5] at hf
    refine lv_aload_n G.1 G.2.1 dX11_leaveOpen_8 rfl (lv_at hl 0 rfl) ?_
    refine lv_aload_n G.1 G.2.1 dX11_leaveOpen_9 rfl (lv_at hl 0 rfl) ?_
    refine g_getI G hw C_10 iM_10 22 rfl fl_X11_159 dX11_leaveOpen_10 ?_
    refine lv_iconst (v := (0 : Int32)) G.1 G.2.1 dX11_leaveOpen_13 (by decide) ?_
    obtain ⟨g1, hcg1, hf⟩ := bd_some hf
    refine g_callV0 (As := [.int (gI g 10 0 22), .int (0 : Int32)]) (rest := []) G hw (gA_mono hw.2.2.2.1.1) C_10 iM_10 mv_X11_236 (c_M_way l D X E n (gI g 10 0 22) (0 : Int32) g g1 hcg1) hl.1 rfl rfl (Nat.le_of_ble_eq_true rfl) (Nat.le_of_ble_eq_true rfl) (Nat.le_of_ble_eq_true rfl) ⟨Nat.le_refl _, Nat.le_refl _⟩ dX11_leaveOpen_14 (fun H locs hw => ?_)
    refine lv_aload_n G.1 G.2.1 dX11_leaveOpen_17 rfl (lv_at hl 0 rfl) ?_
    refine lv_iconst (v := (-1 : Int32)) G.1 G.2.1 dX11_leaveOpen_18 (by decide) ?_
    obtain ⟨g2, eg2, hf⟩ := lt9_some hf
    refine g_putI G hw C_10 iM_10 22 rfl fl_X11_159 rfl rfl rfl dX11_leaveOpen_19 (fun H locs hw => ?_)
    rw [← eg2] at hw
    exact g_vretW G hr hk hf hw dX11_leaveOpen_22

set_option maxHeartbeats 4000000 in
set_option maxRecDepth 100000 in
theorem c_M_choice (l : Launch) (D : va_G) (X : va_W) (E : gE) (n : Nat) (rc : Mem → Option (Mem)) (fr0 lo0 : Nat) (hfr0 : 126 ≤ fr0) (hlo0 : 3024 ≤ lo0) (hrc : ∀ (g : Mem) (g' : Mem), rc g = some g' → gMet l yX11_statements cX11_statements 2 none fr0 lo0 D X idsM E [.ref (E.1 10 0)] g none g') (g : Mem) (g' : Mem) (hf : M_choice rc n g = some g') : gMet l yX11_choice cX11_choice 3 none (fr0 + 2) (lo0 + 41) D X idsM E [.ref (E.1 10 0)] g none g' := by
  rw [M_choice] at hf
  refine gt_code (by decide) (Nat.le_of_ble_eq_true rfl) (fun p en s m below meth c ls G hr hk hw hl => ?_)
  have hl : lv_has ls 3 [(0, .ref (E.1 10 0))] := hl
  refine lv_aload_n G.1 G.2.1 dX11_choice_0 rfl (lv_at hl 0 rfl) ?_
  refine lv_dup G.1 G.2.1 dX11_choice_1 rfl ?_
  refine g_getI G hw C_10 iM_10 5 rfl fl_X11_128 dX11_choice_2 ?_
  refine lv_iconst (v := (2 : Int32)) G.1 G.2.1 dX11_choice_5 (by decide) ?_
  refine lv_iadd G.1 G.2.1 dX11_choice_6 ?_
  obtain ⟨g1, eg1, hf⟩ := lt9_some hf
  refine g_putI G hw C_10 iM_10 5 rfl fl_X11_128 rfl rfl rfl dX11_choice_7 (fun H locs hw => ?_)
  rw [← eg1] at hw
  refine lv_aload_n G.1 G.2.1 dX11_choice_10 rfl (lv_at hl 0 rfl) ?_
  obtain ⟨g2, hcg2, hf⟩ := bd_some hf
  refine g_callV0 (As := []) (rest := []) G hw (gA_mono hw.2.2.2.1.1) C_10 iM_10 mv_X11_203 (c_M_expression l D X E n 30 g1 g2 hcg2) hl.1 rfl rfl (Nat.le_of_ble_eq_true rfl) (by dsimp only; omega) (by dsimp only; omega) ⟨Nat.le_refl _, Nat.le_refl _⟩ dX11_choice_11 (fun H locs hw => ?_)
  refine lv_aload_n G.1 G.2.1 dX11_choice_14 rfl (lv_at hl 0 rfl) ?_
  refine g_getI G hw C_10 iM_10 3 rfl fl_X11_125 dX11_choice_15 ?_
  refine lv_if_le (tgt := 22) G.1 G.2.1 dX11_choice_18 (by decide) (fun hc18 => ?_) (fun hc18 => ?_)
  · rw [if_pos hc18] at hf
    refine lv_aload_n G.1 G.2.1 dX11_choice_22 rfl (lv_at hl 0 rfl) ?_
    obtain ⟨z3, hcz3, hf⟩ := bd_some hf
    refine g_callV1 (As := []) (rest := []) G hw (gA_mono hw.2.2.2.1.1) C_10 iM_10 mv_X11_240 (c_M_endBlock l D X E n g2 z3.1 z3.2 hcz3) hl.1 rfl rfl (Nat.le_of_ble_eq_true rfl) (by dsimp only; omega) (by dsimp only; omega) ⟨Nat.le_refl _, Nat.le_refl _⟩ dX11_choice_23 (fun H locs hw => ?_)
    refine lv_istore_n (lv' := [(1, .int z3.1), (0, .ref (E.1 10 0))]) G.1 G.2.1 dX11_choice_26 rfl hl (by decide) rfl (fun ls hl => ?_)
    refine lv_aload_n G.1 G.2.1 dX11_choice_27 rfl (lv_at hl 1 rfl) ?_
    refine g_getI G hw C_10 iM_10 49 rfl fl_X11_165 dX11_choice_28 ?_
    refine lv_istore_n (lv' := [(2, .int (gI z3.2 10 0 49)), (1, .int z3.1), (0, .ref (E.1 10 0))]) G.1 G.2.1 dX11_choice_31 rfl hl (by decide) rfl (fun ls hl => ?_)
    refine lv_aload_n G.1 G.2.1 dX11_choice_32 rfl (lv_at hl 2 rfl) ?_
    refine lv_iload_n G.1 G.2.1 dX11_choice_33 rfl (lv_at hl 1 rfl) ?_
    refine lv_iconst (v := (0 : Int32)) G.1 G.2.1 dX11_choice_34 (by decide) ?_
    obtain ⟨g4, hcg4, hf⟩ := bd_some hf
    refine g_callV0 (As := [.int z3.1, .int (0 : Int32)]) (rest := []) G hw (gA_mono hw.2.2.2.1.1) C_10 iM_10 mv_X11_236 (c_M_way l D X E n z3.1 (0 : Int32) z3.2 g4 hcg4) hl.1 rfl rfl (Nat.le_of_ble_eq_true rfl) (by dsimp only; omega) (by dsimp only; omega) ⟨Nat.le_refl _, Nat.le_refl _⟩ dX11_choice_35 (fun H locs hw => ?_)
    refine lv_aload_n G.1 G.2.1 dX11_choice_38 rfl (lv_at hl 2 rfl) ?_
    obtain ⟨g5, hcg5, hf⟩ := bd_some hf
    refine g_callV0 (As := []) (rest := []) G hw (gA_mono hw.2.2.2.1.1) C_10 iM_10 mv_X11_243 (c_M_inBraces l D X E n rc fr0 lo0 hfr0 hlo0 hrc g4 g5 hcg5) hl.1 rfl rfl (Nat.le_of_ble_eq_true rfl) (by dsimp only; omega) (by dsimp only; omega) ⟨Nat.le_refl _, Nat.le_refl _⟩ dX11_choice_39 (fun H locs hw => ?_)
    refine lv_aload_n G.1 G.2.1 dX11_choice_42 rfl (lv_at hl 2 rfl) ?_
    obtain ⟨g6, hcg6, hf⟩ := bd_some hf
    refine g_callV0 (As := []) (rest := []) G hw (gA_mono hw.2.2.2.1.1) C_10 iM_10 mv_X11_246 (c_M_leaveOpen l D X E n g5 g6 hcg6) hl.1 rfl rfl (Nat.le_of_ble_eq_true rfl) (by dsimp only; omega) (by dsimp only; omega) ⟨Nat.le_refl _, Nat.le_refl _⟩ dX11_choice_43 (fun H locs hw => ?_)
    refine lv_aload_n G.1 G.2.1 dX11_choice_46 rfl (lv_at hl 2 rfl) ?_
    refine g_getI G hw C_10 iM_10 3 rfl fl_X11_125 dX11_choice_47 ?_
    refine lv_if_ne (tgt := 101) G.1 G.2.1 dX11_choice_50 (by decide) (fun hc50 => ?_) (fun hc50 => ?_)
    · rw [if_neg hc50] at hf
      refine lv_aload_n G.1 G.2.1 dX11_choice_101 rfl (lv_at hl 2 rfl) ?_
      refine lv_iload_n G.1 G.2.1 dX11_choice_102 rfl (lv_at hl 1 rfl) ?_
      refine lv_iconst (v := (1 : Int32)) G.1 G.2.1 dX11_choice_103 (by decide) ?_
      obtain ⟨g7, hcg7, hf⟩ := bd_some hf
      refine g_callV0 (As := [.int z3.1, .int (1 : Int32)]) (rest := []) G hw (gA_mono hw.2.2.2.1.1) C_10 iM_10 mv_X11_236 (c_M_way l D X E n z3.1 (1 : Int32) g6 g7 hcg7) hl.1 rfl rfl (Nat.le_of_ble_eq_true rfl) (by dsimp only; omega) (by dsimp only; omega) ⟨Nat.le_refl _, Nat.le_refl _⟩ dX11_choice_104 (fun H locs hw => ?_)
      exact g_vretW G hr hk hf hw dX11_choice_107
    · rw [if_pos hc50] at hf
      refine lv_aload_n G.1 G.2.1 dX11_choice_53 rfl (lv_at hl 2 rfl) ?_
      obtain ⟨z8, hcz8, hf⟩ := bd_some hf
      refine g_callV1 (As := []) (rest := []) G hw (gA_mono hw.2.2.2.1.1) C_10 iM_10 mv_X11_210 (c_M_word l D X E n g6 z8.1 z8.2 hcz8) hl.1 rfl rfl (Nat.le_of_ble_eq_true rfl) (by dsimp only; omega) (by dsimp only; omega) ⟨Nat.le_refl _, Nat.le_refl _⟩ dX11_choice_54 (fun H locs hw => ?_)
      refine lv_iconst (v := (2 : Int32)) G.1 G.2.1 dX11_choice_57 (by decide) ?_
      refine lv_icmp_ne (tgt := 101) G.1 G.2.1 dX11_choice_58 (by decide) (fun hc58 => ?_) (fun hc58 => ?_)
      · rw [if_neg hc58] at hf
        refine lv_aload_n G.1 G.2.1 dX11_choice_101 rfl (lv_at hl 2 rfl) ?_
        refine lv_iload_n G.1 G.2.1 dX11_choice_102 rfl (lv_at hl 1 rfl) ?_
        refine lv_iconst (v := (1 : Int32)) G.1 G.2.1 dX11_choice_103 (by decide) ?_
        obtain ⟨g9, hcg9, hf⟩ := bd_some hf
        refine g_callV0 (As := [.int z3.1, .int (1 : Int32)]) (rest := []) G hw (gA_mono hw.2.2.2.1.1) C_10 iM_10 mv_X11_236 (c_M_way l D X E n z3.1 (1 : Int32) z8.2 g9 hcg9) hl.1 rfl rfl (Nat.le_of_ble_eq_true rfl) (by dsimp only; omega) (by dsimp only; omega) ⟨Nat.le_refl _, Nat.le_refl _⟩ dX11_choice_104 (fun H locs hw => ?_)
        exact g_vretW G hr hk hf hw dX11_choice_107
      · rw [if_pos hc58] at hf
        refine lv_aload_n G.1 G.2.1 dX11_choice_61 rfl (lv_at hl 2 rfl) ?_
        refine lv_dup G.1 G.2.1 dX11_choice_62 rfl ?_
        refine g_getI G hw C_10 iM_10 5 rfl fl_X11_128 dX11_choice_63 ?_
        refine lv_iconst (v := (4 : Int32)) G.1 G.2.1 dX11_choice_66 (by decide) ?_
        refine lv_iadd G.1 G.2.1 dX11_choice_67 ?_
        obtain ⟨g10, eg10, hf⟩ := lt9_some hf
        refine g_putI G hw C_10 iM_10 5 rfl fl_X11_128 rfl rfl rfl dX11_choice_68 (fun H locs hw => ?_)
        rw [← eg10] at hw
        refine lv_aload_n G.1 G.2.1 dX11_choice_71 rfl (lv_at hl 2 rfl) ?_
        refine lv_aload_n G.1 G.2.1 dX11_choice_72 rfl (lv_at hl 2 rfl) ?_
        refine g_getI G hw C_10 iM_10 24 rfl fl_X11_156 dX11_choice_73 ?_
        obtain ⟨g11, eg11, hf⟩ := lt9_some hf
        refine g_putI G hw C_10 iM_10 49 rfl fl_X11_165 rfl rfl rfl dX11_choice_76 (fun H locs hw => ?_)
        rw [← eg11] at hw
        refine lv_aload_n G.1 G.2.1 dX11_choice_79 rfl (lv_at hl 2 rfl) ?_
        refine lv_iload_n G.1 G.2.1 dX11_choice_80 rfl (lv_at hl 1 rfl) ?_
        refine lv_iconst (v := (1 : Int32)) G.1 G.2.1 dX11_choice_81 (by decide) ?_
        obtain ⟨g12, hcg12, hf⟩ := bd_some hf
        refine g_callV0 (As := [.int z3.1, .int (1 : Int32)]) (rest := []) G hw (gA_mono hw.2.2.2.1.1) C_10 iM_10 mv_X11_236 (c_M_way l D X E n z3.1 (1 : Int32) g11 g12 hcg12) hl.1 rfl rfl (Nat.le_of_ble_eq_true rfl) (by dsimp only; omega) (by dsimp only; omega) ⟨Nat.le_refl _, Nat.le_refl _⟩ dX11_choice_82 (fun H locs hw => ?_)
        refine lv_aload_n G.1 G.2.1 dX11_choice_85 rfl (lv_at hl 2 rfl) ?_
        obtain ⟨g13, hcg13, hf⟩ := bd_some hf
        refine g_callV0 (As := []) (rest := []) G hw (gA_mono hw.2.2.2.1.1) C_10 iM_10 mv_X11_243 (c_M_inBraces l D X E n rc fr0 lo0 hfr0 hlo0 hrc g12 g13 hcg13) hl.1 rfl rfl (Nat.le_of_ble_eq_true rfl) (by dsimp only; omega) (by dsimp only; omega) ⟨Nat.le_refl _, Nat.le_refl _⟩ dX11_choice_86 (fun H locs hw => ?_)
        refine lv_aload_n G.1 G.2.1 dX11_choice_89 rfl (lv_at hl 2 rfl) ?_
        obtain ⟨g14, hcg14, hf⟩ := bd_some hf
        refine g_callV0 (As := []) (rest := []) G hw (gA_mono hw.2.2.2.1.1) C_10 iM_10 mv_X11_246 (c_M_leaveOpen l D X E n g13 g14 hcg14) hl.1 rfl rfl (Nat.le_of_ble_eq_true rfl) (by dsimp only; omega) (by dsimp only; omega) ⟨Nat.le_refl _, Nat.le_refl _⟩ dX11_choice_90 (fun H locs hw => ?_)
        refine lv_aload_n G.1 G.2.1 dX11_choice_93 rfl (lv_at hl 2 rfl) ?_
        refine lv_iload_n G.1 G.2.1 dX11_choice_94 rfl (lv_at hl 0 rfl) ?_
        obtain ⟨g15, eg15, hf⟩ := lt9_some hf
        refine g_putI G hw C_10 iM_10 49 rfl fl_X11_165 rfl rfl rfl dX11_choice_95 (fun H locs hw => ?_)
        rw [← eg15] at hw
        refine lv_goto (tgt := 107) G.1 G.2.1 dX11_choice_98 (by decide) ?_
        exact g_vretW G hr hk hf hw dX11_choice_107
  · rw [if_neg hc18] at hf
    exact g_vretW G hr hk hf hw dX11_choice_21

set_option maxHeartbeats 4000000 in
set_option maxRecDepth 100000 in
theorem c_M_loop (l : Launch) (D : va_G) (X : va_W) (E : gE) (n : Nat) (rc : Mem → Option (Mem)) (fr0 lo0 : Nat) (hfr0 : 126 ≤ fr0) (hlo0 : 3024 ≤ lo0) (hrc : ∀ (g : Mem) (g' : Mem), rc g = some g' → gMet l yX11_statements cX11_statements 2 none fr0 lo0 D X idsM E [.ref (E.1 10 0)] g none g') (g : Mem) (g' : Mem) (hf : M_loop rc n g = some g') : gMet l yX11_loop cX11_loop 2 none (fr0 + 2) (lo0 + 41) D X idsM E [.ref (E.1 10 0)] g none g' := by
  rw [M_loop] at hf
  refine gt_code (by decide) (Nat.le_of_ble_eq_true rfl) (fun p en s m below meth c ls G hr hk hw hl => ?_)
  have hl : lv_has ls 2 [(0, .ref (E.1 10 0))] := hl
  refine lv_aload_n G.1 G.2.1 dX11_loop_0 rfl (lv_at hl 0 rfl) ?_
  refine lv_dup G.1 G.2.1 dX11_loop_1 rfl ?_
  refine g_getI G hw C_10 iM_10 5 rfl fl_X11_128 dX11_loop_2 ?_
  refine lv_iconst (v := (5 : Int32)) G.1 G.2.1 dX11_loop_5 (by decide) ?_
  refine lv_iadd G.1 G.2.1 dX11_loop_6 ?_
  obtain ⟨g1, eg1, hf⟩ := lt9_some hf
  refine g_putI G hw C_10 iM_10 5 rfl fl_X11_128 rfl rfl rfl dX11_loop_7 (fun H locs hw => ?_)
  rw [← eg1] at hw
  refine lv_aload_n G.1 G.2.1 dX11_loop_10 rfl (lv_at hl 0 rfl) ?_
  obtain ⟨g2, hcg2, hf⟩ := bd_some hf
  refine g_callV0 (As := []) (rest := []) G hw (gA_mono hw.2.2.2.1.1) C_10 iM_10 mv_X11_246 (c_M_leaveOpen l D X E n g1 g2 hcg2) hl.1 rfl rfl (Nat.le_of_ble_eq_true rfl) (by dsimp only; omega) (by dsimp only; omega) ⟨Nat.le_refl _, Nat.le_refl _⟩ dX11_loop_11 (fun H locs hw => ?_)
  refine lv_aload_n G.1 G.2.1 dX11_loop_14 rfl (lv_at hl 0 rfl) ?_
  obtain ⟨g3, hcg3, hf⟩ := bd_some hf
  refine g_callV0 (As := []) (rest := []) G hw (gA_mono hw.2.2.2.1.1) C_10 iM_10 mv_X11_174 (c_M_needBlock l D X E n g2 g3 hcg3) hl.1 rfl rfl (Nat.le_of_ble_eq_true rfl) (by dsimp only; omega) (by dsimp only; omega) ⟨Nat.le_refl _, Nat.le_refl _⟩ dX11_loop_15 (fun H locs hw => ?_)
  refine lv_aload_n G.1 G.2.1 dX11_loop_18 rfl (lv_at hl 0 rfl) ?_
  obtain ⟨g4, hcg4, hf⟩ := bd_some hf
  refine g_callV0 (As := []) (rest := []) G hw (gA_mono hw.2.2.2.1.1) C_10 iM_10 mv_X11_203 (c_M_expression l D X E n 30 g3 g4 hcg4) hl.1 rfl rfl (Nat.le_of_ble_eq_true rfl) (by dsimp only; omega) (by dsimp only; omega) ⟨Nat.le_refl _, Nat.le_refl _⟩ dX11_loop_19 (fun H locs hw => ?_)
  refine lv_aload_n G.1 G.2.1 dX11_loop_22 rfl (lv_at hl 0 rfl) ?_
  refine g_getI G hw C_10 iM_10 3 rfl fl_X11_125 dX11_loop_23 ?_
  refine lv_if_le (tgt := 30) G.1 G.2.1 dX11_loop_26 (by decide) (fun hc26 => ?_) (fun hc26 => ?_)
  · rw [if_pos hc26] at hf
    refine lv_aload_n G.1 G.2.1 dX11_loop_30 rfl (lv_at hl 0 rfl) ?_
    obtain ⟨z5, hcz5, hf⟩ := bd_some hf
    refine g_callV1 (As := []) (rest := []) G hw (gA_mono hw.2.2.2.1.1) C_10 iM_10 mv_X11_240 (c_M_endBlock l D X E n g4 z5.1 z5.2 hcz5) hl.1 rfl rfl (Nat.le_of_ble_eq_true rfl) (by dsimp only; omega) (by dsimp only; omega) ⟨Nat.le_refl _, Nat.le_refl _⟩ dX11_loop_31 (fun H locs hw => ?_)
    refine lv_istore_n (lv' := [(1, .int z5.1), (0, .ref (E.1 10 0))]) G.1 G.2.1 dX11_loop_34 rfl hl (by decide) rfl (fun ls hl => ?_)
    refine lv_aload_n G.1 G.2.1 dX11_loop_35 rfl (lv_at hl 1 rfl) ?_
    refine lv_iload_n G.1 G.2.1 dX11_loop_36 rfl (lv_at hl 0 rfl) ?_
    refine lv_iconst (v := (0 : Int32)) G.1 G.2.1 dX11_loop_37 (by decide) ?_
    obtain ⟨g6, hcg6, hf⟩ := bd_some hf
    refine g_callV0 (As := [.int z5.1, .int (0 : Int32)]) (rest := []) G hw (gA_mono hw.2.2.2.1.1) C_10 iM_10 mv_X11_236 (c_M_way l D X E n z5.1 (0 : Int32) z5.2 g6 hcg6) hl.1 rfl rfl (Nat.le_of_ble_eq_true rfl) (by dsimp only; omega) (by dsimp only; omega) ⟨Nat.le_refl _, Nat.le_refl _⟩ dX11_loop_38 (fun H locs hw => ?_)
    refine lv_aload_n G.1 G.2.1 dX11_loop_41 rfl (lv_at hl 1 rfl) ?_
    obtain ⟨g7, hcg7, hf⟩ := bd_some hf
    refine g_callV0 (As := []) (rest := []) G hw (gA_mono hw.2.2.2.1.1) C_10 iM_10 mv_X11_243 (c_M_inBraces l D X E n rc fr0 lo0 hfr0 hlo0 hrc g6 g7 hcg7) hl.1 rfl rfl (Nat.le_of_ble_eq_true rfl) (by dsimp only; omega) (by dsimp only; omega) ⟨Nat.le_refl _, Nat.le_refl _⟩ dX11_loop_42 (fun H locs hw => ?_)
    refine lv_aload_n G.1 G.2.1 dX11_loop_45 rfl (lv_at hl 1 rfl) ?_
    obtain ⟨g8, hcg8, hf⟩ := bd_some hf
    refine g_callV0 (As := []) (rest := []) G hw (gA_mono hw.2.2.2.1.1) C_10 iM_10 mv_X11_246 (c_M_leaveOpen l D X E n g7 g8 hcg8) hl.1 rfl rfl (Nat.le_of_ble_eq_true rfl) (by dsimp only; omega) (by dsimp only; omega) ⟨Nat.le_refl _, Nat.le_refl _⟩ dX11_loop_46 (fun H locs hw => ?_)
    refine lv_aload_n G.1 G.2.1 dX11_loop_49 rfl (lv_at hl 1 rfl) ?_
    refine lv_aload_n G.1 G.2.1 dX11_loop_50 rfl (lv_at hl 1 rfl) ?_
    refine g_getI G hw C_10 iM_10 49 rfl fl_X11_165 dX11_loop_51 ?_
    refine lv_iload_n G.1 G.2.1 dX11_loop_54 rfl (lv_at hl 0 rfl) ?_
    obtain ⟨g9, hcg9, hf⟩ := bd_some hf
    refine g_callV0 (As := [.int (gI g8 10 0 49), .int z5.1]) (rest := []) G hw (gA_mono hw.2.2.2.1.1) C_10 iM_10 mv_X11_168 (c_M_lead l D X E n (gI g8 10 0 49) z5.1 g8 g9 hcg9) hl.1 rfl rfl (Nat.le_of_ble_eq_true rfl) (by dsimp only; omega) (by dsimp only; omega) ⟨Nat.le_refl _, Nat.le_refl _⟩ dX11_loop_55 (fun H locs hw => ?_)
    refine lv_aload_n G.1 G.2.1 dX11_loop_58 rfl (lv_at hl 1 rfl) ?_
    refine lv_iload_n G.1 G.2.1 dX11_loop_59 rfl (lv_at hl 0 rfl) ?_
    refine lv_iconst (v := (1 : Int32)) G.1 G.2.1 dX11_loop_60 (by decide) ?_
    obtain ⟨g10, hcg10, hf⟩ := bd_some hf
    refine g_callV0 (As := [.int z5.1, .int (1 : Int32)]) (rest := []) G hw (gA_mono hw.2.2.2.1.1) C_10 iM_10 mv_X11_236 (c_M_way l D X E n z5.1 (1 : Int32) g9 g10 hcg10) hl.1 rfl rfl (Nat.le_of_ble_eq_true rfl) (by dsimp only; omega) (by dsimp only; omega) ⟨Nat.le_refl _, Nat.le_refl _⟩ dX11_loop_61 (fun H locs hw => ?_)
    exact g_vretW G hr hk hf hw dX11_loop_64
  · rw [if_neg hc26] at hf
    exact g_vretW G hr hk hf hw dX11_loop_29

set_option maxHeartbeats 4000000 in
set_option maxRecDepth 100000 in
theorem c_M_statements_b (l : Launch) (D : va_G) (X : va_W) (E : gE) (n : Nat) (rc : Mem → Option (Mem)) (fr0 lo0 : Nat) (hfr0 : 126 ≤ fr0) (hlo0 : 3024 ≤ lo0) (hrc : ∀ (g : Mem) (g' : Mem), rc g = some g' → gMet l yX11_statements cX11_statements 2 none fr0 lo0 D X idsM E [.ref (E.1 10 0)] g none g') (g : Mem) (g' : Mem) (hf : M_statements_b rc n g = some g') : gMet l yX11_statements cX11_statements 2 none (fr0 + 3) (lo0 + 63) D X idsM E [.ref (E.1 10 0)] g none g' := by
  rw [M_statements_b] at hf
  refine gt_code (by decide) (Nat.le_of_ble_eq_true rfl) (fun p en s m below meth c ls G hr hk hw hl => ?_)
  have hl : lv_has ls 2 [(0, .ref (E.1 10 0))] := hl
  have hL0 : ∀ (k1 : Nat) (g2 : Mem) (res1 : Mem) (H : Heap) (locs : List Loc) (ls : Array Slot), M_statements_L0 n rc k1 g2 = some res1 → GW D X idsM E (gA X idsM E s.heap.size) s g2 H locs → lv_has ls 2 [(0, .ref (E.1 10 0))] → (∀ (H : Heap) (locs : List Loc) (ls : Array Slot), GW D X idsM E (gA X idsM E s.heap.size) s res1 H locs → lv_has ls 2 [] → W p l en { frames := (fr0 + 3), cells := 0, slots := 0, locals := (lo0 + 63) } s m [.ref (E.1 10 0)].toArray below meth c H locs 0 0 (MQ below (gQ none (GP D X idsM E g') (gA X idsM E s.heap.size)) [.ref (E.1 10 0)].toArray s 0 0 (gA X idsM E s.heap.size)) (F0 m 82 ls [])) → W p l en { frames := (fr0 + 3), cells := 0, slots := 0, locals := (lo0 + 63) } s m [.ref (E.1 10 0)].toArray below meth c H locs 0 0 (MQ below (gQ none (GP D X idsM E g') (gA X idsM E s.heap.size)) [.ref (E.1 10 0)].toArray s 0 0 (gA X idsM E s.heap.size)) (F0 m 0 ls []) := by
    intro k1
    induction k1 with
    | zero => intro g2 res1 H locs ls hf; rw [M_statements_L0] at hf; cases hf
    | succ k1 ih1 =>
      intro g2 res1 H locs ls hf hw hl hk1_0
      rw [M_statements_L0] at hf
      refine lv_aload_n G.1 G.2.1 dX11_statements_0 rfl (lv_at hl 0 rfl) ?_
      refine g_getI G hw C_10 iM_10 3 rfl fl_X11_125 dX11_statements_1 ?_
      refine lv_if_ne (tgt := 82) G.1 G.2.1 dX11_statements_4 (by decide) (fun hc4 => ?_) (fun hc4 => ?_)
      · rw [if_neg hc4] at hf
        obtain rfl := Option.some.inj hf
        exact hk1_0 _ _ ls hw (lv_sub hl [] rfl)
      · rw [if_pos hc4] at hf
        refine lv_aload_n G.1 G.2.1 dX11_statements_7 rfl (lv_at hl 0 rfl) ?_
        obtain ⟨z3, hcz3, hf⟩ := bd_some hf
        refine g_callV1 (As := []) (rest := []) G hw (gA_mono hw.2.2.2.1.1) C_10 iM_10 mv_X11_135 (c_M_next l D X E n g2 z3.1 z3.2 hcz3) hl.1 rfl rfl (Nat.le_of_ble_eq_true rfl) (by dsimp only; omega) (by dsimp only; omega) ⟨Nat.le_refl _, Nat.le_refl _⟩ dX11_statements_8 (fun H locs hw => ?_)
        obtain ⟨z4, hcz4, hf⟩ := bd_some hf
        refine g_callS1 (As := [.int z3.1]) (rest := []) G hw (gA_mono hw.2.2.2.1.1)  ms_X11_143 (c_M_isLetter l D X E n z3.1 z3.2 z4 hcz4) hl.1 rfl rfl (Nat.le_of_ble_eq_true rfl) (by dsimp only; omega) (by dsimp only; omega) ⟨Nat.le_refl _, Nat.le_refl _⟩ dX11_statements_11 (fun H locs hw => ?_)
        refine lv_if_eq (tgt := 82) G.1 G.2.1 dX11_statements_14 (by decide) (fun hc14 => ?_) (fun hc14 => ?_)
        · rw [if_pos hc14] at hf
          obtain rfl := Option.some.inj hf
          exact hk1_0 _ _ ls hw (lv_sub hl [] rfl)
        · rw [if_neg hc14] at hf
          refine lv_aload_n G.1 G.2.1 dX11_statements_17 rfl (lv_at hl 0 rfl) ?_
          obtain ⟨z5, hcz5, hf⟩ := bd_some hf
          refine g_callV1 (As := []) (rest := []) G hw (gA_mono hw.2.2.2.1.1) C_10 iM_10 mv_X11_210 (c_M_word l D X E n z3.2 z5.1 z5.2 hcz5) hl.1 rfl rfl (Nat.le_of_ble_eq_true rfl) (by dsimp only; omega) (by dsimp only; omega) ⟨Nat.le_refl _, Nat.le_refl _⟩ dX11_statements_18 (fun H locs hw => ?_)
          refine lv_istore_n (lv' := [(1, .int z5.1), (0, .ref (E.1 10 0))]) G.1 G.2.1 dX11_statements_21 rfl hl (by decide) rfl (fun ls hl => ?_)
          refine lv_iload_n G.1 G.2.1 dX11_statements_22 rfl (lv_at hl 0 rfl) ?_
          refine lv_iconst (v := (4 : Int32)) G.1 G.2.1 dX11_statements_23 (by decide) ?_
          refine lv_icmp_ne (tgt := 34) G.1 G.2.1 dX11_statements_24 (by decide) (fun hc24 => ?_) (fun hc24 => ?_)
          · rw [if_neg hc24] at hf
            refine lv_iload_n G.1 G.2.1 dX11_statements_34 rfl (lv_at hl 0 rfl) ?_
            refine lv_iconst (v := (5 : Int32)) G.1 G.2.1 dX11_statements_35 (by decide) ?_
            refine lv_icmp_ne (tgt := 46) G.1 G.2.1 dX11_statements_36 (by decide) (fun hc36 => ?_) (fun hc36 => ?_)
            · rw [if_neg hc36] at hf
              refine lv_iload_n G.1 G.2.1 dX11_statements_46 rfl (lv_at hl 0 rfl) ?_
              refine lv_iconst (v := (1 : Int32)) G.1 G.2.1 dX11_statements_47 (by decide) ?_
              refine lv_icmp_ne (tgt := 58) G.1 G.2.1 dX11_statements_48 (by decide) (fun hc48 => ?_) (fun hc48 => ?_)
              · rw [if_neg hc48] at hf
                refine lv_iload_n G.1 G.2.1 dX11_statements_58 rfl (lv_at hl 0 rfl) ?_
                refine lv_iconst (v := (3 : Int32)) G.1 G.2.1 dX11_statements_59 (by decide) ?_
                refine lv_icmp_ne (tgt := 70) G.1 G.2.1 dX11_statements_60 (by decide) (fun hc60 => ?_) (fun hc60 => ?_)
                · rw [if_neg hc60] at hf
                  refine lv_aload_n G.1 G.2.1 dX11_statements_70 rfl (lv_at hl 1 rfl) ?_
                  refine lv_iconst (v := (1 : Int32)) G.1 G.2.1 dX11_statements_71 (by decide) ?_
                  refine lv_aload_n G.1 G.2.1 dX11_statements_72 rfl (lv_at hl 1 rfl) ?_
                  refine g_getI G hw C_10 iM_10 5 rfl fl_X11_128 dX11_statements_73 ?_
                  obtain ⟨g6, hcg6, hf⟩ := bd_some hf
                  refine g_callV0 (As := [.int (1 : Int32), .int (gI z5.2 10 0 5)]) (rest := []) G hw (gA_mono hw.2.2.2.1.1) C_10 iM_10 mv_X11_139 (c_M_fail l D X E n (1 : Int32) (gI z5.2 10 0 5) z5.2 g6 hcg6) hl.1 rfl rfl (Nat.le_of_ble_eq_true rfl) (by dsimp only; omega) (by dsimp only; omega) ⟨Nat.le_refl _, Nat.le_refl _⟩ dX11_statements_76 (fun H locs hw => ?_)
                  refine lv_goto (tgt := 0) G.1 G.2.1 dX11_statements_79 (by decide) ?_
                  exact ih1 g6 _ _ _ ls hf hw (lv_sub hl [1] rfl) hk1_0
                · rw [if_pos hc60] at hf
                  refine lv_aload_n G.1 G.2.1 dX11_statements_63 rfl (lv_at hl 1 rfl) ?_
                  obtain ⟨g7, hcg7, hf⟩ := bd_some hf
                  refine g_callV0 (As := []) (rest := []) G hw (gA_mono hw.2.2.2.1.1) C_10 iM_10 mv_X11_258 (c_M_loop l D X E n rc fr0 lo0 hfr0 hlo0 hrc z5.2 g7 hcg7) hl.1 rfl rfl (Nat.le_of_ble_eq_true rfl) (by dsimp only; omega) (by dsimp only; omega) ⟨Nat.le_refl _, Nat.le_refl _⟩ dX11_statements_64 (fun H locs hw => ?_)
                  refine lv_goto (tgt := 79) G.1 G.2.1 dX11_statements_67 (by decide) ?_
                  refine lv_goto (tgt := 0) G.1 G.2.1 dX11_statements_79 (by decide) ?_
                  exact ih1 g7 _ _ _ ls hf hw (lv_sub hl [1] rfl) hk1_0
              · rw [if_pos hc48] at hf
                refine lv_aload_n G.1 G.2.1 dX11_statements_51 rfl (lv_at hl 1 rfl) ?_
                obtain ⟨g8, hcg8, hf⟩ := bd_some hf
                refine g_callV0 (As := []) (rest := []) G hw (gA_mono hw.2.2.2.1.1) C_10 iM_10 mv_X11_255 (c_M_choice l D X E n rc fr0 lo0 hfr0 hlo0 hrc z5.2 g8 hcg8) hl.1 rfl rfl (Nat.le_of_ble_eq_true rfl) (by dsimp only; omega) (by dsimp only; omega) ⟨Nat.le_refl _, Nat.le_refl _⟩ dX11_statements_52 (fun H locs hw => ?_)
                refine lv_goto (tgt := 79) G.1 G.2.1 dX11_statements_55 (by decide) ?_
                refine lv_goto (tgt := 0) G.1 G.2.1 dX11_statements_79 (by decide) ?_
                exact ih1 g8 _ _ _ ls hf hw (lv_sub hl [1] rfl) hk1_0
            · rw [if_pos hc36] at hf
              refine lv_aload_n G.1 G.2.1 dX11_statements_39 rfl (lv_at hl 1 rfl) ?_
              obtain ⟨g9, hcg9, hf⟩ := bd_some hf
              refine g_callV0 (As := []) (rest := []) G hw (gA_mono hw.2.2.2.1.1) C_10 iM_10 mv_X11_252 (c_M_writing l D X E n z5.2 g9 hcg9) hl.1 rfl rfl (Nat.le_of_ble_eq_true rfl) (by dsimp only; omega) (by dsimp only; omega) ⟨Nat.le_refl _, Nat.le_refl _⟩ dX11_statements_40 (fun H locs hw => ?_)
              refine lv_goto (tgt := 79) G.1 G.2.1 dX11_statements_43 (by decide) ?_
              refine lv_goto (tgt := 0) G.1 G.2.1 dX11_statements_79 (by decide) ?_
              exact ih1 g9 _ _ _ ls hf hw (lv_sub hl [1] rfl) hk1_0
          · rw [if_pos hc24] at hf
            refine lv_aload_n G.1 G.2.1 dX11_statements_27 rfl (lv_at hl 1 rfl) ?_
            obtain ⟨g10, hcg10, hf⟩ := bd_some hf
            refine g_callV0 (As := []) (rest := []) G hw (gA_mono hw.2.2.2.1.1) C_10 iM_10 mv_X11_249 (c_M_assignment l D X E n z5.2 g10 hcg10) hl.1 rfl rfl (Nat.le_of_ble_eq_true rfl) (by dsimp only; omega) (by dsimp only; omega) ⟨Nat.le_refl _, Nat.le_refl _⟩ dX11_statements_28 (fun H locs hw => ?_)
            refine lv_goto (tgt := 79) G.1 G.2.1 dX11_statements_31 (by decide) ?_
            refine lv_goto (tgt := 0) G.1 G.2.1 dX11_statements_79 (by decide) ?_
            exact ih1 g10 _ _ _ ls hf hw (lv_sub hl [1] rfl) hk1_0
  obtain ⟨r11, hr11, hf⟩ := bd_some hf
  refine hL0 n g r11 _ _ ls hr11 hw (lv_sub hl [0] rfl) ?_
  intro H locs ls hw hl
  exact g_vretW G hr hk hf hw dX11_statements_82
theorem c_M_statements (l : Launch) (D : va_G) (X : va_W) (E : gE) (n : Nat) : ∀ (d : Nat) (g : Mem) (g' : Mem), M_statements n d g = some g' → gMet l yX11_statements cX11_statements 2 none (126 + d * 3) (3024 + d * 63) D X idsM E [.ref (E.1 10 0)] g none g' := by
  intro d
  induction d with
  | zero => intro g g' hf; rw [M_statements] at hf; cases hf
  | succ d ih =>
    intro g g' hf
    rw [M_statements] at hf
    rw [show 126 + (d + 1) * 3 = (126 + d * 3) + 3 by omega, show 3024 + (d + 1) * 63 = (3024 + d * 63) + 63 by omega]
    exact c_M_statements_b l D X E n (M_statements n d) _ _ (Nat.le_add_right _ _) (Nat.le_add_right _ _) ih g g' hf

set_option maxHeartbeats 4000000 in
set_option maxRecDepth 100000 in
theorem c_M_kindOf (l : Launch) (D : va_G) (X : va_W) (E : gE) (n : Nat) (a1 : Int32) (g : Mem) (r : Int32) (hf : M_kindOf n a1 = some r) : gMet l yX11_kindOf cX11_kindOf 1 (some .int) 0 0 D X idsM E [.int a1] g (some (.int r)) g := by
  rw [M_kindOf] at hf
  refine gt_code (by decide) (Nat.le_of_ble_eq_true rfl) (fun p en s m below meth c ls G hr hk hw hl => ?_)
  have hl : lv_has ls 1 [(0, .int a1)] := hl
  refine lv_iload_n G.1 G.2.1 dX11_kindOf_0 rfl (lv_at hl 0 rfl) ?_
  refine lv_iconst (v := (2 : Int32)) G.1 G.2.1 dX11_kindOf_1 (by decide) ?_
  refine lv_icmp_ne (tgt := 9) G.1 G.2.1 dX11_kindOf_2 (by decide) (fun hc2 => ?_) (fun hc2 => ?_)
  · rw [if_neg hc2] at hf
    refine lv_iload_n G.1 G.2.1 dX11_kindOf_9 rfl (lv_at hl 0 rfl) ?_
    refine lv_iconst (v := (5 : Int32)) G.1 G.2.1 dX11_kindOf_10 (by decide) ?_
    refine lv_icmp_eq (tgt := 20) G.1 G.2.1 dX11_kindOf_11 (by decide) (fun hc11 => ?_) (fun hc11 => ?_)
    · rw [if_pos hc11] at hf
      refine lv_iconst (v := (2 : Int32)) G.1 G.2.1 dX11_kindOf_20 (by decide) ?_
      refine lv_goto (tgt := 35) G.1 G.2.1 dX11_kindOf_21 (by decide) ?_
      exact g_iretR G hr hk hf hw dX11_kindOf_35
    · rw [if_neg hc11] at hf
      refine lv_iload_n G.1 G.2.1 dX11_kindOf_14 rfl (lv_at hl 0 rfl) ?_
      refine lv_bipush (v := (6 : Int32)) G.1 G.2.1 dX11_kindOf_15 (by decide) ?_
      refine lv_icmp_ne (tgt := 24) G.1 G.2.1 dX11_kindOf_17 (by decide) (fun hc17 => ?_) (fun hc17 => ?_)
      · rw [if_neg hc17] at hf
        refine lv_iload_n G.1 G.2.1 dX11_kindOf_24 rfl (lv_at hl 0 rfl) ?_
        refine lv_bipush (v := (7 : Int32)) G.1 G.2.1 dX11_kindOf_25 (by decide) ?_
        refine lv_icmp_ne (tgt := 34) G.1 G.2.1 dX11_kindOf_27 (by decide) (fun hc27 => ?_) (fun hc27 => ?_)
        · rw [if_neg hc27] at hf
          refine lv_iconst (v := (0 : Int32)) G.1 G.2.1 dX11_kindOf_34 (by decide) ?_
          exact g_iretR G hr hk hf hw dX11_kindOf_35
        · rw [if_pos hc27] at hf
          refine lv_iconst (v := (3 : Int32)) G.1 G.2.1 dX11_kindOf_30 (by decide) ?_
          refine lv_goto (tgt := 35) G.1 G.2.1 dX11_kindOf_31 (by decide) ?_
          exact g_iretR G hr hk hf hw dX11_kindOf_35
      · rw [if_pos hc17] at hf
        refine lv_iconst (v := (2 : Int32)) G.1 G.2.1 dX11_kindOf_20 (by decide) ?_
        refine lv_goto (tgt := 35) G.1 G.2.1 dX11_kindOf_21 (by decide) ?_
        exact g_iretR G hr hk hf hw dX11_kindOf_35
  · rw [if_pos hc2] at hf
    refine lv_iconst (v := (1 : Int32)) G.1 G.2.1 dX11_kindOf_5 (by decide) ?_
    refine lv_goto (tgt := 35) G.1 G.2.1 dX11_kindOf_6 (by decide) ?_
    exact g_iretR G hr hk hf hw dX11_kindOf_35

set_option maxHeartbeats 4000000 in
set_option maxRecDepth 100000 in
theorem c_M_latencyOf (l : Launch) (D : va_G) (X : va_W) (E : gE) (n : Nat) (a1 : Int32) (g : Mem) (r : Int32) (hf : M_latencyOf n a1 g = some r) : gMet l yX11_latencyOf cX11_latencyOf 2 (some .int) 1 20 D X idsM E [.ref (E.1 10 0), .int a1] g (some (.int r)) g := by
  rw [M_latencyOf] at hf
  refine gt_code (by decide) (Nat.le_of_ble_eq_true rfl) (fun p en s m below meth c ls G hr hk hw hl => ?_)
  have hl : lv_has ls 2 [(0, .ref (E.1 10 0)), (1, .int a1)] := hl
  refine lv_aload_n G.1 G.2.1 dX11_latencyOf_0 rfl (lv_at hl 0 rfl) ?_
  refine g_getC G hw C_10 iM_10 38 138 rfl (by decide) rfl fl_X11_84 dX11_latencyOf_1 ?_
  refine lv_aload_n G.1 G.2.1 dX11_latencyOf_4 rfl (lv_at hl 0 rfl) ?_
  refine g_getC G hw C_10 iM_10 26 126 rfl (by decide) rfl fl_X11_51 dX11_latencyOf_5 ?_
  refine lv_iload_n G.1 G.2.1 dX11_latencyOf_8 rfl (lv_at hl 1 rfl) ?_
  obtain ⟨j1, hj1, hf⟩ := bd_some hf
  refine g_iald G hw iM_126 (by decide) rfl hj1 dX11_latencyOf_9 ?_
  obtain ⟨z2, hcz2, hf⟩ := bd_some hf
  refine g_callS1 (As := [.int (gI g 126 0 j1)]) (rest := [.ref (E.1 138 0)]) G hw (gA_mono hw.2.2.2.1.1)  ms_X11_277 (c_M_kindOf l D X E n (gI g 126 0 j1) g z2 hcz2) hl.1 rfl rfl (Nat.le_of_ble_eq_true rfl) (Nat.le_of_ble_eq_true rfl) (Nat.le_of_ble_eq_true rfl) ⟨Nat.le_refl _, Nat.le_refl _⟩ dX11_latencyOf_10 (fun H locs hw => ?_)
  obtain ⟨j3, hj3, hf⟩ := bd_some hf
  refine g_iald G hw iM_138 (by decide) rfl hj3 dX11_latencyOf_13 ?_
  exact g_iretR G hr hk hf hw dX11_latencyOf_14

set_option maxHeartbeats 4000000 in
set_option maxRecDepth 100000 in
theorem c_M_endOf (l : Launch) (D : va_G) (X : va_W) (E : gE) (n : Nat) (a1 : Int32) (g : Mem) (r : Int32) (hf : M_endOf n a1 g = some r) : gMet l yX11_endOf cX11_endOf 2 (some .int) 2 41 D X idsM E [.ref (E.1 10 0), .int a1] g (some (.int r)) g := by
  rw [M_endOf] at hf
  refine gt_code (by decide) (Nat.le_of_ble_eq_true rfl) (fun p en s m below meth c ls G hr hk hw hl => ?_)
  have hl : lv_has ls 2 [(0, .ref (E.1 10 0)), (1, .int a1)] := hl
  refine lv_aload_n G.1 G.2.1 dX11_endOf_0 rfl (lv_at hl 0 rfl) ?_
  refine g_getC G hw C_10 iM_10 40 140 rfl (by decide) rfl fl_X11_90 dX11_endOf_1 ?_
  refine lv_iload_n G.1 G.2.1 dX11_endOf_4 rfl (lv_at hl 1 rfl) ?_
  obtain ⟨j1, hj1, hf⟩ := bd_some hf
  refine g_iald G hw iM_140 (by decide) rfl hj1 dX11_endOf_5 ?_
  refine lv_aload_n G.1 G.2.1 dX11_endOf_6 rfl (lv_at hl 0 rfl) ?_
  refine lv_iload_n G.1 G.2.1 dX11_endOf_7 rfl (lv_at hl 1 rfl) ?_
  obtain ⟨z2, hcz2, hf⟩ := bd_some hf
  refine g_callV1 (As := [.int a1]) (rest := [.int (gI g 140 0 j1)]) G hw (gA_mono hw.2.2.2.1.1) C_10 iM_10 mv_X11_280 (c_M_latencyOf l D X E n a1 g z2 hcz2) hl.1 rfl rfl (Nat.le_of_ble_eq_true rfl) (Nat.le_of_ble_eq_true rfl) (Nat.le_of_ble_eq_true rfl) ⟨Nat.le_refl _, Nat.le_refl _⟩ dX11_endOf_8 (fun H locs hw => ?_)
  refine lv_iadd G.1 G.2.1 dX11_endOf_11 ?_
  exact g_iretR G hr hk hf hw dX11_endOf_12

set_option maxHeartbeats 4000000 in
set_option maxRecDepth 100000 in
theorem c_M_meet (l : Launch) (D : va_G) (X : va_W) (E : gE) (n : Nat) (a1 : Int32) (a2 : Int32) (g : Mem) (r : Int32) (hf : M_meet n a1 a2 g = some r) : gMet l yX11_meet cX11_meet 3 (some .boolean) 3 62 D X idsM E [.ref (E.1 10 0), .int a1, .int a2] g (some (.int r)) g := by
  rw [M_meet] at hf
  refine gt_code (by decide) (Nat.le_of_ble_eq_true rfl) (fun p en s m below meth c ls G hr hk hw hl => ?_)
  have hl : lv_has ls 3 [(0, .ref (E.1 10 0)), (1, .int a1), (2, .int a2)] := hl
  refine lv_aload_n G.1 G.2.1 dX11_meet_0 rfl (lv_at hl 0 rfl) ?_
  refine lv_iload_n G.1 G.2.1 dX11_meet_1 rfl (lv_at hl 1 rfl) ?_
  obtain ⟨z1, hcz1, hf⟩ := bd_some hf
  refine g_callV1 (As := [.int a1]) (rest := []) G hw (gA_mono hw.2.2.2.1.1) C_10 iM_10 mv_X11_289 (c_M_endOf l D X E n a1 g z1 hcz1) hl.1 rfl rfl (Nat.le_of_ble_eq_true rfl) (Nat.le_of_ble_eq_true rfl) (Nat.le_of_ble_eq_true rfl) ⟨Nat.le_refl _, Nat.le_refl _⟩ dX11_meet_2 (fun H locs hw => ?_)
  refine lv_aload_n G.1 G.2.1 dX11_meet_5 rfl (lv_at hl 0 rfl) ?_
  refine g_getC G hw C_10 iM_10 50 150 rfl (by decide) rfl fl_X11_111 dX11_meet_6 ?_
  refine lv_iload_n G.1 G.2.1 dX11_meet_9 rfl (lv_at hl 2 rfl) ?_
  obtain ⟨j2, hj2, hf⟩ := bd_some hf
  refine g_iald G hw iM_150 (by decide) rfl hj2 dX11_meet_10 ?_
  refine lv_icmp_gt (tgt := 32) G.1 G.2.1 dX11_meet_11 (by decide) (fun hc11 => ?_) (fun hc11 => ?_)
  · rw [if_pos hc11] at hf
    refine lv_iconst (v := (0 : Int32)) G.1 G.2.1 dX11_meet_32 (by decide) ?_
    exact g_zretR G hr rfl hk hf hw dX11_meet_33
  · rw [if_neg hc11] at hf
    refine lv_aload_n G.1 G.2.1 dX11_meet_14 rfl (lv_at hl 0 rfl) ?_
    refine lv_iload_n G.1 G.2.1 dX11_meet_15 rfl (lv_at hl 2 rfl) ?_
    obtain ⟨z3, hcz3, hf⟩ := bd_some hf
    refine g_callV1 (As := [.int a2]) (rest := []) G hw (gA_mono hw.2.2.2.1.1) C_10 iM_10 mv_X11_289 (c_M_endOf l D X E n a2 g z3 hcz3) hl.1 rfl rfl (Nat.le_of_ble_eq_true rfl) (Nat.le_of_ble_eq_true rfl) (Nat.le_of_ble_eq_true rfl) ⟨Nat.le_refl _, Nat.le_refl _⟩ dX11_meet_16 (fun H locs hw => ?_)
    refine lv_aload_n G.1 G.2.1 dX11_meet_19 rfl (lv_at hl 0 rfl) ?_
    refine g_getC G hw C_10 iM_10 50 150 rfl (by decide) rfl fl_X11_111 dX11_meet_20 ?_
    refine lv_iload_n G.1 G.2.1 dX11_meet_23 rfl (lv_at hl 1 rfl) ?_
    obtain ⟨j4, hj4, hf⟩ := bd_some hf
    refine g_iald G hw iM_150 (by decide) rfl hj4 dX11_meet_24 ?_
    refine lv_icmp_gt (tgt := 32) G.1 G.2.1 dX11_meet_25 (by decide) (fun hc25 => ?_) (fun hc25 => ?_)
    · rw [if_pos hc25] at hf
      refine lv_iconst (v := (0 : Int32)) G.1 G.2.1 dX11_meet_32 (by decide) ?_
      exact g_zretR G hr rfl hk hf hw dX11_meet_33
    · rw [if_neg hc25] at hf
      refine lv_iconst (v := (1 : Int32)) G.1 G.2.1 dX11_meet_28 (by decide) ?_
      refine lv_goto (tgt := 33) G.1 G.2.1 dX11_meet_29 (by decide) ?_
      exact g_zretR G hr rfl hk hf hw dX11_meet_33

set_option maxHeartbeats 4000000 in
set_option maxRecDepth 100000 in
theorem c_M_bindOne (l : Launch) (D : va_G) (X : va_W) (E : gE) (n : Nat) (a1 : Int32) (g : Mem) (g' : Mem) (hf : M_bindOne n a1 g = some g') : gMet l yX11_bindOne cX11_bindOne 6 none 4 84 D X idsM E [.ref (E.1 10 0), .int a1] g none g' := by
  rw [M_bindOne] at hf
  refine gt_code (by decide) (Nat.le_of_ble_eq_true rfl) (fun p en s m below meth c ls G hr hk hw hl => ?_)
  have hl : lv_has ls 6 [(0, .ref (E.1 10 0)), (1, .int a1)] := hl
  refine lv_iconst (v := (-1 : Int32)) G.1 G.2.1 dX11_bindOne_0 (by decide) ?_
  refine lv_istore_n (lv' := [(2, .int (-1 : Int32)), (0, .ref (E.1 10 0)), (1, .int a1)]) G.1 G.2.1 dX11_bindOne_1 rfl hl (by decide) rfl (fun ls hl => ?_)
  refine lv_iconst (v := (1 : Int32)) G.1 G.2.1 dX11_bindOne_2 (by decide) ?_
  refine lv_istore_n (lv' := [(3, .int (1 : Int32)), (2, .int (-1 : Int32)), (0, .ref (E.1 10 0)), (1, .int a1)]) G.1 G.2.1 dX11_bindOne_3 rfl hl (by decide) rfl (fun ls hl => ?_)
  refine lv_aload_n G.1 G.2.1 dX11_bindOne_4 rfl (lv_at hl 2 rfl) ?_
  refine lv_iload_n G.1 G.2.1 dX11_bindOne_5 rfl (lv_at hl 3 rfl) ?_
  obtain ⟨z1, hcz1, hf⟩ := bd_some hf
  refine g_callV1 (As := [.int a1]) (rest := []) G hw (gA_mono hw.2.2.2.1.1) C_10 iM_10 mv_X11_289 (c_M_endOf l D X E n a1 g z1 hcz1) hl.1 rfl rfl (Nat.le_of_ble_eq_true rfl) (Nat.le_of_ble_eq_true rfl) (Nat.le_of_ble_eq_true rfl) ⟨Nat.le_refl _, Nat.le_refl _⟩ dX11_bindOne_6 (fun H locs hw => ?_)
  refine lv_aload_n G.1 G.2.1 dX11_bindOne_9 rfl (lv_at hl 2 rfl) ?_
  refine g_getC G hw C_10 iM_10 50 150 rfl (by decide) rfl fl_X11_111 dX11_bindOne_10 ?_
  refine lv_iload_n G.1 G.2.1 dX11_bindOne_13 rfl (lv_at hl 3 rfl) ?_
  obtain ⟨j2, hj2, hf⟩ := bd_some hf
  refine g_iald G hw iM_150 (by decide) rfl hj2 dX11_bindOne_14 ?_
  obtain ⟨j3, ej3, hf⟩ := lt9_some hf
  have hj3 : ∀ (v4 : Int32) (H : Heap) (locs : List Loc) (ls : Array Slot), j3 v4 = some g' → GW D X idsM E (gA X idsM E s.heap.size) s g H locs → lv_has ls 6 [(0, .ref (E.1 10 0)), (1, .int a1), (2, .int (-1 : Int32)), (3, .int (1 : Int32))] → W p l en { frames := 4, cells := 0, slots := 0, locals := 84 } s m [.ref (E.1 10 0), .int a1].toArray below meth c H locs 0 0 (MQ below (gQ none (GP D X idsM E g') (gA X idsM E s.heap.size)) [.ref (E.1 10 0), .int a1].toArray s 0 0 (gA X idsM E s.heap.size)) (F0 m 23 ls [.int v4]) := by
    intro v4 H locs ls hf hw hl
    rw [ej3] at hf
    dsimp only at hf
    refine lv_istore (lv' := [(4, .int v4), (0, .ref (E.1 10 0)), (1, .int a1), (2, .int (-1 : Int32)), (3, .int (1 : Int32))]) G.1 G.2.1 dX11_bindOne_23 hl (by decide) rfl (fun ls hl => ?_)
    have hL25 : ∀ (k5 : Nat) (x6 : Int32) (x7 : Int32) (res5 : Int32) (H : Heap) (locs : List Loc) (ls : Array Slot), M_bindOne_L25 n a1 g v4 k5 x6 x7 = some res5 → GW D X idsM E (gA X idsM E s.heap.size) s g H locs → lv_has ls 6 [(0, .ref (E.1 10 0)), (1, .int a1), (2, .int x6), (3, .int x7), (4, .int v4)] → (∀ (H : Heap) (locs : List Loc) (ls : Array Slot), GW D X idsM E (gA X idsM E s.heap.size) s g H locs → lv_has ls 6 [(0, .ref (E.1 10 0)), (1, .int a1), (2, .int res5)] → W p l en { frames := 4, cells := 0, slots := 0, locals := 84 } s m [.ref (E.1 10 0), .int a1].toArray below meth c H locs 0 0 (MQ below (gQ none (GP D X idsM E g') (gA X idsM E s.heap.size)) [.ref (E.1 10 0), .int a1].toArray s 0 0 (gA X idsM E s.heap.size)) (F0 m 113 ls [])) → W p l en { frames := 4, cells := 0, slots := 0, locals := 84 } s m [.ref (E.1 10 0), .int a1].toArray below meth c H locs 0 0 (MQ below (gQ none (GP D X idsM E g') (gA X idsM E s.heap.size)) [.ref (E.1 10 0), .int a1].toArray s 0 0 (gA X idsM E s.heap.size)) (F0 m 25 ls []) := by
      intro k5
      induction k5 with
      | zero => intro x6 x7 res5 H locs ls hf; rw [M_bindOne_L25] at hf; cases hf
      | succ k5 ih5 =>
        intro x6 x7 res5 H locs ls hf hw hl hk5_0
        rw [M_bindOne_L25] at hf
        refine lv_iload_n G.1 G.2.1 dX11_bindOne_25 rfl (lv_at hl 3 rfl) ?_
        refine lv_if_eq (tgt := 113) G.1 G.2.1 dX11_bindOne_26 (by decide) (fun hc26 => ?_) (fun hc26 => ?_)
        · rw [if_pos hc26] at hf
          obtain rfl := Option.some.inj hf
          exact hk5_0 _ _ ls hw (lv_sub hl [0, 1, 2] rfl)
        · rw [if_neg hc26] at hf
          refine lv_iinc (v := x6 + 1) (lv' := [(2, .int (x6 + 1)), (0, .ref (E.1 10 0)), (1, .int a1), (3, .int x7), (4, .int v4)]) G.1 G.2.1 dX11_bindOne_29 hl (k := 2) rfl rfl (by decide) rfl (fun ls hl => ?_)
          refine lv_iconst (v := (0 : Int32)) G.1 G.2.1 dX11_bindOne_32 (by decide) ?_
          refine lv_istore_n (lv' := [(3, .int (0 : Int32)), (2, .int (x6 + 1)), (0, .ref (E.1 10 0)), (1, .int a1), (4, .int v4)]) G.1 G.2.1 dX11_bindOne_33 rfl hl (by decide) rfl (fun ls hl => ?_)
          refine lv_iconst (v := (0 : Int32)) G.1 G.2.1 dX11_bindOne_34 (by decide) ?_
          refine lv_istore (lv' := [(5, .int (0 : Int32)), (3, .int (0 : Int32)), (2, .int (x6 + 1)), (0, .ref (E.1 10 0)), (1, .int a1), (4, .int v4)]) G.1 G.2.1 dX11_bindOne_35 hl (by decide) rfl (fun ls hl => ?_)
          have hL37 : ∀ (k8 : Nat) (x9 : Int32) (x10 : Int32) (res8 : Int32) (H : Heap) (locs : List Loc) (ls : Array Slot), M_bindOne_L37 n a1 g v4 x6 k8 x9 x10 = some res8 → GW D X idsM E (gA X idsM E s.heap.size) s g H locs → lv_has ls 6 [(0, .ref (E.1 10 0)), (1, .int a1), (2, .int (x6 + 1)), (3, .int x9), (4, .int v4), (5, .int x10)] → (∀ (H : Heap) (locs : List Loc) (ls : Array Slot), GW D X idsM E (gA X idsM E s.heap.size) s g H locs → lv_has ls 6 [(0, .ref (E.1 10 0)), (1, .int a1), (2, .int (x6 + 1)), (3, .int res8), (4, .int v4)] → W p l en { frames := 4, cells := 0, slots := 0, locals := 84 } s m [.ref (E.1 10 0), .int a1].toArray below meth c H locs 0 0 (MQ below (gQ none (GP D X idsM E g') (gA X idsM E s.heap.size)) [.ref (E.1 10 0), .int a1].toArray s 0 0 (gA X idsM E s.heap.size)) (F0 m 110 ls [])) → W p l en { frames := 4, cells := 0, slots := 0, locals := 84 } s m [.ref (E.1 10 0), .int a1].toArray below meth c H locs 0 0 (MQ below (gQ none (GP D X idsM E g') (gA X idsM E s.heap.size)) [.ref (E.1 10 0), .int a1].toArray s 0 0 (gA X idsM E s.heap.size)) (F0 m 37 ls []) := by
            intro k8
            induction k8 with
            | zero => intro x9 x10 res8 H locs ls hf; rw [M_bindOne_L37] at hf; cases hf
            | succ k8 ih8 =>
              intro x9 x10 res8 H locs ls hf hw hl hk8_0
              rw [M_bindOne_L37] at hf
              refine lv_iload G.1 G.2.1 dX11_bindOne_37 (lv_at hl 5 rfl) ?_
              refine lv_aload_n G.1 G.2.1 dX11_bindOne_39 rfl (lv_at hl 0 rfl) ?_
              refine g_getI G hw C_10 iM_10 25 rfl fl_X11_261 dX11_bindOne_40 ?_
              refine lv_icmp_ge (tgt := 110) G.1 G.2.1 dX11_bindOne_43 (by decide) (fun hc43 => ?_) (fun hc43 => ?_)
              · rw [if_pos hc43] at hf
                obtain rfl := Option.some.inj hf
                exact hk8_0 _ _ ls hw (lv_sub hl [0, 1, 2, 3, 4] rfl)
              · rw [if_neg hc43] at hf
                refine lv_iload_n G.1 G.2.1 dX11_bindOne_46 rfl (lv_at hl 3 rfl) ?_
                refine lv_if_ne (tgt := 98) G.1 G.2.1 dX11_bindOne_47 (by decide) (fun hc47 => ?_) (fun hc47 => ?_)
                · rw [if_neg hc47] at hf
                  refine lv_iconst (v := (1 : Int32)) G.1 G.2.1 dX11_bindOne_98 (by decide) ?_
                  refine lv_goto (tgt := 103) G.1 G.2.1 dX11_bindOne_99 (by decide) ?_
                  refine lv_istore_n (lv' := [(3, .int (1 : Int32)), (0, .ref (E.1 10 0)), (1, .int a1), (2, .int (x6 + 1)), (4, .int v4), (5, .int x10)]) G.1 G.2.1 dX11_bindOne_103 rfl hl (by decide) rfl (fun ls hl => ?_)
                  refine lv_iinc (v := x10 + 1) (lv' := [(5, .int (x10 + 1)), (3, .int (1 : Int32)), (0, .ref (E.1 10 0)), (1, .int a1), (2, .int (x6 + 1)), (4, .int v4)]) G.1 G.2.1 dX11_bindOne_104 hl (k := 5) rfl rfl (by decide) rfl (fun ls hl => ?_)
                  refine lv_goto (tgt := 37) G.1 G.2.1 dX11_bindOne_107 (by decide) ?_
                  exact ih8 (1 : Int32) (x10 + 1) _ _ _ ls hf hw (lv_sub hl [2, 3, 4, 1, 5, 0] rfl) hk8_0
                · rw [if_pos hc47] at hf
                  refine lv_iload G.1 G.2.1 dX11_bindOne_50 (lv_at hl 5 rfl) ?_
                  refine lv_iload_n G.1 G.2.1 dX11_bindOne_52 rfl (lv_at hl 1 rfl) ?_
                  refine lv_icmp_eq (tgt := 102) G.1 G.2.1 dX11_bindOne_53 (by decide) (fun hc53 => ?_) (fun hc53 => ?_)
                  · rw [if_pos hc53] at hf
                    refine lv_iconst (v := (0 : Int32)) G.1 G.2.1 dX11_bindOne_102 (by decide) ?_
                    refine lv_istore_n (lv' := [(3, .int (0 : Int32)), (0, .ref (E.1 10 0)), (1, .int a1), (2, .int (x6 + 1)), (4, .int v4), (5, .int x10)]) G.1 G.2.1 dX11_bindOne_103 rfl hl (by decide) rfl (fun ls hl => ?_)
                    refine lv_iinc (v := x10 + 1) (lv' := [(5, .int (x10 + 1)), (3, .int (0 : Int32)), (0, .ref (E.1 10 0)), (1, .int a1), (2, .int (x6 + 1)), (4, .int v4)]) G.1 G.2.1 dX11_bindOne_104 hl (k := 5) rfl rfl (by decide) rfl (fun ls hl => ?_)
                    refine lv_goto (tgt := 37) G.1 G.2.1 dX11_bindOne_107 (by decide) ?_
                    exact ih8 (0 : Int32) (x10 + 1) _ _ _ ls hf hw (lv_sub hl [2, 3, 4, 1, 5, 0] rfl) hk8_0
                  · rw [if_neg hc53] at hf
                    refine lv_iload G.1 G.2.1 dX11_bindOne_56 (lv_at hl 4 rfl) ?_
                    refine lv_if_ne (tgt := 102) G.1 G.2.1 dX11_bindOne_58 (by decide) (fun hc58 => ?_) (fun hc58 => ?_)
                    · rw [if_neg hc58] at hf
                      refine lv_iconst (v := (0 : Int32)) G.1 G.2.1 dX11_bindOne_102 (by decide) ?_
                      refine lv_istore_n (lv' := [(3, .int (0 : Int32)), (0, .ref (E.1 10 0)), (1, .int a1), (2, .int (x6 + 1)), (4, .int v4), (5, .int x10)]) G.1 G.2.1 dX11_bindOne_103 rfl hl (by decide) rfl (fun ls hl => ?_)
                      refine lv_iinc (v := x10 + 1) (lv' := [(5, .int (x10 + 1)), (3, .int (0 : Int32)), (0, .ref (E.1 10 0)), (1, .int a1), (2, .int (x6 + 1)), (4, .int v4)]) G.1 G.2.1 dX11_bindOne_104 hl (k := 5) rfl rfl (by decide) rfl (fun ls hl => ?_)
                      refine lv_goto (tgt := 37) G.1 G.2.1 dX11_bindOne_107 (by decide) ?_
                      exact ih8 (0 : Int32) (x10 + 1) _ _ _ ls hf hw (lv_sub hl [2, 3, 4, 1, 5, 0] rfl) hk8_0
                    · rw [if_pos hc58] at hf
                      refine lv_aload_n G.1 G.2.1 dX11_bindOne_61 rfl (lv_at hl 0 rfl) ?_
                      refine g_getC G hw C_10 iM_10 30 130 rfl (by decide) rfl fl_X11_63 dX11_bindOne_62 ?_
                      refine lv_iload G.1 G.2.1 dX11_bindOne_65 (lv_at hl 5 rfl) ?_
                      obtain ⟨j11, hj11, hf⟩ := bd_some hf
                      refine g_iald G hw iM_130 (by decide) rfl hj11 dX11_bindOne_67 ?_
                      refine lv_aload_n G.1 G.2.1 dX11_bindOne_68 rfl (lv_at hl 0 rfl) ?_
                      refine g_getC G hw C_10 iM_10 30 130 rfl (by decide) rfl fl_X11_63 dX11_bindOne_69 ?_
                      refine lv_iload_n G.1 G.2.1 dX11_bindOne_72 rfl (lv_at hl 1 rfl) ?_
                      obtain ⟨j12, hj12, hf⟩ := bd_some hf
                      refine g_iald G hw iM_130 (by decide) rfl hj12 dX11_bindOne_73 ?_
                      refine lv_icmp_ne (tgt := 102) G.1 G.2.1 dX11_bindOne_74 (by decide) (fun hc74 => ?_) (fun hc74 => ?_)
                      · rw [if_neg hc74] at hf
                        refine lv_iconst (v := (0 : Int32)) G.1 G.2.1 dX11_bindOne_102 (by decide) ?_
                        refine lv_istore_n (lv' := [(3, .int (0 : Int32)), (0, .ref (E.1 10 0)), (1, .int a1), (2, .int (x6 + 1)), (4, .int v4), (5, .int x10)]) G.1 G.2.1 dX11_bindOne_103 rfl hl (by decide) rfl (fun ls hl => ?_)
                        refine lv_iinc (v := x10 + 1) (lv' := [(5, .int (x10 + 1)), (3, .int (0 : Int32)), (0, .ref (E.1 10 0)), (1, .int a1), (2, .int (x6 + 1)), (4, .int v4)]) G.1 G.2.1 dX11_bindOne_104 hl (k := 5) rfl rfl (by decide) rfl (fun ls hl => ?_)
                        refine lv_goto (tgt := 37) G.1 G.2.1 dX11_bindOne_107 (by decide) ?_
                        exact ih8 (0 : Int32) (x10 + 1) _ _ _ ls hf hw (lv_sub hl [2, 3, 4, 1, 5, 0] rfl) hk8_0
                      · rw [if_pos hc74] at hf
                        refine lv_aload_n G.1 G.2.1 dX11_bindOne_77 rfl (lv_at hl 0 rfl) ?_
                        refine g_getC G hw C_10 iM_10 42 142 rfl (by decide) rfl fl_X11_96 dX11_bindOne_78 ?_
                        refine lv_iload G.1 G.2.1 dX11_bindOne_81 (lv_at hl 5 rfl) ?_
                        obtain ⟨j13, hj13, hf⟩ := bd_some hf
                        refine g_iald G hw iM_142 (by decide) rfl hj13 dX11_bindOne_83 ?_
                        refine lv_iload_n G.1 G.2.1 dX11_bindOne_84 rfl (lv_at hl 2 rfl) ?_
                        refine lv_icmp_ne (tgt := 102) G.1 G.2.1 dX11_bindOne_85 (by decide) (fun hc85 => ?_) (fun hc85 => ?_)
                        · rw [if_neg hc85] at hf
                          refine lv_iconst (v := (0 : Int32)) G.1 G.2.1 dX11_bindOne_102 (by decide) ?_
                          refine lv_istore_n (lv' := [(3, .int (0 : Int32)), (0, .ref (E.1 10 0)), (1, .int a1), (2, .int (x6 + 1)), (4, .int v4), (5, .int x10)]) G.1 G.2.1 dX11_bindOne_103 rfl hl (by decide) rfl (fun ls hl => ?_)
                          refine lv_iinc (v := x10 + 1) (lv' := [(5, .int (x10 + 1)), (3, .int (0 : Int32)), (0, .ref (E.1 10 0)), (1, .int a1), (2, .int (x6 + 1)), (4, .int v4)]) G.1 G.2.1 dX11_bindOne_104 hl (k := 5) rfl rfl (by decide) rfl (fun ls hl => ?_)
                          refine lv_goto (tgt := 37) G.1 G.2.1 dX11_bindOne_107 (by decide) ?_
                          exact ih8 (0 : Int32) (x10 + 1) _ _ _ ls hf hw (lv_sub hl [2, 3, 4, 1, 5, 0] rfl) hk8_0
                        · rw [if_pos hc85] at hf
                          refine lv_aload_n G.1 G.2.1 dX11_bindOne_88 rfl (lv_at hl 0 rfl) ?_
                          refine lv_iload_n G.1 G.2.1 dX11_bindOne_89 rfl (lv_at hl 1 rfl) ?_
                          refine lv_iload G.1 G.2.1 dX11_bindOne_90 (lv_at hl 5 rfl) ?_
                          obtain ⟨z14, hcz14, hf⟩ := bd_some hf
                          refine g_callV1 (As := [.int a1, .int x10]) (rest := []) G hw (gA_mono hw.2.2.2.1.1) C_10 iM_10 mv_X11_309 (c_M_meet l D X E n a1 x10 g z14 hcz14) hl.1 rfl rfl (Nat.le_of_ble_eq_true rfl) (Nat.le_of_ble_eq_true rfl) (Nat.le_of_ble_eq_true rfl) ⟨Nat.le_refl _, Nat.le_refl _⟩ dX11_bindOne_92 (fun H locs hw => ?_)
                          refine lv_if_eq (tgt := 102) G.1 G.2.1 dX11_bindOne_95 (by decide) (fun hc95 => ?_) (fun hc95 => ?_)
                          · rw [if_pos hc95] at hf
                            refine lv_iconst (v := (0 : Int32)) G.1 G.2.1 dX11_bindOne_102 (by decide) ?_
                            refine lv_istore_n (lv' := [(3, .int (0 : Int32)), (0, .ref (E.1 10 0)), (1, .int a1), (2, .int (x6 + 1)), (4, .int v4), (5, .int x10)]) G.1 G.2.1 dX11_bindOne_103 rfl hl (by decide) rfl (fun ls hl => ?_)
                            refine lv_iinc (v := x10 + 1) (lv' := [(5, .int (x10 + 1)), (3, .int (0 : Int32)), (0, .ref (E.1 10 0)), (1, .int a1), (2, .int (x6 + 1)), (4, .int v4)]) G.1 G.2.1 dX11_bindOne_104 hl (k := 5) rfl rfl (by decide) rfl (fun ls hl => ?_)
                            refine lv_goto (tgt := 37) G.1 G.2.1 dX11_bindOne_107 (by decide) ?_
                            exact ih8 (0 : Int32) (x10 + 1) _ _ _ ls hf hw (lv_sub hl [2, 3, 4, 1, 5, 0] rfl) hk8_0
                          · rw [if_neg hc95] at hf
                            refine lv_iconst (v := (1 : Int32)) G.1 G.2.1 dX11_bindOne_98 (by decide) ?_
                            refine lv_goto (tgt := 103) G.1 G.2.1 dX11_bindOne_99 (by decide) ?_
                            refine lv_istore_n (lv' := [(3, .int (1 : Int32)), (0, .ref (E.1 10 0)), (1, .int a1), (2, .int (x6 + 1)), (4, .int v4), (5, .int x10)]) G.1 G.2.1 dX11_bindOne_103 rfl hl (by decide) rfl (fun ls hl => ?_)
                            refine lv_iinc (v := x10 + 1) (lv' := [(5, .int (x10 + 1)), (3, .int (1 : Int32)), (0, .ref (E.1 10 0)), (1, .int a1), (2, .int (x6 + 1)), (4, .int v4)]) G.1 G.2.1 dX11_bindOne_104 hl (k := 5) rfl rfl (by decide) rfl (fun ls hl => ?_)
                            refine lv_goto (tgt := 37) G.1 G.2.1 dX11_bindOne_107 (by decide) ?_
                            exact ih8 (1 : Int32) (x10 + 1) _ _ _ ls hf hw (lv_sub hl [2, 3, 4, 1, 5, 0] rfl) hk8_0
          obtain ⟨r15, hr15, hf⟩ := bd_some hf
          refine hL37 n (0 : Int32) (0 : Int32) r15 _ _ ls hr15 hw (lv_sub hl [3, 4, 2, 1, 5, 0] rfl) ?_
          intro H locs ls hw hl
          refine lv_goto (tgt := 25) G.1 G.2.1 dX11_bindOne_110 (by decide) ?_
          exact ih5 (x6 + 1) r15 _ _ _ ls hf hw (lv_sub hl [0, 1, 2, 3, 4] rfl) hk5_0
    obtain ⟨r16, hr16, hf⟩ := bd_some hf
    refine hL25 n (-1 : Int32) (1 : Int32) r16 _ _ ls hr16 hw (lv_sub hl [1, 2, 3, 4, 0] rfl) ?_
    intro H locs ls hw hl
    refine lv_aload_n G.1 G.2.1 dX11_bindOne_113 rfl (lv_at hl 0 rfl) ?_
    refine g_getC G hw C_10 iM_10 42 142 rfl (by decide) rfl fl_X11_96 dX11_bindOne_114 ?_
    refine lv_iload_n G.1 G.2.1 dX11_bindOne_117 rfl (lv_at hl 1 rfl) ?_
    refine lv_iload_n G.1 G.2.1 dX11_bindOne_118 rfl (lv_at hl 2 rfl) ?_
    obtain ⟨j17, hj17, hf⟩ := bd_some hf
    obtain ⟨g18, eg18, hf⟩ := lt9_some hf
    refine g_iast G hw iM_142 (by decide) rfl hj17 dX11_bindOne_119 (fun H locs hw => ?_)
    rw [← eg18] at hw
    exact g_vretW G hr hk hf hw dX11_bindOne_120
  refine lv_icmp_le (tgt := 22) G.1 G.2.1 dX11_bindOne_15 (by decide) (fun hc15 => ?_) (fun hc15 => ?_)
  · rw [if_pos hc15] at hf
    refine lv_iconst (v := (0 : Int32)) G.1 G.2.1 dX11_bindOne_22 (by decide) ?_
    exact hj3 (0 : Int32) _ _ ls hf hw (lv_sub hl [2, 3, 1, 0] rfl)
  · rw [if_neg hc15] at hf
    refine lv_iconst (v := (1 : Int32)) G.1 G.2.1 dX11_bindOne_18 (by decide) ?_
    refine lv_goto (tgt := 23) G.1 G.2.1 dX11_bindOne_19 (by decide) ?_
    exact hj3 (1 : Int32) _ _ ls hf hw (lv_sub hl [2, 3, 1, 0] rfl)

set_option maxHeartbeats 4000000 in
set_option maxRecDepth 100000 in
theorem c_M_behindAll (l : Launch) (D : va_G) (X : va_W) (E : gE) (n : Nat) (a1 : Int32) (g : Mem) (r : Int32) (hf : M_behindAll n a1 g = some r) : gMet l yX11_behindAll cX11_behindAll 4 (some .int) 0 0 D X idsM E [.ref (E.1 10 0), .int a1] g (some (.int r)) g := by
  rw [M_behindAll] at hf
  refine gt_code (by decide) (Nat.le_of_ble_eq_true rfl) (fun p en s m below meth c ls G hr hk hw hl => ?_)
  have hl : lv_has ls 4 [(0, .ref (E.1 10 0)), (1, .int a1)] := hl
  refine lv_iconst (v := (0 : Int32)) G.1 G.2.1 dX11_behindAll_0 (by decide) ?_
  refine lv_istore_n (lv' := [(2, .int (0 : Int32)), (0, .ref (E.1 10 0)), (1, .int a1)]) G.1 G.2.1 dX11_behindAll_1 rfl hl (by decide) rfl (fun ls hl => ?_)
  refine lv_iconst (v := (0 : Int32)) G.1 G.2.1 dX11_behindAll_2 (by decide) ?_
  refine lv_istore_n (lv' := [(3, .int (0 : Int32)), (2, .int (0 : Int32)), (0, .ref (E.1 10 0)), (1, .int a1)]) G.1 G.2.1 dX11_behindAll_3 rfl hl (by decide) rfl (fun ls hl => ?_)
  have hL4 : ∀ (k1 : Nat) (x2 : Int32) (x3 : Int32) (res1 : Int32) (H : Heap) (locs : List Loc) (ls : Array Slot), M_behindAll_L4 n a1 g k1 x2 x3 = some res1 → GW D X idsM E (gA X idsM E s.heap.size) s g H locs → lv_has ls 4 [(0, .ref (E.1 10 0)), (1, .int a1), (2, .int x2), (3, .int x3)] → (∀ (H : Heap) (locs : List Loc) (ls : Array Slot), GW D X idsM E (gA X idsM E s.heap.size) s g H locs → lv_has ls 4 [(2, .int res1)] → W p l en { frames := 0, cells := 0, slots := 0, locals := 0 } s m [.ref (E.1 10 0), .int a1].toArray below meth c H locs 0 0 (MQ below (gQ (some (.int r)) (GP D X idsM E g) (gA X idsM E s.heap.size)) [.ref (E.1 10 0), .int a1].toArray s 0 0 (gA X idsM E s.heap.size)) (F0 m 36 ls [])) → W p l en { frames := 0, cells := 0, slots := 0, locals := 0 } s m [.ref (E.1 10 0), .int a1].toArray below meth c H locs 0 0 (MQ below (gQ (some (.int r)) (GP D X idsM E g) (gA X idsM E s.heap.size)) [.ref (E.1 10 0), .int a1].toArray s 0 0 (gA X idsM E s.heap.size)) (F0 m 4 ls []) := by
    intro k1
    induction k1 with
    | zero => intro x2 x3 res1 H locs ls hf; rw [M_behindAll_L4] at hf; cases hf
    | succ k1 ih1 =>
      intro x2 x3 res1 H locs ls hf hw hl hk1_0
      rw [M_behindAll_L4] at hf
      refine lv_iload_n G.1 G.2.1 dX11_behindAll_4 rfl (lv_at hl 3 rfl) ?_
      refine lv_aload_n G.1 G.2.1 dX11_behindAll_5 rfl (lv_at hl 0 rfl) ?_
      refine g_getI G hw C_10 iM_10 25 rfl fl_X11_261 dX11_behindAll_6 ?_
      refine lv_icmp_ge (tgt := 36) G.1 G.2.1 dX11_behindAll_9 (by decide) (fun hc9 => ?_) (fun hc9 => ?_)
      · rw [if_pos hc9] at hf
        obtain rfl := Option.some.inj hf
        exact hk1_0 _ _ ls hw (lv_sub hl [2] rfl)
      · rw [if_neg hc9] at hf
        refine lv_aload_n G.1 G.2.1 dX11_behindAll_12 rfl (lv_at hl 0 rfl) ?_
        refine g_getC G hw C_10 iM_10 30 130 rfl (by decide) rfl fl_X11_63 dX11_behindAll_13 ?_
        refine lv_iload_n G.1 G.2.1 dX11_behindAll_16 rfl (lv_at hl 3 rfl) ?_
        obtain ⟨j4, hj4, hf⟩ := bd_some hf
        refine g_iald G hw iM_130 (by decide) rfl hj4 dX11_behindAll_17 ?_
        refine lv_iload_n G.1 G.2.1 dX11_behindAll_18 rfl (lv_at hl 1 rfl) ?_
        refine lv_icmp_ne (tgt := 28) G.1 G.2.1 dX11_behindAll_19 (by decide) (fun hc19 => ?_) (fun hc19 => ?_)
        · rw [if_neg hc19] at hf
          refine lv_iload_n G.1 G.2.1 dX11_behindAll_28 rfl (lv_at hl 2 rfl) ?_
          refine lv_istore_n (lv' := [(2, .int x2), (0, .ref (E.1 10 0)), (1, .int a1), (3, .int x3)]) G.1 G.2.1 dX11_behindAll_29 rfl hl (by decide) rfl (fun ls hl => ?_)
          refine lv_iinc (v := x3 + 1) (lv' := [(3, .int (x3 + 1)), (2, .int x2), (0, .ref (E.1 10 0)), (1, .int a1)]) G.1 G.2.1 dX11_behindAll_30 hl (k := 3) rfl rfl (by decide) rfl (fun ls hl => ?_)
          refine lv_goto (tgt := 4) G.1 G.2.1 dX11_behindAll_33 (by decide) ?_
          exact ih1 x2 (x3 + 1) _ _ _ ls hf hw (lv_sub hl [2, 3, 1, 0] rfl) hk1_0
        · rw [if_pos hc19] at hf
          refine lv_iload_n G.1 G.2.1 dX11_behindAll_22 rfl (lv_at hl 3 rfl) ?_
          refine lv_iconst (v := (1 : Int32)) G.1 G.2.1 dX11_behindAll_23 (by decide) ?_
          refine lv_iadd G.1 G.2.1 dX11_behindAll_24 ?_
          refine lv_goto (tgt := 29) G.1 G.2.1 dX11_behindAll_25 (by decide) ?_
          refine lv_istore_n (lv' := [(2, .int (x3 + (1 : Int32))), (0, .ref (E.1 10 0)), (1, .int a1), (3, .int x3)]) G.1 G.2.1 dX11_behindAll_29 rfl hl (by decide) rfl (fun ls hl => ?_)
          refine lv_iinc (v := x3 + 1) (lv' := [(3, .int (x3 + 1)), (2, .int (x3 + (1 : Int32))), (0, .ref (E.1 10 0)), (1, .int a1)]) G.1 G.2.1 dX11_behindAll_30 hl (k := 3) rfl rfl (by decide) rfl (fun ls hl => ?_)
          refine lv_goto (tgt := 4) G.1 G.2.1 dX11_behindAll_33 (by decide) ?_
          exact ih1 (x3 + (1 : Int32)) (x3 + 1) _ _ _ ls hf hw (lv_sub hl [2, 3, 1, 0] rfl) hk1_0
  obtain ⟨r5, hr5, hf⟩ := bd_some hf
  refine hL4 n (0 : Int32) (0 : Int32) r5 _ _ ls hr5 hw (lv_sub hl [2, 3, 1, 0] rfl) ?_
  intro H locs ls hw hl
  refine lv_iload_n G.1 G.2.1 dX11_behindAll_36 rfl (lv_at hl 0 rfl) ?_
  exact g_iretR G hr hk hf hw dX11_behindAll_37

set_option maxHeartbeats 4000000 in
set_option maxRecDepth 100000 in
theorem c_M_isEnd (l : Launch) (D : va_G) (X : va_W) (E : gE) (n : Nat) (a1 : Int32) (a2 : Int32) (g : Mem) (r : Int32) (hf : M_isEnd n a1 a2 g = some r) : gMet l yX11_isEnd cX11_isEnd 3 (some .boolean) 0 0 D X idsM E [.ref (E.1 10 0), .int a1, .int a2] g (some (.int r)) g := by
  rw [M_isEnd] at hf
  refine gt_code (by decide) (Nat.le_of_ble_eq_true rfl) (fun p en s m below meth c ls G hr hk hw hl => ?_)
  have hl : lv_has ls 3 [(0, .ref (E.1 10 0)), (1, .int a1), (2, .int a2)] := hl
  refine lv_aload_n G.1 G.2.1 dX11_isEnd_0 rfl (lv_at hl 0 rfl) ?_
  refine g_getC G hw C_10 iM_10 36 136 rfl (by decide) rfl fl_X11_78 dX11_isEnd_1 ?_
  refine lv_iload_n G.1 G.2.1 dX11_isEnd_4 rfl (lv_at hl 2 rfl) ?_
  obtain ⟨j1, hj1, hf⟩ := bd_some hf
  refine g_zald G hw iM_136 (by decide) rfl hj1 dX11_isEnd_5 ?_
  refine lv_if_eq (tgt := 33) G.1 G.2.1 dX11_isEnd_6 (by decide) (fun hc6 => ?_) (fun hc6 => ?_)
  · rw [if_pos hc6] at hf
    refine lv_iconst (v := (0 : Int32)) G.1 G.2.1 dX11_isEnd_33 (by decide) ?_
    exact g_zretR G hr rfl hk hf hw dX11_isEnd_34
  · rw [if_neg hc6] at hf
    refine lv_aload_n G.1 G.2.1 dX11_isEnd_9 rfl (lv_at hl 0 rfl) ?_
    refine g_getC G hw C_10 iM_10 32 132 rfl (by decide) rfl fl_X11_66 dX11_isEnd_10 ?_
    refine lv_iload_n G.1 G.2.1 dX11_isEnd_13 rfl (lv_at hl 2 rfl) ?_
    obtain ⟨j2, hj2, hf⟩ := bd_some hf
    refine g_iald G hw iM_132 (by decide) rfl hj2 dX11_isEnd_14 ?_
    refine lv_iconst (v := (3 : Int32)) G.1 G.2.1 dX11_isEnd_15 (by decide) ?_
    refine lv_icmp_ne (tgt := 33) G.1 G.2.1 dX11_isEnd_16 (by decide) (fun hc16 => ?_) (fun hc16 => ?_)
    · rw [if_neg hc16] at hf
      refine lv_iconst (v := (0 : Int32)) G.1 G.2.1 dX11_isEnd_33 (by decide) ?_
      exact g_zretR G hr rfl hk hf hw dX11_isEnd_34
    · rw [if_pos hc16] at hf
      refine lv_aload_n G.1 G.2.1 dX11_isEnd_19 rfl (lv_at hl 0 rfl) ?_
      refine g_getC G hw C_10 iM_10 33 133 rfl (by decide) rfl fl_X11_69 dX11_isEnd_20 ?_
      refine lv_iload_n G.1 G.2.1 dX11_isEnd_23 rfl (lv_at hl 2 rfl) ?_
      obtain ⟨j3, hj3, hf⟩ := bd_some hf
      refine g_iald G hw iM_133 (by decide) rfl hj3 dX11_isEnd_24 ?_
      refine lv_iload_n G.1 G.2.1 dX11_isEnd_25 rfl (lv_at hl 1 rfl) ?_
      refine lv_icmp_ne (tgt := 33) G.1 G.2.1 dX11_isEnd_26 (by decide) (fun hc26 => ?_) (fun hc26 => ?_)
      · rw [if_neg hc26] at hf
        refine lv_iconst (v := (0 : Int32)) G.1 G.2.1 dX11_isEnd_33 (by decide) ?_
        exact g_zretR G hr rfl hk hf hw dX11_isEnd_34
      · rw [if_pos hc26] at hf
        refine lv_iconst (v := (1 : Int32)) G.1 G.2.1 dX11_isEnd_29 (by decide) ?_
        refine lv_goto (tgt := 34) G.1 G.2.1 dX11_isEnd_30 (by decide) ?_
        exact g_zretR G hr rfl hk hf hw dX11_isEnd_34

set_option maxHeartbeats 4000000 in
set_option maxRecDepth 100000 in
theorem c_M_usesValue (l : Launch) (D : va_G) (X : va_W) (E : gE) (n : Nat) (a1 : Int32) (a2 : Int32) (g : Mem) (r : Int32) (hf : M_usesValue n a1 a2 g = some r) : gMet l yX11_usesValue cX11_usesValue 3 (some .boolean) 0 0 D X idsM E [.ref (E.1 10 0), .int a1, .int a2] g (some (.int r)) g := by
  rw [M_usesValue] at hf
  refine gt_code (by decide) (Nat.le_of_ble_eq_true rfl) (fun p en s m below meth c ls G hr hk hw hl => ?_)
  have hl : lv_has ls 3 [(0, .ref (E.1 10 0)), (1, .int a1), (2, .int a2)] := hl
  refine lv_aload_n G.1 G.2.1 dX11_usesValue_0 rfl (lv_at hl 0 rfl) ?_
  refine g_getC G hw C_10 iM_10 27 127 rfl (by decide) rfl fl_X11_54 dX11_usesValue_1 ?_
  refine lv_iconst (v := (2 : Int32)) G.1 G.2.1 dX11_usesValue_4 (by decide) ?_
  refine lv_iload_n G.1 G.2.1 dX11_usesValue_5 rfl (lv_at hl 1 rfl) ?_
  refine lv_imul G.1 G.2.1 dX11_usesValue_6 ?_
  obtain ⟨j1, hj1, hf⟩ := bd_some hf
  refine g_iald G hw iM_127 (by decide) rfl hj1 dX11_usesValue_7 ?_
  refine lv_iconst (v := (3 : Int32)) G.1 G.2.1 dX11_usesValue_8 (by decide) ?_
  obtain ⟨j2, ej2, hf⟩ := lt9_some hf
  have hj2 : ∀ (_u : Unit) (H : Heap) (locs : List Loc) (ls : Array Slot), j2 _u = some r → GW D X idsM E (gA X idsM E s.heap.size) s g H locs → lv_has ls 3 [(0, .ref (E.1 10 0)), (1, .int a1), (2, .int a2)] → W p l en { frames := 0, cells := 0, slots := 0, locals := 0 } s m [.ref (E.1 10 0), .int a1, .int a2].toArray below meth c H locs 0 0 (MQ below (gQ (some (.int r)) (GP D X idsM E g) (gA X idsM E s.heap.size)) [.ref (E.1 10 0), .int a1, .int a2].toArray s 0 0 (gA X idsM E s.heap.size)) (F0 m 24 ls []) := by
    intro _u H locs ls hf hw hl
    rw [ej2] at hf
    dsimp only at hf
    refine lv_aload_n G.1 G.2.1 dX11_usesValue_24 rfl (lv_at hl 0 rfl) ?_
    refine g_getC G hw C_10 iM_10 27 127 rfl (by decide) rfl fl_X11_54 dX11_usesValue_25 ?_
    refine lv_iconst (v := (2 : Int32)) G.1 G.2.1 dX11_usesValue_28 (by decide) ?_
    refine lv_iload_n G.1 G.2.1 dX11_usesValue_29 rfl (lv_at hl 1 rfl) ?_
    refine lv_imul G.1 G.2.1 dX11_usesValue_30 ?_
    refine lv_iconst (v := (1 : Int32)) G.1 G.2.1 dX11_usesValue_31 (by decide) ?_
    refine lv_iadd G.1 G.2.1 dX11_usesValue_32 ?_
    obtain ⟨j4, hj4, hf⟩ := bd_some hf
    refine g_iald G hw iM_127 (by decide) rfl hj4 dX11_usesValue_33 ?_
    refine lv_iconst (v := (3 : Int32)) G.1 G.2.1 dX11_usesValue_34 (by decide) ?_
    refine lv_icmp_ne (tgt := 56) G.1 G.2.1 dX11_usesValue_35 (by decide) (fun hc35 => ?_) (fun hc35 => ?_)
    · rw [if_neg hc35] at hf
      refine lv_iconst (v := (0 : Int32)) G.1 G.2.1 dX11_usesValue_56 (by decide) ?_
      exact g_zretR G hr rfl hk hf hw dX11_usesValue_57
    · rw [if_pos hc35] at hf
      refine lv_aload_n G.1 G.2.1 dX11_usesValue_38 rfl (lv_at hl 0 rfl) ?_
      refine g_getC G hw C_10 iM_10 28 128 rfl (by decide) rfl fl_X11_57 dX11_usesValue_39 ?_
      refine lv_iconst (v := (2 : Int32)) G.1 G.2.1 dX11_usesValue_42 (by decide) ?_
      refine lv_iload_n G.1 G.2.1 dX11_usesValue_43 rfl (lv_at hl 1 rfl) ?_
      refine lv_imul G.1 G.2.1 dX11_usesValue_44 ?_
      refine lv_iconst (v := (1 : Int32)) G.1 G.2.1 dX11_usesValue_45 (by decide) ?_
      refine lv_iadd G.1 G.2.1 dX11_usesValue_46 ?_
      obtain ⟨j5, hj5, hf⟩ := bd_some hf
      refine g_iald G hw iM_128 (by decide) rfl hj5 dX11_usesValue_47 ?_
      refine lv_iload_n G.1 G.2.1 dX11_usesValue_48 rfl (lv_at hl 2 rfl) ?_
      refine lv_icmp_ne (tgt := 56) G.1 G.2.1 dX11_usesValue_49 (by decide) (fun hc49 => ?_) (fun hc49 => ?_)
      · rw [if_neg hc49] at hf
        refine lv_iconst (v := (0 : Int32)) G.1 G.2.1 dX11_usesValue_56 (by decide) ?_
        exact g_zretR G hr rfl hk hf hw dX11_usesValue_57
      · rw [if_pos hc49] at hf
        refine lv_iconst (v := (1 : Int32)) G.1 G.2.1 dX11_usesValue_52 (by decide) ?_
        refine lv_goto (tgt := 57) G.1 G.2.1 dX11_usesValue_53 (by decide) ?_
        exact g_zretR G hr rfl hk hf hw dX11_usesValue_57
  refine lv_icmp_ne (tgt := 24) G.1 G.2.1 dX11_usesValue_9 (by decide) (fun hc9 => ?_) (fun hc9 => ?_)
  · rw [if_neg hc9] at hf
    exact hj2 () _ _ ls hf hw (lv_sub hl [0, 1, 2] rfl)
  · rw [if_pos hc9] at hf
    refine lv_aload_n G.1 G.2.1 dX11_usesValue_12 rfl (lv_at hl 0 rfl) ?_
    refine g_getC G hw C_10 iM_10 28 128 rfl (by decide) rfl fl_X11_57 dX11_usesValue_13 ?_
    refine lv_iconst (v := (2 : Int32)) G.1 G.2.1 dX11_usesValue_16 (by decide) ?_
    refine lv_iload_n G.1 G.2.1 dX11_usesValue_17 rfl (lv_at hl 1 rfl) ?_
    refine lv_imul G.1 G.2.1 dX11_usesValue_18 ?_
    obtain ⟨j3, hj3, hf⟩ := bd_some hf
    refine g_iald G hw iM_128 (by decide) rfl hj3 dX11_usesValue_19 ?_
    refine lv_iload_n G.1 G.2.1 dX11_usesValue_20 rfl (lv_at hl 2 rfl) ?_
    refine lv_icmp_eq (tgt := 52) G.1 G.2.1 dX11_usesValue_21 (by decide) (fun hc21 => ?_) (fun hc21 => ?_)
    · rw [if_pos hc21] at hf
      refine lv_iconst (v := (1 : Int32)) G.1 G.2.1 dX11_usesValue_52 (by decide) ?_
      refine lv_goto (tgt := 57) G.1 G.2.1 dX11_usesValue_53 (by decide) ?_
      exact g_zretR G hr rfl hk hf hw dX11_usesValue_57
    · rw [if_neg hc21] at hf
      exact hj2 () _ _ ls hf hw (lv_sub hl [0, 1, 2] rfl)

set_option maxHeartbeats 4000000 in
set_option maxRecDepth 100000 in
theorem c_M_heldTo (l : Launch) (D : va_G) (X : va_W) (E : gE) (n : Nat) (a1 : Int32) (g : Mem) (r : Int32) (hf : M_heldTo n a1 g = some r) : gMet l yX11_heldTo cX11_heldTo 6 (some .int) 1 23 D X idsM E [.ref (E.1 10 0), .int a1] g (some (.int r)) g := by
  rw [M_heldTo] at hf
  refine gt_code (by decide) (Nat.le_of_ble_eq_true rfl) (fun p en s m below meth c ls G hr hk hw hl => ?_)
  have hl : lv_has ls 6 [(0, .ref (E.1 10 0)), (1, .int a1)] := hl
  refine lv_aload_n G.1 G.2.1 dX11_heldTo_0 rfl (lv_at hl 0 rfl) ?_
  refine g_getC G hw C_10 iM_10 30 130 rfl (by decide) rfl fl_X11_63 dX11_heldTo_1 ?_
  refine lv_iload_n G.1 G.2.1 dX11_heldTo_4 rfl (lv_at hl 1 rfl) ?_
  obtain ⟨j1, hj1, hf⟩ := bd_some hf
  refine g_iald G hw iM_130 (by decide) rfl hj1 dX11_heldTo_5 ?_
  refine lv_istore_n (lv' := [(2, .int (gI g 130 0 j1)), (0, .ref (E.1 10 0)), (1, .int a1)]) G.1 G.2.1 dX11_heldTo_6 rfl hl (by decide) rfl (fun ls hl => ?_)
  refine lv_aload_n G.1 G.2.1 dX11_heldTo_7 rfl (lv_at hl 1 rfl) ?_
  refine lv_iload_n G.1 G.2.1 dX11_heldTo_8 rfl (lv_at hl 2 rfl) ?_
  refine lv_iload_n G.1 G.2.1 dX11_heldTo_9 rfl (lv_at hl 0 rfl) ?_
  obtain ⟨z2, hcz2, hf⟩ := bd_some hf
  refine g_callV1 (As := [.int a1, .int (gI g 130 0 j1)]) (rest := []) G hw (gA_mono hw.2.2.2.1.1) C_10 iM_10 mv_X11_306 (c_M_isEnd l D X E n a1 (gI g 130 0 j1) g z2 hcz2) hl.1 rfl rfl (Nat.le_of_ble_eq_true rfl) (Nat.le_of_ble_eq_true rfl) (Nat.le_of_ble_eq_true rfl) ⟨Nat.le_refl _, Nat.le_refl _⟩ dX11_heldTo_10 (fun H locs hw => ?_)
  obtain ⟨j3, ej3, hf⟩ := lt9_some hf
  have hj3 : ∀ (v5 : Int32) (H : Heap) (locs : List Loc) (ls : Array Slot), j3 v5 = some r → GW D X idsM E (gA X idsM E s.heap.size) s g H locs → lv_has ls 6 [(0, .ref (E.1 10 0)), (1, .int a1), (2, .int (gI g 130 0 j1))] → W p l en { frames := 1, cells := 0, slots := 0, locals := 23 } s m [.ref (E.1 10 0), .int a1].toArray below meth c H locs 0 0 (MQ below (gQ (some (.int r)) (GP D X idsM E g) (gA X idsM E s.heap.size)) [.ref (E.1 10 0), .int a1].toArray s 0 0 (gA X idsM E s.heap.size)) (F0 m 29 ls [.int v5]) := by
    intro v5 H locs ls hf hw hl
    rw [ej3] at hf
    dsimp only at hf
    refine lv_istore_n (lv' := [(3, .int v5), (0, .ref (E.1 10 0)), (1, .int a1), (2, .int (gI g 130 0 j1))]) G.1 G.2.1 dX11_heldTo_29 rfl hl (by decide) rfl (fun ls hl => ?_)
    refine lv_aload_n G.1 G.2.1 dX11_heldTo_30 rfl (lv_at hl 1 rfl) ?_
    refine lv_iload_n G.1 G.2.1 dX11_heldTo_31 rfl (lv_at hl 3 rfl) ?_
    obtain ⟨z6, hcz6, hf⟩ := bd_some hf
    refine g_callV1 (As := [.int (gI g 130 0 j1)]) (rest := []) G hw (gA_mono hw.2.2.2.1.1) C_10 iM_10 mv_X11_292 (c_M_behindAll l D X E n (gI g 130 0 j1) g z6 hcz6) hl.1 rfl rfl (Nat.le_of_ble_eq_true rfl) (Nat.le_of_ble_eq_true rfl) (Nat.le_of_ble_eq_true rfl) ⟨Nat.le_refl _, Nat.le_refl _⟩ dX11_heldTo_32 (fun H locs hw => ?_)
    refine lv_istore (lv' := [(4, .int z6), (3, .int v5), (0, .ref (E.1 10 0)), (1, .int a1), (2, .int (gI g 130 0 j1))]) G.1 G.2.1 dX11_heldTo_35 hl (by decide) rfl (fun ls hl => ?_)
    refine lv_iload_n G.1 G.2.1 dX11_heldTo_37 rfl (lv_at hl 3 rfl) ?_
    refine lv_iconst (v := (1 : Int32)) G.1 G.2.1 dX11_heldTo_38 (by decide) ?_
    refine lv_iadd G.1 G.2.1 dX11_heldTo_39 ?_
    refine lv_istore (lv' := [(5, .int (a1 + (1 : Int32))), (4, .int z6), (3, .int v5), (0, .ref (E.1 10 0)), (1, .int a1), (2, .int (gI g 130 0 j1))]) G.1 G.2.1 dX11_heldTo_40 hl (by decide) rfl (fun ls hl => ?_)
    have hL42 : ∀ (k7 : Nat) (x8 : Int32) (x9 : Int32) (res7 : Int32) (H : Heap) (locs : List Loc) (ls : Array Slot), M_heldTo_L42 n a1 g z6 k7 x8 x9 = some res7 → GW D X idsM E (gA X idsM E s.heap.size) s g H locs → lv_has ls 6 [(0, .ref (E.1 10 0)), (1, .int a1), (3, .int x8), (4, .int z6), (5, .int x9)] → (∀ (H : Heap) (locs : List Loc) (ls : Array Slot), GW D X idsM E (gA X idsM E s.heap.size) s g H locs → lv_has ls 6 [(3, .int res7)] → W p l en { frames := 1, cells := 0, slots := 0, locals := 23 } s m [.ref (E.1 10 0), .int a1].toArray below meth c H locs 0 0 (MQ below (gQ (some (.int r)) (GP D X idsM E g) (gA X idsM E s.heap.size)) [.ref (E.1 10 0), .int a1].toArray s 0 0 (gA X idsM E s.heap.size)) (F0 m 88 ls [])) → W p l en { frames := 1, cells := 0, slots := 0, locals := 23 } s m [.ref (E.1 10 0), .int a1].toArray below meth c H locs 0 0 (MQ below (gQ (some (.int r)) (GP D X idsM E g) (gA X idsM E s.heap.size)) [.ref (E.1 10 0), .int a1].toArray s 0 0 (gA X idsM E s.heap.size)) (F0 m 42 ls []) := by
      intro k7
      induction k7 with
      | zero => intro x8 x9 res7 H locs ls hf; rw [M_heldTo_L42] at hf; cases hf
      | succ k7 ih7 =>
        intro x8 x9 res7 H locs ls hf hw hl hk7_0
        rw [M_heldTo_L42] at hf
        refine lv_iload G.1 G.2.1 dX11_heldTo_42 (lv_at hl 4 rfl) ?_
        refine lv_iload G.1 G.2.1 dX11_heldTo_44 (lv_at hl 3 rfl) ?_
        refine lv_icmp_ge (tgt := 88) G.1 G.2.1 dX11_heldTo_46 (by decide) (fun hc46 => ?_) (fun hc46 => ?_)
        · rw [if_pos hc46] at hf
          obtain rfl := Option.some.inj hf
          exact hk7_0 _ _ ls hw (lv_sub hl [2] rfl)
        · rw [if_neg hc46] at hf
          refine lv_aload_n G.1 G.2.1 dX11_heldTo_49 rfl (lv_at hl 0 rfl) ?_
          refine lv_iload G.1 G.2.1 dX11_heldTo_50 (lv_at hl 4 rfl) ?_
          refine lv_iload_n G.1 G.2.1 dX11_heldTo_52 rfl (lv_at hl 1 rfl) ?_
          obtain ⟨z10, hcz10, hf⟩ := bd_some hf
          refine g_callV1 (As := [.int x9, .int a1]) (rest := []) G hw (gA_mono hw.2.2.2.1.1) C_10 iM_10 mv_X11_270 (c_M_usesValue l D X E n x9 a1 g z10 hcz10) hl.1 rfl rfl (Nat.le_of_ble_eq_true rfl) (Nat.le_of_ble_eq_true rfl) (Nat.le_of_ble_eq_true rfl) ⟨Nat.le_refl _, Nat.le_refl _⟩ dX11_heldTo_53 (fun H locs hw => ?_)
          refine lv_if_eq (tgt := 80) G.1 G.2.1 dX11_heldTo_56 (by decide) (fun hc56 => ?_) (fun hc56 => ?_)
          · rw [if_pos hc56] at hf
            refine lv_iload_n G.1 G.2.1 dX11_heldTo_80 rfl (lv_at hl 2 rfl) ?_
            refine lv_istore_n (lv' := [(3, .int x8), (0, .ref (E.1 10 0)), (1, .int a1), (4, .int z6), (5, .int x9)]) G.1 G.2.1 dX11_heldTo_81 rfl hl (by decide) rfl (fun ls hl => ?_)
            refine lv_iinc (v := x9 + 1) (lv' := [(5, .int (x9 + 1)), (3, .int x8), (0, .ref (E.1 10 0)), (1, .int a1), (4, .int z6)]) G.1 G.2.1 dX11_heldTo_82 hl (k := 4) rfl rfl (by decide) rfl (fun ls hl => ?_)
            refine lv_goto (tgt := 42) G.1 G.2.1 dX11_heldTo_85 (by decide) ?_
            exact ih7 x8 (x9 + 1) _ _ _ ls hf hw (lv_sub hl [2, 3, 1, 4, 0] rfl) hk7_0
          · rw [if_neg hc56] at hf
            refine lv_aload_n G.1 G.2.1 dX11_heldTo_59 rfl (lv_at hl 0 rfl) ?_
            refine g_getC G hw C_10 iM_10 40 140 rfl (by decide) rfl fl_X11_90 dX11_heldTo_60 ?_
            refine lv_iload G.1 G.2.1 dX11_heldTo_63 (lv_at hl 4 rfl) ?_
            obtain ⟨j11, hj11, hf⟩ := bd_some hf
            refine g_iald G hw iM_140 (by decide) rfl hj11 dX11_heldTo_65 ?_
            refine lv_iload_n G.1 G.2.1 dX11_heldTo_66 rfl (lv_at hl 2 rfl) ?_
            refine lv_icmp_le (tgt := 80) G.1 G.2.1 dX11_heldTo_67 (by decide) (fun hc67 => ?_) (fun hc67 => ?_)
            · rw [if_pos hc67] at hf
              refine lv_iload_n G.1 G.2.1 dX11_heldTo_80 rfl (lv_at hl 2 rfl) ?_
              refine lv_istore_n (lv' := [(3, .int x8), (0, .ref (E.1 10 0)), (1, .int a1), (4, .int z6), (5, .int x9)]) G.1 G.2.1 dX11_heldTo_81 rfl hl (by decide) rfl (fun ls hl => ?_)
              refine lv_iinc (v := x9 + 1) (lv' := [(5, .int (x9 + 1)), (3, .int x8), (0, .ref (E.1 10 0)), (1, .int a1), (4, .int z6)]) G.1 G.2.1 dX11_heldTo_82 hl (k := 4) rfl rfl (by decide) rfl (fun ls hl => ?_)
              refine lv_goto (tgt := 42) G.1 G.2.1 dX11_heldTo_85 (by decide) ?_
              exact ih7 x8 (x9 + 1) _ _ _ ls hf hw (lv_sub hl [2, 3, 1, 4, 0] rfl) hk7_0
            · rw [if_neg hc67] at hf
              refine lv_aload_n G.1 G.2.1 dX11_heldTo_70 rfl (lv_at hl 0 rfl) ?_
              refine g_getC G hw C_10 iM_10 40 140 rfl (by decide) rfl fl_X11_90 dX11_heldTo_71 ?_
              refine lv_iload G.1 G.2.1 dX11_heldTo_74 (lv_at hl 4 rfl) ?_
              obtain ⟨j12, hj12, hf⟩ := bd_some hf
              refine g_iald G hw iM_140 (by decide) rfl hj12 dX11_heldTo_76 ?_
              refine lv_goto (tgt := 81) G.1 G.2.1 dX11_heldTo_77 (by decide) ?_
              refine lv_istore_n (lv' := [(3, .int (gI g 140 0 j12)), (0, .ref (E.1 10 0)), (1, .int a1), (4, .int z6), (5, .int x9)]) G.1 G.2.1 dX11_heldTo_81 rfl hl (by decide) rfl (fun ls hl => ?_)
              refine lv_iinc (v := x9 + 1) (lv' := [(5, .int (x9 + 1)), (3, .int (gI g 140 0 j12)), (0, .ref (E.1 10 0)), (1, .int a1), (4, .int z6)]) G.1 G.2.1 dX11_heldTo_82 hl (k := 4) rfl rfl (by decide) rfl (fun ls hl => ?_)
              refine lv_goto (tgt := 42) G.1 G.2.1 dX11_heldTo_85 (by decide) ?_
              exact ih7 (gI g 140 0 j12) (x9 + 1) _ _ _ ls hf hw (lv_sub hl [2, 3, 1, 4, 0] rfl) hk7_0
    obtain ⟨r13, hr13, hf⟩ := bd_some hf
    refine hL42 n v5 (a1 + (1 : Int32)) r13 _ _ ls hr13 hw (lv_sub hl [3, 4, 2, 1, 0] rfl) ?_
    intro H locs ls hw hl
    refine lv_iload_n G.1 G.2.1 dX11_heldTo_88 rfl (lv_at hl 0 rfl) ?_
    exact g_iretR G hr hk hf hw dX11_heldTo_89
  refine lv_if_eq (tgt := 27) G.1 G.2.1 dX11_heldTo_13 (by decide) (fun hc13 => ?_) (fun hc13 => ?_)
  · rw [if_pos hc13] at hf
    refine lv_bipush (v := (-2 : Int32)) G.1 G.2.1 dX11_heldTo_27 (by decide) ?_
    exact hj3 (-2 : Int32) _ _ ls hf hw (lv_sub hl [1, 2, 0] rfl)
  · rw [if_neg hc13] at hf
    refine lv_aload_n G.1 G.2.1 dX11_heldTo_16 rfl (lv_at hl 1 rfl) ?_
    refine g_getC G hw C_10 iM_10 43 143 rfl (by decide) rfl fl_X11_99 dX11_heldTo_17 ?_
    refine lv_iload_n G.1 G.2.1 dX11_heldTo_20 rfl (lv_at hl 0 rfl) ?_
    obtain ⟨j4, hj4, hf⟩ := bd_some hf
    refine g_iald G hw iM_143 (by decide) rfl hj4 dX11_heldTo_21 ?_
    refine lv_iconst (v := (1 : Int32)) G.1 G.2.1 dX11_heldTo_22 (by decide) ?_
    refine lv_isub G.1 G.2.1 dX11_heldTo_23 ?_
    refine lv_goto (tgt := 29) G.1 G.2.1 dX11_heldTo_24 (by decide) ?_
    exact hj3 ((gI g 143 0 j4) - (1 : Int32)) _ _ ls hf hw (lv_sub hl [1, 2, 0] rfl)

set_option maxHeartbeats 4000000 in
set_option maxRecDepth 100000 in
theorem c_M_holds (l : Launch) (D : va_G) (X : va_W) (E : gE) (n : Nat) (a1 : Int32) (g : Mem) (r : Int32) (hf : M_holds n a1 g = some r) : gMet l yX11_holds cX11_holds 2 (some .boolean) 0 0 D X idsM E [.ref (E.1 10 0), .int a1] g (some (.int r)) g := by
  rw [M_holds] at hf
  refine gt_code (by decide) (Nat.le_of_ble_eq_true rfl) (fun p en s m below meth c ls G hr hk hw hl => ?_)
  have hl : lv_has ls 2 [(0, .ref (E.1 10 0)), (1, .int a1)] := hl
  refine lv_aload_n G.1 G.2.1 dX11_holds_0 rfl (lv_at hl 0 rfl) ?_
  refine g_getC G hw C_10 iM_10 29 129 rfl (by decide) rfl fl_X11_60 dX11_holds_1 ?_
  refine lv_iload_n G.1 G.2.1 dX11_holds_4 rfl (lv_at hl 1 rfl) ?_
  obtain ⟨j1, hj1, hf⟩ := bd_some hf
  refine g_iald G hw iM_129 (by decide) rfl hj1 dX11_holds_5 ?_
  refine lv_if_ge (tgt := 24) G.1 G.2.1 dX11_holds_6 (by decide) (fun hc6 => ?_) (fun hc6 => ?_)
  · rw [if_pos hc6] at hf
    refine lv_iconst (v := (0 : Int32)) G.1 G.2.1 dX11_holds_24 (by decide) ?_
    exact g_zretR G hr rfl hk hf hw dX11_holds_25
  · rw [if_neg hc6] at hf
    refine lv_aload_n G.1 G.2.1 dX11_holds_9 rfl (lv_at hl 0 rfl) ?_
    refine g_getC G hw C_10 iM_10 50 150 rfl (by decide) rfl fl_X11_111 dX11_holds_10 ?_
    refine lv_iload_n G.1 G.2.1 dX11_holds_13 rfl (lv_at hl 1 rfl) ?_
    obtain ⟨j2, hj2, hf⟩ := bd_some hf
    refine g_iald G hw iM_150 (by decide) rfl hj2 dX11_holds_14 ?_
    refine lv_bipush (v := (-2 : Int32)) G.1 G.2.1 dX11_holds_15 (by decide) ?_
    refine lv_icmp_le (tgt := 24) G.1 G.2.1 dX11_holds_17 (by decide) (fun hc17 => ?_) (fun hc17 => ?_)
    · rw [if_pos hc17] at hf
      refine lv_iconst (v := (0 : Int32)) G.1 G.2.1 dX11_holds_24 (by decide) ?_
      exact g_zretR G hr rfl hk hf hw dX11_holds_25
    · rw [if_neg hc17] at hf
      refine lv_iconst (v := (1 : Int32)) G.1 G.2.1 dX11_holds_20 (by decide) ?_
      refine lv_goto (tgt := 25) G.1 G.2.1 dX11_holds_21 (by decide) ?_
      exact g_zretR G hr rfl hk hf hw dX11_holds_25

set_option maxHeartbeats 4000000 in
set_option maxRecDepth 100000 in
theorem c_M_isBefore (l : Launch) (D : va_G) (X : va_W) (E : gE) (n : Nat) (a1 : Int32) (a2 : Int32) (g : Mem) (r : Int32) (hf : M_isBefore n a1 a2 g = some r) : gMet l yX11_isBefore cX11_isBefore 3 (some .boolean) 3 62 D X idsM E [.ref (E.1 10 0), .int a1, .int a2] g (some (.int r)) g := by
  rw [M_isBefore] at hf
  refine gt_code (by decide) (Nat.le_of_ble_eq_true rfl) (fun p en s m below meth c ls G hr hk hw hl => ?_)
  have hl : lv_has ls 3 [(0, .ref (E.1 10 0)), (1, .int a1), (2, .int a2)] := hl
  refine lv_aload_n G.1 G.2.1 dX11_isBefore_0 rfl (lv_at hl 0 rfl) ?_
  refine lv_iload_n G.1 G.2.1 dX11_isBefore_1 rfl (lv_at hl 1 rfl) ?_
  obtain ⟨z1, hcz1, hf⟩ := bd_some hf
  refine g_callV1 (As := [.int a1]) (rest := []) G hw (gA_mono hw.2.2.2.1.1) C_10 iM_10 mv_X11_289 (c_M_endOf l D X E n a1 g z1 hcz1) hl.1 rfl rfl (Nat.le_of_ble_eq_true rfl) (Nat.le_of_ble_eq_true rfl) (Nat.le_of_ble_eq_true rfl) ⟨Nat.le_refl _, Nat.le_refl _⟩ dX11_isBefore_2 (fun H locs hw => ?_)
  refine lv_aload_n G.1 G.2.1 dX11_isBefore_5 rfl (lv_at hl 0 rfl) ?_
  refine lv_iload_n G.1 G.2.1 dX11_isBefore_6 rfl (lv_at hl 2 rfl) ?_
  obtain ⟨z2, hcz2, hf⟩ := bd_some hf
  refine g_callV1 (As := [.int a2]) (rest := [.int z1]) G hw (gA_mono hw.2.2.2.1.1) C_10 iM_10 mv_X11_289 (c_M_endOf l D X E n a2 g z2 hcz2) hl.1 rfl rfl (Nat.le_of_ble_eq_true rfl) (Nat.le_of_ble_eq_true rfl) (Nat.le_of_ble_eq_true rfl) ⟨Nat.le_refl _, Nat.le_refl _⟩ dX11_isBefore_7 (fun H locs hw => ?_)
  refine lv_icmp_lt (tgt := 31) G.1 G.2.1 dX11_isBefore_10 (by decide) (fun hc10 => ?_) (fun hc10 => ?_)
  · rw [if_pos hc10] at hf
    refine lv_iconst (v := (1 : Int32)) G.1 G.2.1 dX11_isBefore_31 (by decide) ?_
    refine lv_goto (tgt := 36) G.1 G.2.1 dX11_isBefore_32 (by decide) ?_
    exact g_zretR G hr rfl hk hf hw dX11_isBefore_36
  · rw [if_neg hc10] at hf
    refine lv_aload_n G.1 G.2.1 dX11_isBefore_13 rfl (lv_at hl 0 rfl) ?_
    refine lv_iload_n G.1 G.2.1 dX11_isBefore_14 rfl (lv_at hl 1 rfl) ?_
    obtain ⟨z3, hcz3, hf⟩ := bd_some hf
    refine g_callV1 (As := [.int a1]) (rest := []) G hw (gA_mono hw.2.2.2.1.1) C_10 iM_10 mv_X11_289 (c_M_endOf l D X E n a1 g z3 hcz3) hl.1 rfl rfl (Nat.le_of_ble_eq_true rfl) (Nat.le_of_ble_eq_true rfl) (Nat.le_of_ble_eq_true rfl) ⟨Nat.le_refl _, Nat.le_refl _⟩ dX11_isBefore_15 (fun H locs hw => ?_)
    refine lv_aload_n G.1 G.2.1 dX11_isBefore_18 rfl (lv_at hl 0 rfl) ?_
    refine lv_iload_n G.1 G.2.1 dX11_isBefore_19 rfl (lv_at hl 2 rfl) ?_
    obtain ⟨z4, hcz4, hf⟩ := bd_some hf
    refine g_callV1 (As := [.int a2]) (rest := [.int z3]) G hw (gA_mono hw.2.2.2.1.1) C_10 iM_10 mv_X11_289 (c_M_endOf l D X E n a2 g z4 hcz4) hl.1 rfl rfl (Nat.le_of_ble_eq_true rfl) (Nat.le_of_ble_eq_true rfl) (Nat.le_of_ble_eq_true rfl) ⟨Nat.le_refl _, Nat.le_refl _⟩ dX11_isBefore_20 (fun H locs hw => ?_)
    refine lv_icmp_ne (tgt := 35) G.1 G.2.1 dX11_isBefore_23 (by decide) (fun hc23 => ?_) (fun hc23 => ?_)
    · rw [if_neg hc23] at hf
      refine lv_iconst (v := (0 : Int32)) G.1 G.2.1 dX11_isBefore_35 (by decide) ?_
      exact g_zretR G hr rfl hk hf hw dX11_isBefore_36
    · rw [if_pos hc23] at hf
      refine lv_iload_n G.1 G.2.1 dX11_isBefore_26 rfl (lv_at hl 1 rfl) ?_
      refine lv_iload_n G.1 G.2.1 dX11_isBefore_27 rfl (lv_at hl 2 rfl) ?_
      refine lv_icmp_ge (tgt := 35) G.1 G.2.1 dX11_isBefore_28 (by decide) (fun hc28 => ?_) (fun hc28 => ?_)
      · rw [if_pos hc28] at hf
        refine lv_iconst (v := (0 : Int32)) G.1 G.2.1 dX11_isBefore_35 (by decide) ?_
        exact g_zretR G hr rfl hk hf hw dX11_isBefore_36
      · rw [if_neg hc28] at hf
        refine lv_iconst (v := (1 : Int32)) G.1 G.2.1 dX11_isBefore_31 (by decide) ?_
        refine lv_goto (tgt := 36) G.1 G.2.1 dX11_isBefore_32 (by decide) ?_
        exact g_zretR G hr rfl hk hf hw dX11_isBefore_36

set_option maxHeartbeats 4000000 in
set_option maxRecDepth 100000 in
theorem c_M_bindRegisters (l : Launch) (D : va_G) (X : va_W) (E : gE) (n : Nat) (g : Mem) (g' : Mem) (hf : M_bindRegisters n g = some g') : gMet l yX11_bindRegisters cX11_bindRegisters 5 none 5 109 D X idsM E [.ref (E.1 10 0)] g none g' := by
  rw [M_bindRegisters] at hf
  refine gt_code (by decide) (Nat.le_of_ble_eq_true rfl) (fun p en s m below meth c ls G hr hk hw hl => ?_)
  have hl : lv_has ls 5 [(0, .ref (E.1 10 0))] := hl
  refine lv_iconst (v := (0 : Int32)) G.1 G.2.1 dX11_bindRegisters_0 (by decide) ?_
  refine lv_istore_n (lv' := [(1, .int (0 : Int32)), (0, .ref (E.1 10 0))]) G.1 G.2.1 dX11_bindRegisters_1 rfl hl (by decide) rfl (fun ls hl => ?_)
  have hL2 : ∀ (k1 : Nat) (x2 : Int32) (g3 : Mem) (res1 : Mem) (H : Heap) (locs : List Loc) (ls : Array Slot), M_bindRegisters_L2 n k1 x2 g3 = some res1 → GW D X idsM E (gA X idsM E s.heap.size) s g3 H locs → lv_has ls 5 [(0, .ref (E.1 10 0)), (1, .int x2)] → (∀ (H : Heap) (locs : List Loc) (ls : Array Slot), GW D X idsM E (gA X idsM E s.heap.size) s res1 H locs → lv_has ls 5 [(0, .ref (E.1 10 0))] → W p l en { frames := 5, cells := 0, slots := 0, locals := 109 } s m [.ref (E.1 10 0)].toArray below meth c H locs 0 0 (MQ below (gQ none (GP D X idsM E g') (gA X idsM E s.heap.size)) [.ref (E.1 10 0)].toArray s 0 0 (gA X idsM E s.heap.size)) (F0 m 34 ls [])) → W p l en { frames := 5, cells := 0, slots := 0, locals := 109 } s m [.ref (E.1 10 0)].toArray below meth c H locs 0 0 (MQ below (gQ none (GP D X idsM E g') (gA X idsM E s.heap.size)) [.ref (E.1 10 0)].toArray s 0 0 (gA X idsM E s.heap.size)) (F0 m 2 ls []) := by
    intro k1
    induction k1 with
    | zero => intro x2 g3 res1 H locs ls hf; rw [M_bindRegisters_L2] at hf; cases hf
    | succ k1 ih1 =>
      intro x2 g3 res1 H locs ls hf hw hl hk1_0
      rw [M_bindRegisters_L2] at hf
      refine lv_iload_n G.1 G.2.1 dX11_bindRegisters_2 rfl (lv_at hl 1 rfl) ?_
      refine lv_aload_n G.1 G.2.1 dX11_bindRegisters_3 rfl (lv_at hl 0 rfl) ?_
      refine g_getI G hw C_10 iM_10 25 rfl fl_X11_261 dX11_bindRegisters_4 ?_
      refine lv_icmp_ge (tgt := 34) G.1 G.2.1 dX11_bindRegisters_7 (by decide) (fun hc7 => ?_) (fun hc7 => ?_)
      · rw [if_pos hc7] at hf
        obtain rfl := Option.some.inj hf
        exact hk1_0 _ _ ls hw (lv_sub hl [0] rfl)
      · rw [if_neg hc7] at hf
        refine lv_aload_n G.1 G.2.1 dX11_bindRegisters_10 rfl (lv_at hl 0 rfl) ?_
        refine g_getC G hw C_10 iM_10 42 142 rfl (by decide) rfl fl_X11_96 dX11_bindRegisters_11 ?_
        refine lv_iload_n G.1 G.2.1 dX11_bindRegisters_14 rfl (lv_at hl 1 rfl) ?_
        refine lv_iconst (v := (-1 : Int32)) G.1 G.2.1 dX11_bindRegisters_15 (by decide) ?_
        obtain ⟨j4, hj4, hf⟩ := bd_some hf
        obtain ⟨g5, eg5, hf⟩ := lt9_some hf
        refine g_iast G hw iM_142 (by decide) rfl hj4 dX11_bindRegisters_16 (fun H locs hw => ?_)
        rw [← eg5] at hw
        refine lv_aload_n G.1 G.2.1 dX11_bindRegisters_17 rfl (lv_at hl 0 rfl) ?_
        refine g_getC G hw C_10 iM_10 50 150 rfl (by decide) rfl fl_X11_111 dX11_bindRegisters_18 ?_
        refine lv_iload_n G.1 G.2.1 dX11_bindRegisters_21 rfl (lv_at hl 1 rfl) ?_
        refine lv_aload_n G.1 G.2.1 dX11_bindRegisters_22 rfl (lv_at hl 0 rfl) ?_
        refine lv_iload_n G.1 G.2.1 dX11_bindRegisters_23 rfl (lv_at hl 1 rfl) ?_
        obtain ⟨z6, hcz6, hf⟩ := bd_some hf
        refine g_callV1 (As := [.int x2]) (rest := [.int x2, .ref (E.1 150 0)]) G hw (gA_mono hw.2.2.2.1.1) C_10 iM_10 mv_X11_312 (c_M_heldTo l D X E n x2 g5 z6 hcz6) hl.1 rfl rfl (Nat.le_of_ble_eq_true rfl) (Nat.le_of_ble_eq_true rfl) (Nat.le_of_ble_eq_true rfl) ⟨Nat.le_refl _, Nat.le_refl _⟩ dX11_bindRegisters_24 (fun H locs hw => ?_)
        obtain ⟨j7, hj7, hf⟩ := bd_some hf
        obtain ⟨g8, eg8, hf⟩ := lt9_some hf
        refine g_iast G hw iM_150 (by decide) rfl hj7 dX11_bindRegisters_27 (fun H locs hw => ?_)
        rw [← eg8] at hw
        refine lv_iinc (v := x2 + 1) (lv' := [(1, .int (x2 + 1)), (0, .ref (E.1 10 0))]) G.1 G.2.1 dX11_bindRegisters_28 hl (k := 1) rfl rfl (by decide) rfl (fun ls hl => ?_)
        refine lv_goto (tgt := 2) G.1 G.2.1 dX11_bindRegisters_31 (by decide) ?_
        exact ih1 (x2 + 1) g8 _ _ _ ls hf hw (lv_sub hl [1, 0] rfl) hk1_0
  obtain ⟨r9, hr9, hf⟩ := bd_some hf
  refine hL2 n (0 : Int32) g r9 _ _ ls hr9 hw (lv_sub hl [1, 0] rfl) ?_
  intro H locs ls hw hl
  refine lv_iconst (v := (0 : Int32)) G.1 G.2.1 dX11_bindRegisters_34 (by decide) ?_
  refine lv_istore_n (lv' := [(1, .int (0 : Int32)), (0, .ref (E.1 10 0))]) G.1 G.2.1 dX11_bindRegisters_35 rfl hl (by decide) rfl (fun ls hl => ?_)
  refine lv_iconst (v := (0 : Int32)) G.1 G.2.1 dX11_bindRegisters_36 (by decide) ?_
  refine lv_istore_n (lv' := [(2, .int (0 : Int32)), (1, .int (0 : Int32)), (0, .ref (E.1 10 0))]) G.1 G.2.1 dX11_bindRegisters_37 rfl hl (by decide) rfl (fun ls hl => ?_)
  have hL38 : ∀ (k10 : Nat) (x11 : Int32) (x12 : Int32) (res10 : Int32) (H : Heap) (locs : List Loc) (ls : Array Slot), M_bindRegisters_L38 n r9 k10 x11 x12 = some res10 → GW D X idsM E (gA X idsM E s.heap.size) s r9 H locs → lv_has ls 5 [(0, .ref (E.1 10 0)), (1, .int x11), (2, .int x12)] → (∀ (H : Heap) (locs : List Loc) (ls : Array Slot), GW D X idsM E (gA X idsM E s.heap.size) s r9 H locs → lv_has ls 5 [(0, .ref (E.1 10 0)), (1, .int res10)] → W p l en { frames := 5, cells := 0, slots := 0, locals := 109 } s m [.ref (E.1 10 0)].toArray below meth c H locs 0 0 (MQ below (gQ none (GP D X idsM E g') (gA X idsM E s.heap.size)) [.ref (E.1 10 0)].toArray s 0 0 (gA X idsM E s.heap.size)) (F0 m 68 ls [])) → W p l en { frames := 5, cells := 0, slots := 0, locals := 109 } s m [.ref (E.1 10 0)].toArray below meth c H locs 0 0 (MQ below (gQ none (GP D X idsM E g') (gA X idsM E s.heap.size)) [.ref (E.1 10 0)].toArray s 0 0 (gA X idsM E s.heap.size)) (F0 m 38 ls []) := by
    intro k10
    induction k10 with
    | zero => intro x11 x12 res10 H locs ls hf; rw [M_bindRegisters_L38] at hf; cases hf
    | succ k10 ih10 =>
      intro x11 x12 res10 H locs ls hf hw hl hk10_0
      rw [M_bindRegisters_L38] at hf
      refine lv_iload_n G.1 G.2.1 dX11_bindRegisters_38 rfl (lv_at hl 2 rfl) ?_
      refine lv_aload_n G.1 G.2.1 dX11_bindRegisters_39 rfl (lv_at hl 0 rfl) ?_
      refine g_getI G hw C_10 iM_10 25 rfl fl_X11_261 dX11_bindRegisters_40 ?_
      refine lv_icmp_ge (tgt := 68) G.1 G.2.1 dX11_bindRegisters_43 (by decide) (fun hc43 => ?_) (fun hc43 => ?_)
      · rw [if_pos hc43] at hf
        obtain rfl := Option.some.inj hf
        exact hk10_0 _ _ ls hw (lv_sub hl [0, 1] rfl)
      · rw [if_neg hc43] at hf
        refine lv_aload_n G.1 G.2.1 dX11_bindRegisters_46 rfl (lv_at hl 0 rfl) ?_
        refine lv_iload_n G.1 G.2.1 dX11_bindRegisters_47 rfl (lv_at hl 2 rfl) ?_
        obtain ⟨z13, hcz13, hf⟩ := bd_some hf
        refine g_callV1 (As := [.int x12]) (rest := []) G hw (gA_mono hw.2.2.2.1.1) C_10 iM_10 mv_X11_315 (c_M_holds l D X E n x12 r9 z13 hcz13) hl.1 rfl rfl (Nat.le_of_ble_eq_true rfl) (Nat.le_of_ble_eq_true rfl) (Nat.le_of_ble_eq_true rfl) ⟨Nat.le_refl _, Nat.le_refl _⟩ dX11_bindRegisters_48 (fun H locs hw => ?_)
        refine lv_if_eq (tgt := 60) G.1 G.2.1 dX11_bindRegisters_51 (by decide) (fun hc51 => ?_) (fun hc51 => ?_)
        · rw [if_pos hc51] at hf
          refine lv_iload_n G.1 G.2.1 dX11_bindRegisters_60 rfl (lv_at hl 1 rfl) ?_
          refine lv_istore_n (lv' := [(1, .int x11), (0, .ref (E.1 10 0)), (2, .int x12)]) G.1 G.2.1 dX11_bindRegisters_61 rfl hl (by decide) rfl (fun ls hl => ?_)
          refine lv_iinc (v := x12 + 1) (lv' := [(2, .int (x12 + 1)), (1, .int x11), (0, .ref (E.1 10 0))]) G.1 G.2.1 dX11_bindRegisters_62 hl (k := 2) rfl rfl (by decide) rfl (fun ls hl => ?_)
          refine lv_goto (tgt := 38) G.1 G.2.1 dX11_bindRegisters_65 (by decide) ?_
          exact ih10 x11 (x12 + 1) _ _ _ ls hf hw (lv_sub hl [2, 1, 0] rfl) hk10_0
        · rw [if_neg hc51] at hf
          refine lv_iload_n G.1 G.2.1 dX11_bindRegisters_54 rfl (lv_at hl 1 rfl) ?_
          refine lv_iconst (v := (1 : Int32)) G.1 G.2.1 dX11_bindRegisters_55 (by decide) ?_
          refine lv_iadd G.1 G.2.1 dX11_bindRegisters_56 ?_
          refine lv_goto (tgt := 61) G.1 G.2.1 dX11_bindRegisters_57 (by decide) ?_
          refine lv_istore_n (lv' := [(1, .int (x11 + (1 : Int32))), (0, .ref (E.1 10 0)), (2, .int x12)]) G.1 G.2.1 dX11_bindRegisters_61 rfl hl (by decide) rfl (fun ls hl => ?_)
          refine lv_iinc (v := x12 + 1) (lv' := [(2, .int (x12 + 1)), (1, .int (x11 + (1 : Int32))), (0, .ref (E.1 10 0))]) G.1 G.2.1 dX11_bindRegisters_62 hl (k := 2) rfl rfl (by decide) rfl (fun ls hl => ?_)
          refine lv_goto (tgt := 38) G.1 G.2.1 dX11_bindRegisters_65 (by decide) ?_
          exact ih10 (x11 + (1 : Int32)) (x12 + 1) _ _ _ ls hf hw (lv_sub hl [2, 1, 0] rfl) hk10_0
  obtain ⟨r14, hr14, hf⟩ := bd_some hf
  refine hL38 n (0 : Int32) (0 : Int32) r14 _ _ ls hr14 hw (lv_sub hl [2, 1, 0] rfl) ?_
  intro H locs ls hw hl
  have hL68 : ∀ (k15 : Nat) (x16 : Int32) (g17 : Mem) (res15 : Mem) (H : Heap) (locs : List Loc) (ls : Array Slot), M_bindRegisters_L68 n k15 x16 g17 = some res15 → GW D X idsM E (gA X idsM E s.heap.size) s g17 H locs → lv_has ls 5 [(0, .ref (E.1 10 0)), (1, .int x16)] → (∀ (H : Heap) (locs : List Loc) (ls : Array Slot), GW D X idsM E (gA X idsM E s.heap.size) s res15 H locs → lv_has ls 5 [] → W p l en { frames := 5, cells := 0, slots := 0, locals := 109 } s m [.ref (E.1 10 0)].toArray below meth c H locs 0 0 (MQ below (gQ none (GP D X idsM E g') (gA X idsM E s.heap.size)) [.ref (E.1 10 0)].toArray s 0 0 (gA X idsM E s.heap.size)) (F0 m 149 ls [])) → W p l en { frames := 5, cells := 0, slots := 0, locals := 109 } s m [.ref (E.1 10 0)].toArray below meth c H locs 0 0 (MQ below (gQ none (GP D X idsM E g') (gA X idsM E s.heap.size)) [.ref (E.1 10 0)].toArray s 0 0 (gA X idsM E s.heap.size)) (F0 m 68 ls []) := by
    intro k15
    induction k15 with
    | zero => intro x16 g17 res15 H locs ls hf; rw [M_bindRegisters_L68] at hf; cases hf
    | succ k15 ih15 =>
      intro x16 g17 res15 H locs ls hf hw hl hk15_0
      rw [M_bindRegisters_L68] at hf
      refine lv_iload_n G.1 G.2.1 dX11_bindRegisters_68 rfl (lv_at hl 1 rfl) ?_
      refine lv_if_le (tgt := 149) G.1 G.2.1 dX11_bindRegisters_69 (by decide) (fun hc69 => ?_) (fun hc69 => ?_)
      · rw [if_pos hc69] at hf
        obtain rfl := Option.some.inj hf
        exact hk15_0 _ _ ls hw (lv_sub hl [] rfl)
      · rw [if_neg hc69] at hf
        refine lv_iconst (v := (-1 : Int32)) G.1 G.2.1 dX11_bindRegisters_72 (by decide) ?_
        refine lv_istore_n (lv' := [(2, .int (-1 : Int32)), (0, .ref (E.1 10 0)), (1, .int x16)]) G.1 G.2.1 dX11_bindRegisters_73 rfl hl (by decide) rfl (fun ls hl => ?_)
        refine lv_iconst (v := (0 : Int32)) G.1 G.2.1 dX11_bindRegisters_74 (by decide) ?_
        refine lv_istore_n (lv' := [(3, .int (0 : Int32)), (2, .int (-1 : Int32)), (0, .ref (E.1 10 0)), (1, .int x16)]) G.1 G.2.1 dX11_bindRegisters_75 rfl hl (by decide) rfl (fun ls hl => ?_)
        have hL76 : ∀ (k18 : Nat) (x19 : Int32) (x20 : Int32) (res18 : Int32) (H : Heap) (locs : List Loc) (ls : Array Slot), M_bindRegisters_L76 n g17 k18 x19 x20 = some res18 → GW D X idsM E (gA X idsM E s.heap.size) s g17 H locs → lv_has ls 5 [(0, .ref (E.1 10 0)), (1, .int x16), (2, .int x19), (3, .int x20)] → (∀ (H : Heap) (locs : List Loc) (ls : Array Slot), GW D X idsM E (gA X idsM E s.heap.size) s g17 H locs → lv_has ls 5 [(0, .ref (E.1 10 0)), (1, .int x16), (2, .int res18)] → W p l en { frames := 5, cells := 0, slots := 0, locals := 109 } s m [.ref (E.1 10 0)].toArray below meth c H locs 0 0 (MQ below (gQ none (GP D X idsM E g') (gA X idsM E s.heap.size)) [.ref (E.1 10 0)].toArray s 0 0 (gA X idsM E s.heap.size)) (F0 m 138 ls [])) → W p l en { frames := 5, cells := 0, slots := 0, locals := 109 } s m [.ref (E.1 10 0)].toArray below meth c H locs 0 0 (MQ below (gQ none (GP D X idsM E g') (gA X idsM E s.heap.size)) [.ref (E.1 10 0)].toArray s 0 0 (gA X idsM E s.heap.size)) (F0 m 76 ls []) := by
          intro k18
          induction k18 with
          | zero => intro x19 x20 res18 H locs ls hf; rw [M_bindRegisters_L76] at hf; cases hf
          | succ k18 ih18 =>
            intro x19 x20 res18 H locs ls hf hw hl hk18_0
            rw [M_bindRegisters_L76] at hf
            refine lv_iload_n G.1 G.2.1 dX11_bindRegisters_76 rfl (lv_at hl 3 rfl) ?_
            refine lv_aload_n G.1 G.2.1 dX11_bindRegisters_77 rfl (lv_at hl 0 rfl) ?_
            refine g_getI G hw C_10 iM_10 25 rfl fl_X11_261 dX11_bindRegisters_78 ?_
            refine lv_icmp_ge (tgt := 138) G.1 G.2.1 dX11_bindRegisters_81 (by decide) (fun hc81 => ?_) (fun hc81 => ?_)
            · rw [if_pos hc81] at hf
              obtain rfl := Option.some.inj hf
              exact hk18_0 _ _ ls hw (lv_sub hl [0, 1, 2] rfl)
            · rw [if_neg hc81] at hf
              refine lv_aload_n G.1 G.2.1 dX11_bindRegisters_84 rfl (lv_at hl 0 rfl) ?_
              refine lv_iload_n G.1 G.2.1 dX11_bindRegisters_85 rfl (lv_at hl 3 rfl) ?_
              obtain ⟨z21, hcz21, hf⟩ := bd_some hf
              refine g_callV1 (As := [.int x20]) (rest := []) G hw (gA_mono hw.2.2.2.1.1) C_10 iM_10 mv_X11_315 (c_M_holds l D X E n x20 g17 z21 hcz21) hl.1 rfl rfl (Nat.le_of_ble_eq_true rfl) (Nat.le_of_ble_eq_true rfl) (Nat.le_of_ble_eq_true rfl) ⟨Nat.le_refl _, Nat.le_refl _⟩ dX11_bindRegisters_86 (fun H locs hw => ?_)
              obtain ⟨j23, ej23, hf⟩ := lt9_some hf
              have hj23 : ∀ (v25 : Int32) (H : Heap) (locs : List Loc) (ls : Array Slot), j23 v25 = some res18 → GW D X idsM E (gA X idsM E s.heap.size) s g17 H locs → lv_has ls 5 [(0, .ref (E.1 10 0)), (1, .int x16), (2, .int x19), (3, .int x20)] → W p l en { frames := 5, cells := 0, slots := 0, locals := 109 } s m [.ref (E.1 10 0)].toArray below meth c H locs 0 0 (MQ below (gQ none (GP D X idsM E g') (gA X idsM E s.heap.size)) [.ref (E.1 10 0)].toArray s 0 0 (gA X idsM E s.heap.size)) (F0 m 106 ls [.int v25]) := by
                intro v25 H locs ls hf hw hl
                rw [ej23] at hf
                dsimp only at hf
                refine lv_istore (lv' := [(4, .int v25), (0, .ref (E.1 10 0)), (1, .int x16), (2, .int x19), (3, .int x20)]) G.1 G.2.1 dX11_bindRegisters_106 hl (by decide) rfl (fun ls hl => ?_)
                refine lv_iload G.1 G.2.1 dX11_bindRegisters_108 (lv_at hl 0 rfl) ?_
                refine lv_if_eq (tgt := 130) G.1 G.2.1 dX11_bindRegisters_110 (by decide) (fun hc110 => ?_) (fun hc110 => ?_)
                · rw [if_pos hc110] at hf
                  refine lv_iload_n G.1 G.2.1 dX11_bindRegisters_130 rfl (lv_at hl 3 rfl) ?_
                  refine lv_istore_n (lv' := [(2, .int x19), (4, .int v25), (0, .ref (E.1 10 0)), (1, .int x16), (3, .int x20)]) G.1 G.2.1 dX11_bindRegisters_131 rfl hl (by decide) rfl (fun ls hl => ?_)
                  refine lv_iinc (v := x20 + 1) (lv' := [(3, .int (x20 + 1)), (2, .int x19), (4, .int v25), (0, .ref (E.1 10 0)), (1, .int x16)]) G.1 G.2.1 dX11_bindRegisters_132 hl (k := 4) rfl rfl (by decide) rfl (fun ls hl => ?_)
                  refine lv_goto (tgt := 76) G.1 G.2.1 dX11_bindRegisters_135 (by decide) ?_
                  exact ih18 x19 (x20 + 1) _ _ _ ls hf hw (lv_sub hl [3, 4, 1, 0] rfl) hk18_0
                · rw [if_neg hc110] at hf
                  refine lv_iload_n G.1 G.2.1 dX11_bindRegisters_113 rfl (lv_at hl 3 rfl) ?_
                  refine lv_if_lt (tgt := 126) G.1 G.2.1 dX11_bindRegisters_114 (by decide) (fun hc114 => ?_) (fun hc114 => ?_)
                  · rw [if_pos hc114] at hf
                    refine lv_iload_n G.1 G.2.1 dX11_bindRegisters_126 rfl (lv_at hl 4 rfl) ?_
                    refine lv_goto (tgt := 131) G.1 G.2.1 dX11_bindRegisters_127 (by decide) ?_
                    refine lv_istore_n (lv' := [(2, .int x20), (4, .int v25), (0, .ref (E.1 10 0)), (1, .int x16), (3, .int x20)]) G.1 G.2.1 dX11_bindRegisters_131 rfl hl (by decide) rfl (fun ls hl => ?_)
                    refine lv_iinc (v := x20 + 1) (lv' := [(3, .int (x20 + 1)), (2, .int x20), (4, .int v25), (0, .ref (E.1 10 0)), (1, .int x16)]) G.1 G.2.1 dX11_bindRegisters_132 hl (k := 4) rfl rfl (by decide) rfl (fun ls hl => ?_)
                    refine lv_goto (tgt := 76) G.1 G.2.1 dX11_bindRegisters_135 (by decide) ?_
                    exact ih18 x20 (x20 + 1) _ _ _ ls hf hw (lv_sub hl [3, 4, 1, 0] rfl) hk18_0
                  · rw [if_neg hc114] at hf
                    refine lv_aload_n G.1 G.2.1 dX11_bindRegisters_117 rfl (lv_at hl 1 rfl) ?_
                    refine lv_iload_n G.1 G.2.1 dX11_bindRegisters_118 rfl (lv_at hl 4 rfl) ?_
                    refine lv_iload_n G.1 G.2.1 dX11_bindRegisters_119 rfl (lv_at hl 3 rfl) ?_
                    obtain ⟨z26, hcz26, hf⟩ := bd_some hf
                    refine g_callV1 (As := [.int x20, .int x19]) (rest := []) G hw (gA_mono hw.2.2.2.1.1) C_10 iM_10 mv_X11_318 (c_M_isBefore l D X E n x20 x19 g17 z26 hcz26) hl.1 rfl rfl (Nat.le_of_ble_eq_true rfl) (Nat.le_of_ble_eq_true rfl) (Nat.le_of_ble_eq_true rfl) ⟨Nat.le_refl _, Nat.le_refl _⟩ dX11_bindRegisters_120 (fun H locs hw => ?_)
                    refine lv_if_eq (tgt := 130) G.1 G.2.1 dX11_bindRegisters_123 (by decide) (fun hc123 => ?_) (fun hc123 => ?_)
                    · rw [if_pos hc123] at hf
                      refine lv_iload_n G.1 G.2.1 dX11_bindRegisters_130 rfl (lv_at hl 3 rfl) ?_
                      refine lv_istore_n (lv' := [(2, .int x19), (4, .int v25), (0, .ref (E.1 10 0)), (1, .int x16), (3, .int x20)]) G.1 G.2.1 dX11_bindRegisters_131 rfl hl (by decide) rfl (fun ls hl => ?_)
                      refine lv_iinc (v := x20 + 1) (lv' := [(3, .int (x20 + 1)), (2, .int x19), (4, .int v25), (0, .ref (E.1 10 0)), (1, .int x16)]) G.1 G.2.1 dX11_bindRegisters_132 hl (k := 4) rfl rfl (by decide) rfl (fun ls hl => ?_)
                      refine lv_goto (tgt := 76) G.1 G.2.1 dX11_bindRegisters_135 (by decide) ?_
                      exact ih18 x19 (x20 + 1) _ _ _ ls hf hw (lv_sub hl [3, 4, 1, 0] rfl) hk18_0
                    · rw [if_neg hc123] at hf
                      refine lv_iload_n G.1 G.2.1 dX11_bindRegisters_126 rfl (lv_at hl 4 rfl) ?_
                      refine lv_goto (tgt := 131) G.1 G.2.1 dX11_bindRegisters_127 (by decide) ?_
                      refine lv_istore_n (lv' := [(2, .int x20), (4, .int v25), (0, .ref (E.1 10 0)), (1, .int x16), (3, .int x20)]) G.1 G.2.1 dX11_bindRegisters_131 rfl hl (by decide) rfl (fun ls hl => ?_)
                      refine lv_iinc (v := x20 + 1) (lv' := [(3, .int (x20 + 1)), (2, .int x20), (4, .int v25), (0, .ref (E.1 10 0)), (1, .int x16)]) G.1 G.2.1 dX11_bindRegisters_132 hl (k := 4) rfl rfl (by decide) rfl (fun ls hl => ?_)
                      refine lv_goto (tgt := 76) G.1 G.2.1 dX11_bindRegisters_135 (by decide) ?_
                      exact ih18 x20 (x20 + 1) _ _ _ ls hf hw (lv_sub hl [3, 4, 1, 0] rfl) hk18_0
              obtain ⟨j22, ej22, hf⟩ := lt9_some hf
              have hj22 : ∀ (_u : Unit) (H : Heap) (locs : List Loc) (ls : Array Slot), j22 _u = some res18 → GW D X idsM E (gA X idsM E s.heap.size) s g17 H locs → lv_has ls 5 [(0, .ref (E.1 10 0)), (1, .int x16), (2, .int x19), (3, .int x20)] → W p l en { frames := 5, cells := 0, slots := 0, locals := 109 } s m [.ref (E.1 10 0)].toArray below meth c H locs 0 0 (MQ below (gQ none (GP D X idsM E g') (gA X idsM E s.heap.size)) [.ref (E.1 10 0)].toArray s 0 0 (gA X idsM E s.heap.size)) (F0 m 105 ls []) := by
                intro _u H locs ls hf hw hl
                rw [ej22] at hf
                dsimp only at hf
                refine lv_iconst (v := (0 : Int32)) G.1 G.2.1 dX11_bindRegisters_105 (by decide) ?_
                exact hj23 (0 : Int32) _ _ ls hf hw (lv_sub hl [0, 1, 2, 3] rfl)
              refine lv_if_eq (tgt := 105) G.1 G.2.1 dX11_bindRegisters_89 (by decide) (fun hc89 => ?_) (fun hc89 => ?_)
              · rw [if_pos hc89] at hf
                exact hj22 () _ _ ls hf hw (lv_sub hl [0, 1, 2, 3] rfl)
              · rw [if_neg hc89] at hf
                refine lv_aload_n G.1 G.2.1 dX11_bindRegisters_92 rfl (lv_at hl 0 rfl) ?_
                refine g_getC G hw C_10 iM_10 42 142 rfl (by decide) rfl fl_X11_96 dX11_bindRegisters_93 ?_
                refine lv_iload_n G.1 G.2.1 dX11_bindRegisters_96 rfl (lv_at hl 3 rfl) ?_
                obtain ⟨j24, hj24, hf⟩ := bd_some hf
                refine g_iald G hw iM_142 (by decide) rfl hj24 dX11_bindRegisters_97 ?_
                refine lv_if_ge (tgt := 105) G.1 G.2.1 dX11_bindRegisters_98 (by decide) (fun hc98 => ?_) (fun hc98 => ?_)
                · rw [if_pos hc98] at hf
                  exact hj22 () _ _ ls hf hw (lv_sub hl [0, 1, 2, 3] rfl)
                · rw [if_neg hc98] at hf
                  refine lv_iconst (v := (1 : Int32)) G.1 G.2.1 dX11_bindRegisters_101 (by decide) ?_
                  refine lv_goto (tgt := 106) G.1 G.2.1 dX11_bindRegisters_102 (by decide) ?_
                  exact hj23 (1 : Int32) _ _ ls hf hw (lv_sub hl [0, 1, 2, 3] rfl)
        obtain ⟨r27, hr27, hf⟩ := bd_some hf
        refine hL76 n (-1 : Int32) (0 : Int32) r27 _ _ ls hr27 hw (lv_sub hl [2, 3, 1, 0] rfl) ?_
        intro H locs ls hw hl
        refine lv_aload_n G.1 G.2.1 dX11_bindRegisters_138 rfl (lv_at hl 0 rfl) ?_
        refine lv_iload_n G.1 G.2.1 dX11_bindRegisters_139 rfl (lv_at hl 2 rfl) ?_
        obtain ⟨g28, hcg28, hf⟩ := bd_some hf
        refine g_callV0 (As := [.int r27]) (rest := []) G hw (gA_mono hw.2.2.2.1.1) C_10 iM_10 mv_X11_321 (c_M_bindOne l D X E n r27 g17 g28 hcg28) hl.1 rfl rfl (Nat.le_of_ble_eq_true rfl) (Nat.le_of_ble_eq_true rfl) (Nat.le_of_ble_eq_true rfl) ⟨Nat.le_refl _, Nat.le_refl _⟩ dX11_bindRegisters_140 (fun H locs hw => ?_)
        refine lv_iinc (v := x16 + (-1)) (lv' := [(1, .int (x16 + (-1))), (0, .ref (E.1 10 0)), (2, .int r27)]) G.1 G.2.1 dX11_bindRegisters_143 hl (k := 1) rfl rfl (by decide) rfl (fun ls hl => ?_)
        refine lv_goto (tgt := 68) G.1 G.2.1 dX11_bindRegisters_146 (by decide) ?_
        exact ih15 (x16 + (-1)) g28 _ _ _ ls hf hw (lv_sub hl [1, 0] rfl) hk15_0
  obtain ⟨r29, hr29, hf⟩ := bd_some hf
  refine hL68 n r14 r9 r29 _ _ ls hr29 hw (lv_sub hl [0, 1] rfl) ?_
  intro H locs ls hw hl
  exact g_vretW G hr hk hf hw dX11_bindRegisters_149

set_option maxHeartbeats 4000000 in
set_option maxRecDepth 100000 in
theorem c_M_first (l : Launch) (D : va_G) (X : va_W) (E : gE) (n : Nat) (a1 : Int32) (g : Mem) (r : Int32) (hf : M_first n a1 g = some r) : gMet l yX11_first cX11_first 3 (some .int) 0 0 D X idsM E [.ref (E.1 10 0), .int a1] g (some (.int r)) g := by
  rw [M_first] at hf
  refine gt_code (by decide) (Nat.le_of_ble_eq_true rfl) (fun p en s m below meth c ls G hr hk hw hl => ?_)
  have hl : lv_has ls 3 [(0, .ref (E.1 10 0)), (1, .int a1)] := hl
  refine lv_iconst (v := (0 : Int32)) G.1 G.2.1 dX11_first_0 (by decide) ?_
  refine lv_istore_n (lv' := [(2, .int (0 : Int32)), (0, .ref (E.1 10 0)), (1, .int a1)]) G.1 G.2.1 dX11_first_1 rfl hl (by decide) rfl (fun ls hl => ?_)
  have hL2 : ∀ (k1 : Nat) (x2 : Int32) (res1 : (Int32) ⊕ (Unit)) (H : Heap) (locs : List Loc) (ls : Array Slot), M_first_L2 n a1 g k1 x2 = some res1 → GW D X idsM E (gA X idsM E s.heap.size) s g H locs → lv_has ls 3 [(0, .ref (E.1 10 0)), (1, .int a1), (2, .int x2)] → (∀ t : Int32, res1 = .inl t → ∀ (H : Heap) (locs : List Loc) (ls : Array Slot), GW D X idsM E (gA X idsM E s.heap.size) s g H locs → lv_has ls 3 [(2, .int t)] → W p l en { frames := 0, cells := 0, slots := 0, locals := 0 } s m [.ref (E.1 10 0), .int a1].toArray below meth c H locs 0 0 (MQ below (gQ (some (.int r)) (GP D X idsM E g) (gA X idsM E s.heap.size)) [.ref (E.1 10 0), .int a1].toArray s 0 0 (gA X idsM E s.heap.size)) (F0 m 20 ls [])) → (∀ t : Unit, res1 = .inr t → ∀ (H : Heap) (locs : List Loc) (ls : Array Slot), GW D X idsM E (gA X idsM E s.heap.size) s g H locs → lv_has ls 3 [] → W p l en { frames := 0, cells := 0, slots := 0, locals := 0 } s m [.ref (E.1 10 0), .int a1].toArray below meth c H locs 0 0 (MQ below (gQ (some (.int r)) (GP D X idsM E g) (gA X idsM E s.heap.size)) [.ref (E.1 10 0), .int a1].toArray s 0 0 (gA X idsM E s.heap.size)) (F0 m 28 ls [])) → W p l en { frames := 0, cells := 0, slots := 0, locals := 0 } s m [.ref (E.1 10 0), .int a1].toArray below meth c H locs 0 0 (MQ below (gQ (some (.int r)) (GP D X idsM E g) (gA X idsM E s.heap.size)) [.ref (E.1 10 0), .int a1].toArray s 0 0 (gA X idsM E s.heap.size)) (F0 m 2 ls []) := by
    intro k1
    induction k1 with
    | zero => intro x2 res1 H locs ls hf; rw [M_first_L2] at hf; cases hf
    | succ k1 ih1 =>
      intro x2 res1 H locs ls hf hw hl hk1_0 hk1_1
      rw [M_first_L2] at hf
      refine lv_iload_n G.1 G.2.1 dX11_first_2 rfl (lv_at hl 2 rfl) ?_
      refine lv_aload_n G.1 G.2.1 dX11_first_3 rfl (lv_at hl 0 rfl) ?_
      refine g_getI G hw C_10 iM_10 25 rfl fl_X11_261 dX11_first_4 ?_
      refine lv_icmp_ge (tgt := 28) G.1 G.2.1 dX11_first_7 (by decide) (fun hc7 => ?_) (fun hc7 => ?_)
      · rw [if_pos hc7] at hf
        exact hk1_1 _ (Option.some.inj hf).symm _ _ ls hw (lv_sub hl [] rfl)
      · rw [if_neg hc7] at hf
        refine lv_aload_n G.1 G.2.1 dX11_first_10 rfl (lv_at hl 0 rfl) ?_
        refine g_getC G hw C_10 iM_10 30 130 rfl (by decide) rfl fl_X11_63 dX11_first_11 ?_
        refine lv_iload_n G.1 G.2.1 dX11_first_14 rfl (lv_at hl 2 rfl) ?_
        obtain ⟨j3, hj3, hf⟩ := bd_some hf
        refine g_iald G hw iM_130 (by decide) rfl hj3 dX11_first_15 ?_
        refine lv_iload_n G.1 G.2.1 dX11_first_16 rfl (lv_at hl 1 rfl) ?_
        refine lv_icmp_ne (tgt := 22) G.1 G.2.1 dX11_first_17 (by decide) (fun hc17 => ?_) (fun hc17 => ?_)
        · rw [if_neg hc17] at hf
          refine lv_iinc (v := x2 + 1) (lv' := [(2, .int (x2 + 1)), (0, .ref (E.1 10 0)), (1, .int a1)]) G.1 G.2.1 dX11_first_22 hl (k := 2) rfl rfl (by decide) rfl (fun ls hl => ?_)
          refine lv_goto (tgt := 2) G.1 G.2.1 dX11_first_25 (by decide) ?_
          exact ih1 (x2 + 1) _ _ _ ls hf hw (lv_sub hl [1, 2, 0] rfl) hk1_0 hk1_1
        · rw [if_pos hc17] at hf
          exact hk1_0 _ (Option.some.inj hf).symm _ _ ls hw (lv_sub hl [2] rfl)
  obtain ⟨r4, hr4, hf⟩ := bd_some hf
  refine hL2 n (0 : Int32) r4 _ _ ls hr4 hw (lv_sub hl [1, 2, 0] rfl) ?_ ?_
  · intro t5 htt5 H locs ls hw hl
    rw [htt5] at hf
    dsimp only at hf
    refine lv_iload_n G.1 G.2.1 dX11_first_20 rfl (lv_at hl 0 rfl) ?_
    exact g_iretR G hr hk hf hw dX11_first_21
  · intro t6 htt6 H locs ls hw hl
    rw [htt6] at hf
    dsimp only at hf
    refine lv_iconst (v := (-1 : Int32)) G.1 G.2.1 dX11_first_28 (by decide) ?_
    exact g_iretR G hr hk hf hw dX11_first_29

set_option maxHeartbeats 4000000 in
set_option maxRecDepth 100000 in
theorem c_M_freeUnit (l : Launch) (D : va_G) (X : va_W) (E : gE) (n : Nat) (a1 : Int32) (a2 : Int32) (a3 : Int32) (g : Mem) (r : Int32) (hf : M_freeUnit n a1 a2 a3 g = some r) : gMet l yX11_freeUnit cX11_freeUnit 11 (some .int) 3 62 D X idsM E [.ref (E.1 10 0), .int a1, .int a2, .int a3] g (some (.int r)) g := by
  rw [M_freeUnit] at hf
  refine gt_code (by decide) (Nat.le_of_ble_eq_true rfl) (fun p en s m below meth c ls G hr hk hw hl => ?_)
  have hl : lv_has ls 11 [(0, .ref (E.1 10 0)), (1, .int a1), (2, .int a2), (3, .int a3)] := hl
  refine lv_aload_n G.1 G.2.1 dX11_freeUnit_0 rfl (lv_at hl 0 rfl) ?_
  refine g_getC G hw C_10 iM_10 26 126 rfl (by decide) rfl fl_X11_51 dX11_freeUnit_1 ?_
  refine lv_iload_n G.1 G.2.1 dX11_freeUnit_4 rfl (lv_at hl 1 rfl) ?_
  obtain ⟨j1, hj1, hf⟩ := bd_some hf
  refine g_iald G hw iM_126 (by decide) rfl hj1 dX11_freeUnit_5 ?_
  obtain ⟨z2, hcz2, hf⟩ := bd_some hf
  refine g_callS1 (As := [.int (gI g 126 0 j1)]) (rest := []) G hw (gA_mono hw.2.2.2.1.1)  ms_X11_277 (c_M_kindOf l D X E n (gI g 126 0 j1) g z2 hcz2) hl.1 rfl rfl (Nat.le_of_ble_eq_true rfl) (Nat.le_of_ble_eq_true rfl) (Nat.le_of_ble_eq_true rfl) ⟨Nat.le_refl _, Nat.le_refl _⟩ dX11_freeUnit_6 (fun H locs hw => ?_)
  refine lv_istore (lv' := [(4, .int z2), (0, .ref (E.1 10 0)), (1, .int a1), (2, .int a2), (3, .int a3)]) G.1 G.2.1 dX11_freeUnit_9 hl (by decide) rfl (fun ls hl => ?_)
  refine lv_aload_n G.1 G.2.1 dX11_freeUnit_11 rfl (lv_at hl 1 rfl) ?_
  refine lv_iload_n G.1 G.2.1 dX11_freeUnit_12 rfl (lv_at hl 3 rfl) ?_
  obtain ⟨z3, hcz3, hf⟩ := bd_some hf
  refine g_callV1 (As := [.int a2]) (rest := []) G hw (gA_mono hw.2.2.2.1.1) C_10 iM_10 mv_X11_283 (c_M_first l D X E n a2 g z3 hcz3) hl.1 rfl rfl (Nat.le_of_ble_eq_true rfl) (Nat.le_of_ble_eq_true rfl) (Nat.le_of_ble_eq_true rfl) ⟨Nat.le_refl _, Nat.le_refl _⟩ dX11_freeUnit_13 (fun H locs hw => ?_)
  refine lv_istore (lv' := [(5, .int z3), (4, .int z2), (0, .ref (E.1 10 0)), (1, .int a1), (2, .int a2), (3, .int a3)]) G.1 G.2.1 dX11_freeUnit_16 hl (by decide) rfl (fun ls hl => ?_)
  refine lv_aload_n G.1 G.2.1 dX11_freeUnit_18 rfl (lv_at hl 2 rfl) ?_
  refine lv_iload_n G.1 G.2.1 dX11_freeUnit_19 rfl (lv_at hl 4 rfl) ?_
  obtain ⟨z4, hcz4, hf⟩ := bd_some hf
  refine g_callV1 (As := [.int a2]) (rest := []) G hw (gA_mono hw.2.2.2.1.1) C_10 iM_10 mv_X11_292 (c_M_behindAll l D X E n a2 g z4 hcz4) hl.1 rfl rfl (Nat.le_of_ble_eq_true rfl) (Nat.le_of_ble_eq_true rfl) (Nat.le_of_ble_eq_true rfl) ⟨Nat.le_refl _, Nat.le_refl _⟩ dX11_freeUnit_20 (fun H locs hw => ?_)
  refine lv_istore (lv' := [(6, .int z4), (5, .int z3), (4, .int z2), (0, .ref (E.1 10 0)), (1, .int a1), (2, .int a2), (3, .int a3)]) G.1 G.2.1 dX11_freeUnit_23 hl (by decide) rfl (fun ls hl => ?_)
  refine lv_iconst (v := (0 : Int32)) G.1 G.2.1 dX11_freeUnit_25 (by decide) ?_
  refine lv_istore (lv' := [(7, .int (0 : Int32)), (6, .int z4), (5, .int z3), (4, .int z2), (0, .ref (E.1 10 0)), (1, .int a1), (2, .int a2), (3, .int a3)]) G.1 G.2.1 dX11_freeUnit_26 hl (by decide) rfl (fun ls hl => ?_)
  have hL28 : ∀ (k5 : Nat) (x6 : Int32) (res5 : (Int32) ⊕ (Unit)) (H : Heap) (locs : List Loc) (ls : Array Slot), M_freeUnit_L28 n a3 g z2 z3 z4 k5 x6 = some res5 → GW D X idsM E (gA X idsM E s.heap.size) s g H locs → lv_has ls 11 [(0, .ref (E.1 10 0)), (3, .int a3), (4, .int z2), (5, .int z3), (6, .int z4), (7, .int x6)] → (∀ t : Int32, res5 = .inl t → ∀ (H : Heap) (locs : List Loc) (ls : Array Slot), GW D X idsM E (gA X idsM E s.heap.size) s g H locs → lv_has ls 11 [(7, .int t)] → W p l en { frames := 3, cells := 0, slots := 0, locals := 62 } s m [.ref (E.1 10 0), .int a1, .int a2, .int a3].toArray below meth c H locs 0 0 (MQ below (gQ (some (.int r)) (GP D X idsM E g) (gA X idsM E s.heap.size)) [.ref (E.1 10 0), .int a1, .int a2, .int a3].toArray s 0 0 (gA X idsM E s.heap.size)) (F0 m 153 ls [])) → (∀ t : Unit, res5 = .inr t → ∀ (H : Heap) (locs : List Loc) (ls : Array Slot), GW D X idsM E (gA X idsM E s.heap.size) s g H locs → lv_has ls 11 [] → W p l en { frames := 3, cells := 0, slots := 0, locals := 62 } s m [.ref (E.1 10 0), .int a1, .int a2, .int a3].toArray below meth c H locs 0 0 (MQ below (gQ (some (.int r)) (GP D X idsM E g) (gA X idsM E s.heap.size)) [.ref (E.1 10 0), .int a1, .int a2, .int a3].toArray s 0 0 (gA X idsM E s.heap.size)) (F0 m 162 ls [])) → W p l en { frames := 3, cells := 0, slots := 0, locals := 62 } s m [.ref (E.1 10 0), .int a1, .int a2, .int a3].toArray below meth c H locs 0 0 (MQ below (gQ (some (.int r)) (GP D X idsM E g) (gA X idsM E s.heap.size)) [.ref (E.1 10 0), .int a1, .int a2, .int a3].toArray s 0 0 (gA X idsM E s.heap.size)) (F0 m 28 ls []) := by
    intro k5
    induction k5 with
    | zero => intro x6 res5 H locs ls hf; rw [M_freeUnit_L28] at hf; cases hf
    | succ k5 ih5 =>
      intro x6 res5 H locs ls hf hw hl hk5_0 hk5_1
      rw [M_freeUnit_L28] at hf
      refine lv_iload G.1 G.2.1 dX11_freeUnit_28 (lv_at hl 2 rfl) ?_
      refine lv_iconst (v := (3 : Int32)) G.1 G.2.1 dX11_freeUnit_30 (by decide) ?_
      obtain ⟨j7, ej7, hf⟩ := lt9_some hf
      have hj7 : ∀ (_u : Unit) (H : Heap) (locs : List Loc) (ls : Array Slot), j7 _u = some res5 → GW D X idsM E (gA X idsM E s.heap.size) s g H locs → lv_has ls 11 [(0, .ref (E.1 10 0)), (3, .int a3), (4, .int z2), (5, .int z3), (6, .int z4), (7, .int x6)] → W p l en { frames := 3, cells := 0, slots := 0, locals := 62 } s m [.ref (E.1 10 0), .int a1, .int a2, .int a3].toArray below meth c H locs 0 0 (MQ below (gQ (some (.int r)) (GP D X idsM E g) (gA X idsM E s.heap.size)) [.ref (E.1 10 0), .int a1, .int a2, .int a3].toArray s 0 0 (gA X idsM E s.heap.size)) (F0 m 46 ls []) := by
        intro _u H locs ls hf hw hl
        rw [ej7] at hf
        dsimp only at hf
        refine lv_iconst (v := (1 : Int32)) G.1 G.2.1 dX11_freeUnit_46 (by decide) ?_
        refine lv_istore (lv' := [(8, .int (1 : Int32)), (0, .ref (E.1 10 0)), (3, .int a3), (4, .int z2), (5, .int z3), (6, .int z4), (7, .int x6)]) G.1 G.2.1 dX11_freeUnit_47 hl (by decide) rfl (fun ls hl => ?_)
        refine lv_iload G.1 G.2.1 dX11_freeUnit_49 (lv_at hl 4 rfl) ?_
        refine lv_istore (lv' := [(9, .int z3), (8, .int (1 : Int32)), (0, .ref (E.1 10 0)), (3, .int a3), (4, .int z2), (5, .int z3), (6, .int z4), (7, .int x6)]) G.1 G.2.1 dX11_freeUnit_51 hl (by decide) rfl (fun ls hl => ?_)
        have hL53 : ∀ (k9 : Nat) (x10 : Int32) (x11 : Int32) (res9 : Int32) (H : Heap) (locs : List Loc) (ls : Array Slot), M_freeUnit_L53 n a3 g x6 z2 z4 k9 x10 x11 = some res9 → GW D X idsM E (gA X idsM E s.heap.size) s g H locs → lv_has ls 11 [(0, .ref (E.1 10 0)), (3, .int a3), (4, .int z2), (5, .int z3), (6, .int z4), (7, .int x6), (8, .int x10), (9, .int x11)] → (∀ (H : Heap) (locs : List Loc) (ls : Array Slot), GW D X idsM E (gA X idsM E s.heap.size) s g H locs → lv_has ls 11 [(0, .ref (E.1 10 0)), (3, .int a3), (4, .int z2), (5, .int z3), (6, .int z4), (7, .int x6), (8, .int res9)] → W p l en { frames := 3, cells := 0, slots := 0, locals := 62 } s m [.ref (E.1 10 0), .int a1, .int a2, .int a3].toArray below meth c H locs 0 0 (MQ below (gQ (some (.int r)) (GP D X idsM E g) (gA X idsM E s.heap.size)) [.ref (E.1 10 0), .int a1, .int a2, .int a3].toArray s 0 0 (gA X idsM E s.heap.size)) (F0 m 148 ls [])) → W p l en { frames := 3, cells := 0, slots := 0, locals := 62 } s m [.ref (E.1 10 0), .int a1, .int a2, .int a3].toArray below meth c H locs 0 0 (MQ below (gQ (some (.int r)) (GP D X idsM E g) (gA X idsM E s.heap.size)) [.ref (E.1 10 0), .int a1, .int a2, .int a3].toArray s 0 0 (gA X idsM E s.heap.size)) (F0 m 53 ls []) := by
          intro k9
          induction k9 with
          | zero => intro x10 x11 res9 H locs ls hf; rw [M_freeUnit_L53] at hf; cases hf
          | succ k9 ih9 =>
            intro x10 x11 res9 H locs ls hf hw hl hk9_0
            rw [M_freeUnit_L53] at hf
            refine lv_iload G.1 G.2.1 dX11_freeUnit_53 (lv_at hl 7 rfl) ?_
            refine lv_iload G.1 G.2.1 dX11_freeUnit_55 (lv_at hl 4 rfl) ?_
            refine lv_icmp_ge (tgt := 148) G.1 G.2.1 dX11_freeUnit_57 (by decide) (fun hc57 => ?_) (fun hc57 => ?_)
            · rw [if_pos hc57] at hf
              obtain rfl := Option.some.inj hf
              exact hk9_0 _ _ ls hw (lv_sub hl [0, 1, 2, 3, 4, 5, 6] rfl)
            · rw [if_neg hc57] at hf
              refine lv_aload_n G.1 G.2.1 dX11_freeUnit_60 rfl (lv_at hl 0 rfl) ?_
              refine g_getC G hw C_10 iM_10 40 140 rfl (by decide) rfl fl_X11_90 dX11_freeUnit_61 ?_
              refine lv_iload G.1 G.2.1 dX11_freeUnit_64 (lv_at hl 7 rfl) ?_
              obtain ⟨j12, hj12, hf⟩ := bd_some hf
              refine g_iald G hw iM_140 (by decide) rfl hj12 dX11_freeUnit_66 ?_
              obtain ⟨j14, ej14, hf⟩ := lt9_some hf
              have hj14 : ∀ (v17 : Int32) (H : Heap) (locs : List Loc) (ls : Array Slot), j14 v17 = some res9 → GW D X idsM E (gA X idsM E s.heap.size) s g H locs → lv_has ls 11 [(0, .ref (E.1 10 0)), (3, .int a3), (4, .int z2), (5, .int z3), (6, .int z4), (7, .int x6), (8, .int x10), (9, .int x11)] → W p l en { frames := 3, cells := 0, slots := 0, locals := 62 } s m [.ref (E.1 10 0), .int a1, .int a2, .int a3].toArray below meth c H locs 0 0 (MQ below (gQ (some (.int r)) (GP D X idsM E g) (gA X idsM E s.heap.size)) [.ref (E.1 10 0), .int a1, .int a2, .int a3].toArray s 0 0 (gA X idsM E s.heap.size)) (F0 m 96 ls [.int v17]) := by
                intro v17 H locs ls hf hw hl
                rw [ej14] at hf
                dsimp only at hf
                refine lv_istore (lv' := [(10, .int v17), (0, .ref (E.1 10 0)), (3, .int a3), (4, .int z2), (5, .int z3), (6, .int z4), (7, .int x6), (8, .int x10), (9, .int x11)]) G.1 G.2.1 dX11_freeUnit_96 hl (by decide) rfl (fun ls hl => ?_)
                refine lv_iload G.1 G.2.1 dX11_freeUnit_98 (lv_at hl 7 rfl) ?_
                refine lv_if_eq (tgt := 139) G.1 G.2.1 dX11_freeUnit_100 (by decide) (fun hc100 => ?_) (fun hc100 => ?_)
                · rw [if_pos hc100] at hf
                  refine lv_iconst (v := (0 : Int32)) G.1 G.2.1 dX11_freeUnit_139 (by decide) ?_
                  refine lv_istore (lv' := [(8, .int (0 : Int32)), (10, .int v17), (0, .ref (E.1 10 0)), (3, .int a3), (4, .int z2), (5, .int z3), (6, .int z4), (7, .int x6), (9, .int x11)]) G.1 G.2.1 dX11_freeUnit_140 hl (by decide) rfl (fun ls hl => ?_)
                  refine lv_iinc (v := x11 + 1) (lv' := [(9, .int (x11 + 1)), (8, .int (0 : Int32)), (10, .int v17), (0, .ref (E.1 10 0)), (3, .int a3), (4, .int z2), (5, .int z3), (6, .int z4), (7, .int x6)]) G.1 G.2.1 dX11_freeUnit_142 hl (k := 8) rfl rfl (by decide) rfl (fun ls hl => ?_)
                  refine lv_goto (tgt := 53) G.1 G.2.1 dX11_freeUnit_145 (by decide) ?_
                  exact ih9 (0 : Int32) (x11 + 1) _ _ _ ls hf hw (lv_sub hl [3, 4, 5, 6, 7, 8, 1, 0] rfl) hk9_0
                · rw [if_neg hc100] at hf
                  refine lv_iload G.1 G.2.1 dX11_freeUnit_103 (lv_at hl 0 rfl) ?_
                  refine lv_if_eq (tgt := 135) G.1 G.2.1 dX11_freeUnit_105 (by decide) (fun hc105 => ?_) (fun hc105 => ?_)
                  · rw [if_pos hc105] at hf
                    refine lv_iconst (v := (1 : Int32)) G.1 G.2.1 dX11_freeUnit_135 (by decide) ?_
                    refine lv_goto (tgt := 140) G.1 G.2.1 dX11_freeUnit_136 (by decide) ?_
                    refine lv_istore (lv' := [(8, .int (1 : Int32)), (10, .int v17), (0, .ref (E.1 10 0)), (3, .int a3), (4, .int z2), (5, .int z3), (6, .int z4), (7, .int x6), (9, .int x11)]) G.1 G.2.1 dX11_freeUnit_140 hl (by decide) rfl (fun ls hl => ?_)
                    refine lv_iinc (v := x11 + 1) (lv' := [(9, .int (x11 + 1)), (8, .int (1 : Int32)), (10, .int v17), (0, .ref (E.1 10 0)), (3, .int a3), (4, .int z2), (5, .int z3), (6, .int z4), (7, .int x6)]) G.1 G.2.1 dX11_freeUnit_142 hl (k := 8) rfl rfl (by decide) rfl (fun ls hl => ?_)
                    refine lv_goto (tgt := 53) G.1 G.2.1 dX11_freeUnit_145 (by decide) ?_
                    exact ih9 (1 : Int32) (x11 + 1) _ _ _ ls hf hw (lv_sub hl [3, 4, 5, 6, 7, 8, 1, 0] rfl) hk9_0
                  · rw [if_neg hc105] at hf
                    refine lv_aload_n G.1 G.2.1 dX11_freeUnit_108 rfl (lv_at hl 1 rfl) ?_
                    refine g_getC G hw C_10 iM_10 26 126 rfl (by decide) rfl fl_X11_51 dX11_freeUnit_109 ?_
                    refine lv_iload G.1 G.2.1 dX11_freeUnit_112 (lv_at hl 8 rfl) ?_
                    obtain ⟨j18, hj18, hf⟩ := bd_some hf
                    refine g_iald G hw iM_126 (by decide) rfl hj18 dX11_freeUnit_114 ?_
                    obtain ⟨z19, hcz19, hf⟩ := bd_some hf
                    refine g_callS1 (As := [.int (gI g 126 0 j18)]) (rest := []) G hw (gA_mono hw.2.2.2.1.1)  ms_X11_277 (c_M_kindOf l D X E n (gI g 126 0 j18) g z19 hcz19) hl.1 rfl rfl (Nat.le_of_ble_eq_true rfl) (Nat.le_of_ble_eq_true rfl) (Nat.le_of_ble_eq_true rfl) ⟨Nat.le_refl _, Nat.le_refl _⟩ dX11_freeUnit_115 (fun H locs hw => ?_)
                    refine lv_iload G.1 G.2.1 dX11_freeUnit_118 (lv_at hl 3 rfl) ?_
                    refine lv_icmp_ne (tgt := 135) G.1 G.2.1 dX11_freeUnit_120 (by decide) (fun hc120 => ?_) (fun hc120 => ?_)
                    · rw [if_neg hc120] at hf
                      refine lv_iconst (v := (1 : Int32)) G.1 G.2.1 dX11_freeUnit_135 (by decide) ?_
                      refine lv_goto (tgt := 140) G.1 G.2.1 dX11_freeUnit_136 (by decide) ?_
                      refine lv_istore (lv' := [(8, .int (1 : Int32)), (10, .int v17), (0, .ref (E.1 10 0)), (3, .int a3), (4, .int z2), (5, .int z3), (6, .int z4), (7, .int x6), (9, .int x11)]) G.1 G.2.1 dX11_freeUnit_140 hl (by decide) rfl (fun ls hl => ?_)
                      refine lv_iinc (v := x11 + 1) (lv' := [(9, .int (x11 + 1)), (8, .int (1 : Int32)), (10, .int v17), (0, .ref (E.1 10 0)), (3, .int a3), (4, .int z2), (5, .int z3), (6, .int z4), (7, .int x6)]) G.1 G.2.1 dX11_freeUnit_142 hl (k := 8) rfl rfl (by decide) rfl (fun ls hl => ?_)
                      refine lv_goto (tgt := 53) G.1 G.2.1 dX11_freeUnit_145 (by decide) ?_
                      exact ih9 (1 : Int32) (x11 + 1) _ _ _ ls hf hw (lv_sub hl [3, 4, 5, 6, 7, 8, 1, 0] rfl) hk9_0
                    · rw [if_pos hc120] at hf
                      refine lv_aload_n G.1 G.2.1 dX11_freeUnit_123 rfl (lv_at hl 1 rfl) ?_
                      refine g_getC G hw C_10 iM_10 41 141 rfl (by decide) rfl fl_X11_93 dX11_freeUnit_124 ?_
                      refine lv_iload G.1 G.2.1 dX11_freeUnit_127 (lv_at hl 8 rfl) ?_
                      obtain ⟨j20, hj20, hf⟩ := bd_some hf
                      refine g_iald G hw iM_141 (by decide) rfl hj20 dX11_freeUnit_129 ?_
                      refine lv_iload G.1 G.2.1 dX11_freeUnit_130 (lv_at hl 6 rfl) ?_
                      refine lv_icmp_eq (tgt := 139) G.1 G.2.1 dX11_freeUnit_132 (by decide) (fun hc132 => ?_) (fun hc132 => ?_)
                      · rw [if_pos hc132] at hf
                        refine lv_iconst (v := (0 : Int32)) G.1 G.2.1 dX11_freeUnit_139 (by decide) ?_
                        refine lv_istore (lv' := [(8, .int (0 : Int32)), (10, .int v17), (0, .ref (E.1 10 0)), (3, .int a3), (4, .int z2), (5, .int z3), (6, .int z4), (7, .int x6), (9, .int x11)]) G.1 G.2.1 dX11_freeUnit_140 hl (by decide) rfl (fun ls hl => ?_)
                        refine lv_iinc (v := x11 + 1) (lv' := [(9, .int (x11 + 1)), (8, .int (0 : Int32)), (10, .int v17), (0, .ref (E.1 10 0)), (3, .int a3), (4, .int z2), (5, .int z3), (6, .int z4), (7, .int x6)]) G.1 G.2.1 dX11_freeUnit_142 hl (k := 8) rfl rfl (by decide) rfl (fun ls hl => ?_)
                        refine lv_goto (tgt := 53) G.1 G.2.1 dX11_freeUnit_145 (by decide) ?_
                        exact ih9 (0 : Int32) (x11 + 1) _ _ _ ls hf hw (lv_sub hl [3, 4, 5, 6, 7, 8, 1, 0] rfl) hk9_0
                      · rw [if_neg hc132] at hf
                        refine lv_iconst (v := (1 : Int32)) G.1 G.2.1 dX11_freeUnit_135 (by decide) ?_
                        refine lv_goto (tgt := 140) G.1 G.2.1 dX11_freeUnit_136 (by decide) ?_
                        refine lv_istore (lv' := [(8, .int (1 : Int32)), (10, .int v17), (0, .ref (E.1 10 0)), (3, .int a3), (4, .int z2), (5, .int z3), (6, .int z4), (7, .int x6), (9, .int x11)]) G.1 G.2.1 dX11_freeUnit_140 hl (by decide) rfl (fun ls hl => ?_)
                        refine lv_iinc (v := x11 + 1) (lv' := [(9, .int (x11 + 1)), (8, .int (1 : Int32)), (10, .int v17), (0, .ref (E.1 10 0)), (3, .int a3), (4, .int z2), (5, .int z3), (6, .int z4), (7, .int x6)]) G.1 G.2.1 dX11_freeUnit_142 hl (k := 8) rfl rfl (by decide) rfl (fun ls hl => ?_)
                        refine lv_goto (tgt := 53) G.1 G.2.1 dX11_freeUnit_145 (by decide) ?_
                        exact ih9 (1 : Int32) (x11 + 1) _ _ _ ls hf hw (lv_sub hl [3, 4, 5, 6, 7, 8, 1, 0] rfl) hk9_0
              obtain ⟨j13, ej13, hf⟩ := lt9_some hf
              have hj13 : ∀ (_u : Unit) (H : Heap) (locs : List Loc) (ls : Array Slot), j13 _u = some res9 → GW D X idsM E (gA X idsM E s.heap.size) s g H locs → lv_has ls 11 [(0, .ref (E.1 10 0)), (3, .int a3), (4, .int z2), (5, .int z3), (6, .int z4), (7, .int x6), (8, .int x10), (9, .int x11)] → W p l en { frames := 3, cells := 0, slots := 0, locals := 62 } s m [.ref (E.1 10 0), .int a1, .int a2, .int a3].toArray below meth c H locs 0 0 (MQ below (gQ (some (.int r)) (GP D X idsM E g) (gA X idsM E s.heap.size)) [.ref (E.1 10 0), .int a1, .int a2, .int a3].toArray s 0 0 (gA X idsM E s.heap.size)) (F0 m 95 ls []) := by
                intro _u H locs ls hf hw hl
                rw [ej13] at hf
                dsimp only at hf
                refine lv_iconst (v := (0 : Int32)) G.1 G.2.1 dX11_freeUnit_95 (by decide) ?_
                exact hj14 (0 : Int32) _ _ ls hf hw (lv_sub hl [0, 1, 2, 3, 4, 5, 6, 7] rfl)
              refine lv_if_lt (tgt := 95) G.1 G.2.1 dX11_freeUnit_67 (by decide) (fun hc67 => ?_) (fun hc67 => ?_)
              · rw [if_pos hc67] at hf
                exact hj13 () _ _ ls hf hw (lv_sub hl [0, 1, 2, 3, 4, 5, 6, 7] rfl)
              · rw [if_neg hc67] at hf
                refine lv_aload_n G.1 G.2.1 dX11_freeUnit_70 rfl (lv_at hl 0 rfl) ?_
                refine g_getC G hw C_10 iM_10 40 140 rfl (by decide) rfl fl_X11_90 dX11_freeUnit_71 ?_
                refine lv_iload G.1 G.2.1 dX11_freeUnit_74 (lv_at hl 7 rfl) ?_
                obtain ⟨j15, hj15, hf⟩ := bd_some hf
                refine g_iald G hw iM_140 (by decide) rfl hj15 dX11_freeUnit_76 ?_
                refine lv_iload_n G.1 G.2.1 dX11_freeUnit_77 rfl (lv_at hl 1 rfl) ?_
                refine lv_icmp_gt (tgt := 95) G.1 G.2.1 dX11_freeUnit_78 (by decide) (fun hc78 => ?_) (fun hc78 => ?_)
                · rw [if_pos hc78] at hf
                  exact hj13 () _ _ ls hf hw (lv_sub hl [0, 1, 2, 3, 4, 5, 6, 7] rfl)
                · rw [if_neg hc78] at hf
                  refine lv_aload_n G.1 G.2.1 dX11_freeUnit_81 rfl (lv_at hl 0 rfl) ?_
                  refine lv_iload G.1 G.2.1 dX11_freeUnit_82 (lv_at hl 7 rfl) ?_
                  obtain ⟨z16, hcz16, hf⟩ := bd_some hf
                  refine g_callV1 (As := [.int x11]) (rest := []) G hw (gA_mono hw.2.2.2.1.1) C_10 iM_10 mv_X11_289 (c_M_endOf l D X E n x11 g z16 hcz16) hl.1 rfl rfl (Nat.le_of_ble_eq_true rfl) (Nat.le_of_ble_eq_true rfl) (Nat.le_of_ble_eq_true rfl) ⟨Nat.le_refl _, Nat.le_refl _⟩ dX11_freeUnit_84 (fun H locs hw => ?_)
                  refine lv_iload_n G.1 G.2.1 dX11_freeUnit_87 rfl (lv_at hl 1 rfl) ?_
                  refine lv_icmp_le (tgt := 95) G.1 G.2.1 dX11_freeUnit_88 (by decide) (fun hc88 => ?_) (fun hc88 => ?_)
                  · rw [if_pos hc88] at hf
                    exact hj13 () _ _ ls hf hw (lv_sub hl [0, 1, 2, 3, 4, 5, 6, 7] rfl)
                  · rw [if_neg hc88] at hf
                    refine lv_iconst (v := (1 : Int32)) G.1 G.2.1 dX11_freeUnit_91 (by decide) ?_
                    refine lv_goto (tgt := 96) G.1 G.2.1 dX11_freeUnit_92 (by decide) ?_
                    exact hj14 (1 : Int32) _ _ ls hf hw (lv_sub hl [0, 1, 2, 3, 4, 5, 6, 7] rfl)
        obtain ⟨r21, hr21, hf⟩ := bd_some hf
        refine hL53 n (1 : Int32) z3 r21 _ _ ls hr21 hw (lv_sub hl [2, 3, 4, 5, 6, 7, 1, 0] rfl) ?_
        intro H locs ls hw hl
        refine lv_iload G.1 G.2.1 dX11_freeUnit_148 (lv_at hl 6 rfl) ?_
        refine lv_if_eq (tgt := 156) G.1 G.2.1 dX11_freeUnit_150 (by decide) (fun hc150 => ?_) (fun hc150 => ?_)
        · rw [if_pos hc150] at hf
          refine lv_iinc (v := x6 + 1) (lv' := [(7, .int (x6 + 1)), (0, .ref (E.1 10 0)), (3, .int a3), (4, .int z2), (5, .int z3), (6, .int z4), (8, .int r21)]) G.1 G.2.1 dX11_freeUnit_156 hl (k := 5) rfl rfl (by decide) rfl (fun ls hl => ?_)
          refine lv_goto (tgt := 28) G.1 G.2.1 dX11_freeUnit_159 (by decide) ?_
          exact ih5 (x6 + 1) _ _ _ ls hf hw (lv_sub hl [1, 2, 3, 4, 5, 0] rfl) hk5_0 hk5_1
        · rw [if_neg hc150] at hf
          exact hk5_0 _ (Option.some.inj hf).symm _ _ ls hw (lv_sub hl [5] rfl)
      refine lv_icmp_eq (tgt := 46) G.1 G.2.1 dX11_freeUnit_31 (by decide) (fun hc31 => ?_) (fun hc31 => ?_)
      · rw [if_pos hc31] at hf
        exact hj7 () _ _ ls hf hw (lv_sub hl [0, 1, 2, 3, 4, 5] rfl)
      · rw [if_neg hc31] at hf
        refine lv_iload G.1 G.2.1 dX11_freeUnit_34 (lv_at hl 5 rfl) ?_
        refine lv_aload_n G.1 G.2.1 dX11_freeUnit_36 rfl (lv_at hl 0 rfl) ?_
        refine g_getC G hw C_10 iM_10 37 137 rfl (by decide) rfl fl_X11_81 dX11_freeUnit_37 ?_
        refine lv_iload G.1 G.2.1 dX11_freeUnit_40 (lv_at hl 2 rfl) ?_
        obtain ⟨j8, hj8, hf⟩ := bd_some hf
        refine g_iald G hw iM_137 (by decide) rfl hj8 dX11_freeUnit_42 ?_
        refine lv_icmp_ge (tgt := 162) G.1 G.2.1 dX11_freeUnit_43 (by decide) (fun hc43 => ?_) (fun hc43 => ?_)
        · rw [if_pos hc43] at hf
          exact hk5_1 _ (Option.some.inj hf).symm _ _ ls hw (lv_sub hl [] rfl)
        · rw [if_neg hc43] at hf
          exact hj7 () _ _ ls hf hw (lv_sub hl [0, 1, 2, 3, 4, 5] rfl)
  obtain ⟨r22, hr22, hf⟩ := bd_some hf
  refine hL28 n (0 : Int32) r22 _ _ ls hr22 hw (lv_sub hl [4, 7, 3, 2, 1, 0] rfl) ?_ ?_
  · intro t23 htt23 H locs ls hw hl
    rw [htt23] at hf
    dsimp only at hf
    refine lv_iload G.1 G.2.1 dX11_freeUnit_153 (lv_at hl 0 rfl) ?_
    exact g_iretR G hr hk hf hw dX11_freeUnit_155
  · intro t24 htt24 H locs ls hw hl
    rw [htt24] at hf
    dsimp only at hf
    refine lv_iconst (v := (-1 : Int32)) G.1 G.2.1 dX11_freeUnit_162 (by decide) ?_
    exact g_iretR G hr hk hf hw dX11_freeUnit_163

set_option maxHeartbeats 4000000 in
set_option maxRecDepth 100000 in
theorem c_M_usesVariable (l : Launch) (D : va_G) (X : va_W) (E : gE) (n : Nat) (a1 : Int32) (a2 : Int32) (g : Mem) (r : Int32) (hf : M_usesVariable n a1 a2 g = some r) : gMet l yX11_usesVariable cX11_usesVariable 3 (some .boolean) 0 0 D X idsM E [.ref (E.1 10 0), .int a1, .int a2] g (some (.int r)) g := by
  rw [M_usesVariable] at hf
  refine gt_code (by decide) (Nat.le_of_ble_eq_true rfl) (fun p en s m below meth c ls G hr hk hw hl => ?_)
  have hl : lv_has ls 3 [(0, .ref (E.1 10 0)), (1, .int a1), (2, .int a2)] := hl
  refine lv_aload_n G.1 G.2.1 dX11_usesVariable_0 rfl (lv_at hl 0 rfl) ?_
  refine g_getC G hw C_10 iM_10 27 127 rfl (by decide) rfl fl_X11_54 dX11_usesVariable_1 ?_
  refine lv_iconst (v := (2 : Int32)) G.1 G.2.1 dX11_usesVariable_4 (by decide) ?_
  refine lv_iload_n G.1 G.2.1 dX11_usesVariable_5 rfl (lv_at hl 1 rfl) ?_
  refine lv_imul G.1 G.2.1 dX11_usesVariable_6 ?_
  obtain ⟨j1, hj1, hf⟩ := bd_some hf
  refine g_iald G hw iM_127 (by decide) rfl hj1 dX11_usesVariable_7 ?_
  refine lv_iconst (v := (2 : Int32)) G.1 G.2.1 dX11_usesVariable_8 (by decide) ?_
  obtain ⟨j2, ej2, hf⟩ := lt9_some hf
  have hj2 : ∀ (_u : Unit) (H : Heap) (locs : List Loc) (ls : Array Slot), j2 _u = some r → GW D X idsM E (gA X idsM E s.heap.size) s g H locs → lv_has ls 3 [(0, .ref (E.1 10 0)), (1, .int a1), (2, .int a2)] → W p l en { frames := 0, cells := 0, slots := 0, locals := 0 } s m [.ref (E.1 10 0), .int a1, .int a2].toArray below meth c H locs 0 0 (MQ below (gQ (some (.int r)) (GP D X idsM E g) (gA X idsM E s.heap.size)) [.ref (E.1 10 0), .int a1, .int a2].toArray s 0 0 (gA X idsM E s.heap.size)) (F0 m 24 ls []) := by
    intro _u H locs ls hf hw hl
    rw [ej2] at hf
    dsimp only at hf
    refine lv_aload_n G.1 G.2.1 dX11_usesVariable_24 rfl (lv_at hl 0 rfl) ?_
    refine g_getC G hw C_10 iM_10 27 127 rfl (by decide) rfl fl_X11_54 dX11_usesVariable_25 ?_
    refine lv_iconst (v := (2 : Int32)) G.1 G.2.1 dX11_usesVariable_28 (by decide) ?_
    refine lv_iload_n G.1 G.2.1 dX11_usesVariable_29 rfl (lv_at hl 1 rfl) ?_
    refine lv_imul G.1 G.2.1 dX11_usesVariable_30 ?_
    refine lv_iconst (v := (1 : Int32)) G.1 G.2.1 dX11_usesVariable_31 (by decide) ?_
    refine lv_iadd G.1 G.2.1 dX11_usesVariable_32 ?_
    obtain ⟨j4, hj4, hf⟩ := bd_some hf
    refine g_iald G hw iM_127 (by decide) rfl hj4 dX11_usesVariable_33 ?_
    refine lv_iconst (v := (2 : Int32)) G.1 G.2.1 dX11_usesVariable_34 (by decide) ?_
    refine lv_icmp_ne (tgt := 56) G.1 G.2.1 dX11_usesVariable_35 (by decide) (fun hc35 => ?_) (fun hc35 => ?_)
    · rw [if_neg hc35] at hf
      refine lv_iconst (v := (0 : Int32)) G.1 G.2.1 dX11_usesVariable_56 (by decide) ?_
      exact g_zretR G hr rfl hk hf hw dX11_usesVariable_57
    · rw [if_pos hc35] at hf
      refine lv_aload_n G.1 G.2.1 dX11_usesVariable_38 rfl (lv_at hl 0 rfl) ?_
      refine g_getC G hw C_10 iM_10 28 128 rfl (by decide) rfl fl_X11_57 dX11_usesVariable_39 ?_
      refine lv_iconst (v := (2 : Int32)) G.1 G.2.1 dX11_usesVariable_42 (by decide) ?_
      refine lv_iload_n G.1 G.2.1 dX11_usesVariable_43 rfl (lv_at hl 1 rfl) ?_
      refine lv_imul G.1 G.2.1 dX11_usesVariable_44 ?_
      refine lv_iconst (v := (1 : Int32)) G.1 G.2.1 dX11_usesVariable_45 (by decide) ?_
      refine lv_iadd G.1 G.2.1 dX11_usesVariable_46 ?_
      obtain ⟨j5, hj5, hf⟩ := bd_some hf
      refine g_iald G hw iM_128 (by decide) rfl hj5 dX11_usesVariable_47 ?_
      refine lv_iload_n G.1 G.2.1 dX11_usesVariable_48 rfl (lv_at hl 2 rfl) ?_
      refine lv_icmp_ne (tgt := 56) G.1 G.2.1 dX11_usesVariable_49 (by decide) (fun hc49 => ?_) (fun hc49 => ?_)
      · rw [if_neg hc49] at hf
        refine lv_iconst (v := (0 : Int32)) G.1 G.2.1 dX11_usesVariable_56 (by decide) ?_
        exact g_zretR G hr rfl hk hf hw dX11_usesVariable_57
      · rw [if_pos hc49] at hf
        refine lv_iconst (v := (1 : Int32)) G.1 G.2.1 dX11_usesVariable_52 (by decide) ?_
        refine lv_goto (tgt := 57) G.1 G.2.1 dX11_usesVariable_53 (by decide) ?_
        exact g_zretR G hr rfl hk hf hw dX11_usesVariable_57
  refine lv_icmp_ne (tgt := 24) G.1 G.2.1 dX11_usesVariable_9 (by decide) (fun hc9 => ?_) (fun hc9 => ?_)
  · rw [if_neg hc9] at hf
    exact hj2 () _ _ ls hf hw (lv_sub hl [0, 1, 2] rfl)
  · rw [if_pos hc9] at hf
    refine lv_aload_n G.1 G.2.1 dX11_usesVariable_12 rfl (lv_at hl 0 rfl) ?_
    refine g_getC G hw C_10 iM_10 28 128 rfl (by decide) rfl fl_X11_57 dX11_usesVariable_13 ?_
    refine lv_iconst (v := (2 : Int32)) G.1 G.2.1 dX11_usesVariable_16 (by decide) ?_
    refine lv_iload_n G.1 G.2.1 dX11_usesVariable_17 rfl (lv_at hl 1 rfl) ?_
    refine lv_imul G.1 G.2.1 dX11_usesVariable_18 ?_
    obtain ⟨j3, hj3, hf⟩ := bd_some hf
    refine g_iald G hw iM_128 (by decide) rfl hj3 dX11_usesVariable_19 ?_
    refine lv_iload_n G.1 G.2.1 dX11_usesVariable_20 rfl (lv_at hl 2 rfl) ?_
    refine lv_icmp_eq (tgt := 52) G.1 G.2.1 dX11_usesVariable_21 (by decide) (fun hc21 => ?_) (fun hc21 => ?_)
    · rw [if_pos hc21] at hf
      refine lv_iconst (v := (1 : Int32)) G.1 G.2.1 dX11_usesVariable_52 (by decide) ?_
      refine lv_goto (tgt := 57) G.1 G.2.1 dX11_usesVariable_53 (by decide) ?_
      exact g_zretR G hr rfl hk hf hw dX11_usesVariable_57
    · rw [if_neg hc21] at hf
      exact hj2 () _ _ ls hf hw (lv_sub hl [0, 1, 2] rfl)

set_option maxHeartbeats 4000000 in
set_option maxRecDepth 100000 in
theorem c_M_comesBehind (l : Launch) (D : va_G) (X : va_W) (E : gE) (n : Nat) (a1 : Int32) (a2 : Int32) (g : Mem) (r : Int32) (hf : M_comesBehind n a1 a2 g = some r) : gMet l yX11_comesBehind cX11_comesBehind 4 (some .boolean) 1 22 D X idsM E [.ref (E.1 10 0), .int a1, .int a2] g (some (.int r)) g := by
  rw [M_comesBehind] at hf
  refine gt_code (by decide) (Nat.le_of_ble_eq_true rfl) (fun p en s m below meth c ls G hr hk hw hl => ?_)
  have hl : lv_has ls 4 [(0, .ref (E.1 10 0)), (1, .int a1), (2, .int a2)] := hl
  refine lv_aload_n G.1 G.2.1 dX11_comesBehind_0 rfl (lv_at hl 0 rfl) ?_
  refine lv_iload_n G.1 G.2.1 dX11_comesBehind_1 rfl (lv_at hl 1 rfl) ?_
  refine lv_iload_n G.1 G.2.1 dX11_comesBehind_2 rfl (lv_at hl 2 rfl) ?_
  obtain ⟨z1, hcz1, hf⟩ := bd_some hf
  refine g_callV1 (As := [.int a1, .int a2]) (rest := []) G hw (gA_mono hw.2.2.2.1.1) C_10 iM_10 mv_X11_270 (c_M_usesValue l D X E n a1 a2 g z1 hcz1) hl.1 rfl rfl (Nat.le_of_ble_eq_true rfl) (Nat.le_of_ble_eq_true rfl) (Nat.le_of_ble_eq_true rfl) ⟨Nat.le_refl _, Nat.le_refl _⟩ dX11_comesBehind_3 (fun H locs hw => ?_)
  refine lv_if_eq (tgt := 11) G.1 G.2.1 dX11_comesBehind_6 (by decide) (fun hc6 => ?_) (fun hc6 => ?_)
  · rw [if_pos hc6] at hf
    refine lv_aload_n G.1 G.2.1 dX11_comesBehind_11 rfl (lv_at hl 0 rfl) ?_
    refine g_getC G hw C_10 iM_10 29 129 rfl (by decide) rfl fl_X11_60 dX11_comesBehind_12 ?_
    refine lv_iload_n G.1 G.2.1 dX11_comesBehind_15 rfl (lv_at hl 2 rfl) ?_
    obtain ⟨j2, hj2, hf⟩ := bd_some hf
    refine g_iald G hw iM_129 (by decide) rfl hj2 dX11_comesBehind_16 ?_
    obtain ⟨j3, ej3, hf⟩ := lt9_some hf
    have hj3 : ∀ (_u : Unit) (H : Heap) (locs : List Loc) (ls : Array Slot), j3 _u = some r → GW D X idsM E (gA X idsM E s.heap.size) s g H locs → lv_has ls 4 [(0, .ref (E.1 10 0)), (1, .int a1), (2, .int a2)] → W p l en { frames := 1, cells := 0, slots := 0, locals := 22 } s m [.ref (E.1 10 0), .int a1, .int a2].toArray below meth c H locs 0 0 (MQ below (gQ (some (.int r)) (GP D X idsM E g) (gA X idsM E s.heap.size)) [.ref (E.1 10 0), .int a1, .int a2].toArray s 0 0 (gA X idsM E s.heap.size)) (F0 m 51 ls []) := by
      intro _u H locs ls hf hw hl
      rw [ej3] at hf
      dsimp only at hf
      refine lv_aload_n G.1 G.2.1 dX11_comesBehind_51 rfl (lv_at hl 0 rfl) ?_
      refine g_getC G hw C_10 iM_10 29 129 rfl (by decide) rfl fl_X11_60 dX11_comesBehind_52 ?_
      refine lv_iload_n G.1 G.2.1 dX11_comesBehind_55 rfl (lv_at hl 1 rfl) ?_
      obtain ⟨j8, hj8, hf⟩ := bd_some hf
      refine g_iald G hw iM_129 (by decide) rfl hj8 dX11_comesBehind_56 ?_
      obtain ⟨j9, ej9, hf⟩ := lt9_some hf
      have hj9 : ∀ (_u : Unit) (H : Heap) (locs : List Loc) (ls : Array Slot), j9 _u = some r → GW D X idsM E (gA X idsM E s.heap.size) s g H locs → lv_has ls 4 [(0, .ref (E.1 10 0)), (1, .int a1), (2, .int a2)] → W p l en { frames := 1, cells := 0, slots := 0, locals := 22 } s m [.ref (E.1 10 0), .int a1, .int a2].toArray below meth c H locs 0 0 (MQ below (gQ (some (.int r)) (GP D X idsM E g) (gA X idsM E s.heap.size)) [.ref (E.1 10 0), .int a1, .int a2].toArray s 0 0 (gA X idsM E s.heap.size)) (F0 m 76 ls []) := by
        intro _u H locs ls hf hw hl
        rw [ej9] at hf
        dsimp only at hf
        refine lv_aload_n G.1 G.2.1 dX11_comesBehind_76 rfl (lv_at hl 0 rfl) ?_
        refine g_getC G hw C_10 iM_10 26 126 rfl (by decide) rfl fl_X11_51 dX11_comesBehind_77 ?_
        refine lv_iload_n G.1 G.2.1 dX11_comesBehind_80 rfl (lv_at hl 2 rfl) ?_
        obtain ⟨j12, hj12, hf⟩ := bd_some hf
        refine g_iald G hw iM_126 (by decide) rfl hj12 dX11_comesBehind_81 ?_
        obtain ⟨z13, hcz13, hf⟩ := bd_some hf
        refine g_callS1 (As := [.int (gI g 126 0 j12)]) (rest := []) G hw (gA_mono hw.2.2.2.1.1)  ms_X11_277 (c_M_kindOf l D X E n (gI g 126 0 j12) g z13 hcz13) hl.1 rfl rfl (Nat.le_of_ble_eq_true rfl) (Nat.le_of_ble_eq_true rfl) (Nat.le_of_ble_eq_true rfl) ⟨Nat.le_refl _, Nat.le_refl _⟩ dX11_comesBehind_82 (fun H locs hw => ?_)
        refine lv_iconst (v := (2 : Int32)) G.1 G.2.1 dX11_comesBehind_85 (by decide) ?_
        obtain ⟨j15, ej15, hf⟩ := lt9_some hf
        have hj15 : ∀ (v18 : Int32) (H : Heap) (locs : List Loc) (ls : Array Slot), j15 v18 = some r → GW D X idsM E (gA X idsM E s.heap.size) s g H locs → lv_has ls 4 [(0, .ref (E.1 10 0)), (1, .int a1), (2, .int a2)] → W p l en { frames := 1, cells := 0, slots := 0, locals := 22 } s m [.ref (E.1 10 0), .int a1, .int a2].toArray below meth c H locs 0 0 (MQ below (gQ (some (.int r)) (GP D X idsM E g) (gA X idsM E s.heap.size)) [.ref (E.1 10 0), .int a1, .int a2].toArray s 0 0 (gA X idsM E s.heap.size)) (F0 m 107 ls [.int v18]) := by
          intro v18 H locs ls hf hw hl
          rw [ej15] at hf
          dsimp only at hf
          refine lv_istore_n (lv' := [(3, .int v18), (0, .ref (E.1 10 0)), (1, .int a1), (2, .int a2)]) G.1 G.2.1 dX11_comesBehind_107 rfl hl (by decide) rfl (fun ls hl => ?_)
          refine lv_iload_n G.1 G.2.1 dX11_comesBehind_108 rfl (lv_at hl 0 rfl) ?_
          refine lv_if_eq (tgt := 138) G.1 G.2.1 dX11_comesBehind_109 (by decide) (fun hc109 => ?_) (fun hc109 => ?_)
          · rw [if_pos hc109] at hf
            refine lv_iconst (v := (0 : Int32)) G.1 G.2.1 dX11_comesBehind_138 (by decide) ?_
            exact g_zretR G hr rfl hk hf hw dX11_comesBehind_139
          · rw [if_neg hc109] at hf
            refine lv_aload_n G.1 G.2.1 dX11_comesBehind_112 rfl (lv_at hl 1 rfl) ?_
            refine g_getC G hw C_10 iM_10 26 126 rfl (by decide) rfl fl_X11_51 dX11_comesBehind_113 ?_
            refine lv_iload_n G.1 G.2.1 dX11_comesBehind_116 rfl (lv_at hl 3 rfl) ?_
            obtain ⟨j19, hj19, hf⟩ := bd_some hf
            refine g_iald G hw iM_126 (by decide) rfl hj19 dX11_comesBehind_117 ?_
            refine lv_bipush (v := (6 : Int32)) G.1 G.2.1 dX11_comesBehind_118 (by decide) ?_
            refine lv_icmp_eq (tgt := 134) G.1 G.2.1 dX11_comesBehind_120 (by decide) (fun hc120 => ?_) (fun hc120 => ?_)
            · rw [if_pos hc120] at hf
              refine lv_iconst (v := (1 : Int32)) G.1 G.2.1 dX11_comesBehind_134 (by decide) ?_
              refine lv_goto (tgt := 139) G.1 G.2.1 dX11_comesBehind_135 (by decide) ?_
              exact g_zretR G hr rfl hk hf hw dX11_comesBehind_139
            · rw [if_neg hc120] at hf
              refine lv_aload_n G.1 G.2.1 dX11_comesBehind_123 rfl (lv_at hl 1 rfl) ?_
              refine g_getC G hw C_10 iM_10 26 126 rfl (by decide) rfl fl_X11_51 dX11_comesBehind_124 ?_
              refine lv_iload_n G.1 G.2.1 dX11_comesBehind_127 rfl (lv_at hl 2 rfl) ?_
              obtain ⟨j20, hj20, hf⟩ := bd_some hf
              refine g_iald G hw iM_126 (by decide) rfl hj20 dX11_comesBehind_128 ?_
              refine lv_bipush (v := (6 : Int32)) G.1 G.2.1 dX11_comesBehind_129 (by decide) ?_
              refine lv_icmp_ne (tgt := 138) G.1 G.2.1 dX11_comesBehind_131 (by decide) (fun hc131 => ?_) (fun hc131 => ?_)
              · rw [if_neg hc131] at hf
                refine lv_iconst (v := (0 : Int32)) G.1 G.2.1 dX11_comesBehind_138 (by decide) ?_
                exact g_zretR G hr rfl hk hf hw dX11_comesBehind_139
              · rw [if_pos hc131] at hf
                refine lv_iconst (v := (1 : Int32)) G.1 G.2.1 dX11_comesBehind_134 (by decide) ?_
                refine lv_goto (tgt := 139) G.1 G.2.1 dX11_comesBehind_135 (by decide) ?_
                exact g_zretR G hr rfl hk hf hw dX11_comesBehind_139
        obtain ⟨j14, ej14, hf⟩ := lt9_some hf
        have hj14 : ∀ (_u : Unit) (H : Heap) (locs : List Loc) (ls : Array Slot), j14 _u = some r → GW D X idsM E (gA X idsM E s.heap.size) s g H locs → lv_has ls 4 [(0, .ref (E.1 10 0)), (1, .int a1), (2, .int a2)] → W p l en { frames := 1, cells := 0, slots := 0, locals := 22 } s m [.ref (E.1 10 0), .int a1, .int a2].toArray below meth c H locs 0 0 (MQ below (gQ (some (.int r)) (GP D X idsM E g) (gA X idsM E s.heap.size)) [.ref (E.1 10 0), .int a1, .int a2].toArray s 0 0 (gA X idsM E s.heap.size)) (F0 m 106 ls []) := by
          intro _u H locs ls hf hw hl
          rw [ej14] at hf
          dsimp only at hf
          refine lv_iconst (v := (0 : Int32)) G.1 G.2.1 dX11_comesBehind_106 (by decide) ?_
          exact hj15 (0 : Int32) _ _ ls hf hw (lv_sub hl [0, 1, 2] rfl)
        refine lv_icmp_ne (tgt := 106) G.1 G.2.1 dX11_comesBehind_86 (by decide) (fun hc86 => ?_) (fun hc86 => ?_)
        · rw [if_neg hc86] at hf
          exact hj14 () _ _ ls hf hw (lv_sub hl [0, 1, 2] rfl)
        · rw [if_pos hc86] at hf
          refine lv_aload_n G.1 G.2.1 dX11_comesBehind_89 rfl (lv_at hl 0 rfl) ?_
          refine g_getC G hw C_10 iM_10 26 126 rfl (by decide) rfl fl_X11_51 dX11_comesBehind_90 ?_
          refine lv_iload_n G.1 G.2.1 dX11_comesBehind_93 rfl (lv_at hl 1 rfl) ?_
          obtain ⟨j16, hj16, hf⟩ := bd_some hf
          refine g_iald G hw iM_126 (by decide) rfl hj16 dX11_comesBehind_94 ?_
          obtain ⟨z17, hcz17, hf⟩ := bd_some hf
          refine g_callS1 (As := [.int (gI g 126 0 j16)]) (rest := []) G hw (gA_mono hw.2.2.2.1.1)  ms_X11_277 (c_M_kindOf l D X E n (gI g 126 0 j16) g z17 hcz17) hl.1 rfl rfl (Nat.le_of_ble_eq_true rfl) (Nat.le_of_ble_eq_true rfl) (Nat.le_of_ble_eq_true rfl) ⟨Nat.le_refl _, Nat.le_refl _⟩ dX11_comesBehind_95 (fun H locs hw => ?_)
          refine lv_iconst (v := (2 : Int32)) G.1 G.2.1 dX11_comesBehind_98 (by decide) ?_
          refine lv_icmp_ne (tgt := 106) G.1 G.2.1 dX11_comesBehind_99 (by decide) (fun hc99 => ?_) (fun hc99 => ?_)
          · rw [if_neg hc99] at hf
            exact hj14 () _ _ ls hf hw (lv_sub hl [0, 1, 2] rfl)
          · rw [if_pos hc99] at hf
            refine lv_iconst (v := (1 : Int32)) G.1 G.2.1 dX11_comesBehind_102 (by decide) ?_
            refine lv_goto (tgt := 107) G.1 G.2.1 dX11_comesBehind_103 (by decide) ?_
            exact hj15 (1 : Int32) _ _ ls hf hw (lv_sub hl [0, 1, 2] rfl)
      refine lv_if_lt (tgt := 76) G.1 G.2.1 dX11_comesBehind_57 (by decide) (fun hc57 => ?_) (fun hc57 => ?_)
      · rw [if_pos hc57] at hf
        exact hj9 () _ _ ls hf hw (lv_sub hl [0, 1, 2] rfl)
      · rw [if_neg hc57] at hf
        refine lv_aload_n G.1 G.2.1 dX11_comesBehind_60 rfl (lv_at hl 0 rfl) ?_
        refine lv_iload_n G.1 G.2.1 dX11_comesBehind_61 rfl (lv_at hl 2 rfl) ?_
        refine lv_aload_n G.1 G.2.1 dX11_comesBehind_62 rfl (lv_at hl 0 rfl) ?_
        refine g_getC G hw C_10 iM_10 29 129 rfl (by decide) rfl fl_X11_60 dX11_comesBehind_63 ?_
        refine lv_iload_n G.1 G.2.1 dX11_comesBehind_66 rfl (lv_at hl 1 rfl) ?_
        obtain ⟨j10, hj10, hf⟩ := bd_some hf
        refine g_iald G hw iM_129 (by decide) rfl hj10 dX11_comesBehind_67 ?_
        obtain ⟨z11, hcz11, hf⟩ := bd_some hf
        refine g_callV1 (As := [.int a2, .int (gI g 129 0 j10)]) (rest := []) G hw (gA_mono hw.2.2.2.1.1) C_10 iM_10 mv_X11_274 (c_M_usesVariable l D X E n a2 (gI g 129 0 j10) g z11 hcz11) hl.1 rfl rfl (Nat.le_of_ble_eq_true rfl) (Nat.le_of_ble_eq_true rfl) (Nat.le_of_ble_eq_true rfl) ⟨Nat.le_refl _, Nat.le_refl _⟩ dX11_comesBehind_68 (fun H locs hw => ?_)
        refine lv_if_eq (tgt := 76) G.1 G.2.1 dX11_comesBehind_71 (by decide) (fun hc71 => ?_) (fun hc71 => ?_)
        · rw [if_pos hc71] at hf
          exact hj9 () _ _ ls hf hw (lv_sub hl [0, 1, 2] rfl)
        · rw [if_neg hc71] at hf
          refine lv_iconst (v := (1 : Int32)) G.1 G.2.1 dX11_comesBehind_74 (by decide) ?_
          exact g_zretR G hr rfl hk hf hw dX11_comesBehind_75
    refine lv_if_lt (tgt := 51) G.1 G.2.1 dX11_comesBehind_17 (by decide) (fun hc17 => ?_) (fun hc17 => ?_)
    · rw [if_pos hc17] at hf
      exact hj3 () _ _ ls hf hw (lv_sub hl [0, 1, 2] rfl)
    · rw [if_neg hc17] at hf
      refine lv_aload_n G.1 G.2.1 dX11_comesBehind_20 rfl (lv_at hl 0 rfl) ?_
      refine lv_iload_n G.1 G.2.1 dX11_comesBehind_21 rfl (lv_at hl 1 rfl) ?_
      refine lv_aload_n G.1 G.2.1 dX11_comesBehind_22 rfl (lv_at hl 0 rfl) ?_
      refine g_getC G hw C_10 iM_10 29 129 rfl (by decide) rfl fl_X11_60 dX11_comesBehind_23 ?_
      refine lv_iload_n G.1 G.2.1 dX11_comesBehind_26 rfl (lv_at hl 2 rfl) ?_
      obtain ⟨j4, hj4, hf⟩ := bd_some hf
      refine g_iald G hw iM_129 (by decide) rfl hj4 dX11_comesBehind_27 ?_
      obtain ⟨z5, hcz5, hf⟩ := bd_some hf
      refine g_callV1 (As := [.int a1, .int (gI g 129 0 j4)]) (rest := []) G hw (gA_mono hw.2.2.2.1.1) C_10 iM_10 mv_X11_274 (c_M_usesVariable l D X E n a1 (gI g 129 0 j4) g z5 hcz5) hl.1 rfl rfl (Nat.le_of_ble_eq_true rfl) (Nat.le_of_ble_eq_true rfl) (Nat.le_of_ble_eq_true rfl) ⟨Nat.le_refl _, Nat.le_refl _⟩ dX11_comesBehind_28 (fun H locs hw => ?_)
      refine lv_if_ne (tgt := 49) G.1 G.2.1 dX11_comesBehind_31 (by decide) (fun hc31 => ?_) (fun hc31 => ?_)
      · rw [if_neg hc31] at hf
        refine lv_iconst (v := (1 : Int32)) G.1 G.2.1 dX11_comesBehind_49 (by decide) ?_
        exact g_zretR G hr rfl hk hf hw dX11_comesBehind_50
      · rw [if_pos hc31] at hf
        refine lv_aload_n G.1 G.2.1 dX11_comesBehind_34 rfl (lv_at hl 0 rfl) ?_
        refine g_getC G hw C_10 iM_10 29 129 rfl (by decide) rfl fl_X11_60 dX11_comesBehind_35 ?_
        refine lv_iload_n G.1 G.2.1 dX11_comesBehind_38 rfl (lv_at hl 1 rfl) ?_
        obtain ⟨j6, hj6, hf⟩ := bd_some hf
        refine g_iald G hw iM_129 (by decide) rfl hj6 dX11_comesBehind_39 ?_
        refine lv_aload_n G.1 G.2.1 dX11_comesBehind_40 rfl (lv_at hl 0 rfl) ?_
        refine g_getC G hw C_10 iM_10 29 129 rfl (by decide) rfl fl_X11_60 dX11_comesBehind_41 ?_
        refine lv_iload_n G.1 G.2.1 dX11_comesBehind_44 rfl (lv_at hl 2 rfl) ?_
        obtain ⟨j7, hj7, hf⟩ := bd_some hf
        refine g_iald G hw iM_129 (by decide) rfl hj7 dX11_comesBehind_45 ?_
        refine lv_icmp_ne (tgt := 51) G.1 G.2.1 dX11_comesBehind_46 (by decide) (fun hc46 => ?_) (fun hc46 => ?_)
        · rw [if_neg hc46] at hf
          exact hj3 () _ _ ls hf hw (lv_sub hl [0, 1, 2] rfl)
        · rw [if_pos hc46] at hf
          refine lv_iconst (v := (1 : Int32)) G.1 G.2.1 dX11_comesBehind_49 (by decide) ?_
          exact g_zretR G hr rfl hk hf hw dX11_comesBehind_50
  · rw [if_neg hc6] at hf
    refine lv_iconst (v := (1 : Int32)) G.1 G.2.1 dX11_comesBehind_9 (by decide) ?_
    exact g_zretR G hr rfl hk hf hw dX11_comesBehind_10

set_option maxHeartbeats 4000000 in
set_option maxRecDepth 100000 in
theorem c_M_isReady (l : Launch) (D : va_G) (X : va_W) (E : gE) (n : Nat) (a1 : Int32) (a2 : Int32) (a3 : Int32) (g : Mem) (r : Int32) (hf : M_isReady n a1 a2 a3 g = some r) : gMet l yX11_isReady cX11_isReady 5 (some .boolean) 3 62 D X idsM E [.ref (E.1 10 0), .int a1, .int a2, .int a3] g (some (.int r)) g := by
  rw [M_isReady] at hf
  refine gt_code (by decide) (Nat.le_of_ble_eq_true rfl) (fun p en s m below meth c ls G hr hk hw hl => ?_)
  have hl : lv_has ls 5 [(0, .ref (E.1 10 0)), (1, .int a1), (2, .int a2), (3, .int a3)] := hl
  refine lv_aload_n G.1 G.2.1 dX11_isReady_0 rfl (lv_at hl 0 rfl) ?_
  refine lv_iload_n G.1 G.2.1 dX11_isReady_1 rfl (lv_at hl 2 rfl) ?_
  obtain ⟨z1, hcz1, hf⟩ := bd_some hf
  refine g_callV1 (As := [.int a2]) (rest := []) G hw (gA_mono hw.2.2.2.1.1) C_10 iM_10 mv_X11_283 (c_M_first l D X E n a2 g z1 hcz1) hl.1 rfl rfl (Nat.le_of_ble_eq_true rfl) (Nat.le_of_ble_eq_true rfl) (Nat.le_of_ble_eq_true rfl) ⟨Nat.le_refl _, Nat.le_refl _⟩ dX11_isReady_2 (fun H locs hw => ?_)
  refine lv_istore (lv' := [(4, .int z1), (0, .ref (E.1 10 0)), (1, .int a1), (2, .int a2), (3, .int a3)]) G.1 G.2.1 dX11_isReady_5 hl (by decide) rfl (fun ls hl => ?_)
  have hL7 : ∀ (k2 : Nat) (x3 : Int32) (res2 : (Unit) ⊕ (Unit)) (H : Heap) (locs : List Loc) (ls : Array Slot), M_isReady_L7 n a1 a3 g k2 x3 = some res2 → GW D X idsM E (gA X idsM E s.heap.size) s g H locs → lv_has ls 5 [(0, .ref (E.1 10 0)), (1, .int a1), (3, .int a3), (4, .int x3)] → (∀ t : Unit, res2 = .inl t → ∀ (H : Heap) (locs : List Loc) (ls : Array Slot), GW D X idsM E (gA X idsM E s.heap.size) s g H locs → lv_has ls 5 [] → W p l en { frames := 3, cells := 0, slots := 0, locals := 62 } s m [.ref (E.1 10 0), .int a1, .int a2, .int a3].toArray below meth c H locs 0 0 (MQ below (gQ (some (.int r)) (GP D X idsM E g) (gA X idsM E s.heap.size)) [.ref (E.1 10 0), .int a1, .int a2, .int a3].toArray s 0 0 (gA X idsM E s.heap.size)) (F0 m 43 ls [])) → (∀ t : Unit, res2 = .inr t → ∀ (H : Heap) (locs : List Loc) (ls : Array Slot), GW D X idsM E (gA X idsM E s.heap.size) s g H locs → lv_has ls 5 [] → W p l en { frames := 3, cells := 0, slots := 0, locals := 62 } s m [.ref (E.1 10 0), .int a1, .int a2, .int a3].toArray below meth c H locs 0 0 (MQ below (gQ (some (.int r)) (GP D X idsM E g) (gA X idsM E s.heap.size)) [.ref (E.1 10 0), .int a1, .int a2, .int a3].toArray s 0 0 (gA X idsM E s.heap.size)) (F0 m 51 ls [])) → W p l en { frames := 3, cells := 0, slots := 0, locals := 62 } s m [.ref (E.1 10 0), .int a1, .int a2, .int a3].toArray below meth c H locs 0 0 (MQ below (gQ (some (.int r)) (GP D X idsM E g) (gA X idsM E s.heap.size)) [.ref (E.1 10 0), .int a1, .int a2, .int a3].toArray s 0 0 (gA X idsM E s.heap.size)) (F0 m 7 ls []) := by
    intro k2
    induction k2 with
    | zero => intro x3 res2 H locs ls hf; rw [M_isReady_L7] at hf; cases hf
    | succ k2 ih2 =>
      intro x3 res2 H locs ls hf hw hl hk2_0 hk2_1
      rw [M_isReady_L7] at hf
      refine lv_iload G.1 G.2.1 dX11_isReady_7 (lv_at hl 3 rfl) ?_
      refine lv_iload_n G.1 G.2.1 dX11_isReady_9 rfl (lv_at hl 1 rfl) ?_
      refine lv_icmp_ge (tgt := 51) G.1 G.2.1 dX11_isReady_10 (by decide) (fun hc10 => ?_) (fun hc10 => ?_)
      · rw [if_pos hc10] at hf
        exact hk2_1 _ (Option.some.inj hf).symm _ _ ls hw (lv_sub hl [] rfl)
      · rw [if_neg hc10] at hf
        refine lv_aload_n G.1 G.2.1 dX11_isReady_13 rfl (lv_at hl 0 rfl) ?_
        refine lv_iload_n G.1 G.2.1 dX11_isReady_14 rfl (lv_at hl 1 rfl) ?_
        refine lv_iload G.1 G.2.1 dX11_isReady_15 (lv_at hl 3 rfl) ?_
        obtain ⟨z4, hcz4, hf⟩ := bd_some hf
        refine g_callV1 (As := [.int a1, .int x3]) (rest := []) G hw (gA_mono hw.2.2.2.1.1) C_10 iM_10 mv_X11_286 (c_M_comesBehind l D X E n a1 x3 g z4 hcz4) hl.1 rfl rfl (Nat.le_of_ble_eq_true rfl) (Nat.le_of_ble_eq_true rfl) (Nat.le_of_ble_eq_true rfl) ⟨Nat.le_refl _, Nat.le_refl _⟩ dX11_isReady_17 (fun H locs hw => ?_)
        refine lv_if_eq (tgt := 45) G.1 G.2.1 dX11_isReady_20 (by decide) (fun hc20 => ?_) (fun hc20 => ?_)
        · rw [if_pos hc20] at hf
          refine lv_iinc (v := x3 + 1) (lv' := [(4, .int (x3 + 1)), (0, .ref (E.1 10 0)), (1, .int a1), (3, .int a3)]) G.1 G.2.1 dX11_isReady_45 hl (k := 3) rfl rfl (by decide) rfl (fun ls hl => ?_)
          refine lv_goto (tgt := 7) G.1 G.2.1 dX11_isReady_48 (by decide) ?_
          exact ih2 (x3 + 1) _ _ _ ls hf hw (lv_sub hl [1, 2, 3, 0] rfl) hk2_0 hk2_1
        · rw [if_neg hc20] at hf
          refine lv_aload_n G.1 G.2.1 dX11_isReady_23 rfl (lv_at hl 0 rfl) ?_
          refine g_getC G hw C_10 iM_10 40 140 rfl (by decide) rfl fl_X11_90 dX11_isReady_24 ?_
          refine lv_iload G.1 G.2.1 dX11_isReady_27 (lv_at hl 3 rfl) ?_
          obtain ⟨j5, hj5, hf⟩ := bd_some hf
          refine g_iald G hw iM_140 (by decide) rfl hj5 dX11_isReady_29 ?_
          refine lv_if_lt (tgt := 43) G.1 G.2.1 dX11_isReady_30 (by decide) (fun hc30 => ?_) (fun hc30 => ?_)
          · rw [if_pos hc30] at hf
            exact hk2_0 _ (Option.some.inj hf).symm _ _ ls hw (lv_sub hl [] rfl)
          · rw [if_neg hc30] at hf
            refine lv_aload_n G.1 G.2.1 dX11_isReady_33 rfl (lv_at hl 0 rfl) ?_
            refine lv_iload G.1 G.2.1 dX11_isReady_34 (lv_at hl 3 rfl) ?_
            obtain ⟨z6, hcz6, hf⟩ := bd_some hf
            refine g_callV1 (As := [.int x3]) (rest := []) G hw (gA_mono hw.2.2.2.1.1) C_10 iM_10 mv_X11_289 (c_M_endOf l D X E n x3 g z6 hcz6) hl.1 rfl rfl (Nat.le_of_ble_eq_true rfl) (Nat.le_of_ble_eq_true rfl) (Nat.le_of_ble_eq_true rfl) ⟨Nat.le_refl _, Nat.le_refl _⟩ dX11_isReady_36 (fun H locs hw => ?_)
            refine lv_iload_n G.1 G.2.1 dX11_isReady_39 rfl (lv_at hl 2 rfl) ?_
            refine lv_icmp_le (tgt := 45) G.1 G.2.1 dX11_isReady_40 (by decide) (fun hc40 => ?_) (fun hc40 => ?_)
            · rw [if_pos hc40] at hf
              refine lv_iinc (v := x3 + 1) (lv' := [(4, .int (x3 + 1)), (0, .ref (E.1 10 0)), (1, .int a1), (3, .int a3)]) G.1 G.2.1 dX11_isReady_45 hl (k := 3) rfl rfl (by decide) rfl (fun ls hl => ?_)
              refine lv_goto (tgt := 7) G.1 G.2.1 dX11_isReady_48 (by decide) ?_
              exact ih2 (x3 + 1) _ _ _ ls hf hw (lv_sub hl [1, 2, 3, 0] rfl) hk2_0 hk2_1
            · rw [if_neg hc40] at hf
              exact hk2_0 _ (Option.some.inj hf).symm _ _ ls hw (lv_sub hl [] rfl)
  obtain ⟨r7, hr7, hf⟩ := bd_some hf
  refine hL7 n z1 r7 _ _ ls hr7 hw (lv_sub hl [1, 2, 4, 0] rfl) ?_ ?_
  · intro t8 htt8 H locs ls hw hl
    rw [htt8] at hf
    dsimp only at hf
    refine lv_iconst (v := (0 : Int32)) G.1 G.2.1 dX11_isReady_43 (by decide) ?_
    exact g_zretR G hr rfl hk hf hw dX11_isReady_44
  · intro t9 htt9 H locs ls hw hl
    rw [htt9] at hf
    dsimp only at hf
    refine lv_iconst (v := (1 : Int32)) G.1 G.2.1 dX11_isReady_51 (by decide) ?_
    exact g_zretR G hr rfl hk hf hw dX11_isReady_52

set_option maxHeartbeats 4000000 in
set_option maxRecDepth 100000 in
theorem c_M_beginOne (l : Launch) (D : va_G) (X : va_W) (E : gE) (n : Nat) (a1 : Int32) (a2 : Int32) (g : Mem) (r : Int32) (g' : Mem) (hf : M_beginOne n a1 a2 g = some (r, g')) : gMet l yX11_beginOne cX11_beginOne 9 (some .boolean) 4 92 D X idsM E [.ref (E.1 10 0), .int a1, .int a2] g (some (.int r)) g' := by
  rw [M_beginOne] at hf
  refine gt_code (by decide) (Nat.le_of_ble_eq_true rfl) (fun p en s m below meth c ls G hr hk hw hl => ?_)
  have hl : lv_has ls 9 [(0, .ref (E.1 10 0)), (1, .int a1), (2, .int a2)] := hl
  refine lv_iconst (v := (-1 : Int32)) G.1 G.2.1 dX11_beginOne_0 (by decide) ?_
  refine lv_istore_n (lv' := [(3, .int (-1 : Int32)), (0, .ref (E.1 10 0)), (1, .int a1), (2, .int a2)]) G.1 G.2.1 dX11_beginOne_1 rfl hl (by decide) rfl (fun ls hl => ?_)
  refine lv_iconst (v := (-1 : Int32)) G.1 G.2.1 dX11_beginOne_2 (by decide) ?_
  refine lv_istore (lv' := [(4, .int (-1 : Int32)), (3, .int (-1 : Int32)), (0, .ref (E.1 10 0)), (1, .int a1), (2, .int a2)]) G.1 G.2.1 dX11_beginOne_3 hl (by decide) rfl (fun ls hl => ?_)
  refine lv_aload_n G.1 G.2.1 dX11_beginOne_5 rfl (lv_at hl 2 rfl) ?_
  refine lv_iload_n G.1 G.2.1 dX11_beginOne_6 rfl (lv_at hl 3 rfl) ?_
  obtain ⟨z1, hcz1, hf⟩ := bd_some hf
  refine g_callV1 (As := [.int a1]) (rest := []) G hw (gA_mono hw.2.2.2.1.1) C_10 iM_10 mv_X11_292 (c_M_behindAll l D X E n a1 g z1 hcz1) hl.1 rfl rfl (Nat.le_of_ble_eq_true rfl) (Nat.le_of_ble_eq_true rfl) (Nat.le_of_ble_eq_true rfl) ⟨Nat.le_refl _, Nat.le_refl _⟩ dX11_beginOne_7 (fun H locs hw => ?_)
  refine lv_istore (lv' := [(5, .int z1), (4, .int (-1 : Int32)), (3, .int (-1 : Int32)), (0, .ref (E.1 10 0)), (1, .int a1), (2, .int a2)]) G.1 G.2.1 dX11_beginOne_10 hl (by decide) rfl (fun ls hl => ?_)
  refine lv_aload_n G.1 G.2.1 dX11_beginOne_12 rfl (lv_at hl 3 rfl) ?_
  refine lv_iload_n G.1 G.2.1 dX11_beginOne_13 rfl (lv_at hl 4 rfl) ?_
  obtain ⟨z2, hcz2, hf⟩ := bd_some hf
  refine g_callV1 (As := [.int a1]) (rest := []) G hw (gA_mono hw.2.2.2.1.1) C_10 iM_10 mv_X11_283 (c_M_first l D X E n a1 g z2 hcz2) hl.1 rfl rfl (Nat.le_of_ble_eq_true rfl) (Nat.le_of_ble_eq_true rfl) (Nat.le_of_ble_eq_true rfl) ⟨Nat.le_refl _, Nat.le_refl _⟩ dX11_beginOne_14 (fun H locs hw => ?_)
  refine lv_istore (lv' := [(6, .int z2), (5, .int z1), (4, .int (-1 : Int32)), (3, .int (-1 : Int32)), (0, .ref (E.1 10 0)), (1, .int a1), (2, .int a2)]) G.1 G.2.1 dX11_beginOne_17 hl (by decide) rfl (fun ls hl => ?_)
  have hL19 : ∀ (k3 : Nat) (x4 : Int32) (x5 : Int32) (x6 : Int32) (res3 : Int32 × Int32) (H : Heap) (locs : List Loc) (ls : Array Slot), M_beginOne_L19 n a1 a2 g z1 k3 x4 x5 x6 = some res3 → GW D X idsM E (gA X idsM E s.heap.size) s g H locs → lv_has ls 9 [(0, .ref (E.1 10 0)), (1, .int a1), (2, .int a2), (3, .int x4), (4, .int x5), (5, .int z1), (6, .int x6)] → (∀ (H : Heap) (locs : List Loc) (ls : Array Slot), GW D X idsM E (gA X idsM E s.heap.size) s g H locs → lv_has ls 9 [(0, .ref (E.1 10 0)), (2, .int a2), (3, .int res3.1), (4, .int res3.2)] → W p l en { frames := 4, cells := 0, slots := 0, locals := 92 } s m [.ref (E.1 10 0), .int a1, .int a2].toArray below meth c H locs 0 0 (MQ below (gQ (some (.int r)) (GP D X idsM E g') (gA X idsM E s.heap.size)) [.ref (E.1 10 0), .int a1, .int a2].toArray s 0 0 (gA X idsM E s.heap.size)) (F0 m 107 ls [])) → W p l en { frames := 4, cells := 0, slots := 0, locals := 92 } s m [.ref (E.1 10 0), .int a1, .int a2].toArray below meth c H locs 0 0 (MQ below (gQ (some (.int r)) (GP D X idsM E g') (gA X idsM E s.heap.size)) [.ref (E.1 10 0), .int a1, .int a2].toArray s 0 0 (gA X idsM E s.heap.size)) (F0 m 19 ls []) := by
    intro k3
    induction k3 with
    | zero => intro x4 x5 x6 res3 H locs ls hf; rw [M_beginOne_L19] at hf; cases hf
    | succ k3 ih3 =>
      intro x4 x5 x6 res3 H locs ls hf hw hl hk3_0
      rw [M_beginOne_L19] at hf
      refine lv_iload G.1 G.2.1 dX11_beginOne_19 (lv_at hl 6 rfl) ?_
      refine lv_iload G.1 G.2.1 dX11_beginOne_21 (lv_at hl 5 rfl) ?_
      refine lv_icmp_ge (tgt := 107) G.1 G.2.1 dX11_beginOne_23 (by decide) (fun hc23 => ?_) (fun hc23 => ?_)
      · rw [if_pos hc23] at hf
        obtain rfl := Option.some.inj hf
        exact hk3_0 _ _ ls hw (lv_sub hl [0, 2, 3, 4] rfl)
      · rw [if_neg hc23] at hf
        refine lv_iload_n G.1 G.2.1 dX11_beginOne_26 rfl (lv_at hl 3 rfl) ?_
        obtain ⟨j8, ej8, hf⟩ := lt9_some hf
        have hj8 : ∀ (v11 : Int32) (H : Heap) (locs : List Loc) (ls : Array Slot), j8 v11 = some res3 → GW D X idsM E (gA X idsM E s.heap.size) s g H locs → lv_has ls 9 [(0, .ref (E.1 10 0)), (1, .int a1), (2, .int a2), (3, .int x4), (4, .int x5), (5, .int z1), (6, .int x6)] → W p l en { frames := 4, cells := 0, slots := 0, locals := 92 } s m [.ref (E.1 10 0), .int a1, .int a2].toArray below meth c H locs 0 0 (MQ below (gQ (some (.int r)) (GP D X idsM E g') (gA X idsM E s.heap.size)) [.ref (E.1 10 0), .int a1, .int a2].toArray s 0 0 (gA X idsM E s.heap.size)) (F0 m 51 ls [.int v11]) := by
          intro v11 H locs ls hf hw hl
          rw [ej8] at hf
          dsimp only at hf
          refine lv_istore (lv' := [(7, .int v11), (0, .ref (E.1 10 0)), (1, .int a1), (2, .int a2), (3, .int x4), (4, .int x5), (5, .int z1), (6, .int x6)]) G.1 G.2.1 dX11_beginOne_51 hl (by decide) rfl (fun ls hl => ?_)
          refine lv_aload_n G.1 G.2.1 dX11_beginOne_53 rfl (lv_at hl 1 rfl) ?_
          refine g_getC G hw C_10 iM_10 40 140 rfl (by decide) rfl fl_X11_90 dX11_beginOne_54 ?_
          refine lv_iload G.1 G.2.1 dX11_beginOne_57 (lv_at hl 7 rfl) ?_
          obtain ⟨j12, hj12, hf⟩ := bd_some hf
          refine g_iald G hw iM_140 (by decide) rfl hj12 dX11_beginOne_59 ?_
          refine lv_if_ge (tgt := 101) G.1 G.2.1 dX11_beginOne_60 (by decide) (fun hc60 => ?_) (fun hc60 => ?_)
          · rw [if_pos hc60] at hf
            refine lv_iinc (v := x6 + 1) (lv' := [(6, .int (x6 + 1)), (7, .int v11), (0, .ref (E.1 10 0)), (1, .int a1), (2, .int a2), (3, .int x4), (4, .int x5), (5, .int z1)]) G.1 G.2.1 dX11_beginOne_101 hl (k := 7) rfl rfl (by decide) rfl (fun ls hl => ?_)
            refine lv_goto (tgt := 19) G.1 G.2.1 dX11_beginOne_104 (by decide) ?_
            exact ih3 x4 x5 (x6 + 1) _ _ _ ls hf hw (lv_sub hl [2, 3, 4, 5, 6, 7, 0] rfl) hk3_0
          · rw [if_neg hc60] at hf
            refine lv_iload G.1 G.2.1 dX11_beginOne_63 (lv_at hl 0 rfl) ?_
            refine lv_if_eq (tgt := 101) G.1 G.2.1 dX11_beginOne_65 (by decide) (fun hc65 => ?_) (fun hc65 => ?_)
            · rw [if_pos hc65] at hf
              refine lv_iinc (v := x6 + 1) (lv' := [(6, .int (x6 + 1)), (7, .int v11), (0, .ref (E.1 10 0)), (1, .int a1), (2, .int a2), (3, .int x4), (4, .int x5), (5, .int z1)]) G.1 G.2.1 dX11_beginOne_101 hl (k := 7) rfl rfl (by decide) rfl (fun ls hl => ?_)
              refine lv_goto (tgt := 19) G.1 G.2.1 dX11_beginOne_104 (by decide) ?_
              exact ih3 x4 x5 (x6 + 1) _ _ _ ls hf hw (lv_sub hl [2, 3, 4, 5, 6, 7, 0] rfl) hk3_0
            · rw [if_neg hc65] at hf
              refine lv_aload_n G.1 G.2.1 dX11_beginOne_68 rfl (lv_at hl 1 rfl) ?_
              refine lv_iload G.1 G.2.1 dX11_beginOne_69 (lv_at hl 7 rfl) ?_
              refine lv_iload_n G.1 G.2.1 dX11_beginOne_71 rfl (lv_at hl 2 rfl) ?_
              refine lv_iload_n G.1 G.2.1 dX11_beginOne_72 rfl (lv_at hl 3 rfl) ?_
              obtain ⟨z13, hcz13, hf⟩ := bd_some hf
              refine g_callV1 (As := [.int x6, .int a1, .int a2]) (rest := []) G hw (gA_mono hw.2.2.2.1.1) C_10 iM_10 mv_X11_295 (c_M_isReady l D X E n x6 a1 a2 g z13 hcz13) hl.1 rfl rfl (Nat.le_of_ble_eq_true rfl) (Nat.le_of_ble_eq_true rfl) (Nat.le_of_ble_eq_true rfl) ⟨Nat.le_refl _, Nat.le_refl _⟩ dX11_beginOne_73 (fun H locs hw => ?_)
              refine lv_if_eq (tgt := 101) G.1 G.2.1 dX11_beginOne_76 (by decide) (fun hc76 => ?_) (fun hc76 => ?_)
              · rw [if_pos hc76] at hf
                refine lv_iinc (v := x6 + 1) (lv' := [(6, .int (x6 + 1)), (7, .int v11), (0, .ref (E.1 10 0)), (1, .int a1), (2, .int a2), (3, .int x4), (4, .int x5), (5, .int z1)]) G.1 G.2.1 dX11_beginOne_101 hl (k := 7) rfl rfl (by decide) rfl (fun ls hl => ?_)
                refine lv_goto (tgt := 19) G.1 G.2.1 dX11_beginOne_104 (by decide) ?_
                exact ih3 x4 x5 (x6 + 1) _ _ _ ls hf hw (lv_sub hl [2, 3, 4, 5, 6, 7, 0] rfl) hk3_0
              · rw [if_neg hc76] at hf
                refine lv_aload_n G.1 G.2.1 dX11_beginOne_79 rfl (lv_at hl 1 rfl) ?_
                refine lv_iload G.1 G.2.1 dX11_beginOne_80 (lv_at hl 7 rfl) ?_
                refine lv_iload_n G.1 G.2.1 dX11_beginOne_82 rfl (lv_at hl 2 rfl) ?_
                refine lv_iload_n G.1 G.2.1 dX11_beginOne_83 rfl (lv_at hl 3 rfl) ?_
                obtain ⟨z14, hcz14, hf⟩ := bd_some hf
                refine g_callV1 (As := [.int x6, .int a1, .int a2]) (rest := []) G hw (gA_mono hw.2.2.2.1.1) C_10 iM_10 mv_X11_299 (c_M_freeUnit l D X E n x6 a1 a2 g z14 hcz14) hl.1 rfl rfl (Nat.le_of_ble_eq_true rfl) (Nat.le_of_ble_eq_true rfl) (Nat.le_of_ble_eq_true rfl) ⟨Nat.le_refl _, Nat.le_refl _⟩ dX11_beginOne_84 (fun H locs hw => ?_)
                refine lv_istore (lv' := [(8, .int z14), (7, .int v11), (0, .ref (E.1 10 0)), (1, .int a1), (2, .int a2), (3, .int x4), (4, .int x5), (5, .int z1), (6, .int x6)]) G.1 G.2.1 dX11_beginOne_87 hl (by decide) rfl (fun ls hl => ?_)
                refine lv_iload G.1 G.2.1 dX11_beginOne_89 (lv_at hl 0 rfl) ?_
                refine lv_if_lt (tgt := 101) G.1 G.2.1 dX11_beginOne_91 (by decide) (fun hc91 => ?_) (fun hc91 => ?_)
                · rw [if_pos hc91] at hf
                  refine lv_iinc (v := x6 + 1) (lv' := [(6, .int (x6 + 1)), (8, .int z14), (7, .int v11), (0, .ref (E.1 10 0)), (1, .int a1), (2, .int a2), (3, .int x4), (4, .int x5), (5, .int z1)]) G.1 G.2.1 dX11_beginOne_101 hl (k := 8) rfl rfl (by decide) rfl (fun ls hl => ?_)
                  refine lv_goto (tgt := 19) G.1 G.2.1 dX11_beginOne_104 (by decide) ?_
                  exact ih3 x4 x5 (x6 + 1) _ _ _ ls hf hw (lv_sub hl [3, 4, 5, 6, 7, 8, 0] rfl) hk3_0
                · rw [if_neg hc91] at hf
                  refine lv_iload G.1 G.2.1 dX11_beginOne_94 (lv_at hl 8 rfl) ?_
                  refine lv_istore_n (lv' := [(3, .int x6), (8, .int z14), (7, .int v11), (0, .ref (E.1 10 0)), (1, .int a1), (2, .int a2), (4, .int x5), (5, .int z1), (6, .int x6)]) G.1 G.2.1 dX11_beginOne_96 rfl hl (by decide) rfl (fun ls hl => ?_)
                  refine lv_iload G.1 G.2.1 dX11_beginOne_97 (lv_at hl 1 rfl) ?_
                  refine lv_istore (lv' := [(4, .int z14), (3, .int x6), (8, .int z14), (7, .int v11), (0, .ref (E.1 10 0)), (1, .int a1), (2, .int a2), (5, .int z1), (6, .int x6)]) G.1 G.2.1 dX11_beginOne_99 hl (by decide) rfl (fun ls hl => ?_)
                  refine lv_iinc (v := x6 + 1) (lv' := [(6, .int (x6 + 1)), (4, .int z14), (3, .int x6), (8, .int z14), (7, .int v11), (0, .ref (E.1 10 0)), (1, .int a1), (2, .int a2), (5, .int z1)]) G.1 G.2.1 dX11_beginOne_101 hl (k := 8) rfl rfl (by decide) rfl (fun ls hl => ?_)
                  refine lv_goto (tgt := 19) G.1 G.2.1 dX11_beginOne_104 (by decide) ?_
                  exact ih3 x6 z14 (x6 + 1) _ _ _ ls hf hw (lv_sub hl [5, 6, 7, 2, 1, 8, 0] rfl) hk3_0
        obtain ⟨j7, ej7, hf⟩ := lt9_some hf
        have hj7 : ∀ (_u : Unit) (H : Heap) (locs : List Loc) (ls : Array Slot), j7 _u = some res3 → GW D X idsM E (gA X idsM E s.heap.size) s g H locs → lv_has ls 9 [(0, .ref (E.1 10 0)), (1, .int a1), (2, .int a2), (3, .int x4), (4, .int x5), (5, .int z1), (6, .int x6)] → W p l en { frames := 4, cells := 0, slots := 0, locals := 92 } s m [.ref (E.1 10 0), .int a1, .int a2].toArray below meth c H locs 0 0 (MQ below (gQ (some (.int r)) (GP D X idsM E g') (gA X idsM E s.heap.size)) [.ref (E.1 10 0), .int a1, .int a2].toArray s 0 0 (gA X idsM E s.heap.size)) (F0 m 46 ls []) := by
          intro _u H locs ls hf hw hl
          rw [ej7] at hf
          dsimp only at hf
          refine lv_iconst (v := (1 : Int32)) G.1 G.2.1 dX11_beginOne_46 (by decide) ?_
          refine lv_goto (tgt := 51) G.1 G.2.1 dX11_beginOne_47 (by decide) ?_
          exact hj8 (1 : Int32) _ _ ls hf hw (lv_sub hl [0, 1, 2, 3, 4, 5, 6] rfl)
        refine lv_if_lt (tgt := 46) G.1 G.2.1 dX11_beginOne_27 (by decide) (fun hc27 => ?_) (fun hc27 => ?_)
        · rw [if_pos hc27] at hf
          exact hj7 () _ _ ls hf hw (lv_sub hl [0, 1, 2, 3, 4, 5, 6] rfl)
        · rw [if_neg hc27] at hf
          refine lv_aload_n G.1 G.2.1 dX11_beginOne_30 rfl (lv_at hl 0 rfl) ?_
          refine g_getC G hw C_10 iM_10 39 139 rfl (by decide) rfl fl_X11_87 dX11_beginOne_31 ?_
          refine lv_iload G.1 G.2.1 dX11_beginOne_34 (lv_at hl 6 rfl) ?_
          obtain ⟨j9, hj9, hf⟩ := bd_some hf
          refine g_iald G hw iM_139 (by decide) rfl hj9 dX11_beginOne_36 ?_
          refine lv_aload_n G.1 G.2.1 dX11_beginOne_37 rfl (lv_at hl 0 rfl) ?_
          refine g_getC G hw C_10 iM_10 39 139 rfl (by decide) rfl fl_X11_87 dX11_beginOne_38 ?_
          refine lv_iload_n G.1 G.2.1 dX11_beginOne_41 rfl (lv_at hl 3 rfl) ?_
          obtain ⟨j10, hj10, hf⟩ := bd_some hf
          refine g_iald G hw iM_139 (by decide) rfl hj10 dX11_beginOne_42 ?_
          refine lv_icmp_le (tgt := 50) G.1 G.2.1 dX11_beginOne_43 (by decide) (fun hc43 => ?_) (fun hc43 => ?_)
          · rw [if_pos hc43] at hf
            refine lv_iconst (v := (0 : Int32)) G.1 G.2.1 dX11_beginOne_50 (by decide) ?_
            exact hj8 (0 : Int32) _ _ ls hf hw (lv_sub hl [0, 1, 2, 3, 4, 5, 6] rfl)
          · rw [if_neg hc43] at hf
            exact hj7 () _ _ ls hf hw (lv_sub hl [0, 1, 2, 3, 4, 5, 6] rfl)
  obtain ⟨r15, hr15, hf⟩ := bd_some hf
  refine hL19 n (-1 : Int32) (-1 : Int32) z2 r15 _ _ ls hr15 hw (lv_sub hl [4, 5, 6, 3, 2, 1, 0] rfl) ?_
  intro H locs ls hw hl
  refine lv_iload_n G.1 G.2.1 dX11_beginOne_107 rfl (lv_at hl 2 rfl) ?_
  refine lv_if_ge (tgt := 113) G.1 G.2.1 dX11_beginOne_108 (by decide) (fun hc108 => ?_) (fun hc108 => ?_)
  · rw [if_pos hc108] at hf
    refine lv_aload_n G.1 G.2.1 dX11_beginOne_113 rfl (lv_at hl 0 rfl) ?_
    refine g_getC G hw C_10 iM_10 40 140 rfl (by decide) rfl fl_X11_90 dX11_beginOne_114 ?_
    refine lv_iload_n G.1 G.2.1 dX11_beginOne_117 rfl (lv_at hl 2 rfl) ?_
    refine lv_iload_n G.1 G.2.1 dX11_beginOne_118 rfl (lv_at hl 1 rfl) ?_
    obtain ⟨j16, hj16, hf⟩ := bd_some hf
    obtain ⟨g17, eg17, hf⟩ := lt9_some hf
    refine g_iast G hw iM_140 (by decide) rfl hj16 dX11_beginOne_119 (fun H locs hw => ?_)
    rw [← eg17] at hw
    refine lv_aload_n G.1 G.2.1 dX11_beginOne_120 rfl (lv_at hl 0 rfl) ?_
    refine g_getC G hw C_10 iM_10 41 141 rfl (by decide) rfl fl_X11_93 dX11_beginOne_121 ?_
    refine lv_iload_n G.1 G.2.1 dX11_beginOne_124 rfl (lv_at hl 2 rfl) ?_
    refine lv_iload G.1 G.2.1 dX11_beginOne_125 (lv_at hl 3 rfl) ?_
    obtain ⟨j18, hj18, hf⟩ := bd_some hf
    obtain ⟨g19, eg19, hf⟩ := lt9_some hf
    refine g_iast G hw iM_141 (by decide) rfl hj18 dX11_beginOne_127 (fun H locs hw => ?_)
    rw [← eg19] at hw
    refine lv_iconst (v := (1 : Int32)) G.1 G.2.1 dX11_beginOne_128 (by decide) ?_
    exact g_zretW G hr rfl hk hf hw dX11_beginOne_129
  · rw [if_neg hc108] at hf
    refine lv_iconst (v := (0 : Int32)) G.1 G.2.1 dX11_beginOne_111 (by decide) ?_
    exact g_zretW G hr rfl hk hf hw dX11_beginOne_112

set_option maxHeartbeats 4000000 in
set_option maxRecDepth 100000 in
theorem c_M_layBlock (l : Launch) (D : va_G) (X : va_W) (E : gE) (n : Nat) (a1 : Int32) (g : Mem) (g' : Mem) (hf : M_layBlock n a1 g = some g') : gMet l yX11_layBlock cX11_layBlock 7 none 5 120 D X idsM E [.ref (E.1 10 0), .int a1] g none g' := by
  rw [M_layBlock] at hf
  refine gt_code (by decide) (Nat.le_of_ble_eq_true rfl) (fun p en s m below meth c ls G hr hk hw hl => ?_)
  have hl : lv_has ls 7 [(0, .ref (E.1 10 0)), (1, .int a1)] := hl
  refine lv_aload_n G.1 G.2.1 dX11_layBlock_0 rfl (lv_at hl 0 rfl) ?_
  refine lv_iload_n G.1 G.2.1 dX11_layBlock_1 rfl (lv_at hl 1 rfl) ?_
  obtain ⟨z1, hcz1, hf⟩ := bd_some hf
  refine g_callV1 (As := [.int a1]) (rest := []) G hw (gA_mono hw.2.2.2.1.1) C_10 iM_10 mv_X11_283 (c_M_first l D X E n a1 g z1 hcz1) hl.1 rfl rfl (Nat.le_of_ble_eq_true rfl) (Nat.le_of_ble_eq_true rfl) (Nat.le_of_ble_eq_true rfl) ⟨Nat.le_refl _, Nat.le_refl _⟩ dX11_layBlock_2 (fun H locs hw => ?_)
  refine lv_istore_n (lv' := [(2, .int z1), (0, .ref (E.1 10 0)), (1, .int a1)]) G.1 G.2.1 dX11_layBlock_5 rfl hl (by decide) rfl (fun ls hl => ?_)
  refine lv_aload_n G.1 G.2.1 dX11_layBlock_6 rfl (lv_at hl 1 rfl) ?_
  refine lv_iload_n G.1 G.2.1 dX11_layBlock_7 rfl (lv_at hl 2 rfl) ?_
  obtain ⟨z2, hcz2, hf⟩ := bd_some hf
  refine g_callV1 (As := [.int a1]) (rest := []) G hw (gA_mono hw.2.2.2.1.1) C_10 iM_10 mv_X11_292 (c_M_behindAll l D X E n a1 g z2 hcz2) hl.1 rfl rfl (Nat.le_of_ble_eq_true rfl) (Nat.le_of_ble_eq_true rfl) (Nat.le_of_ble_eq_true rfl) ⟨Nat.le_refl _, Nat.le_refl _⟩ dX11_layBlock_8 (fun H locs hw => ?_)
  refine lv_istore_n (lv' := [(3, .int z2), (2, .int z1), (0, .ref (E.1 10 0)), (1, .int a1)]) G.1 G.2.1 dX11_layBlock_11 rfl hl (by decide) rfl (fun ls hl => ?_)
  refine lv_iload_n G.1 G.2.1 dX11_layBlock_12 rfl (lv_at hl 0 rfl) ?_
  refine lv_iconst (v := (1 : Int32)) G.1 G.2.1 dX11_layBlock_13 (by decide) ?_
  refine lv_isub G.1 G.2.1 dX11_layBlock_14 ?_
  refine lv_istore (lv' := [(4, .int (z2 - (1 : Int32))), (3, .int z2), (2, .int z1), (0, .ref (E.1 10 0)), (1, .int a1)]) G.1 G.2.1 dX11_layBlock_15 hl (by decide) rfl (fun ls hl => ?_)
  have hL17 : ∀ (k3 : Nat) (x4 : Int32) (g5 : Mem) (res3 : Mem) (H : Heap) (locs : List Loc) (ls : Array Slot), M_layBlock_L17 n z1 z2 k3 x4 g5 = some res3 → GW D X idsM E (gA X idsM E s.heap.size) s g5 H locs → lv_has ls 7 [(0, .ref (E.1 10 0)), (1, .int a1), (2, .int z1), (3, .int z2), (4, .int x4)] → (∀ (H : Heap) (locs : List Loc) (ls : Array Slot), GW D X idsM E (gA X idsM E s.heap.size) s res3 H locs → lv_has ls 7 [(0, .ref (E.1 10 0)), (1, .int a1), (2, .int z1), (3, .int z2)] → W p l en { frames := 5, cells := 0, slots := 0, locals := 120 } s m [.ref (E.1 10 0), .int a1].toArray below meth c H locs 0 0 (MQ below (gQ none (GP D X idsM E g') (gA X idsM E s.heap.size)) [.ref (E.1 10 0), .int a1].toArray s 0 0 (gA X idsM E s.heap.size)) (F0 m 115 ls [])) → W p l en { frames := 5, cells := 0, slots := 0, locals := 120 } s m [.ref (E.1 10 0), .int a1].toArray below meth c H locs 0 0 (MQ below (gQ none (GP D X idsM E g') (gA X idsM E s.heap.size)) [.ref (E.1 10 0), .int a1].toArray s 0 0 (gA X idsM E s.heap.size)) (F0 m 17 ls []) := by
    intro k3
    induction k3 with
    | zero => intro x4 g5 res3 H locs ls hf; rw [M_layBlock_L17] at hf; cases hf
    | succ k3 ih3 =>
      intro x4 g5 res3 H locs ls hf hw hl hk3_0
      rw [M_layBlock_L17] at hf
      refine lv_iload G.1 G.2.1 dX11_layBlock_17 (lv_at hl 4 rfl) ?_
      refine lv_iload_n G.1 G.2.1 dX11_layBlock_19 rfl (lv_at hl 2 rfl) ?_
      refine lv_icmp_lt (tgt := 115) G.1 G.2.1 dX11_layBlock_20 (by decide) (fun hc20 => ?_) (fun hc20 => ?_)
      · rw [if_pos hc20] at hf
        obtain rfl := Option.some.inj hf
        exact hk3_0 _ _ ls hw (lv_sub hl [0, 1, 2, 3] rfl)
      · rw [if_neg hc20] at hf
        refine lv_iload_n G.1 G.2.1 dX11_layBlock_23 rfl (lv_at hl 2 rfl) ?_
        refine lv_if_lt (tgt := 115) G.1 G.2.1 dX11_layBlock_24 (by decide) (fun hc24 => ?_) (fun hc24 => ?_)
        · rw [if_pos hc24] at hf
          obtain rfl := Option.some.inj hf
          exact hk3_0 _ _ ls hw (lv_sub hl [0, 1, 2, 3] rfl)
        · rw [if_neg hc24] at hf
          refine lv_iconst (v := (0 : Int32)) G.1 G.2.1 dX11_layBlock_27 (by decide) ?_
          refine lv_istore (lv' := [(5, .int (0 : Int32)), (0, .ref (E.1 10 0)), (1, .int a1), (2, .int z1), (3, .int z2), (4, .int x4)]) G.1 G.2.1 dX11_layBlock_28 hl (by decide) rfl (fun ls hl => ?_)
          refine lv_iload G.1 G.2.1 dX11_layBlock_30 (lv_at hl 5 rfl) ?_
          refine lv_iconst (v := (1 : Int32)) G.1 G.2.1 dX11_layBlock_32 (by decide) ?_
          refine lv_iadd G.1 G.2.1 dX11_layBlock_33 ?_
          refine lv_istore (lv' := [(6, .int (x4 + (1 : Int32))), (5, .int (0 : Int32)), (0, .ref (E.1 10 0)), (1, .int a1), (2, .int z1), (3, .int z2), (4, .int x4)]) G.1 G.2.1 dX11_layBlock_34 hl (by decide) rfl (fun ls hl => ?_)
          have hL36 : ∀ (k6 : Nat) (x7 : Int32) (x8 : Int32) (res6 : Int32) (H : Heap) (locs : List Loc) (ls : Array Slot), M_layBlock_L36 n g5 x4 z2 k6 x7 x8 = some res6 → GW D X idsM E (gA X idsM E s.heap.size) s g5 H locs → lv_has ls 7 [(0, .ref (E.1 10 0)), (1, .int a1), (2, .int z1), (3, .int z2), (4, .int x4), (5, .int x7), (6, .int x8)] → (∀ (H : Heap) (locs : List Loc) (ls : Array Slot), GW D X idsM E (gA X idsM E s.heap.size) s g5 H locs → lv_has ls 7 [(0, .ref (E.1 10 0)), (1, .int a1), (2, .int z1), (3, .int z2), (4, .int x4), (5, .int res6)] → W p l en { frames := 5, cells := 0, slots := 0, locals := 120 } s m [.ref (E.1 10 0), .int a1].toArray below meth c H locs 0 0 (MQ below (gQ none (GP D X idsM E g') (gA X idsM E s.heap.size)) [.ref (E.1 10 0), .int a1].toArray s 0 0 (gA X idsM E s.heap.size)) (F0 m 85 ls [])) → W p l en { frames := 5, cells := 0, slots := 0, locals := 120 } s m [.ref (E.1 10 0), .int a1].toArray below meth c H locs 0 0 (MQ below (gQ none (GP D X idsM E g') (gA X idsM E s.heap.size)) [.ref (E.1 10 0), .int a1].toArray s 0 0 (gA X idsM E s.heap.size)) (F0 m 36 ls []) := by
            intro k6
            induction k6 with
            | zero => intro x7 x8 res6 H locs ls hf; rw [M_layBlock_L36] at hf; cases hf
            | succ k6 ih6 =>
              intro x7 x8 res6 H locs ls hf hw hl hk6_0
              rw [M_layBlock_L36] at hf
              refine lv_iload G.1 G.2.1 dX11_layBlock_36 (lv_at hl 6 rfl) ?_
              refine lv_iload_n G.1 G.2.1 dX11_layBlock_38 rfl (lv_at hl 3 rfl) ?_
              refine lv_icmp_ge (tgt := 85) G.1 G.2.1 dX11_layBlock_39 (by decide) (fun hc39 => ?_) (fun hc39 => ?_)
              · rw [if_pos hc39] at hf
                obtain rfl := Option.some.inj hf
                exact hk6_0 _ _ ls hw (lv_sub hl [0, 1, 2, 3, 4, 5] rfl)
              · rw [if_neg hc39] at hf
                refine lv_aload_n G.1 G.2.1 dX11_layBlock_42 rfl (lv_at hl 0 rfl) ?_
                refine lv_iload G.1 G.2.1 dX11_layBlock_43 (lv_at hl 6 rfl) ?_
                refine lv_iload G.1 G.2.1 dX11_layBlock_45 (lv_at hl 4 rfl) ?_
                obtain ⟨z9, hcz9, hf⟩ := bd_some hf
                refine g_callV1 (As := [.int x8, .int x4]) (rest := []) G hw (gA_mono hw.2.2.2.1.1) C_10 iM_10 mv_X11_286 (c_M_comesBehind l D X E n x8 x4 g5 z9 hcz9) hl.1 rfl rfl (Nat.le_of_ble_eq_true rfl) (Nat.le_of_ble_eq_true rfl) (Nat.le_of_ble_eq_true rfl) ⟨Nat.le_refl _, Nat.le_refl _⟩ dX11_layBlock_47 (fun H locs hw => ?_)
                refine lv_if_eq (tgt := 75) G.1 G.2.1 dX11_layBlock_50 (by decide) (fun hc50 => ?_) (fun hc50 => ?_)
                · rw [if_pos hc50] at hf
                  refine lv_iload G.1 G.2.1 dX11_layBlock_75 (lv_at hl 5 rfl) ?_
                  refine lv_istore (lv' := [(5, .int x7), (0, .ref (E.1 10 0)), (1, .int a1), (2, .int z1), (3, .int z2), (4, .int x4), (6, .int x8)]) G.1 G.2.1 dX11_layBlock_77 hl (by decide) rfl (fun ls hl => ?_)
                  refine lv_iinc (v := x8 + 1) (lv' := [(6, .int (x8 + 1)), (5, .int x7), (0, .ref (E.1 10 0)), (1, .int a1), (2, .int z1), (3, .int z2), (4, .int x4)]) G.1 G.2.1 dX11_layBlock_79 hl (k := 6) rfl rfl (by decide) rfl (fun ls hl => ?_)
                  refine lv_goto (tgt := 36) G.1 G.2.1 dX11_layBlock_82 (by decide) ?_
                  exact ih6 x7 (x8 + 1) _ _ _ ls hf hw (lv_sub hl [2, 3, 4, 5, 6, 1, 0] rfl) hk6_0
                · rw [if_neg hc50] at hf
                  refine lv_aload_n G.1 G.2.1 dX11_layBlock_53 rfl (lv_at hl 0 rfl) ?_
                  refine g_getC G hw C_10 iM_10 39 139 rfl (by decide) rfl fl_X11_87 dX11_layBlock_54 ?_
                  refine lv_iload G.1 G.2.1 dX11_layBlock_57 (lv_at hl 6 rfl) ?_
                  obtain ⟨j10, hj10, hf⟩ := bd_some hf
                  refine g_iald G hw iM_139 (by decide) rfl hj10 dX11_layBlock_59 ?_
                  refine lv_iload G.1 G.2.1 dX11_layBlock_60 (lv_at hl 5 rfl) ?_
                  refine lv_icmp_le (tgt := 75) G.1 G.2.1 dX11_layBlock_62 (by decide) (fun hc62 => ?_) (fun hc62 => ?_)
                  · rw [if_pos hc62] at hf
                    refine lv_iload G.1 G.2.1 dX11_layBlock_75 (lv_at hl 5 rfl) ?_
                    refine lv_istore (lv' := [(5, .int x7), (0, .ref (E.1 10 0)), (1, .int a1), (2, .int z1), (3, .int z2), (4, .int x4), (6, .int x8)]) G.1 G.2.1 dX11_layBlock_77 hl (by decide) rfl (fun ls hl => ?_)
                    refine lv_iinc (v := x8 + 1) (lv' := [(6, .int (x8 + 1)), (5, .int x7), (0, .ref (E.1 10 0)), (1, .int a1), (2, .int z1), (3, .int z2), (4, .int x4)]) G.1 G.2.1 dX11_layBlock_79 hl (k := 6) rfl rfl (by decide) rfl (fun ls hl => ?_)
                    refine lv_goto (tgt := 36) G.1 G.2.1 dX11_layBlock_82 (by decide) ?_
                    exact ih6 x7 (x8 + 1) _ _ _ ls hf hw (lv_sub hl [2, 3, 4, 5, 6, 1, 0] rfl) hk6_0
                  · rw [if_neg hc62] at hf
                    refine lv_aload_n G.1 G.2.1 dX11_layBlock_65 rfl (lv_at hl 0 rfl) ?_
                    refine g_getC G hw C_10 iM_10 39 139 rfl (by decide) rfl fl_X11_87 dX11_layBlock_66 ?_
                    refine lv_iload G.1 G.2.1 dX11_layBlock_69 (lv_at hl 6 rfl) ?_
                    obtain ⟨j11, hj11, hf⟩ := bd_some hf
                    refine g_iald G hw iM_139 (by decide) rfl hj11 dX11_layBlock_71 ?_
                    refine lv_goto (tgt := 77) G.1 G.2.1 dX11_layBlock_72 (by decide) ?_
                    refine lv_istore (lv' := [(5, .int (gI g5 139 0 j11)), (0, .ref (E.1 10 0)), (1, .int a1), (2, .int z1), (3, .int z2), (4, .int x4), (6, .int x8)]) G.1 G.2.1 dX11_layBlock_77 hl (by decide) rfl (fun ls hl => ?_)
                    refine lv_iinc (v := x8 + 1) (lv' := [(6, .int (x8 + 1)), (5, .int (gI g5 139 0 j11)), (0, .ref (E.1 10 0)), (1, .int a1), (2, .int z1), (3, .int z2), (4, .int x4)]) G.1 G.2.1 dX11_layBlock_79 hl (k := 6) rfl rfl (by decide) rfl (fun ls hl => ?_)
                    refine lv_goto (tgt := 36) G.1 G.2.1 dX11_layBlock_82 (by decide) ?_
                    exact ih6 (gI g5 139 0 j11) (x8 + 1) _ _ _ ls hf hw (lv_sub hl [2, 3, 4, 5, 6, 1, 0] rfl) hk6_0
          obtain ⟨r12, hr12, hf⟩ := bd_some hf
          refine hL36 n (0 : Int32) (x4 + (1 : Int32)) r12 _ _ ls hr12 hw (lv_sub hl [2, 3, 4, 5, 6, 1, 0] rfl) ?_
          intro H locs ls hw hl
          refine lv_aload_n G.1 G.2.1 dX11_layBlock_85 rfl (lv_at hl 0 rfl) ?_
          refine g_getC G hw C_10 iM_10 39 139 rfl (by decide) rfl fl_X11_87 dX11_layBlock_86 ?_
          refine lv_iload G.1 G.2.1 dX11_layBlock_89 (lv_at hl 4 rfl) ?_
          refine lv_aload_n G.1 G.2.1 dX11_layBlock_91 rfl (lv_at hl 0 rfl) ?_
          refine lv_iload G.1 G.2.1 dX11_layBlock_92 (lv_at hl 4 rfl) ?_
          obtain ⟨z13, hcz13, hf⟩ := bd_some hf
          refine g_callV1 (As := [.int x4]) (rest := [.int x4, .ref (E.1 139 0)]) G hw (gA_mono hw.2.2.2.1.1) C_10 iM_10 mv_X11_280 (c_M_latencyOf l D X E n x4 g5 z13 hcz13) hl.1 rfl rfl (Nat.le_of_ble_eq_true rfl) (Nat.le_of_ble_eq_true rfl) (Nat.le_of_ble_eq_true rfl) ⟨Nat.le_refl _, Nat.le_refl _⟩ dX11_layBlock_94 (fun H locs hw => ?_)
          refine lv_iload G.1 G.2.1 dX11_layBlock_97 (lv_at hl 5 rfl) ?_
          refine lv_iadd G.1 G.2.1 dX11_layBlock_99 ?_
          obtain ⟨j14, hj14, hf⟩ := bd_some hf
          obtain ⟨g15, eg15, hf⟩ := lt9_some hf
          refine g_iast G hw iM_139 (by decide) rfl hj14 dX11_layBlock_100 (fun H locs hw => ?_)
          rw [← eg15] at hw
          refine lv_aload_n G.1 G.2.1 dX11_layBlock_101 rfl (lv_at hl 0 rfl) ?_
          refine g_getC G hw C_10 iM_10 40 140 rfl (by decide) rfl fl_X11_90 dX11_layBlock_102 ?_
          refine lv_iload G.1 G.2.1 dX11_layBlock_105 (lv_at hl 4 rfl) ?_
          refine lv_iconst (v := (-1 : Int32)) G.1 G.2.1 dX11_layBlock_107 (by decide) ?_
          obtain ⟨j16, hj16, hf⟩ := bd_some hf
          obtain ⟨g17, eg17, hf⟩ := lt9_some hf
          refine g_iast G hw iM_140 (by decide) rfl hj16 dX11_layBlock_108 (fun H locs hw => ?_)
          rw [← eg17] at hw
          refine lv_iinc (v := x4 + (-1)) (lv' := [(4, .int (x4 + (-1))), (0, .ref (E.1 10 0)), (1, .int a1), (2, .int z1), (3, .int z2), (5, .int r12)]) G.1 G.2.1 dX11_layBlock_109 hl (k := 4) rfl rfl (by decide) rfl (fun ls hl => ?_)
          refine lv_goto (tgt := 17) G.1 G.2.1 dX11_layBlock_112 (by decide) ?_
          exact ih3 (x4 + (-1)) g17 _ _ _ ls hf hw (lv_sub hl [1, 2, 3, 4, 0] rfl) hk3_0
  obtain ⟨r18, hr18, hf⟩ := bd_some hf
  refine hL17 n (z2 - (1 : Int32)) g r18 _ _ ls hr18 hw (lv_sub hl [3, 4, 2, 1, 0] rfl) ?_
  intro H locs ls hw hl
  refine lv_iload_n G.1 G.2.1 dX11_layBlock_115 rfl (lv_at hl 2 rfl) ?_
  obtain ⟨j19, ej19, hf⟩ := lt9_some hf
  have hj19 : ∀ (v20 : Int32) (H : Heap) (locs : List Loc) (ls : Array Slot), j19 v20 = some g' → GW D X idsM E (gA X idsM E s.heap.size) s r18 H locs → lv_has ls 7 [(0, .ref (E.1 10 0)), (1, .int a1), (2, .int z1), (3, .int z2)] → W p l en { frames := 5, cells := 0, slots := 0, locals := 120 } s m [.ref (E.1 10 0), .int a1].toArray below meth c H locs 0 0 (MQ below (gQ none (GP D X idsM E g') (gA X idsM E s.heap.size)) [.ref (E.1 10 0), .int a1].toArray s 0 0 (gA X idsM E s.heap.size)) (F0 m 126 ls [.int v20]) := by
    intro v20 H locs ls hf hw hl
    rw [ej19] at hf
    dsimp only at hf
    refine lv_istore (lv' := [(4, .int v20), (0, .ref (E.1 10 0)), (1, .int a1), (2, .int z1), (3, .int z2)]) G.1 G.2.1 dX11_layBlock_126 hl (by decide) rfl (fun ls hl => ?_)
    refine lv_iconst (v := (0 : Int32)) G.1 G.2.1 dX11_layBlock_128 (by decide) ?_
    refine lv_istore (lv' := [(5, .int (0 : Int32)), (4, .int v20), (0, .ref (E.1 10 0)), (1, .int a1), (2, .int z1), (3, .int z2)]) G.1 G.2.1 dX11_layBlock_129 hl (by decide) rfl (fun ls hl => ?_)
    have hL131 : ∀ (k21 : Nat) (x22 : Int32) (x23 : Int32) (g24 : Mem) (res21 : Mem) (H : Heap) (locs : List Loc) (ls : Array Slot), M_layBlock_L131 n a1 k21 x22 x23 g24 = some res21 → GW D X idsM E (gA X idsM E s.heap.size) s g24 H locs → lv_has ls 7 [(0, .ref (E.1 10 0)), (1, .int a1), (2, .int z1), (3, .int z2), (4, .int x22), (5, .int x23)] → (∀ (H : Heap) (locs : List Loc) (ls : Array Slot), GW D X idsM E (gA X idsM E s.heap.size) s res21 H locs → lv_has ls 7 [(0, .ref (E.1 10 0)), (1, .int a1), (2, .int z1), (3, .int z2)] → W p l en { frames := 5, cells := 0, slots := 0, locals := 120 } s m [.ref (E.1 10 0), .int a1].toArray below meth c H locs 0 0 (MQ below (gQ none (GP D X idsM E g') (gA X idsM E s.heap.size)) [.ref (E.1 10 0), .int a1].toArray s 0 0 (gA X idsM E s.heap.size)) (F0 m 158 ls [])) → W p l en { frames := 5, cells := 0, slots := 0, locals := 120 } s m [.ref (E.1 10 0), .int a1].toArray below meth c H locs 0 0 (MQ below (gQ none (GP D X idsM E g') (gA X idsM E s.heap.size)) [.ref (E.1 10 0), .int a1].toArray s 0 0 (gA X idsM E s.heap.size)) (F0 m 131 ls []) := by
      intro k21
      induction k21 with
      | zero => intro x22 x23 g24 res21 H locs ls hf; rw [M_layBlock_L131] at hf; cases hf
      | succ k21 ih21 =>
        intro x22 x23 g24 res21 H locs ls hf hw hl hk21_0
        rw [M_layBlock_L131] at hf
        refine lv_iload G.1 G.2.1 dX11_layBlock_131 (lv_at hl 4 rfl) ?_
        refine lv_if_le (tgt := 158) G.1 G.2.1 dX11_layBlock_133 (by decide) (fun hc133 => ?_) (fun hc133 => ?_)
        · rw [if_pos hc133] at hf
          obtain rfl := Option.some.inj hf
          exact hk21_0 _ _ ls hw (lv_sub hl [0, 1, 2, 3] rfl)
        · rw [if_neg hc133] at hf
          have hL136 : ∀ (k25 : Nat) (x26 : Int32) (g27 : Mem) (res25 : Int32 × Mem) (H : Heap) (locs : List Loc) (ls : Array Slot), M_layBlock_L136 n a1 x23 k25 x26 g27 = some res25 → GW D X idsM E (gA X idsM E s.heap.size) s g27 H locs → lv_has ls 7 [(0, .ref (E.1 10 0)), (1, .int a1), (2, .int z1), (3, .int z2), (4, .int x26), (5, .int x23)] → (∀ (H : Heap) (locs : List Loc) (ls : Array Slot), GW D X idsM E (gA X idsM E s.heap.size) s res25.2 H locs → lv_has ls 7 [(0, .ref (E.1 10 0)), (1, .int a1), (2, .int z1), (3, .int z2), (4, .int res25.1), (5, .int x23)] → W p l en { frames := 5, cells := 0, slots := 0, locals := 120 } s m [.ref (E.1 10 0), .int a1].toArray below meth c H locs 0 0 (MQ below (gQ none (GP D X idsM E g') (gA X idsM E s.heap.size)) [.ref (E.1 10 0), .int a1].toArray s 0 0 (gA X idsM E s.heap.size)) (F0 m 152 ls [])) → W p l en { frames := 5, cells := 0, slots := 0, locals := 120 } s m [.ref (E.1 10 0), .int a1].toArray below meth c H locs 0 0 (MQ below (gQ none (GP D X idsM E g') (gA X idsM E s.heap.size)) [.ref (E.1 10 0), .int a1].toArray s 0 0 (gA X idsM E s.heap.size)) (F0 m 136 ls []) := by
            intro k25
            induction k25 with
            | zero => intro x26 g27 res25 H locs ls hf; rw [M_layBlock_L136] at hf; cases hf
            | succ k25 ih25 =>
              intro x26 g27 res25 H locs ls hf hw hl hk25_0
              rw [M_layBlock_L136] at hf
              refine lv_aload_n G.1 G.2.1 dX11_layBlock_136 rfl (lv_at hl 0 rfl) ?_
              refine lv_iload_n G.1 G.2.1 dX11_layBlock_137 rfl (lv_at hl 1 rfl) ?_
              refine lv_iload G.1 G.2.1 dX11_layBlock_138 (lv_at hl 5 rfl) ?_
              obtain ⟨z28, hcz28, hf⟩ := bd_some hf
              refine g_callV1 (As := [.int a1, .int x23]) (rest := []) G hw (gA_mono hw.2.2.2.1.1) C_10 iM_10 mv_X11_303 (c_M_beginOne l D X E n a1 x23 g27 z28.1 z28.2 hcz28) hl.1 rfl rfl (Nat.le_of_ble_eq_true rfl) (Nat.le_of_ble_eq_true rfl) (Nat.le_of_ble_eq_true rfl) ⟨Nat.le_refl _, Nat.le_refl _⟩ dX11_layBlock_140 (fun H locs hw => ?_)
              refine lv_if_eq (tgt := 152) G.1 G.2.1 dX11_layBlock_143 (by decide) (fun hc143 => ?_) (fun hc143 => ?_)
              · rw [if_pos hc143] at hf
                obtain rfl := Option.some.inj hf
                exact hk25_0 _ _ ls hw (lv_sub hl [0, 1, 2, 3, 4, 5] rfl)
              · rw [if_neg hc143] at hf
                refine lv_iinc (v := x26 + (-1)) (lv' := [(4, .int (x26 + (-1))), (0, .ref (E.1 10 0)), (1, .int a1), (2, .int z1), (3, .int z2), (5, .int x23)]) G.1 G.2.1 dX11_layBlock_146 hl (k := 4) rfl rfl (by decide) rfl (fun ls hl => ?_)
                refine lv_goto (tgt := 136) G.1 G.2.1 dX11_layBlock_149 (by decide) ?_
                exact ih25 (x26 + (-1)) z28.2 _ _ _ ls hf hw (lv_sub hl [1, 2, 3, 4, 0, 5] rfl) hk25_0
          obtain ⟨r29, hr29, hf⟩ := bd_some hf
          refine hL136 n x22 g24 r29 _ _ ls hr29 hw (lv_sub hl [0, 1, 2, 3, 4, 5] rfl) ?_
          intro H locs ls hw hl
          refine lv_iinc (v := x23 + 1) (lv' := [(5, .int (x23 + 1)), (0, .ref (E.1 10 0)), (1, .int a1), (2, .int z1), (3, .int z2), (4, .int r29.1)]) G.1 G.2.1 dX11_layBlock_152 hl (k := 5) rfl rfl (by decide) rfl (fun ls hl => ?_)
          refine lv_goto (tgt := 131) G.1 G.2.1 dX11_layBlock_155 (by decide) ?_
          exact ih21 r29.1 (x23 + 1) r29.2 _ _ _ ls hf hw (lv_sub hl [1, 2, 3, 4, 5, 0] rfl) hk21_0
    obtain ⟨r30, hr30, hf⟩ := bd_some hf
    refine hL131 n v20 (0 : Int32) r18 r30 _ _ ls hr30 hw (lv_sub hl [2, 3, 4, 5, 1, 0] rfl) ?_
    intro H locs ls hw hl
    refine lv_aload_n G.1 G.2.1 dX11_layBlock_158 rfl (lv_at hl 0 rfl) ?_
    refine g_getC G hw C_10 iM_10 43 143 rfl (by decide) rfl fl_X11_99 dX11_layBlock_159 ?_
    refine lv_iload_n G.1 G.2.1 dX11_layBlock_162 rfl (lv_at hl 1 rfl) ?_
    refine lv_iconst (v := (1 : Int32)) G.1 G.2.1 dX11_layBlock_163 (by decide) ?_
    obtain ⟨j31, hj31, hf⟩ := bd_some hf
    obtain ⟨g32, eg32, hf⟩ := lt9_some hf
    refine g_iast G hw iM_143 (by decide) rfl hj31 dX11_layBlock_164 (fun H locs hw => ?_)
    rw [← eg32] at hw
    refine lv_iload_n G.1 G.2.1 dX11_layBlock_165 rfl (lv_at hl 2 rfl) ?_
    refine lv_istore (lv' := [(5, .int z1), (0, .ref (E.1 10 0)), (1, .int a1), (2, .int z1), (3, .int z2)]) G.1 G.2.1 dX11_layBlock_166 hl (by decide) rfl (fun ls hl => ?_)
    have hL168 : ∀ (k33 : Nat) (x34 : Int32) (g35 : Mem) (res33 : Mem) (H : Heap) (locs : List Loc) (ls : Array Slot), M_layBlock_L168 n a1 z1 z2 k33 x34 g35 = some res33 → GW D X idsM E (gA X idsM E s.heap.size) s g35 H locs → lv_has ls 7 [(0, .ref (E.1 10 0)), (1, .int a1), (2, .int z1), (3, .int z2), (5, .int x34)] → (∀ (H : Heap) (locs : List Loc) (ls : Array Slot), GW D X idsM E (gA X idsM E s.heap.size) s res33 H locs → lv_has ls 7 [] → W p l en { frames := 5, cells := 0, slots := 0, locals := 120 } s m [.ref (E.1 10 0), .int a1].toArray below meth c H locs 0 0 (MQ below (gQ none (GP D X idsM E g') (gA X idsM E s.heap.size)) [.ref (E.1 10 0), .int a1].toArray s 0 0 (gA X idsM E s.heap.size)) (F0 m 220 ls [])) → W p l en { frames := 5, cells := 0, slots := 0, locals := 120 } s m [.ref (E.1 10 0), .int a1].toArray below meth c H locs 0 0 (MQ below (gQ none (GP D X idsM E g') (gA X idsM E s.heap.size)) [.ref (E.1 10 0), .int a1].toArray s 0 0 (gA X idsM E s.heap.size)) (F0 m 168 ls []) := by
      intro k33
      induction k33 with
      | zero => intro x34 g35 res33 H locs ls hf; rw [M_layBlock_L168] at hf; cases hf
      | succ k33 ih33 =>
        intro x34 g35 res33 H locs ls hf hw hl hk33_0
        rw [M_layBlock_L168] at hf
        refine lv_iload G.1 G.2.1 dX11_layBlock_168 (lv_at hl 4 rfl) ?_
        refine lv_iload_n G.1 G.2.1 dX11_layBlock_170 rfl (lv_at hl 3 rfl) ?_
        refine lv_icmp_ge (tgt := 220) G.1 G.2.1 dX11_layBlock_171 (by decide) (fun hc171 => ?_) (fun hc171 => ?_)
        · rw [if_pos hc171] at hf
          obtain rfl := Option.some.inj hf
          exact hk33_0 _ _ ls hw (lv_sub hl [] rfl)
        · rw [if_neg hc171] at hf
          refine lv_iload_n G.1 G.2.1 dX11_layBlock_174 rfl (lv_at hl 2 rfl) ?_
          refine lv_if_lt (tgt := 220) G.1 G.2.1 dX11_layBlock_175 (by decide) (fun hc175 => ?_) (fun hc175 => ?_)
          · rw [if_pos hc175] at hf
            obtain rfl := Option.some.inj hf
            exact hk33_0 _ _ ls hw (lv_sub hl [] rfl)
          · rw [if_neg hc175] at hf
            refine lv_aload_n G.1 G.2.1 dX11_layBlock_178 rfl (lv_at hl 0 rfl) ?_
            refine g_getC G hw C_10 iM_10 43 143 rfl (by decide) rfl fl_X11_99 dX11_layBlock_179 ?_
            refine lv_iload_n G.1 G.2.1 dX11_layBlock_182 rfl (lv_at hl 1 rfl) ?_
            refine lv_aload_n G.1 G.2.1 dX11_layBlock_183 rfl (lv_at hl 0 rfl) ?_
            refine lv_iload G.1 G.2.1 dX11_layBlock_184 (lv_at hl 4 rfl) ?_
            obtain ⟨z36, hcz36, hf⟩ := bd_some hf
            refine g_callV1 (As := [.int x34]) (rest := [.int a1, .ref (E.1 143 0)]) G hw (gA_mono hw.2.2.2.1.1) C_10 iM_10 mv_X11_289 (c_M_endOf l D X E n x34 g35 z36 hcz36) hl.1 rfl rfl (Nat.le_of_ble_eq_true rfl) (Nat.le_of_ble_eq_true rfl) (Nat.le_of_ble_eq_true rfl) ⟨Nat.le_refl _, Nat.le_refl _⟩ dX11_layBlock_186 (fun H locs hw => ?_)
            refine lv_aload_n G.1 G.2.1 dX11_layBlock_189 rfl (lv_at hl 0 rfl) ?_
            refine g_getC G hw C_10 iM_10 43 143 rfl (by decide) rfl fl_X11_99 dX11_layBlock_190 ?_
            refine lv_iload_n G.1 G.2.1 dX11_layBlock_193 rfl (lv_at hl 1 rfl) ?_
            obtain ⟨j37, hj37, hf⟩ := bd_some hf
            refine g_iald G hw iM_143 (by decide) rfl hj37 dX11_layBlock_194 ?_
            refine lv_icmp_le (tgt := 207) G.1 G.2.1 dX11_layBlock_195 (by decide) (fun hc195 => ?_) (fun hc195 => ?_)
            · rw [if_pos hc195] at hf
              refine lv_aload_n G.1 G.2.1 dX11_layBlock_207 rfl (lv_at hl 0 rfl) ?_
              refine g_getC G hw C_10 iM_10 43 143 rfl (by decide) rfl fl_X11_99 dX11_layBlock_208 ?_
              refine lv_iload_n G.1 G.2.1 dX11_layBlock_211 rfl (lv_at hl 1 rfl) ?_
              obtain ⟨j38, hj38, hf⟩ := bd_some hf
              refine g_iald G hw iM_143 (by decide) rfl hj38 dX11_layBlock_212 ?_
              obtain ⟨j39, hj39, hf⟩ := bd_some hf
              obtain ⟨g40, eg40, hf⟩ := lt9_some hf
              refine g_iast G hw iM_143 (by decide) rfl hj39 dX11_layBlock_213 (fun H locs hw => ?_)
              rw [← eg40] at hw
              refine lv_iinc (v := x34 + 1) (lv' := [(5, .int (x34 + 1)), (0, .ref (E.1 10 0)), (1, .int a1), (2, .int z1), (3, .int z2)]) G.1 G.2.1 dX11_layBlock_214 hl (k := 4) rfl rfl (by decide) rfl (fun ls hl => ?_)
              refine lv_goto (tgt := 168) G.1 G.2.1 dX11_layBlock_217 (by decide) ?_
              exact ih33 (x34 + 1) g40 _ _ _ ls hf hw (lv_sub hl [1, 2, 3, 4, 0] rfl) hk33_0
            · rw [if_neg hc195] at hf
              refine lv_aload_n G.1 G.2.1 dX11_layBlock_198 rfl (lv_at hl 0 rfl) ?_
              refine lv_iload G.1 G.2.1 dX11_layBlock_199 (lv_at hl 4 rfl) ?_
              obtain ⟨z41, hcz41, hf⟩ := bd_some hf
              refine g_callV1 (As := [.int x34]) (rest := [.int a1, .ref (E.1 143 0)]) G hw (gA_mono hw.2.2.2.1.1) C_10 iM_10 mv_X11_289 (c_M_endOf l D X E n x34 g35 z41 hcz41) hl.1 rfl rfl (Nat.le_of_ble_eq_true rfl) (Nat.le_of_ble_eq_true rfl) (Nat.le_of_ble_eq_true rfl) ⟨Nat.le_refl _, Nat.le_refl _⟩ dX11_layBlock_201 (fun H locs hw => ?_)
              refine lv_goto (tgt := 213) G.1 G.2.1 dX11_layBlock_204 (by decide) ?_
              obtain ⟨j42, hj42, hf⟩ := bd_some hf
              obtain ⟨g43, eg43, hf⟩ := lt9_some hf
              refine g_iast G hw iM_143 (by decide) rfl hj42 dX11_layBlock_213 (fun H locs hw => ?_)
              rw [← eg43] at hw
              refine lv_iinc (v := x34 + 1) (lv' := [(5, .int (x34 + 1)), (0, .ref (E.1 10 0)), (1, .int a1), (2, .int z1), (3, .int z2)]) G.1 G.2.1 dX11_layBlock_214 hl (k := 4) rfl rfl (by decide) rfl (fun ls hl => ?_)
              refine lv_goto (tgt := 168) G.1 G.2.1 dX11_layBlock_217 (by decide) ?_
              exact ih33 (x34 + 1) g43 _ _ _ ls hf hw (lv_sub hl [1, 2, 3, 4, 0] rfl) hk33_0
    obtain ⟨r44, hr44, hf⟩ := bd_some hf
    refine hL168 n z1 g32 r44 _ _ ls hr44 hw (lv_sub hl [1, 2, 3, 4, 0] rfl) ?_
    intro H locs ls hw hl
    exact g_vretW G hr hk hf hw dX11_layBlock_220
  refine lv_if_ge (tgt := 123) G.1 G.2.1 dX11_layBlock_116 (by decide) (fun hc116 => ?_) (fun hc116 => ?_)
  · rw [if_pos hc116] at hf
    refine lv_iload_n G.1 G.2.1 dX11_layBlock_123 rfl (lv_at hl 3 rfl) ?_
    refine lv_iload_n G.1 G.2.1 dX11_layBlock_124 rfl (lv_at hl 2 rfl) ?_
    refine lv_isub G.1 G.2.1 dX11_layBlock_125 ?_
    exact hj19 (z2 - z1) _ _ ls hf hw (lv_sub hl [0, 1, 2, 3] rfl)
  · rw [if_neg hc116] at hf
    refine lv_iconst (v := (0 : Int32)) G.1 G.2.1 dX11_layBlock_119 (by decide) ?_
    refine lv_goto (tgt := 126) G.1 G.2.1 dX11_layBlock_120 (by decide) ?_
    exact hj19 (0 : Int32) _ _ ls hf hw (lv_sub hl [0, 1, 2, 3] rfl)

set_option maxHeartbeats 4000000 in
set_option maxRecDepth 100000 in
theorem c_M_stand (l : Launch) (D : va_G) (X : va_W) (E : gE) (n : Nat) (g : Mem) (g' : Mem) (hf : M_stand n g = some g') : gMet l yX11_stand cX11_stand 1 none 0 0 D X idsM E [.ref (E.1 10 0)] g none g' := by
  rw [M_stand] at hf
  refine gt_code (by decide) (Nat.le_of_ble_eq_true rfl) (fun p en s m below meth c ls G hr hk hw hl => ?_)
  have hl : lv_has ls 1 [(0, .ref (E.1 10 0))] := hl
  refine lv_aload_n G.1 G.2.1 dX11_stand_0 rfl (lv_at hl 0 rfl) ?_
  refine lv_aload_n G.1 G.2.1 dX11_stand_1 rfl (lv_at hl 0 rfl) ?_
  refine g_getI G hw C_10 iM_10 31 rfl fl_X11_264 dX11_stand_2 ?_
  refine lv_if_le (tgt := 12) G.1 G.2.1 dX11_stand_5 (by decide) (fun hc5 => ?_) (fun hc5 => ?_)
  · rw [if_pos hc5] at hf
    refine lv_iconst (v := (-1 : Int32)) G.1 G.2.1 dX11_stand_12 (by decide) ?_
    obtain ⟨g1, eg1, hf⟩ := lt9_some hf
    refine g_putI G hw C_10 iM_10 47 rfl fl_X11_333 rfl rfl rfl dX11_stand_13 (fun H locs hw => ?_)
    rw [← eg1] at hw
    refine lv_aload_n G.1 G.2.1 dX11_stand_16 rfl (lv_at hl 0 rfl) ?_
    refine lv_lconst (v := (0 : Int64)) G.1 G.2.1 dX11_stand_17 (by decide) ?_
    obtain ⟨g2, eg2, hf⟩ := lt9_some hf
    refine g_putL G hw C_10 iM_10 48 rfl ol_10 fl_X11_336 rfl rfl rfl dX11_stand_18 (fun H locs hw => ?_)
    rw [← eg2] at hw
    exact g_vretW G hr hk hf hw dX11_stand_21
  · rw [if_neg hc5] at hf
    refine lv_iconst (v := (0 : Int32)) G.1 G.2.1 dX11_stand_8 (by decide) ?_
    refine lv_goto (tgt := 13) G.1 G.2.1 dX11_stand_9 (by decide) ?_
    obtain ⟨g3, eg3, hf⟩ := lt9_some hf
    refine g_putI G hw C_10 iM_10 47 rfl fl_X11_333 rfl rfl rfl dX11_stand_13 (fun H locs hw => ?_)
    rw [← eg3] at hw
    refine lv_aload_n G.1 G.2.1 dX11_stand_16 rfl (lv_at hl 0 rfl) ?_
    refine lv_lconst (v := (0 : Int64)) G.1 G.2.1 dX11_stand_17 (by decide) ?_
    obtain ⟨g4, eg4, hf⟩ := lt9_some hf
    refine g_putL G hw C_10 iM_10 48 rfl ol_10 fl_X11_336 rfl rfl rfl dX11_stand_18 (fun H locs hw => ?_)
    rw [← eg4] at hw
    exact g_vretW G hr hk hf hw dX11_stand_21

set_option maxHeartbeats 4000000 in
set_option maxRecDepth 100000 in
theorem c_M_lay (l : Launch) (D : va_G) (X : va_W) (E : gE) (n : Nat) (g : Mem) (g' : Mem) (hf : M_lay n g = some g') : gMet l yX11_lay cX11_lay 2 none 6 146 D X idsM E [.ref (E.1 10 0)] g none g' := by
  rw [M_lay] at hf
  refine gt_code (by decide) (Nat.le_of_ble_eq_true rfl) (fun p en s m below meth c ls G hr hk hw hl => ?_)
  have hl : lv_has ls 2 [(0, .ref (E.1 10 0))] := hl
  refine lv_iconst (v := (0 : Int32)) G.1 G.2.1 dX11_lay_0 (by decide) ?_
  refine lv_istore_n (lv' := [(1, .int (0 : Int32)), (0, .ref (E.1 10 0))]) G.1 G.2.1 dX11_lay_1 rfl hl (by decide) rfl (fun ls hl => ?_)
  have hL2 : ∀ (k1 : Nat) (x2 : Int32) (g3 : Mem) (res1 : Mem) (H : Heap) (locs : List Loc) (ls : Array Slot), M_lay_L2 n k1 x2 g3 = some res1 → GW D X idsM E (gA X idsM E s.heap.size) s g3 H locs → lv_has ls 2 [(0, .ref (E.1 10 0)), (1, .int x2)] → (∀ (H : Heap) (locs : List Loc) (ls : Array Slot), GW D X idsM E (gA X idsM E s.heap.size) s res1 H locs → lv_has ls 2 [(0, .ref (E.1 10 0))] → W p l en { frames := 6, cells := 0, slots := 0, locals := 146 } s m [.ref (E.1 10 0)].toArray below meth c H locs 0 0 (MQ below (gQ none (GP D X idsM E g') (gA X idsM E s.heap.size)) [.ref (E.1 10 0)].toArray s 0 0 (gA X idsM E s.heap.size)) (F0 m 21 ls [])) → W p l en { frames := 6, cells := 0, slots := 0, locals := 146 } s m [.ref (E.1 10 0)].toArray below meth c H locs 0 0 (MQ below (gQ none (GP D X idsM E g') (gA X idsM E s.heap.size)) [.ref (E.1 10 0)].toArray s 0 0 (gA X idsM E s.heap.size)) (F0 m 2 ls []) := by
    intro k1
    induction k1 with
    | zero => intro x2 g3 res1 H locs ls hf; rw [M_lay_L2] at hf; cases hf
    | succ k1 ih1 =>
      intro x2 g3 res1 H locs ls hf hw hl hk1_0
      rw [M_lay_L2] at hf
      refine lv_iload_n G.1 G.2.1 dX11_lay_2 rfl (lv_at hl 1 rfl) ?_
      refine lv_aload_n G.1 G.2.1 dX11_lay_3 rfl (lv_at hl 0 rfl) ?_
      refine g_getI G hw C_10 iM_10 31 rfl fl_X11_264 dX11_lay_4 ?_
      refine lv_icmp_ge (tgt := 21) G.1 G.2.1 dX11_lay_7 (by decide) (fun hc7 => ?_) (fun hc7 => ?_)
      · rw [if_pos hc7] at hf
        obtain rfl := Option.some.inj hf
        exact hk1_0 _ _ ls hw (lv_sub hl [0] rfl)
      · rw [if_neg hc7] at hf
        refine lv_aload_n G.1 G.2.1 dX11_lay_10 rfl (lv_at hl 0 rfl) ?_
        refine lv_iload_n G.1 G.2.1 dX11_lay_11 rfl (lv_at hl 1 rfl) ?_
        obtain ⟨g4, hcg4, hf⟩ := bd_some hf
        refine g_callV0 (As := [.int x2]) (rest := []) G hw (gA_mono hw.2.2.2.1.1) C_10 iM_10 mv_X11_324 (c_M_layBlock l D X E n x2 g3 g4 hcg4) hl.1 rfl rfl (Nat.le_of_ble_eq_true rfl) (Nat.le_of_ble_eq_true rfl) (Nat.le_of_ble_eq_true rfl) ⟨Nat.le_refl _, Nat.le_refl _⟩ dX11_lay_12 (fun H locs hw => ?_)
        refine lv_iinc (v := x2 + 1) (lv' := [(1, .int (x2 + 1)), (0, .ref (E.1 10 0))]) G.1 G.2.1 dX11_lay_15 hl (k := 1) rfl rfl (by decide) rfl (fun ls hl => ?_)
        refine lv_goto (tgt := 2) G.1 G.2.1 dX11_lay_18 (by decide) ?_
        exact ih1 (x2 + 1) g4 _ _ _ ls hf hw (lv_sub hl [1, 0] rfl) hk1_0
  obtain ⟨r5, hr5, hf⟩ := bd_some hf
  refine hL2 n (0 : Int32) g r5 _ _ ls hr5 hw (lv_sub hl [1, 0] rfl) ?_
  intro H locs ls hw hl
  refine lv_aload_n G.1 G.2.1 dX11_lay_21 rfl (lv_at hl 0 rfl) ?_
  obtain ⟨g6, hcg6, hf⟩ := bd_some hf
  refine g_callV0 (As := []) (rest := []) G hw (gA_mono hw.2.2.2.1.1) C_10 iM_10 mv_X11_327 (c_M_bindRegisters l D X E n r5 g6 hcg6) hl.1 rfl rfl (Nat.le_of_ble_eq_true rfl) (Nat.le_of_ble_eq_true rfl) (Nat.le_of_ble_eq_true rfl) ⟨Nat.le_refl _, Nat.le_refl _⟩ dX11_lay_22 (fun H locs hw => ?_)
  refine lv_aload_n G.1 G.2.1 dX11_lay_25 rfl (lv_at hl 0 rfl) ?_
  obtain ⟨g7, hcg7, hf⟩ := bd_some hf
  refine g_callV0 (As := []) (rest := []) G hw (gA_mono hw.2.2.2.1.1) C_10 iM_10 mv_X11_330 (c_M_stand l D X E n g6 g7 hcg7) hl.1 rfl rfl (Nat.le_of_ble_eq_true rfl) (Nat.le_of_ble_eq_true rfl) (Nat.le_of_ble_eq_true rfl) ⟨Nat.le_refl _, Nat.le_refl _⟩ dX11_lay_26 (fun H locs hw => ?_)
  exact g_vretW G hr hk hf hw dX11_lay_29

set_option maxHeartbeats 4000000 in
set_option maxRecDepth 100000 in
theorem c_M_keepProgram (l : Launch) (D : va_G) (X : va_W) (E : gE) (n : Nat) (g : Mem) (g' : Mem) (hf : M_keepProgram n g = some g') : gMet l yX11_keepProgram cX11_keepProgram 2 none 7 167 D X idsM E [.ref (E.1 10 0)] g none g' := by
  rw [M_keepProgram] at hf
  refine gt_code (by decide) (Nat.le_of_ble_eq_true rfl) (fun p en s m below meth c ls G hr hk hw hl => ?_)
  have hl : lv_has ls 2 [(0, .ref (E.1 10 0))] := hl
  refine lv_aload_n G.1 G.2.1 dX11_keepProgram_0 rfl (lv_at hl 0 rfl) ?_
  refine lv_aload_n G.1 G.2.1 dX11_keepProgram_1 rfl (lv_at hl 0 rfl) ?_
  refine g_getI G hw C_10 iM_10 10 rfl fl_X11_171 dX11_keepProgram_2 ?_
  obtain ⟨g1, eg1, hf⟩ := lt9_some hf
  refine g_putI G hw C_10 iM_10 25 rfl fl_X11_261 rfl rfl rfl dX11_keepProgram_5 (fun H locs hw => ?_)
  rw [← eg1] at hw
  refine lv_aload_n G.1 G.2.1 dX11_keepProgram_8 rfl (lv_at hl 0 rfl) ?_
  refine lv_aload_n G.1 G.2.1 dX11_keepProgram_9 rfl (lv_at hl 0 rfl) ?_
  refine g_getI G hw C_10 iM_10 16 rfl fl_X11_162 dX11_keepProgram_10 ?_
  obtain ⟨g2, eg2, hf⟩ := lt9_some hf
  refine g_putI G hw C_10 iM_10 31 rfl fl_X11_264 rfl rfl rfl dX11_keepProgram_13 (fun H locs hw => ?_)
  rw [← eg2] at hw
  refine lv_iconst (v := (0 : Int32)) G.1 G.2.1 dX11_keepProgram_16 (by decide) ?_
  refine lv_istore_n (lv' := [(1, .int (0 : Int32)), (0, .ref (E.1 10 0))]) G.1 G.2.1 dX11_keepProgram_17 rfl hl (by decide) rfl (fun ls hl => ?_)
  have hL18 : ∀ (k3 : Nat) (x4 : Int32) (g5 : Mem) (res3 : Mem) (H : Heap) (locs : List Loc) (ls : Array Slot), M_keepProgram_L18 n k3 x4 g5 = some res3 → GW D X idsM E (gA X idsM E s.heap.size) s g5 H locs → lv_has ls 2 [(0, .ref (E.1 10 0)), (1, .int x4)] → (∀ (H : Heap) (locs : List Loc) (ls : Array Slot), GW D X idsM E (gA X idsM E s.heap.size) s res3 H locs → lv_has ls 2 [(0, .ref (E.1 10 0))] → W p l en { frames := 7, cells := 0, slots := 0, locals := 167 } s m [.ref (E.1 10 0)].toArray below meth c H locs 0 0 (MQ below (gQ none (GP D X idsM E g') (gA X idsM E s.heap.size)) [.ref (E.1 10 0)].toArray s 0 0 (gA X idsM E s.heap.size)) (F0 m 68 ls [])) → W p l en { frames := 7, cells := 0, slots := 0, locals := 167 } s m [.ref (E.1 10 0)].toArray below meth c H locs 0 0 (MQ below (gQ none (GP D X idsM E g') (gA X idsM E s.heap.size)) [.ref (E.1 10 0)].toArray s 0 0 (gA X idsM E s.heap.size)) (F0 m 18 ls []) := by
    intro k3
    induction k3 with
    | zero => intro x4 g5 res3 H locs ls hf; rw [M_keepProgram_L18] at hf; cases hf
    | succ k3 ih3 =>
      intro x4 g5 res3 H locs ls hf hw hl hk3_0
      rw [M_keepProgram_L18] at hf
      refine lv_iload_n G.1 G.2.1 dX11_keepProgram_18 rfl (lv_at hl 1 rfl) ?_
      refine lv_aload_n G.1 G.2.1 dX11_keepProgram_19 rfl (lv_at hl 0 rfl) ?_
      refine g_getI G hw C_10 iM_10 25 rfl fl_X11_261 dX11_keepProgram_20 ?_
      refine lv_icmp_ge (tgt := 68) G.1 G.2.1 dX11_keepProgram_23 (by decide) (fun hc23 => ?_) (fun hc23 => ?_)
      · rw [if_pos hc23] at hf
        obtain rfl := Option.some.inj hf
        exact hk3_0 _ _ ls hw (lv_sub hl [0] rfl)
      · rw [if_neg hc23] at hf
        refine lv_aload_n G.1 G.2.1 dX11_keepProgram_26 rfl (lv_at hl 0 rfl) ?_
        refine g_getC G hw C_10 iM_10 26 126 rfl (by decide) rfl fl_X11_51 dX11_keepProgram_27 ?_
        refine lv_iload_n G.1 G.2.1 dX11_keepProgram_30 rfl (lv_at hl 1 rfl) ?_
        refine lv_aload_n G.1 G.2.1 dX11_keepProgram_31 rfl (lv_at hl 0 rfl) ?_
        refine g_getC G hw C_10 iM_10 11 111 rfl (by decide) rfl fl_X11_17 dX11_keepProgram_32 ?_
        refine lv_iload_n G.1 G.2.1 dX11_keepProgram_35 rfl (lv_at hl 1 rfl) ?_
        obtain ⟨j6, hj6, hf⟩ := bd_some hf
        refine g_iald G hw iM_111 (by decide) rfl hj6 dX11_keepProgram_36 ?_
        obtain ⟨j7, hj7, hf⟩ := bd_some hf
        obtain ⟨g8, eg8, hf⟩ := lt9_some hf
        refine g_iast G hw iM_126 (by decide) rfl hj7 dX11_keepProgram_37 (fun H locs hw => ?_)
        rw [← eg8] at hw
        refine lv_aload_n G.1 G.2.1 dX11_keepProgram_38 rfl (lv_at hl 0 rfl) ?_
        refine g_getC G hw C_10 iM_10 29 129 rfl (by decide) rfl fl_X11_60 dX11_keepProgram_39 ?_
        refine lv_iload_n G.1 G.2.1 dX11_keepProgram_42 rfl (lv_at hl 1 rfl) ?_
        refine lv_aload_n G.1 G.2.1 dX11_keepProgram_43 rfl (lv_at hl 0 rfl) ?_
        refine g_getC G hw C_10 iM_10 14 114 rfl (by decide) rfl fl_X11_26 dX11_keepProgram_44 ?_
        refine lv_iload_n G.1 G.2.1 dX11_keepProgram_47 rfl (lv_at hl 1 rfl) ?_
        obtain ⟨j9, hj9, hf⟩ := bd_some hf
        refine g_iald G hw iM_114 (by decide) rfl hj9 dX11_keepProgram_48 ?_
        obtain ⟨j10, hj10, hf⟩ := bd_some hf
        obtain ⟨g11, eg11, hf⟩ := lt9_some hf
        refine g_iast G hw iM_129 (by decide) rfl hj10 dX11_keepProgram_49 (fun H locs hw => ?_)
        rw [← eg11] at hw
        refine lv_aload_n G.1 G.2.1 dX11_keepProgram_50 rfl (lv_at hl 0 rfl) ?_
        refine g_getC G hw C_10 iM_10 30 130 rfl (by decide) rfl fl_X11_63 dX11_keepProgram_51 ?_
        refine lv_iload_n G.1 G.2.1 dX11_keepProgram_54 rfl (lv_at hl 1 rfl) ?_
        refine lv_aload_n G.1 G.2.1 dX11_keepProgram_55 rfl (lv_at hl 0 rfl) ?_
        refine g_getC G hw C_10 iM_10 15 115 rfl (by decide) rfl fl_X11_29 dX11_keepProgram_56 ?_
        refine lv_iload_n G.1 G.2.1 dX11_keepProgram_59 rfl (lv_at hl 1 rfl) ?_
        obtain ⟨j12, hj12, hf⟩ := bd_some hf
        refine g_iald G hw iM_115 (by decide) rfl hj12 dX11_keepProgram_60 ?_
        obtain ⟨j13, hj13, hf⟩ := bd_some hf
        obtain ⟨g14, eg14, hf⟩ := lt9_some hf
        refine g_iast G hw iM_130 (by decide) rfl hj13 dX11_keepProgram_61 (fun H locs hw => ?_)
        rw [← eg14] at hw
        refine lv_iinc (v := x4 + 1) (lv' := [(1, .int (x4 + 1)), (0, .ref (E.1 10 0))]) G.1 G.2.1 dX11_keepProgram_62 hl (k := 1) rfl rfl (by decide) rfl (fun ls hl => ?_)
        refine lv_goto (tgt := 18) G.1 G.2.1 dX11_keepProgram_65 (by decide) ?_
        exact ih3 (x4 + 1) g14 _ _ _ ls hf hw (lv_sub hl [1, 0] rfl) hk3_0
  obtain ⟨r15, hr15, hf⟩ := bd_some hf
  refine hL18 n (0 : Int32) g2 r15 _ _ ls hr15 hw (lv_sub hl [1, 0] rfl) ?_
  intro H locs ls hw hl
  refine lv_iconst (v := (0 : Int32)) G.1 G.2.1 dX11_keepProgram_68 (by decide) ?_
  refine lv_istore_n (lv' := [(1, .int (0 : Int32)), (0, .ref (E.1 10 0))]) G.1 G.2.1 dX11_keepProgram_69 rfl hl (by decide) rfl (fun ls hl => ?_)
  have hL70 : ∀ (k16 : Nat) (x17 : Int32) (g18 : Mem) (res16 : Mem) (H : Heap) (locs : List Loc) (ls : Array Slot), M_keepProgram_L70 n k16 x17 g18 = some res16 → GW D X idsM E (gA X idsM E s.heap.size) s g18 H locs → lv_has ls 2 [(0, .ref (E.1 10 0)), (1, .int x17)] → (∀ (H : Heap) (locs : List Loc) (ls : Array Slot), GW D X idsM E (gA X idsM E s.heap.size) s res16 H locs → lv_has ls 2 [(0, .ref (E.1 10 0))] → W p l en { frames := 7, cells := 0, slots := 0, locals := 167 } s m [.ref (E.1 10 0)].toArray below meth c H locs 0 0 (MQ below (gQ none (GP D X idsM E g') (gA X idsM E s.heap.size)) [.ref (E.1 10 0)].toArray s 0 0 (gA X idsM E s.heap.size)) (F0 m 110 ls [])) → W p l en { frames := 7, cells := 0, slots := 0, locals := 167 } s m [.ref (E.1 10 0)].toArray below meth c H locs 0 0 (MQ below (gQ none (GP D X idsM E g') (gA X idsM E s.heap.size)) [.ref (E.1 10 0)].toArray s 0 0 (gA X idsM E s.heap.size)) (F0 m 70 ls []) := by
    intro k16
    induction k16 with
    | zero => intro x17 g18 res16 H locs ls hf; rw [M_keepProgram_L70] at hf; cases hf
    | succ k16 ih16 =>
      intro x17 g18 res16 H locs ls hf hw hl hk16_0
      rw [M_keepProgram_L70] at hf
      refine lv_iload_n G.1 G.2.1 dX11_keepProgram_70 rfl (lv_at hl 1 rfl) ?_
      refine lv_iconst (v := (2 : Int32)) G.1 G.2.1 dX11_keepProgram_71 (by decide) ?_
      refine lv_aload_n G.1 G.2.1 dX11_keepProgram_72 rfl (lv_at hl 0 rfl) ?_
      refine g_getI G hw C_10 iM_10 25 rfl fl_X11_261 dX11_keepProgram_73 ?_
      refine lv_imul G.1 G.2.1 dX11_keepProgram_76 ?_
      refine lv_icmp_ge (tgt := 110) G.1 G.2.1 dX11_keepProgram_77 (by decide) (fun hc77 => ?_) (fun hc77 => ?_)
      · rw [if_pos hc77] at hf
        obtain rfl := Option.some.inj hf
        exact hk16_0 _ _ ls hw (lv_sub hl [0] rfl)
      · rw [if_neg hc77] at hf
        refine lv_aload_n G.1 G.2.1 dX11_keepProgram_80 rfl (lv_at hl 0 rfl) ?_
        refine g_getC G hw C_10 iM_10 27 127 rfl (by decide) rfl fl_X11_54 dX11_keepProgram_81 ?_
        refine lv_iload_n G.1 G.2.1 dX11_keepProgram_84 rfl (lv_at hl 1 rfl) ?_
        refine lv_aload_n G.1 G.2.1 dX11_keepProgram_85 rfl (lv_at hl 0 rfl) ?_
        refine g_getC G hw C_10 iM_10 12 112 rfl (by decide) rfl fl_X11_20 dX11_keepProgram_86 ?_
        refine lv_iload_n G.1 G.2.1 dX11_keepProgram_89 rfl (lv_at hl 1 rfl) ?_
        obtain ⟨j19, hj19, hf⟩ := bd_some hf
        refine g_iald G hw iM_112 (by decide) rfl hj19 dX11_keepProgram_90 ?_
        obtain ⟨j20, hj20, hf⟩ := bd_some hf
        obtain ⟨g21, eg21, hf⟩ := lt9_some hf
        refine g_iast G hw iM_127 (by decide) rfl hj20 dX11_keepProgram_91 (fun H locs hw => ?_)
        rw [← eg21] at hw
        refine lv_aload_n G.1 G.2.1 dX11_keepProgram_92 rfl (lv_at hl 0 rfl) ?_
        refine g_getC G hw C_10 iM_10 28 128 rfl (by decide) rfl fl_X11_57 dX11_keepProgram_93 ?_
        refine lv_iload_n G.1 G.2.1 dX11_keepProgram_96 rfl (lv_at hl 1 rfl) ?_
        refine lv_aload_n G.1 G.2.1 dX11_keepProgram_97 rfl (lv_at hl 0 rfl) ?_
        refine g_getC G hw C_10 iM_10 13 113 rfl (by decide) rfl fl_X11_23 dX11_keepProgram_98 ?_
        refine lv_iload_n G.1 G.2.1 dX11_keepProgram_101 rfl (lv_at hl 1 rfl) ?_
        obtain ⟨j22, hj22, hf⟩ := bd_some hf
        refine g_iald G hw iM_113 (by decide) rfl hj22 dX11_keepProgram_102 ?_
        obtain ⟨j23, hj23, hf⟩ := bd_some hf
        obtain ⟨g24, eg24, hf⟩ := lt9_some hf
        refine g_iast G hw iM_128 (by decide) rfl hj23 dX11_keepProgram_103 (fun H locs hw => ?_)
        rw [← eg24] at hw
        refine lv_iinc (v := x17 + 1) (lv' := [(1, .int (x17 + 1)), (0, .ref (E.1 10 0))]) G.1 G.2.1 dX11_keepProgram_104 hl (k := 1) rfl rfl (by decide) rfl (fun ls hl => ?_)
        refine lv_goto (tgt := 70) G.1 G.2.1 dX11_keepProgram_107 (by decide) ?_
        exact ih16 (x17 + 1) g24 _ _ _ ls hf hw (lv_sub hl [1, 0] rfl) hk16_0
  obtain ⟨r25, hr25, hf⟩ := bd_some hf
  refine hL70 n (0 : Int32) r15 r25 _ _ ls hr25 hw (lv_sub hl [1, 0] rfl) ?_
  intro H locs ls hw hl
  refine lv_iconst (v := (0 : Int32)) G.1 G.2.1 dX11_keepProgram_110 (by decide) ?_
  refine lv_istore_n (lv' := [(1, .int (0 : Int32)), (0, .ref (E.1 10 0))]) G.1 G.2.1 dX11_keepProgram_111 rfl hl (by decide) rfl (fun ls hl => ?_)
  have hL112 : ∀ (k26 : Nat) (x27 : Int32) (g28 : Mem) (res26 : Mem) (H : Heap) (locs : List Loc) (ls : Array Slot), M_keepProgram_L112 n k26 x27 g28 = some res26 → GW D X idsM E (gA X idsM E s.heap.size) s g28 H locs → lv_has ls 2 [(0, .ref (E.1 10 0)), (1, .int x27)] → (∀ (H : Heap) (locs : List Loc) (ls : Array Slot), GW D X idsM E (gA X idsM E s.heap.size) s res26 H locs → lv_has ls 2 [(0, .ref (E.1 10 0))] → W p l en { frames := 7, cells := 0, slots := 0, locals := 167 } s m [.ref (E.1 10 0)].toArray below meth c H locs 0 0 (MQ below (gQ none (GP D X idsM E g') (gA X idsM E s.heap.size)) [.ref (E.1 10 0)].toArray s 0 0 (gA X idsM E s.heap.size)) (F0 m 186 ls [])) → W p l en { frames := 7, cells := 0, slots := 0, locals := 167 } s m [.ref (E.1 10 0)].toArray below meth c H locs 0 0 (MQ below (gQ none (GP D X idsM E g') (gA X idsM E s.heap.size)) [.ref (E.1 10 0)].toArray s 0 0 (gA X idsM E s.heap.size)) (F0 m 112 ls []) := by
    intro k26
    induction k26 with
    | zero => intro x27 g28 res26 H locs ls hf; rw [M_keepProgram_L112] at hf; cases hf
    | succ k26 ih26 =>
      intro x27 g28 res26 H locs ls hf hw hl hk26_0
      rw [M_keepProgram_L112] at hf
      refine lv_iload_n G.1 G.2.1 dX11_keepProgram_112 rfl (lv_at hl 1 rfl) ?_
      refine lv_aload_n G.1 G.2.1 dX11_keepProgram_113 rfl (lv_at hl 0 rfl) ?_
      refine g_getI G hw C_10 iM_10 31 rfl fl_X11_264 dX11_keepProgram_114 ?_
      refine lv_icmp_ge (tgt := 186) G.1 G.2.1 dX11_keepProgram_117 (by decide) (fun hc117 => ?_) (fun hc117 => ?_)
      · rw [if_pos hc117] at hf
        obtain rfl := Option.some.inj hf
        exact hk26_0 _ _ ls hw (lv_sub hl [0] rfl)
      · rw [if_neg hc117] at hf
        refine lv_aload_n G.1 G.2.1 dX11_keepProgram_120 rfl (lv_at hl 0 rfl) ?_
        refine g_getC G hw C_10 iM_10 36 136 rfl (by decide) rfl fl_X11_78 dX11_keepProgram_121 ?_
        refine lv_iload_n G.1 G.2.1 dX11_keepProgram_124 rfl (lv_at hl 1 rfl) ?_
        refine lv_aload_n G.1 G.2.1 dX11_keepProgram_125 rfl (lv_at hl 0 rfl) ?_
        refine g_getC G hw C_10 iM_10 21 121 rfl (by decide) rfl fl_X11_44 dX11_keepProgram_126 ?_
        refine lv_iload_n G.1 G.2.1 dX11_keepProgram_129 rfl (lv_at hl 1 rfl) ?_
        obtain ⟨j29, hj29, hf⟩ := bd_some hf
        refine g_zald G hw iM_121 (by decide) rfl hj29 dX11_keepProgram_130 ?_
        obtain ⟨j30, hj30, hf⟩ := bd_some hf
        obtain ⟨hz32, hf⟩ := ck_some hf
        obtain ⟨g31, eg31, hf⟩ := lt9_some hf
        refine g_zast G hw iM_136 (by decide) rfl hj30 (zv hz32) dX11_keepProgram_131 (fun H locs hw => ?_)
        rw [← eg31] at hw
        refine lv_aload_n G.1 G.2.1 dX11_keepProgram_132 rfl (lv_at hl 0 rfl) ?_
        refine g_getC G hw C_10 iM_10 32 132 rfl (by decide) rfl fl_X11_66 dX11_keepProgram_133 ?_
        refine lv_iload_n G.1 G.2.1 dX11_keepProgram_136 rfl (lv_at hl 1 rfl) ?_
        refine lv_aload_n G.1 G.2.1 dX11_keepProgram_137 rfl (lv_at hl 0 rfl) ?_
        refine g_getC G hw C_10 iM_10 17 117 rfl (by decide) rfl fl_X11_32 dX11_keepProgram_138 ?_
        refine lv_iload_n G.1 G.2.1 dX11_keepProgram_141 rfl (lv_at hl 1 rfl) ?_
        obtain ⟨j33, hj33, hf⟩ := bd_some hf
        refine g_iald G hw iM_117 (by decide) rfl hj33 dX11_keepProgram_142 ?_
        obtain ⟨j34, hj34, hf⟩ := bd_some hf
        obtain ⟨g35, eg35, hf⟩ := lt9_some hf
        refine g_iast G hw iM_132 (by decide) rfl hj34 dX11_keepProgram_143 (fun H locs hw => ?_)
        rw [← eg35] at hw
        refine lv_aload_n G.1 G.2.1 dX11_keepProgram_144 rfl (lv_at hl 0 rfl) ?_
        refine g_getC G hw C_10 iM_10 33 133 rfl (by decide) rfl fl_X11_69 dX11_keepProgram_145 ?_
        refine lv_iload_n G.1 G.2.1 dX11_keepProgram_148 rfl (lv_at hl 1 rfl) ?_
        refine lv_aload_n G.1 G.2.1 dX11_keepProgram_149 rfl (lv_at hl 0 rfl) ?_
        refine g_getC G hw C_10 iM_10 18 118 rfl (by decide) rfl fl_X11_35 dX11_keepProgram_150 ?_
        refine lv_iload_n G.1 G.2.1 dX11_keepProgram_153 rfl (lv_at hl 1 rfl) ?_
        obtain ⟨j36, hj36, hf⟩ := bd_some hf
        refine g_iald G hw iM_118 (by decide) rfl hj36 dX11_keepProgram_154 ?_
        obtain ⟨j37, hj37, hf⟩ := bd_some hf
        obtain ⟨g38, eg38, hf⟩ := lt9_some hf
        refine g_iast G hw iM_133 (by decide) rfl hj37 dX11_keepProgram_155 (fun H locs hw => ?_)
        rw [← eg38] at hw
        refine lv_aload_n G.1 G.2.1 dX11_keepProgram_156 rfl (lv_at hl 0 rfl) ?_
        refine g_getC G hw C_10 iM_10 34 134 rfl (by decide) rfl fl_X11_72 dX11_keepProgram_157 ?_
        refine lv_iload_n G.1 G.2.1 dX11_keepProgram_160 rfl (lv_at hl 1 rfl) ?_
        refine lv_aload_n G.1 G.2.1 dX11_keepProgram_161 rfl (lv_at hl 0 rfl) ?_
        refine g_getC G hw C_10 iM_10 19 119 rfl (by decide) rfl fl_X11_38 dX11_keepProgram_162 ?_
        refine lv_iload_n G.1 G.2.1 dX11_keepProgram_165 rfl (lv_at hl 1 rfl) ?_
        obtain ⟨j39, hj39, hf⟩ := bd_some hf
        refine g_iald G hw iM_119 (by decide) rfl hj39 dX11_keepProgram_166 ?_
        obtain ⟨j40, hj40, hf⟩ := bd_some hf
        obtain ⟨g41, eg41, hf⟩ := lt9_some hf
        refine g_iast G hw iM_134 (by decide) rfl hj40 dX11_keepProgram_167 (fun H locs hw => ?_)
        rw [← eg41] at hw
        refine lv_aload_n G.1 G.2.1 dX11_keepProgram_168 rfl (lv_at hl 0 rfl) ?_
        refine g_getC G hw C_10 iM_10 35 135 rfl (by decide) rfl fl_X11_75 dX11_keepProgram_169 ?_
        refine lv_iload_n G.1 G.2.1 dX11_keepProgram_172 rfl (lv_at hl 1 rfl) ?_
        refine lv_aload_n G.1 G.2.1 dX11_keepProgram_173 rfl (lv_at hl 0 rfl) ?_
        refine g_getC G hw C_10 iM_10 20 120 rfl (by decide) rfl fl_X11_41 dX11_keepProgram_174 ?_
        refine lv_iload_n G.1 G.2.1 dX11_keepProgram_177 rfl (lv_at hl 1 rfl) ?_
        obtain ⟨j42, hj42, hf⟩ := bd_some hf
        refine g_iald G hw iM_120 (by decide) rfl hj42 dX11_keepProgram_178 ?_
        obtain ⟨j43, hj43, hf⟩ := bd_some hf
        obtain ⟨g44, eg44, hf⟩ := lt9_some hf
        refine g_iast G hw iM_135 (by decide) rfl hj43 dX11_keepProgram_179 (fun H locs hw => ?_)
        rw [← eg44] at hw
        refine lv_iinc (v := x27 + 1) (lv' := [(1, .int (x27 + 1)), (0, .ref (E.1 10 0))]) G.1 G.2.1 dX11_keepProgram_180 hl (k := 1) rfl rfl (by decide) rfl (fun ls hl => ?_)
        refine lv_goto (tgt := 112) G.1 G.2.1 dX11_keepProgram_183 (by decide) ?_
        exact ih26 (x27 + 1) g44 _ _ _ ls hf hw (lv_sub hl [1, 0] rfl) hk26_0
  obtain ⟨r45, hr45, hf⟩ := bd_some hf
  refine hL112 n (0 : Int32) r25 r45 _ _ ls hr45 hw (lv_sub hl [1, 0] rfl) ?_
  intro H locs ls hw hl
  refine lv_aload_n G.1 G.2.1 dX11_keepProgram_186 rfl (lv_at hl 0 rfl) ?_
  obtain ⟨g46, hcg46, hf⟩ := bd_some hf
  refine g_callV0 (As := []) (rest := []) G hw (gA_mono hw.2.2.2.1.1) C_10 iM_10 mv_X11_267 (c_M_lay l D X E n r45 g46 hcg46) hl.1 rfl rfl (Nat.le_of_ble_eq_true rfl) (Nat.le_of_ble_eq_true rfl) (Nat.le_of_ble_eq_true rfl) ⟨Nat.le_refl _, Nat.le_refl _⟩ dX11_keepProgram_187 (fun H locs hw => ?_)
  exact g_vretW G hr hk hf hw dX11_keepProgram_190

set_option maxHeartbeats 4000000 in
set_option maxRecDepth 100000 in
theorem c_M_compile (l : Launch) (D : va_G) (X : va_W) (E : gE) (n : Nat) (g : Mem) (r : Int32) (g' : Mem) (hf : M_compile n g = some (r, g')) : gMet l yX11_compile cX11_compile 1 (some .int) 172 3990 D X idsM E [.ref (E.1 10 0)] g (some (.int r)) g' := by
  rw [M_compile] at hf
  refine gt_code (by decide) (Nat.le_of_ble_eq_true rfl) (fun p en s m below meth c ls G hr hk hw hl => ?_)
  have hl : lv_has ls 1 [(0, .ref (E.1 10 0))] := hl
  refine lv_aload_n G.1 G.2.1 dX11_compile_0 rfl (lv_at hl 0 rfl) ?_
  refine lv_iconst (v := (0 : Int32)) G.1 G.2.1 dX11_compile_1 (by decide) ?_
  obtain ⟨g1, eg1, hf⟩ := lt9_some hf
  refine g_putI G hw C_10 iM_10 0 rfl fl_X11_117 rfl rfl rfl dX11_compile_2 (fun H locs hw => ?_)
  rw [← eg1] at hw
  refine lv_aload_n G.1 G.2.1 dX11_compile_5 rfl (lv_at hl 0 rfl) ?_
  refine lv_iconst (v := (0 : Int32)) G.1 G.2.1 dX11_compile_6 (by decide) ?_
  obtain ⟨g2, eg2, hf⟩ := lt9_some hf
  refine g_putI G hw C_10 iM_10 3 rfl fl_X11_125 rfl rfl rfl dX11_compile_7 (fun H locs hw => ?_)
  rw [← eg2] at hw
  refine lv_aload_n G.1 G.2.1 dX11_compile_10 rfl (lv_at hl 0 rfl) ?_
  refine lv_iconst (v := (-1 : Int32)) G.1 G.2.1 dX11_compile_11 (by decide) ?_
  obtain ⟨g3, eg3, hf⟩ := lt9_some hf
  refine g_putI G hw C_10 iM_10 4 rfl fl_X11_13 rfl rfl rfl dX11_compile_12 (fun H locs hw => ?_)
  rw [← eg3] at hw
  refine lv_aload_n G.1 G.2.1 dX11_compile_15 rfl (lv_at hl 0 rfl) ?_
  refine lv_iconst (v := (0 : Int32)) G.1 G.2.1 dX11_compile_16 (by decide) ?_
  obtain ⟨g4, eg4, hf⟩ := lt9_some hf
  refine g_putI G hw C_10 iM_10 5 rfl fl_X11_128 rfl rfl rfl dX11_compile_17 (fun H locs hw => ?_)
  rw [← eg4] at hw
  refine lv_aload_n G.1 G.2.1 dX11_compile_20 rfl (lv_at hl 0 rfl) ?_
  refine lv_iconst (v := (0 : Int32)) G.1 G.2.1 dX11_compile_21 (by decide) ?_
  obtain ⟨g5, eg5, hf⟩ := lt9_some hf
  refine g_putI G hw C_10 iM_10 6 rfl fl_X11_183 rfl rfl rfl dX11_compile_22 (fun H locs hw => ?_)
  rw [← eg5] at hw
  refine lv_aload_n G.1 G.2.1 dX11_compile_25 rfl (lv_at hl 0 rfl) ?_
  refine lv_iconst (v := (0 : Int32)) G.1 G.2.1 dX11_compile_26 (by decide) ?_
  obtain ⟨g6, eg6, hf⟩ := lt9_some hf
  refine g_putI G hw C_10 iM_10 7 rfl fl_X11_230 rfl rfl rfl dX11_compile_27 (fun H locs hw => ?_)
  rw [← eg6] at hw
  refine lv_aload_n G.1 G.2.1 dX11_compile_30 rfl (lv_at hl 0 rfl) ?_
  refine lv_iconst (v := (0 : Int32)) G.1 G.2.1 dX11_compile_31 (by decide) ?_
  obtain ⟨g7, eg7, hf⟩ := lt9_some hf
  refine g_putI G hw C_10 iM_10 10 rfl fl_X11_171 rfl rfl rfl dX11_compile_32 (fun H locs hw => ?_)
  rw [← eg7] at hw
  refine lv_aload_n G.1 G.2.1 dX11_compile_35 rfl (lv_at hl 0 rfl) ?_
  refine lv_iconst (v := (0 : Int32)) G.1 G.2.1 dX11_compile_36 (by decide) ?_
  obtain ⟨g8, eg8, hf⟩ := lt9_some hf
  refine g_putI G hw C_10 iM_10 16 rfl fl_X11_162 rfl rfl rfl dX11_compile_37 (fun H locs hw => ?_)
  rw [← eg8] at hw
  refine lv_aload_n G.1 G.2.1 dX11_compile_40 rfl (lv_at hl 0 rfl) ?_
  refine lv_iconst (v := (-1 : Int32)) G.1 G.2.1 dX11_compile_41 (by decide) ?_
  obtain ⟨g9, eg9, hf⟩ := lt9_some hf
  refine g_putI G hw C_10 iM_10 22 rfl fl_X11_159 rfl rfl rfl dX11_compile_42 (fun H locs hw => ?_)
  rw [← eg9] at hw
  refine lv_aload_n G.1 G.2.1 dX11_compile_45 rfl (lv_at hl 0 rfl) ?_
  refine lv_iconst (v := (0 : Int32)) G.1 G.2.1 dX11_compile_46 (by decide) ?_
  obtain ⟨g10, eg10, hf⟩ := lt9_some hf
  refine g_putI G hw C_10 iM_10 24 rfl fl_X11_156 rfl rfl rfl dX11_compile_47 (fun H locs hw => ?_)
  rw [← eg10] at hw
  refine lv_aload_n G.1 G.2.1 dX11_compile_50 rfl (lv_at hl 0 rfl) ?_
  refine lv_iconst (v := (0 : Int32)) G.1 G.2.1 dX11_compile_51 (by decide) ?_
  obtain ⟨g11, eg11, hf⟩ := lt9_some hf
  refine g_putI G hw C_10 iM_10 49 rfl fl_X11_165 rfl rfl rfl dX11_compile_52 (fun H locs hw => ?_)
  rw [← eg11] at hw
  refine lv_aload_n G.1 G.2.1 dX11_compile_55 rfl (lv_at hl 0 rfl) ?_
  obtain ⟨g12, hcg12, hf⟩ := bd_some hf
  refine g_callV0 (As := []) (rest := []) G hw (gA_mono hw.2.2.2.1.1) C_10 iM_10 mv_X11_233 (c_M_statements l D X E n 15 g11 g12 hcg12) hl.1 rfl rfl (Nat.le_of_ble_eq_true rfl) (Nat.le_of_ble_eq_true rfl) (Nat.le_of_ble_eq_true rfl) ⟨Nat.le_refl _, Nat.le_refl _⟩ dX11_compile_56 (fun H locs hw => ?_)
  refine lv_aload_n G.1 G.2.1 dX11_compile_59 rfl (lv_at hl 0 rfl) ?_
  refine g_getI G hw C_10 iM_10 3 rfl fl_X11_125 dX11_compile_60 ?_
  obtain ⟨j13, ej13, hf⟩ := lt9_some hf
  have hj13 : ∀ (g16 : Mem) (H : Heap) (locs : List Loc) (ls : Array Slot), j13 g16 = some (r, g') → GW D X idsM E (gA X idsM E s.heap.size) s g16 H locs → lv_has ls 1 [(0, .ref (E.1 10 0))] → W p l en { frames := 172, cells := 0, slots := 0, locals := 3990 } s m [.ref (E.1 10 0)].toArray below meth c H locs 0 0 (MQ below (gQ (some (.int r)) (GP D X idsM E g') (gA X idsM E s.heap.size)) [.ref (E.1 10 0)].toArray s 0 0 (gA X idsM E s.heap.size)) (F0 m 82 ls []) := by
    intro g16 H locs ls hf hw hl
    rw [ej13] at hf
    dsimp only at hf
    refine lv_aload_n G.1 G.2.1 dX11_compile_82 rfl (lv_at hl 0 rfl) ?_
    refine g_getI G hw C_10 iM_10 3 rfl fl_X11_125 dX11_compile_83 ?_
    refine lv_if_le (tgt := 91) G.1 G.2.1 dX11_compile_86 (by decide) (fun hc86 => ?_) (fun hc86 => ?_)
    · rw [if_pos hc86] at hf
      refine lv_aload_n G.1 G.2.1 dX11_compile_91 rfl (lv_at hl 0 rfl) ?_
      obtain ⟨g17, hcg17, hf⟩ := bd_some hf
      refine g_callV0 (As := []) (rest := []) G hw (gA_mono hw.2.2.2.1.1) C_10 iM_10 mv_X11_246 (c_M_leaveOpen l D X E n g16 g17 hcg17) hl.1 rfl rfl (Nat.le_of_ble_eq_true rfl) (Nat.le_of_ble_eq_true rfl) (Nat.le_of_ble_eq_true rfl) ⟨Nat.le_refl _, Nat.le_refl _⟩ dX11_compile_92 (fun H locs hw => ?_)
      refine lv_aload_n G.1 G.2.1 dX11_compile_95 rfl (lv_at hl 0 rfl) ?_
      refine lv_iconst (v := (0 : Int32)) G.1 G.2.1 dX11_compile_96 (by decide) ?_
      refine lv_iconst (v := (-1 : Int32)) G.1 G.2.1 dX11_compile_97 (by decide) ?_
      obtain ⟨g18, hcg18, hf⟩ := bd_some hf
      refine g_callV0 (As := [.int (0 : Int32), .int (-1 : Int32)]) (rest := []) G hw (gA_mono hw.2.2.2.1.1) C_10 iM_10 mv_X11_168 (c_M_lead l D X E n (0 : Int32) (-1 : Int32) g17 g18 hcg18) hl.1 rfl rfl (Nat.le_of_ble_eq_true rfl) (Nat.le_of_ble_eq_true rfl) (Nat.le_of_ble_eq_true rfl) ⟨Nat.le_refl _, Nat.le_refl _⟩ dX11_compile_98 (fun H locs hw => ?_)
      refine lv_aload_n G.1 G.2.1 dX11_compile_101 rfl (lv_at hl 0 rfl) ?_
      obtain ⟨g19, hcg19, hf⟩ := bd_some hf
      refine g_callV0 (As := []) (rest := []) G hw (gA_mono hw.2.2.2.1.1) C_10 iM_10 mv_X11_114 (c_M_keepProgram l D X E n g18 g19 hcg19) hl.1 rfl rfl (Nat.le_of_ble_eq_true rfl) (Nat.le_of_ble_eq_true rfl) (Nat.le_of_ble_eq_true rfl) ⟨Nat.le_refl _, Nat.le_refl _⟩ dX11_compile_102 (fun H locs hw => ?_)
      refine lv_aload_n G.1 G.2.1 dX11_compile_105 rfl (lv_at hl 0 rfl) ?_
      refine g_getI G hw C_10 iM_10 25 rfl fl_X11_261 dX11_compile_106 ?_
      exact g_iretW G hr hk hf hw dX11_compile_109
    · rw [if_neg hc86] at hf
      refine lv_iconst (v := (-1 : Int32)) G.1 G.2.1 dX11_compile_89 (by decide) ?_
      exact g_iretW G hr hk hf hw dX11_compile_90
  refine lv_if_ne (tgt := 82) G.1 G.2.1 dX11_compile_63 (by decide) (fun hc63 => ?_) (fun hc63 => ?_)
  · rw [if_neg hc63] at hf
    exact hj13 g12 _ _ ls hf hw (lv_sub hl [0] rfl)
  · rw [if_pos hc63] at hf
    refine lv_aload_n G.1 G.2.1 dX11_compile_66 rfl (lv_at hl 0 rfl) ?_
    obtain ⟨z14, hcz14, hf⟩ := bd_some hf
    refine g_callV1 (As := []) (rest := []) G hw (gA_mono hw.2.2.2.1.1) C_10 iM_10 mv_X11_135 (c_M_next l D X E n g12 z14.1 z14.2 hcz14) hl.1 rfl rfl (Nat.le_of_ble_eq_true rfl) (Nat.le_of_ble_eq_true rfl) (Nat.le_of_ble_eq_true rfl) ⟨Nat.le_refl _, Nat.le_refl _⟩ dX11_compile_67 (fun H locs hw => ?_)
    refine lv_if_lt (tgt := 82) G.1 G.2.1 dX11_compile_70 (by decide) (fun hc70 => ?_) (fun hc70 => ?_)
    · rw [if_pos hc70] at hf
      exact hj13 z14.2 _ _ ls hf hw (lv_sub hl [0] rfl)
    · rw [if_neg hc70] at hf
      refine lv_aload_n G.1 G.2.1 dX11_compile_73 rfl (lv_at hl 0 rfl) ?_
      refine lv_iconst (v := (1 : Int32)) G.1 G.2.1 dX11_compile_74 (by decide) ?_
      refine lv_aload_n G.1 G.2.1 dX11_compile_75 rfl (lv_at hl 0 rfl) ?_
      refine g_getI G hw C_10 iM_10 5 rfl fl_X11_128 dX11_compile_76 ?_
      obtain ⟨g15, hcg15, hf⟩ := bd_some hf
      refine g_callV0 (As := [.int (1 : Int32), .int (gI z14.2 10 0 5)]) (rest := []) G hw (gA_mono hw.2.2.2.1.1) C_10 iM_10 mv_X11_139 (c_M_fail l D X E n (1 : Int32) (gI z14.2 10 0 5) z14.2 g15 hcg15) hl.1 rfl rfl (Nat.le_of_ble_eq_true rfl) (Nat.le_of_ble_eq_true rfl) (Nat.le_of_ble_eq_true rfl) ⟨Nat.le_refl _, Nat.le_refl _⟩ dX11_compile_79 (fun H locs hw => ?_)
      exact hj13 g15 _ _ ls hf hw (lv_sub hl [0] rfl)

set_option maxHeartbeats 4000000 in
set_option maxRecDepth 100000 in
theorem c_M_fault (l : Launch) (D : va_G) (X : va_W) (E : gE) (n : Nat) (g : Mem) (r : Int32) (g' : Mem) (hf : M_fault n g = some (r, g')) : gMet l yX11_fault cX11_fault 1 (some .int) 0 0 D X idsM E [.ref (E.1 10 0)] g (some (.int r)) g' := by
  rw [M_fault] at hf
  refine gt_code (by decide) (Nat.le_of_ble_eq_true rfl) (fun p en s m below meth c ls G hr hk hw hl => ?_)
  have hl : lv_has ls 1 [(0, .ref (E.1 10 0))] := hl
  refine lv_aload_n G.1 G.2.1 dX11_fault_0 rfl (lv_at hl 0 rfl) ?_
  refine lv_iconst (v := (0 : Int32)) G.1 G.2.1 dX11_fault_1 (by decide) ?_
  obtain ⟨g1, eg1, hf⟩ := lt9_some hf
  refine g_putI G hw C_10 iM_10 0 rfl fl_X11_117 rfl rfl rfl dX11_fault_2 (fun H locs hw => ?_)
  rw [← eg1] at hw
  refine lv_aload_n G.1 G.2.1 dX11_fault_5 rfl (lv_at hl 0 rfl) ?_
  refine g_getI G hw C_10 iM_10 3 rfl fl_X11_125 dX11_fault_6 ?_
  exact g_iretW G hr hk hf hw dX11_fault_9

set_option maxHeartbeats 4000000 in
set_option maxRecDepth 100000 in
theorem c_M_place (l : Launch) (D : va_G) (X : va_W) (E : gE) (n : Nat) (g : Mem) (r : Int32) (g' : Mem) (hf : M_place n g = some (r, g')) : gMet l yX11_place cX11_place 1 (some .int) 0 0 D X idsM E [.ref (E.1 10 0)] g (some (.int r)) g' := by
  rw [M_place] at hf
  refine gt_code (by decide) (Nat.le_of_ble_eq_true rfl) (fun p en s m below meth c ls G hr hk hw hl => ?_)
  have hl : lv_has ls 1 [(0, .ref (E.1 10 0))] := hl
  refine lv_aload_n G.1 G.2.1 dX11_place_0 rfl (lv_at hl 0 rfl) ?_
  refine lv_iconst (v := (0 : Int32)) G.1 G.2.1 dX11_place_1 (by decide) ?_
  obtain ⟨g1, eg1, hf⟩ := lt9_some hf
  refine g_putI G hw C_10 iM_10 0 rfl fl_X11_117 rfl rfl rfl dX11_place_2 (fun H locs hw => ?_)
  rw [← eg1] at hw
  refine lv_aload_n G.1 G.2.1 dX11_place_5 rfl (lv_at hl 0 rfl) ?_
  refine g_getI G hw C_10 iM_10 4 rfl fl_X11_13 dX11_place_6 ?_
  exact g_iretW G hr hk hf hw dX11_place_9

set_option maxHeartbeats 4000000 in
set_option maxRecDepth 100000 in
theorem c_M_units (l : Launch) (D : va_G) (X : va_W) (E : gE) (n : Nat) (a1 : Int32) (a2 : Int32) (a3 : Int32) (g : Mem) (g' : Mem) (hf : M_units n a1 a2 a3 g = some g') : gMet l yX11_units cX11_units 4 none 7 167 D X idsM E [.ref (E.1 10 0), .int a1, .int a2, .int a3] g none g' := by
  rw [M_units] at hf
  refine gt_code (by decide) (Nat.le_of_ble_eq_true rfl) (fun p en s m below meth c ls G hr hk hw hl => ?_)
  have hl : lv_has ls 4 [(0, .ref (E.1 10 0)), (1, .int a1), (2, .int a2), (3, .int a3)] := hl
  refine lv_aload_n G.1 G.2.1 dX11_units_0 rfl (lv_at hl 0 rfl) ?_
  refine lv_iload_n G.1 G.2.1 dX11_units_1 rfl (lv_at hl 1 rfl) ?_
  obtain ⟨j2, ej2, hf⟩ := lt9_some hf
  have hj2 : ∀ (v4 : Int32) (H : Heap) (locs : List Loc) (ls : Array Slot), j2 v4 = some g' → GW D X idsM E (gA X idsM E s.heap.size) s g H locs → lv_has ls 4 [(0, .ref (E.1 10 0)), (1, .int a1), (2, .int a2), (3, .int a3)] → W p l en { frames := 7, cells := 0, slots := 0, locals := 167 } s m [.ref (E.1 10 0), .int a1, .int a2, .int a3].toArray below meth c H locs 0 0 (MQ below (gQ none (GP D X idsM E g') (gA X idsM E s.heap.size)) [.ref (E.1 10 0), .int a1, .int a2, .int a3].toArray s 0 0 (gA X idsM E s.heap.size)) (F0 m 44 ls [.int v4, .ref (E.1 10 0)]) := by
    intro v4 H locs ls hf hw hl
    rw [ej2] at hf
    dsimp only at hf
    obtain ⟨g5, eg5, hf⟩ := lt9_some hf
    refine g_putI G hw C_10 iM_10 0 rfl fl_X11_117 rfl rfl rfl dX11_units_44 (fun H locs hw => ?_)
    rw [← eg5] at hw
    refine lv_aload_n G.1 G.2.1 dX11_units_47 rfl (lv_at hl 0 rfl) ?_
    refine g_getI G hw C_10 iM_10 0 rfl fl_X11_117 dX11_units_48 ?_
    refine lv_if_ne (tgt := 72) G.1 G.2.1 dX11_units_51 (by decide) (fun hc51 => ?_) (fun hc51 => ?_)
    · rw [if_neg hc51] at hf
      exact g_vretW G hr hk hf hw dX11_units_72
    · rw [if_pos hc51] at hf
      refine lv_aload_n G.1 G.2.1 dX11_units_54 rfl (lv_at hl 0 rfl) ?_
      refine g_getC G hw C_10 iM_10 37 137 rfl (by decide) rfl fl_X11_81 dX11_units_55 ?_
      refine lv_iload_n G.1 G.2.1 dX11_units_58 rfl (lv_at hl 1 rfl) ?_
      refine lv_iload_n G.1 G.2.1 dX11_units_59 rfl (lv_at hl 2 rfl) ?_
      obtain ⟨j6, hj6, hf⟩ := bd_some hf
      obtain ⟨g7, eg7, hf⟩ := lt9_some hf
      refine g_iast G hw iM_137 (by decide) rfl hj6 dX11_units_60 (fun H locs hw => ?_)
      rw [← eg7] at hw
      refine lv_aload_n G.1 G.2.1 dX11_units_61 rfl (lv_at hl 0 rfl) ?_
      refine g_getC G hw C_10 iM_10 38 138 rfl (by decide) rfl fl_X11_84 dX11_units_62 ?_
      refine lv_iload_n G.1 G.2.1 dX11_units_65 rfl (lv_at hl 1 rfl) ?_
      refine lv_iload_n G.1 G.2.1 dX11_units_66 rfl (lv_at hl 3 rfl) ?_
      obtain ⟨j8, hj8, hf⟩ := bd_some hf
      obtain ⟨g9, eg9, hf⟩ := lt9_some hf
      refine g_iast G hw iM_138 (by decide) rfl hj8 dX11_units_67 (fun H locs hw => ?_)
      rw [← eg9] at hw
      refine lv_aload_n G.1 G.2.1 dX11_units_68 rfl (lv_at hl 0 rfl) ?_
      obtain ⟨g10, hcg10, hf⟩ := bd_some hf
      refine g_callV0 (As := []) (rest := []) G hw (gA_mono hw.2.2.2.1.1) C_10 iM_10 mv_X11_267 (c_M_lay l D X E n g9 g10 hcg10) hl.1 rfl rfl (Nat.le_of_ble_eq_true rfl) (Nat.le_of_ble_eq_true rfl) (Nat.le_of_ble_eq_true rfl) ⟨Nat.le_refl _, Nat.le_refl _⟩ dX11_units_69 (fun H locs hw => ?_)
      exact g_vretW G hr hk hf hw dX11_units_72
  obtain ⟨j1, ej1, hf⟩ := lt9_some hf
  have hj1 : ∀ (_u : Unit) (H : Heap) (locs : List Loc) (ls : Array Slot), j1 _u = some g' → GW D X idsM E (gA X idsM E s.heap.size) s g H locs → lv_has ls 4 [(0, .ref (E.1 10 0)), (1, .int a1), (2, .int a2), (3, .int a3)] → W p l en { frames := 7, cells := 0, slots := 0, locals := 167 } s m [.ref (E.1 10 0), .int a1, .int a2, .int a3].toArray below meth c H locs 0 0 (MQ below (gQ none (GP D X idsM E g') (gA X idsM E s.heap.size)) [.ref (E.1 10 0), .int a1, .int a2, .int a3].toArray s 0 0 (gA X idsM E s.heap.size)) (F0 m 39 ls [.ref (E.1 10 0)]) := by
    intro _u H locs ls hf hw hl
    rw [ej1] at hf
    dsimp only at hf
    refine lv_iconst (v := (1 : Int32)) G.1 G.2.1 dX11_units_39 (by decide) ?_
    refine lv_goto (tgt := 44) G.1 G.2.1 dX11_units_40 (by decide) ?_
    exact hj2 (1 : Int32) _ _ ls hf hw (lv_sub hl [0, 1, 2, 3] rfl)
  refine lv_if_lt (tgt := 39) G.1 G.2.1 dX11_units_2 (by decide) (fun hc2 => ?_) (fun hc2 => ?_)
  · rw [if_pos hc2] at hf
    exact hj1 () _ _ ls hf hw (lv_sub hl [0, 1, 2, 3] rfl)
  · rw [if_neg hc2] at hf
    refine lv_iload_n G.1 G.2.1 dX11_units_5 rfl (lv_at hl 1 rfl) ?_
    refine lv_iconst (v := (2 : Int32)) G.1 G.2.1 dX11_units_6 (by decide) ?_
    refine lv_icmp_gt (tgt := 39) G.1 G.2.1 dX11_units_7 (by decide) (fun hc7 => ?_) (fun hc7 => ?_)
    · rw [if_pos hc7] at hf
      exact hj1 () _ _ ls hf hw (lv_sub hl [0, 1, 2, 3] rfl)
    · rw [if_neg hc7] at hf
      refine lv_iload_n G.1 G.2.1 dX11_units_10 rfl (lv_at hl 2 rfl) ?_
      refine lv_iconst (v := (1 : Int32)) G.1 G.2.1 dX11_units_11 (by decide) ?_
      refine lv_icmp_lt (tgt := 39) G.1 G.2.1 dX11_units_12 (by decide) (fun hc12 => ?_) (fun hc12 => ?_)
      · rw [if_pos hc12] at hf
        exact hj1 () _ _ ls hf hw (lv_sub hl [0, 1, 2, 3] rfl)
      · rw [if_neg hc12] at hf
        refine lv_iload_n G.1 G.2.1 dX11_units_15 rfl (lv_at hl 2 rfl) ?_
        refine lv_iconst (v := (4 : Int32)) G.1 G.2.1 dX11_units_16 (by decide) ?_
        refine lv_icmp_gt (tgt := 39) G.1 G.2.1 dX11_units_17 (by decide) (fun hc17 => ?_) (fun hc17 => ?_)
        · rw [if_pos hc17] at hf
          exact hj1 () _ _ ls hf hw (lv_sub hl [0, 1, 2, 3] rfl)
        · rw [if_neg hc17] at hf
          refine lv_iload_n G.1 G.2.1 dX11_units_20 rfl (lv_at hl 3 rfl) ?_
          refine lv_iconst (v := (1 : Int32)) G.1 G.2.1 dX11_units_21 (by decide) ?_
          refine lv_icmp_lt (tgt := 39) G.1 G.2.1 dX11_units_22 (by decide) (fun hc22 => ?_) (fun hc22 => ?_)
          · rw [if_pos hc22] at hf
            exact hj1 () _ _ ls hf hw (lv_sub hl [0, 1, 2, 3] rfl)
          · rw [if_neg hc22] at hf
            refine lv_iload_n G.1 G.2.1 dX11_units_25 rfl (lv_at hl 3 rfl) ?_
            refine lv_iconst (v := (4 : Int32)) G.1 G.2.1 dX11_units_26 (by decide) ?_
            refine lv_icmp_gt (tgt := 39) G.1 G.2.1 dX11_units_27 (by decide) (fun hc27 => ?_) (fun hc27 => ?_)
            · rw [if_pos hc27] at hf
              exact hj1 () _ _ ls hf hw (lv_sub hl [0, 1, 2, 3] rfl)
            · rw [if_neg hc27] at hf
              refine lv_iload_n G.1 G.2.1 dX11_units_30 rfl (lv_at hl 1 rfl) ?_
              obtain ⟨j3, ej3, hf⟩ := lt9_some hf
              have hj3 : ∀ (_u : Unit) (H : Heap) (locs : List Loc) (ls : Array Slot), j3 _u = some g' → GW D X idsM E (gA X idsM E s.heap.size) s g H locs → lv_has ls 4 [(0, .ref (E.1 10 0)), (1, .int a1), (2, .int a2), (3, .int a3)] → W p l en { frames := 7, cells := 0, slots := 0, locals := 167 } s m [.ref (E.1 10 0), .int a1, .int a2, .int a3].toArray below meth c H locs 0 0 (MQ below (gQ none (GP D X idsM E g') (gA X idsM E s.heap.size)) [.ref (E.1 10 0), .int a1, .int a2, .int a3].toArray s 0 0 (gA X idsM E s.heap.size)) (F0 m 43 ls [.ref (E.1 10 0)]) := by
                intro _u H locs ls hf hw hl
                rw [ej3] at hf
                dsimp only at hf
                refine lv_iconst (v := (0 : Int32)) G.1 G.2.1 dX11_units_43 (by decide) ?_
                exact hj2 (0 : Int32) _ _ ls hf hw (lv_sub hl [0, 1, 2, 3] rfl)
              refine lv_if_ne (tgt := 43) G.1 G.2.1 dX11_units_31 (by decide) (fun hc31 => ?_) (fun hc31 => ?_)
              · rw [if_neg hc31] at hf
                exact hj3 () _ _ ls hf hw (lv_sub hl [0, 1, 2, 3] rfl)
              · rw [if_pos hc31] at hf
                refine lv_iload_n G.1 G.2.1 dX11_units_34 rfl (lv_at hl 3 rfl) ?_
                refine lv_iconst (v := (1 : Int32)) G.1 G.2.1 dX11_units_35 (by decide) ?_
                refine lv_icmp_eq (tgt := 43) G.1 G.2.1 dX11_units_36 (by decide) (fun hc36 => ?_) (fun hc36 => ?_)
                · rw [if_pos hc36] at hf
                  exact hj3 () _ _ ls hf hw (lv_sub hl [0, 1, 2, 3] rfl)
                · rw [if_neg hc36] at hf
                  exact hj1 () _ _ ls hf hw (lv_sub hl [0, 1, 2, 3] rfl)

set_option maxHeartbeats 4000000 in
set_option maxRecDepth 100000 in
theorem c_M_told (l : Launch) (D : va_G) (X : va_W) (E : gE) (n : Nat) (a1 : Int32) (g : Mem) (r : Int32) (g' : Mem) (hf : M_told n a1 g = some (r, g')) : gMet l yX11_told cX11_told 6 (some .int) 1 20 D X idsM E [.ref (E.1 10 0), .int a1] g (some (.int r)) g' := by
  rw [M_told] at hf
  refine gt_code (by decide) (Nat.le_of_ble_eq_true rfl) (fun p en s m below meth c ls G hr hk hw hl => ?_)
  have hl : lv_has ls 6 [(0, .ref (E.1 10 0)), (1, .int a1)] := hl
  refine lv_aload_n G.1 G.2.1 dX11_told_0 rfl (lv_at hl 0 rfl) ?_
  refine lv_iload_n G.1 G.2.1 dX11_told_1 rfl (lv_at hl 1 rfl) ?_
  obtain ⟨j2, ej2, hf⟩ := lt9_some hf
  have hj2 : ∀ (v3 : Int32) (H : Heap) (locs : List Loc) (ls : Array Slot), j2 v3 = some (r, g') → GW D X idsM E (gA X idsM E s.heap.size) s g H locs → lv_has ls 6 [(0, .ref (E.1 10 0)), (1, .int a1)] → W p l en { frames := 1, cells := 0, slots := 0, locals := 20 } s m [.ref (E.1 10 0), .int a1].toArray below meth c H locs 0 0 (MQ below (gQ (some (.int r)) (GP D X idsM E g') (gA X idsM E s.heap.size)) [.ref (E.1 10 0), .int a1].toArray s 0 0 (gA X idsM E s.heap.size)) (F0 m 16 ls [.int v3, .ref (E.1 10 0)]) := by
    intro v3 H locs ls hf hw hl
    rw [ej2] at hf
    dsimp only at hf
    obtain ⟨g4, eg4, hf⟩ := lt9_some hf
    refine g_putI G hw C_10 iM_10 0 rfl fl_X11_117 rfl rfl rfl dX11_told_16 (fun H locs hw => ?_)
    rw [← eg4] at hw
    refine lv_aload_n G.1 G.2.1 dX11_told_19 rfl (lv_at hl 0 rfl) ?_
    refine g_getI G hw C_10 iM_10 0 rfl fl_X11_117 dX11_told_20 ?_
    refine lv_if_le (tgt := 28) G.1 G.2.1 dX11_told_23 (by decide) (fun hc23 => ?_) (fun hc23 => ?_)
    · rw [if_pos hc23] at hf
      refine lv_iconst (v := (0 : Int32)) G.1 G.2.1 dX11_told_28 (by decide) ?_
      refine lv_istore_n (lv' := [(2, .int (0 : Int32)), (0, .ref (E.1 10 0)), (1, .int a1)]) G.1 G.2.1 dX11_told_29 rfl hl (by decide) rfl (fun ls hl => ?_)
      refine lv_iconst (v := (0 : Int32)) G.1 G.2.1 dX11_told_30 (by decide) ?_
      refine lv_istore_n (lv' := [(3, .int (0 : Int32)), (2, .int (0 : Int32)), (0, .ref (E.1 10 0)), (1, .int a1)]) G.1 G.2.1 dX11_told_31 rfl hl (by decide) rfl (fun ls hl => ?_)
      refine lv_iconst (v := (0 : Int32)) G.1 G.2.1 dX11_told_32 (by decide) ?_
      refine lv_istore (lv' := [(4, .int (0 : Int32)), (3, .int (0 : Int32)), (2, .int (0 : Int32)), (0, .ref (E.1 10 0)), (1, .int a1)]) G.1 G.2.1 dX11_told_33 hl (by decide) rfl (fun ls hl => ?_)
      have hL35 : ∀ (k5 : Nat) (x6 : Int32) (x7 : Int32) (res5 : Int32) (H : Heap) (locs : List Loc) (ls : Array Slot), M_told_L35 n g4 k5 x6 x7 = some res5 → GW D X idsM E (gA X idsM E s.heap.size) s g4 H locs → lv_has ls 6 [(0, .ref (E.1 10 0)), (1, .int a1), (2, .int x6), (3, .int (0 : Int32)), (4, .int x7)] → (∀ (H : Heap) (locs : List Loc) (ls : Array Slot), GW D X idsM E (gA X idsM E s.heap.size) s g4 H locs → lv_has ls 6 [(0, .ref (E.1 10 0)), (1, .int a1), (2, .int res5), (3, .int (0 : Int32))] → W p l en { frames := 1, cells := 0, slots := 0, locals := 20 } s m [.ref (E.1 10 0), .int a1].toArray below meth c H locs 0 0 (MQ below (gQ (some (.int r)) (GP D X idsM E g') (gA X idsM E s.heap.size)) [.ref (E.1 10 0), .int a1].toArray s 0 0 (gA X idsM E s.heap.size)) (F0 m 60 ls [])) → W p l en { frames := 1, cells := 0, slots := 0, locals := 20 } s m [.ref (E.1 10 0), .int a1].toArray below meth c H locs 0 0 (MQ below (gQ (some (.int r)) (GP D X idsM E g') (gA X idsM E s.heap.size)) [.ref (E.1 10 0), .int a1].toArray s 0 0 (gA X idsM E s.heap.size)) (F0 m 35 ls []) := by
        intro k5
        induction k5 with
        | zero => intro x6 x7 res5 H locs ls hf; rw [M_told_L35] at hf; cases hf
        | succ k5 ih5 =>
          intro x6 x7 res5 H locs ls hf hw hl hk5_0
          rw [M_told_L35] at hf
          refine lv_iload G.1 G.2.1 dX11_told_35 (lv_at hl 4 rfl) ?_
          refine lv_aload_n G.1 G.2.1 dX11_told_37 rfl (lv_at hl 0 rfl) ?_
          refine g_getI G hw C_10 iM_10 31 rfl fl_X11_264 dX11_told_38 ?_
          refine lv_icmp_ge (tgt := 60) G.1 G.2.1 dX11_told_41 (by decide) (fun hc41 => ?_) (fun hc41 => ?_)
          · rw [if_pos hc41] at hf
            obtain rfl := Option.some.inj hf
            exact hk5_0 _ _ ls hw (lv_sub hl [0, 1, 2, 3] rfl)
          · rw [if_neg hc41] at hf
            refine lv_iload_n G.1 G.2.1 dX11_told_44 rfl (lv_at hl 2 rfl) ?_
            refine lv_aload_n G.1 G.2.1 dX11_told_45 rfl (lv_at hl 0 rfl) ?_
            refine g_getC G hw C_10 iM_10 43 143 rfl (by decide) rfl fl_X11_99 dX11_told_46 ?_
            refine lv_iload G.1 G.2.1 dX11_told_49 (lv_at hl 4 rfl) ?_
            obtain ⟨j8, hj8, hf⟩ := bd_some hf
            refine g_iald G hw iM_143 (by decide) rfl hj8 dX11_told_51 ?_
            refine lv_iadd G.1 G.2.1 dX11_told_52 ?_
            refine lv_istore_n (lv' := [(2, .int (x6 + (gI g4 143 0 j8))), (0, .ref (E.1 10 0)), (1, .int a1), (3, .int (0 : Int32)), (4, .int x7)]) G.1 G.2.1 dX11_told_53 rfl hl (by decide) rfl (fun ls hl => ?_)
            refine lv_iinc (v := x7 + 1) (lv' := [(4, .int (x7 + 1)), (2, .int (x6 + (gI g4 143 0 j8))), (0, .ref (E.1 10 0)), (1, .int a1), (3, .int (0 : Int32))]) G.1 G.2.1 dX11_told_54 hl (k := 4) rfl rfl (by decide) rfl (fun ls hl => ?_)
            refine lv_goto (tgt := 35) G.1 G.2.1 dX11_told_57 (by decide) ?_
            exact ih5 (x6 + (gI g4 143 0 j8)) (x7 + 1) _ _ _ ls hf hw (lv_sub hl [2, 3, 1, 4, 0] rfl) hk5_0
      obtain ⟨r9, hr9, hf⟩ := bd_some hf
      refine hL35 n (0 : Int32) (0 : Int32) r9 _ _ ls hr9 hw (lv_sub hl [3, 4, 2, 1, 0] rfl) ?_
      intro H locs ls hw hl
      refine lv_iconst (v := (0 : Int32)) G.1 G.2.1 dX11_told_60 (by decide) ?_
      refine lv_istore (lv' := [(4, .int (0 : Int32)), (0, .ref (E.1 10 0)), (1, .int a1), (2, .int r9), (3, .int (0 : Int32))]) G.1 G.2.1 dX11_told_61 hl (by decide) rfl (fun ls hl => ?_)
      have hL63 : ∀ (k10 : Nat) (x11 : Int32) (x12 : Int32) (res10 : Int32) (H : Heap) (locs : List Loc) (ls : Array Slot), M_told_L63 n a1 g4 k10 x11 x12 = some res10 → GW D X idsM E (gA X idsM E s.heap.size) s g4 H locs → lv_has ls 6 [(0, .ref (E.1 10 0)), (1, .int a1), (2, .int r9), (3, .int x11), (4, .int x12)] → (∀ (H : Heap) (locs : List Loc) (ls : Array Slot), GW D X idsM E (gA X idsM E s.heap.size) s g4 H locs → lv_has ls 6 [(0, .ref (E.1 10 0)), (1, .int a1), (2, .int r9), (3, .int res10)] → W p l en { frames := 1, cells := 0, slots := 0, locals := 20 } s m [.ref (E.1 10 0), .int a1].toArray below meth c H locs 0 0 (MQ below (gQ (some (.int r)) (GP D X idsM E g') (gA X idsM E s.heap.size)) [.ref (E.1 10 0), .int a1].toArray s 0 0 (gA X idsM E s.heap.size)) (F0 m 139 ls [])) → W p l en { frames := 1, cells := 0, slots := 0, locals := 20 } s m [.ref (E.1 10 0), .int a1].toArray below meth c H locs 0 0 (MQ below (gQ (some (.int r)) (GP D X idsM E g') (gA X idsM E s.heap.size)) [.ref (E.1 10 0), .int a1].toArray s 0 0 (gA X idsM E s.heap.size)) (F0 m 63 ls []) := by
        intro k10
        induction k10 with
        | zero => intro x11 x12 res10 H locs ls hf; rw [M_told_L63] at hf; cases hf
        | succ k10 ih10 =>
          intro x11 x12 res10 H locs ls hf hw hl hk10_0
          rw [M_told_L63] at hf
          refine lv_iload G.1 G.2.1 dX11_told_63 (lv_at hl 4 rfl) ?_
          refine lv_aload_n G.1 G.2.1 dX11_told_65 rfl (lv_at hl 0 rfl) ?_
          refine g_getI G hw C_10 iM_10 25 rfl fl_X11_261 dX11_told_66 ?_
          refine lv_icmp_ge (tgt := 139) G.1 G.2.1 dX11_told_69 (by decide) (fun hc69 => ?_) (fun hc69 => ?_)
          · rw [if_pos hc69] at hf
            obtain rfl := Option.some.inj hf
            exact hk10_0 _ _ ls hw (lv_sub hl [0, 1, 2, 3] rfl)
          · rw [if_neg hc69] at hf
            refine lv_iload_n G.1 G.2.1 dX11_told_72 rfl (lv_at hl 1 rfl) ?_
            refine lv_iconst (v := (2 : Int32)) G.1 G.2.1 dX11_told_73 (by decide) ?_
            obtain ⟨j13, ej13, hf⟩ := lt9_some hf
            have hj13 : ∀ (v18 : Int32) (H : Heap) (locs : List Loc) (ls : Array Slot), j13 v18 = some res10 → GW D X idsM E (gA X idsM E s.heap.size) s g4 H locs → lv_has ls 6 [(0, .ref (E.1 10 0)), (1, .int a1), (2, .int r9), (3, .int x11), (4, .int x12)] → W p l en { frames := 1, cells := 0, slots := 0, locals := 20 } s m [.ref (E.1 10 0), .int a1].toArray below meth c H locs 0 0 (MQ below (gQ (some (.int r)) (GP D X idsM E g') (gA X idsM E s.heap.size)) [.ref (E.1 10 0), .int a1].toArray s 0 0 (gA X idsM E s.heap.size)) (F0 m 118 ls [.int v18]) := by
              intro v18 H locs ls hf hw hl
              rw [ej13] at hf
              dsimp only at hf
              refine lv_istore (lv' := [(5, .int v18), (0, .ref (E.1 10 0)), (1, .int a1), (2, .int r9), (3, .int x11), (4, .int x12)]) G.1 G.2.1 dX11_told_118 hl (by decide) rfl (fun ls hl => ?_)
              refine lv_iload G.1 G.2.1 dX11_told_120 (lv_at hl 0 rfl) ?_
              refine lv_iload_n G.1 G.2.1 dX11_told_122 rfl (lv_at hl 4 rfl) ?_
              refine lv_icmp_le (tgt := 131) G.1 G.2.1 dX11_told_123 (by decide) (fun hc123 => ?_) (fun hc123 => ?_)
              · rw [if_pos hc123] at hf
                refine lv_iload_n G.1 G.2.1 dX11_told_131 rfl (lv_at hl 4 rfl) ?_
                refine lv_istore_n (lv' := [(3, .int x11), (5, .int v18), (0, .ref (E.1 10 0)), (1, .int a1), (2, .int r9), (4, .int x12)]) G.1 G.2.1 dX11_told_132 rfl hl (by decide) rfl (fun ls hl => ?_)
                refine lv_iinc (v := x12 + 1) (lv' := [(4, .int (x12 + 1)), (3, .int x11), (5, .int v18), (0, .ref (E.1 10 0)), (1, .int a1), (2, .int r9)]) G.1 G.2.1 dX11_told_133 hl (k := 5) rfl rfl (by decide) rfl (fun ls hl => ?_)
                refine lv_goto (tgt := 63) G.1 G.2.1 dX11_told_136 (by decide) ?_
                exact ih10 x11 (x12 + 1) _ _ _ ls hf hw (lv_sub hl [3, 4, 5, 1, 0] rfl) hk10_0
              · rw [if_neg hc123] at hf
                refine lv_iload G.1 G.2.1 dX11_told_126 (lv_at hl 0 rfl) ?_
                refine lv_goto (tgt := 132) G.1 G.2.1 dX11_told_128 (by decide) ?_
                refine lv_istore_n (lv' := [(3, .int v18), (5, .int v18), (0, .ref (E.1 10 0)), (1, .int a1), (2, .int r9), (4, .int x12)]) G.1 G.2.1 dX11_told_132 rfl hl (by decide) rfl (fun ls hl => ?_)
                refine lv_iinc (v := x12 + 1) (lv' := [(4, .int (x12 + 1)), (3, .int v18), (5, .int v18), (0, .ref (E.1 10 0)), (1, .int a1), (2, .int r9)]) G.1 G.2.1 dX11_told_133 hl (k := 5) rfl rfl (by decide) rfl (fun ls hl => ?_)
                refine lv_goto (tgt := 63) G.1 G.2.1 dX11_told_136 (by decide) ?_
                exact ih10 v18 (x12 + 1) _ _ _ ls hf hw (lv_sub hl [3, 4, 5, 1, 0] rfl) hk10_0
            refine lv_icmp_ne (tgt := 89) G.1 G.2.1 dX11_told_74 (by decide) (fun hc74 => ?_) (fun hc74 => ?_)
            · rw [if_neg hc74] at hf
              refine lv_aload_n G.1 G.2.1 dX11_told_89 rfl (lv_at hl 0 rfl) ?_
              refine g_getC G hw C_10 iM_10 26 126 rfl (by decide) rfl fl_X11_51 dX11_told_90 ?_
              refine lv_iload G.1 G.2.1 dX11_told_93 (lv_at hl 4 rfl) ?_
              obtain ⟨j14, hj14, hf⟩ := bd_some hf
              refine g_iald G hw iM_126 (by decide) rfl hj14 dX11_told_95 ?_
              obtain ⟨z15, hcz15, hf⟩ := bd_some hf
              refine g_callS1 (As := [.int (gI g4 126 0 j14)]) (rest := []) G hw (gA_mono hw.2.2.2.1.1)  ms_X11_277 (c_M_kindOf l D X E n (gI g4 126 0 j14) g4 z15 hcz15) hl.1 rfl rfl (Nat.le_of_ble_eq_true rfl) (Nat.le_of_ble_eq_true rfl) (Nat.le_of_ble_eq_true rfl) ⟨Nat.le_refl _, Nat.le_refl _⟩ dX11_told_96 (fun H locs hw => ?_)
              refine lv_iload_n G.1 G.2.1 dX11_told_99 rfl (lv_at hl 1 rfl) ?_
              refine lv_iconst (v := (3 : Int32)) G.1 G.2.1 dX11_told_100 (by decide) ?_
              refine lv_isub G.1 G.2.1 dX11_told_101 ?_
              refine lv_icmp_ne (tgt := 117) G.1 G.2.1 dX11_told_102 (by decide) (fun hc102 => ?_) (fun hc102 => ?_)
              · rw [if_neg hc102] at hf
                refine lv_iconst (v := (0 : Int32)) G.1 G.2.1 dX11_told_117 (by decide) ?_
                exact hj13 (0 : Int32) _ _ ls hf hw (lv_sub hl [0, 1, 2, 3, 4] rfl)
              · rw [if_pos hc102] at hf
                refine lv_aload_n G.1 G.2.1 dX11_told_105 rfl (lv_at hl 0 rfl) ?_
                refine g_getC G hw C_10 iM_10 41 141 rfl (by decide) rfl fl_X11_93 dX11_told_106 ?_
                refine lv_iload G.1 G.2.1 dX11_told_109 (lv_at hl 4 rfl) ?_
                obtain ⟨j16, hj16, hf⟩ := bd_some hf
                refine g_iald G hw iM_141 (by decide) rfl hj16 dX11_told_111 ?_
                refine lv_iconst (v := (1 : Int32)) G.1 G.2.1 dX11_told_112 (by decide) ?_
                refine lv_iadd G.1 G.2.1 dX11_told_113 ?_
                refine lv_goto (tgt := 118) G.1 G.2.1 dX11_told_114 (by decide) ?_
                exact hj13 ((gI g4 141 0 j16) + (1 : Int32)) _ _ ls hf hw (lv_sub hl [0, 1, 2, 3, 4] rfl)
            · rw [if_pos hc74] at hf
              refine lv_aload_n G.1 G.2.1 dX11_told_77 rfl (lv_at hl 0 rfl) ?_
              refine g_getC G hw C_10 iM_10 42 142 rfl (by decide) rfl fl_X11_96 dX11_told_78 ?_
              refine lv_iload G.1 G.2.1 dX11_told_81 (lv_at hl 4 rfl) ?_
              obtain ⟨j17, hj17, hf⟩ := bd_some hf
              refine g_iald G hw iM_142 (by decide) rfl hj17 dX11_told_83 ?_
              refine lv_iconst (v := (1 : Int32)) G.1 G.2.1 dX11_told_84 (by decide) ?_
              refine lv_iadd G.1 G.2.1 dX11_told_85 ?_
              refine lv_goto (tgt := 118) G.1 G.2.1 dX11_told_86 (by decide) ?_
              exact hj13 ((gI g4 142 0 j17) + (1 : Int32)) _ _ ls hf hw (lv_sub hl [0, 1, 2, 3, 4] rfl)
      obtain ⟨r19, hr19, hf⟩ := bd_some hf
      refine hL63 n (0 : Int32) (0 : Int32) r19 _ _ ls hr19 hw (lv_sub hl [1, 2, 3, 4, 0] rfl) ?_
      intro H locs ls hw hl
      refine lv_iload_n G.1 G.2.1 dX11_told_139 rfl (lv_at hl 1 rfl) ?_
      refine lv_if_ne (tgt := 150) G.1 G.2.1 dX11_told_140 (by decide) (fun hc140 => ?_) (fun hc140 => ?_)
      · rw [if_neg hc140] at hf
        refine lv_iload_n G.1 G.2.1 dX11_told_150 rfl (lv_at hl 1 rfl) ?_
        refine lv_iconst (v := (1 : Int32)) G.1 G.2.1 dX11_told_151 (by decide) ?_
        refine lv_icmp_ne (tgt := 159) G.1 G.2.1 dX11_told_152 (by decide) (fun hc152 => ?_) (fun hc152 => ?_)
        · rw [if_neg hc152] at hf
          refine lv_iload_n G.1 G.2.1 dX11_told_159 rfl (lv_at hl 3 rfl) ?_
          exact g_iretW G hr hk hf hw dX11_told_160
        · rw [if_pos hc152] at hf
          refine lv_iload_n G.1 G.2.1 dX11_told_155 rfl (lv_at hl 2 rfl) ?_
          refine lv_goto (tgt := 160) G.1 G.2.1 dX11_told_156 (by decide) ?_
          exact g_iretW G hr hk hf hw dX11_told_160
      · rw [if_pos hc140] at hf
        refine lv_aload_n G.1 G.2.1 dX11_told_143 rfl (lv_at hl 0 rfl) ?_
        refine g_getI G hw C_10 iM_10 31 rfl fl_X11_264 dX11_told_144 ?_
        refine lv_goto (tgt := 160) G.1 G.2.1 dX11_told_147 (by decide) ?_
        exact g_iretW G hr hk hf hw dX11_told_160
    · rw [if_neg hc23] at hf
      refine lv_iconst (v := (0 : Int32)) G.1 G.2.1 dX11_told_26 (by decide) ?_
      exact g_iretW G hr hk hf hw dX11_told_27
  obtain ⟨j1, ej1, hf⟩ := lt9_some hf
  have hj1 : ∀ (_u : Unit) (H : Heap) (locs : List Loc) (ls : Array Slot), j1 _u = some (r, g') → GW D X idsM E (gA X idsM E s.heap.size) s g H locs → lv_has ls 6 [(0, .ref (E.1 10 0)), (1, .int a1)] → W p l en { frames := 1, cells := 0, slots := 0, locals := 20 } s m [.ref (E.1 10 0), .int a1].toArray below meth c H locs 0 0 (MQ below (gQ (some (.int r)) (GP D X idsM E g') (gA X idsM E s.heap.size)) [.ref (E.1 10 0), .int a1].toArray s 0 0 (gA X idsM E s.heap.size)) (F0 m 11 ls [.ref (E.1 10 0)]) := by
    intro _u H locs ls hf hw hl
    rw [ej1] at hf
    dsimp only at hf
    refine lv_iconst (v := (1 : Int32)) G.1 G.2.1 dX11_told_11 (by decide) ?_
    refine lv_goto (tgt := 16) G.1 G.2.1 dX11_told_12 (by decide) ?_
    exact hj2 (1 : Int32) _ _ ls hf hw (lv_sub hl [0, 1] rfl)
  refine lv_if_lt (tgt := 11) G.1 G.2.1 dX11_told_2 (by decide) (fun hc2 => ?_) (fun hc2 => ?_)
  · rw [if_pos hc2] at hf
    exact hj1 () _ _ ls hf hw (lv_sub hl [0, 1] rfl)
  · rw [if_neg hc2] at hf
    refine lv_iload_n G.1 G.2.1 dX11_told_5 rfl (lv_at hl 1 rfl) ?_
    refine lv_bipush (v := (6 : Int32)) G.1 G.2.1 dX11_told_6 (by decide) ?_
    refine lv_icmp_le (tgt := 15) G.1 G.2.1 dX11_told_8 (by decide) (fun hc8 => ?_) (fun hc8 => ?_)
    · rw [if_pos hc8] at hf
      refine lv_iconst (v := (0 : Int32)) G.1 G.2.1 dX11_told_15 (by decide) ?_
      exact hj2 (0 : Int32) _ _ ls hf hw (lv_sub hl [0, 1] rfl)
    · rw [if_neg hc8] at hf
      exact hj1 () _ _ ls hf hw (lv_sub hl [0, 1] rfl)

set_option maxHeartbeats 4000000 in
set_option maxRecDepth 100000 in
theorem c_M_block (l : Launch) (D : va_G) (X : va_W) (E : gE) (n : Nat) (a1 : Int32) (a2 : Int32) (g : Mem) (r : Int32) (g' : Mem) (hf : M_block n a1 a2 g = some (r, g')) : gMet l yX11_block cX11_block 4 (some .int) 1 23 D X idsM E [.ref (E.1 10 0), .int a1, .int a2] g (some (.int r)) g' := by
  rw [M_block] at hf
  refine gt_code (by decide) (Nat.le_of_ble_eq_true rfl) (fun p en s m below meth c ls G hr hk hw hl => ?_)
  have hl : lv_has ls 4 [(0, .ref (E.1 10 0)), (1, .int a1), (2, .int a2)] := hl
  refine lv_aload_n G.1 G.2.1 dX11_block_0 rfl (lv_at hl 0 rfl) ?_
  refine lv_iload_n G.1 G.2.1 dX11_block_1 rfl (lv_at hl 1 rfl) ?_
  obtain ⟨j2, ej2, hf⟩ := lt9_some hf
  have hj2 : ∀ (v4 : Int32) (H : Heap) (locs : List Loc) (ls : Array Slot), j2 v4 = some (r, g') → GW D X idsM E (gA X idsM E s.heap.size) s g H locs → lv_has ls 4 [(0, .ref (E.1 10 0)), (1, .int a1), (2, .int a2)] → W p l en { frames := 1, cells := 0, slots := 0, locals := 23 } s m [.ref (E.1 10 0), .int a1, .int a2].toArray below meth c H locs 0 0 (MQ below (gQ (some (.int r)) (GP D X idsM E g') (gA X idsM E s.heap.size)) [.ref (E.1 10 0), .int a1, .int a2].toArray s 0 0 (gA X idsM E s.heap.size)) (F0 m 31 ls [.int v4, .ref (E.1 10 0)]) := by
    intro v4 H locs ls hf hw hl
    rw [ej2] at hf
    dsimp only at hf
    obtain ⟨g5, eg5, hf⟩ := lt9_some hf
    refine g_putI G hw C_10 iM_10 0 rfl fl_X11_117 rfl rfl rfl dX11_block_31 (fun H locs hw => ?_)
    rw [← eg5] at hw
    refine lv_aload_n G.1 G.2.1 dX11_block_34 rfl (lv_at hl 0 rfl) ?_
    refine g_getI G hw C_10 iM_10 0 rfl fl_X11_117 dX11_block_35 ?_
    refine lv_if_le (tgt := 43) G.1 G.2.1 dX11_block_38 (by decide) (fun hc38 => ?_) (fun hc38 => ?_)
    · rw [if_pos hc38] at hf
      refine lv_aload_n G.1 G.2.1 dX11_block_43 rfl (lv_at hl 0 rfl) ?_
      refine lv_iload_n G.1 G.2.1 dX11_block_44 rfl (lv_at hl 1 rfl) ?_
      obtain ⟨z6, hcz6, hf⟩ := bd_some hf
      refine g_callV1 (As := [.int a1]) (rest := []) G hw (gA_mono hw.2.2.2.1.1) C_10 iM_10 mv_X11_283 (c_M_first l D X E n a1 g5 z6 hcz6) hl.1 rfl rfl (Nat.le_of_ble_eq_true rfl) (Nat.le_of_ble_eq_true rfl) (Nat.le_of_ble_eq_true rfl) ⟨Nat.le_refl _, Nat.le_refl _⟩ dX11_block_45 (fun H locs hw => ?_)
      refine lv_istore_n (lv' := [(3, .int z6), (0, .ref (E.1 10 0)), (1, .int a1), (2, .int a2)]) G.1 G.2.1 dX11_block_48 rfl hl (by decide) rfl (fun ls hl => ?_)
      refine lv_iload_n G.1 G.2.1 dX11_block_49 rfl (lv_at hl 3 rfl) ?_
      refine lv_if_ne (tgt := 62) G.1 G.2.1 dX11_block_50 (by decide) (fun hc50 => ?_) (fun hc50 => ?_)
      · rw [if_neg hc50] at hf
        refine lv_iload_n G.1 G.2.1 dX11_block_62 rfl (lv_at hl 3 rfl) ?_
        refine lv_iconst (v := (1 : Int32)) G.1 G.2.1 dX11_block_63 (by decide) ?_
        refine lv_icmp_ne (tgt := 71) G.1 G.2.1 dX11_block_64 (by decide) (fun hc64 => ?_) (fun hc64 => ?_)
        · rw [if_neg hc64] at hf
          refine lv_iload_n G.1 G.2.1 dX11_block_71 rfl (lv_at hl 3 rfl) ?_
          refine lv_iconst (v := (2 : Int32)) G.1 G.2.1 dX11_block_72 (by decide) ?_
          refine lv_icmp_ne (tgt := 94) G.1 G.2.1 dX11_block_73 (by decide) (fun hc73 => ?_) (fun hc73 => ?_)
          · rw [if_neg hc73] at hf
            refine lv_iload_n G.1 G.2.1 dX11_block_94 rfl (lv_at hl 3 rfl) ?_
            refine lv_iconst (v := (3 : Int32)) G.1 G.2.1 dX11_block_95 (by decide) ?_
            refine lv_icmp_ne (tgt := 108) G.1 G.2.1 dX11_block_96 (by decide) (fun hc96 => ?_) (fun hc96 => ?_)
            · rw [if_neg hc96] at hf
              refine lv_aload_n G.1 G.2.1 dX11_block_108 rfl (lv_at hl 1 rfl) ?_
              refine g_getC G hw C_10 iM_10 35 135 rfl (by decide) rfl fl_X11_75 dX11_block_109 ?_
              refine lv_iload_n G.1 G.2.1 dX11_block_112 rfl (lv_at hl 2 rfl) ?_
              obtain ⟨j7, hj7, hf⟩ := bd_some hf
              refine g_iald G hw iM_135 (by decide) rfl hj7 dX11_block_113 ?_
              exact g_iretW G hr hk hf hw dX11_block_114
            · rw [if_pos hc96] at hf
              refine lv_aload_n G.1 G.2.1 dX11_block_99 rfl (lv_at hl 1 rfl) ?_
              refine g_getC G hw C_10 iM_10 34 134 rfl (by decide) rfl fl_X11_72 dX11_block_100 ?_
              refine lv_iload_n G.1 G.2.1 dX11_block_103 rfl (lv_at hl 2 rfl) ?_
              obtain ⟨j8, hj8, hf⟩ := bd_some hf
              refine g_iald G hw iM_134 (by decide) rfl hj8 dX11_block_104 ?_
              refine lv_goto (tgt := 114) G.1 G.2.1 dX11_block_105 (by decide) ?_
              exact g_iretW G hr hk hf hw dX11_block_114
          · rw [if_pos hc73] at hf
            refine lv_iload_n G.1 G.2.1 dX11_block_76 rfl (lv_at hl 0 rfl) ?_
            refine lv_if_ge (tgt := 84) G.1 G.2.1 dX11_block_77 (by decide) (fun hc77 => ?_) (fun hc77 => ?_)
            · rw [if_pos hc77] at hf
              refine lv_aload_n G.1 G.2.1 dX11_block_84 rfl (lv_at hl 1 rfl) ?_
              refine lv_iload_n G.1 G.2.1 dX11_block_85 rfl (lv_at hl 2 rfl) ?_
              obtain ⟨z9, hcz9, hf⟩ := bd_some hf
              refine g_callV1 (As := [.int a1]) (rest := []) G hw (gA_mono hw.2.2.2.1.1) C_10 iM_10 mv_X11_292 (c_M_behindAll l D X E n a1 g5 z9 hcz9) hl.1 rfl rfl (Nat.le_of_ble_eq_true rfl) (Nat.le_of_ble_eq_true rfl) (Nat.le_of_ble_eq_true rfl) ⟨Nat.le_refl _, Nat.le_refl _⟩ dX11_block_86 (fun H locs hw => ?_)
              refine lv_iload_n G.1 G.2.1 dX11_block_89 rfl (lv_at hl 0 rfl) ?_
              refine lv_isub G.1 G.2.1 dX11_block_90 ?_
              refine lv_goto (tgt := 114) G.1 G.2.1 dX11_block_91 (by decide) ?_
              exact g_iretW G hr hk hf hw dX11_block_114
            · rw [if_neg hc77] at hf
              refine lv_iconst (v := (0 : Int32)) G.1 G.2.1 dX11_block_80 (by decide) ?_
              refine lv_goto (tgt := 114) G.1 G.2.1 dX11_block_81 (by decide) ?_
              exact g_iretW G hr hk hf hw dX11_block_114
        · rw [if_pos hc64] at hf
          refine lv_iload_n G.1 G.2.1 dX11_block_67 rfl (lv_at hl 0 rfl) ?_
          refine lv_goto (tgt := 114) G.1 G.2.1 dX11_block_68 (by decide) ?_
          exact g_iretW G hr hk hf hw dX11_block_114
      · rw [if_pos hc50] at hf
        refine lv_aload_n G.1 G.2.1 dX11_block_53 rfl (lv_at hl 1 rfl) ?_
        refine g_getC G hw C_10 iM_10 43 143 rfl (by decide) rfl fl_X11_99 dX11_block_54 ?_
        refine lv_iload_n G.1 G.2.1 dX11_block_57 rfl (lv_at hl 2 rfl) ?_
        obtain ⟨j10, hj10, hf⟩ := bd_some hf
        refine g_iald G hw iM_143 (by decide) rfl hj10 dX11_block_58 ?_
        refine lv_goto (tgt := 114) G.1 G.2.1 dX11_block_59 (by decide) ?_
        exact g_iretW G hr hk hf hw dX11_block_114
    · rw [if_neg hc38] at hf
      refine lv_iconst (v := (0 : Int32)) G.1 G.2.1 dX11_block_41 (by decide) ?_
      exact g_iretW G hr hk hf hw dX11_block_42
  obtain ⟨j1, ej1, hf⟩ := lt9_some hf
  have hj1 : ∀ (_u : Unit) (H : Heap) (locs : List Loc) (ls : Array Slot), j1 _u = some (r, g') → GW D X idsM E (gA X idsM E s.heap.size) s g H locs → lv_has ls 4 [(0, .ref (E.1 10 0)), (1, .int a1), (2, .int a2)] → W p l en { frames := 1, cells := 0, slots := 0, locals := 23 } s m [.ref (E.1 10 0), .int a1, .int a2].toArray below meth c H locs 0 0 (MQ below (gQ (some (.int r)) (GP D X idsM E g') (gA X idsM E s.heap.size)) [.ref (E.1 10 0), .int a1, .int a2].toArray s 0 0 (gA X idsM E s.heap.size)) (F0 m 13 ls [.ref (E.1 10 0)]) := by
    intro _u H locs ls hf hw hl
    rw [ej1] at hf
    dsimp only at hf
    refine lv_iconst (v := (1 : Int32)) G.1 G.2.1 dX11_block_13 (by decide) ?_
    refine lv_goto (tgt := 31) G.1 G.2.1 dX11_block_14 (by decide) ?_
    exact hj2 (1 : Int32) _ _ ls hf hw (lv_sub hl [0, 1, 2] rfl)
  refine lv_if_lt (tgt := 13) G.1 G.2.1 dX11_block_2 (by decide) (fun hc2 => ?_) (fun hc2 => ?_)
  · rw [if_pos hc2] at hf
    exact hj1 () _ _ ls hf hw (lv_sub hl [0, 1, 2] rfl)
  · rw [if_neg hc2] at hf
    refine lv_iload_n G.1 G.2.1 dX11_block_5 rfl (lv_at hl 1 rfl) ?_
    refine lv_aload_n G.1 G.2.1 dX11_block_6 rfl (lv_at hl 0 rfl) ?_
    refine g_getI G hw C_10 iM_10 31 rfl fl_X11_264 dX11_block_7 ?_
    refine lv_icmp_lt (tgt := 17) G.1 G.2.1 dX11_block_10 (by decide) (fun hc10 => ?_) (fun hc10 => ?_)
    · rw [if_pos hc10] at hf
      refine lv_iload_n G.1 G.2.1 dX11_block_17 rfl (lv_at hl 2 rfl) ?_
      obtain ⟨j3, ej3, hf⟩ := lt9_some hf
      have hj3 : ∀ (_u : Unit) (H : Heap) (locs : List Loc) (ls : Array Slot), j3 _u = some (r, g') → GW D X idsM E (gA X idsM E s.heap.size) s g H locs → lv_has ls 4 [(0, .ref (E.1 10 0)), (1, .int a1), (2, .int a2)] → W p l en { frames := 1, cells := 0, slots := 0, locals := 23 } s m [.ref (E.1 10 0), .int a1, .int a2].toArray below meth c H locs 0 0 (MQ below (gQ (some (.int r)) (GP D X idsM E g') (gA X idsM E s.heap.size)) [.ref (E.1 10 0), .int a1, .int a2].toArray s 0 0 (gA X idsM E s.heap.size)) (F0 m 26 ls [.ref (E.1 10 0)]) := by
        intro _u H locs ls hf hw hl
        rw [ej3] at hf
        dsimp only at hf
        refine lv_iconst (v := (2 : Int32)) G.1 G.2.1 dX11_block_26 (by decide) ?_
        refine lv_goto (tgt := 31) G.1 G.2.1 dX11_block_27 (by decide) ?_
        exact hj2 (2 : Int32) _ _ ls hf hw (lv_sub hl [0, 1, 2] rfl)
      refine lv_if_lt (tgt := 26) G.1 G.2.1 dX11_block_18 (by decide) (fun hc18 => ?_) (fun hc18 => ?_)
      · rw [if_pos hc18] at hf
        exact hj3 () _ _ ls hf hw (lv_sub hl [0, 1, 2] rfl)
      · rw [if_neg hc18] at hf
        refine lv_iload_n G.1 G.2.1 dX11_block_21 rfl (lv_at hl 2 rfl) ?_
        refine lv_iconst (v := (4 : Int32)) G.1 G.2.1 dX11_block_22 (by decide) ?_
        refine lv_icmp_le (tgt := 30) G.1 G.2.1 dX11_block_23 (by decide) (fun hc23 => ?_) (fun hc23 => ?_)
        · rw [if_pos hc23] at hf
          refine lv_iconst (v := (0 : Int32)) G.1 G.2.1 dX11_block_30 (by decide) ?_
          exact hj2 (0 : Int32) _ _ ls hf hw (lv_sub hl [0, 1, 2] rfl)
        · rw [if_neg hc23] at hf
          exact hj3 () _ _ ls hf hw (lv_sub hl [0, 1, 2] rfl)
    · rw [if_neg hc10] at hf
      exact hj1 () _ _ ls hf hw (lv_sub hl [0, 1, 2] rfl)

set_option maxHeartbeats 4000000 in
set_option maxRecDepth 100000 in
theorem c_M_operation (l : Launch) (D : va_G) (X : va_W) (E : gE) (n : Nat) (a1 : Int32) (a2 : Int32) (g : Mem) (r : Int32) (g' : Mem) (hf : M_operation n a1 a2 g = some (r, g')) : gMet l yX11_operation cX11_operation 3 (some .int) 1 20 D X idsM E [.ref (E.1 10 0), .int a1, .int a2] g (some (.int r)) g' := by
  rw [M_operation] at hf
  refine gt_code (by decide) (Nat.le_of_ble_eq_true rfl) (fun p en s m below meth c ls G hr hk hw hl => ?_)
  have hl : lv_has ls 3 [(0, .ref (E.1 10 0)), (1, .int a1), (2, .int a2)] := hl
  refine lv_aload_n G.1 G.2.1 dX11_operation_0 rfl (lv_at hl 0 rfl) ?_
  refine lv_iload_n G.1 G.2.1 dX11_operation_1 rfl (lv_at hl 1 rfl) ?_
  obtain ⟨j2, ej2, hf⟩ := lt9_some hf
  have hj2 : ∀ (v4 : Int32) (H : Heap) (locs : List Loc) (ls : Array Slot), j2 v4 = some (r, g') → GW D X idsM E (gA X idsM E s.heap.size) s g H locs → lv_has ls 3 [(0, .ref (E.1 10 0)), (1, .int a1), (2, .int a2)] → W p l en { frames := 1, cells := 0, slots := 0, locals := 20 } s m [.ref (E.1 10 0), .int a1, .int a2].toArray below meth c H locs 0 0 (MQ below (gQ (some (.int r)) (GP D X idsM E g') (gA X idsM E s.heap.size)) [.ref (E.1 10 0), .int a1, .int a2].toArray s 0 0 (gA X idsM E s.heap.size)) (F0 m 31 ls [.int v4, .ref (E.1 10 0)]) := by
    intro v4 H locs ls hf hw hl
    rw [ej2] at hf
    dsimp only at hf
    obtain ⟨g5, eg5, hf⟩ := lt9_some hf
    refine g_putI G hw C_10 iM_10 0 rfl fl_X11_117 rfl rfl rfl dX11_operation_31 (fun H locs hw => ?_)
    rw [← eg5] at hw
    refine lv_aload_n G.1 G.2.1 dX11_operation_34 rfl (lv_at hl 0 rfl) ?_
    refine g_getI G hw C_10 iM_10 0 rfl fl_X11_117 dX11_operation_35 ?_
    refine lv_if_le (tgt := 43) G.1 G.2.1 dX11_operation_38 (by decide) (fun hc38 => ?_) (fun hc38 => ?_)
    · rw [if_pos hc38] at hf
      refine lv_iload_n G.1 G.2.1 dX11_operation_43 rfl (lv_at hl 2 rfl) ?_
      refine lv_if_ne (tgt := 59) G.1 G.2.1 dX11_operation_44 (by decide) (fun hc44 => ?_) (fun hc44 => ?_)
      · rw [if_neg hc44] at hf
        refine lv_iload_n G.1 G.2.1 dX11_operation_59 rfl (lv_at hl 2 rfl) ?_
        refine lv_iconst (v := (1 : Int32)) G.1 G.2.1 dX11_operation_60 (by decide) ?_
        refine lv_icmp_ne (tgt := 73) G.1 G.2.1 dX11_operation_61 (by decide) (fun hc61 => ?_) (fun hc61 => ?_)
        · rw [if_neg hc61] at hf
          refine lv_iload_n G.1 G.2.1 dX11_operation_73 rfl (lv_at hl 2 rfl) ?_
          refine lv_iconst (v := (2 : Int32)) G.1 G.2.1 dX11_operation_74 (by decide) ?_
          refine lv_icmp_ne (tgt := 87) G.1 G.2.1 dX11_operation_75 (by decide) (fun hc75 => ?_) (fun hc75 => ?_)
          · rw [if_neg hc75] at hf
            refine lv_iload_n G.1 G.2.1 dX11_operation_87 rfl (lv_at hl 2 rfl) ?_
            refine lv_iconst (v := (3 : Int32)) G.1 G.2.1 dX11_operation_88 (by decide) ?_
            refine lv_icmp_ne (tgt := 101) G.1 G.2.1 dX11_operation_89 (by decide) (fun hc89 => ?_) (fun hc89 => ?_)
            · rw [if_neg hc89] at hf
              refine lv_iload_n G.1 G.2.1 dX11_operation_101 rfl (lv_at hl 2 rfl) ?_
              refine lv_iconst (v := (4 : Int32)) G.1 G.2.1 dX11_operation_102 (by decide) ?_
              refine lv_icmp_ne (tgt := 115) G.1 G.2.1 dX11_operation_103 (by decide) (fun hc103 => ?_) (fun hc103 => ?_)
              · rw [if_neg hc103] at hf
                refine lv_aload_n G.1 G.2.1 dX11_operation_115 rfl (lv_at hl 0 rfl) ?_
                refine g_getC G hw C_10 iM_10 42 142 rfl (by decide) rfl fl_X11_96 dX11_operation_116 ?_
                refine lv_iload_n G.1 G.2.1 dX11_operation_119 rfl (lv_at hl 1 rfl) ?_
                obtain ⟨j6, hj6, hf⟩ := bd_some hf
                refine g_iald G hw iM_142 (by decide) rfl hj6 dX11_operation_120 ?_
                exact g_iretW G hr hk hf hw dX11_operation_121
              · rw [if_pos hc103] at hf
                refine lv_aload_n G.1 G.2.1 dX11_operation_106 rfl (lv_at hl 0 rfl) ?_
                refine g_getC G hw C_10 iM_10 41 141 rfl (by decide) rfl fl_X11_93 dX11_operation_107 ?_
                refine lv_iload_n G.1 G.2.1 dX11_operation_110 rfl (lv_at hl 1 rfl) ?_
                obtain ⟨j7, hj7, hf⟩ := bd_some hf
                refine g_iald G hw iM_141 (by decide) rfl hj7 dX11_operation_111 ?_
                refine lv_goto (tgt := 121) G.1 G.2.1 dX11_operation_112 (by decide) ?_
                exact g_iretW G hr hk hf hw dX11_operation_121
            · rw [if_pos hc89] at hf
              refine lv_aload_n G.1 G.2.1 dX11_operation_92 rfl (lv_at hl 0 rfl) ?_
              refine g_getC G hw C_10 iM_10 39 139 rfl (by decide) rfl fl_X11_87 dX11_operation_93 ?_
              refine lv_iload_n G.1 G.2.1 dX11_operation_96 rfl (lv_at hl 1 rfl) ?_
              obtain ⟨j8, hj8, hf⟩ := bd_some hf
              refine g_iald G hw iM_139 (by decide) rfl hj8 dX11_operation_97 ?_
              refine lv_goto (tgt := 121) G.1 G.2.1 dX11_operation_98 (by decide) ?_
              exact g_iretW G hr hk hf hw dX11_operation_121
          · rw [if_pos hc75] at hf
            refine lv_aload_n G.1 G.2.1 dX11_operation_78 rfl (lv_at hl 0 rfl) ?_
            refine g_getC G hw C_10 iM_10 40 140 rfl (by decide) rfl fl_X11_90 dX11_operation_79 ?_
            refine lv_iload_n G.1 G.2.1 dX11_operation_82 rfl (lv_at hl 1 rfl) ?_
            obtain ⟨j9, hj9, hf⟩ := bd_some hf
            refine g_iald G hw iM_140 (by decide) rfl hj9 dX11_operation_83 ?_
            refine lv_goto (tgt := 121) G.1 G.2.1 dX11_operation_84 (by decide) ?_
            exact g_iretW G hr hk hf hw dX11_operation_121
        · rw [if_pos hc61] at hf
          refine lv_aload_n G.1 G.2.1 dX11_operation_64 rfl (lv_at hl 0 rfl) ?_
          refine g_getC G hw C_10 iM_10 30 130 rfl (by decide) rfl fl_X11_63 dX11_operation_65 ?_
          refine lv_iload_n G.1 G.2.1 dX11_operation_68 rfl (lv_at hl 1 rfl) ?_
          obtain ⟨j10, hj10, hf⟩ := bd_some hf
          refine g_iald G hw iM_130 (by decide) rfl hj10 dX11_operation_69 ?_
          refine lv_goto (tgt := 121) G.1 G.2.1 dX11_operation_70 (by decide) ?_
          exact g_iretW G hr hk hf hw dX11_operation_121
      · rw [if_pos hc44] at hf
        refine lv_aload_n G.1 G.2.1 dX11_operation_47 rfl (lv_at hl 0 rfl) ?_
        refine g_getC G hw C_10 iM_10 26 126 rfl (by decide) rfl fl_X11_51 dX11_operation_48 ?_
        refine lv_iload_n G.1 G.2.1 dX11_operation_51 rfl (lv_at hl 1 rfl) ?_
        obtain ⟨j11, hj11, hf⟩ := bd_some hf
        refine g_iald G hw iM_126 (by decide) rfl hj11 dX11_operation_52 ?_
        obtain ⟨z12, hcz12, hf⟩ := bd_some hf
        refine g_callS1 (As := [.int (gI g5 126 0 j11)]) (rest := []) G hw (gA_mono hw.2.2.2.1.1)  ms_X11_277 (c_M_kindOf l D X E n (gI g5 126 0 j11) g5 z12 hcz12) hl.1 rfl rfl (Nat.le_of_ble_eq_true rfl) (Nat.le_of_ble_eq_true rfl) (Nat.le_of_ble_eq_true rfl) ⟨Nat.le_refl _, Nat.le_refl _⟩ dX11_operation_53 (fun H locs hw => ?_)
        refine lv_goto (tgt := 121) G.1 G.2.1 dX11_operation_56 (by decide) ?_
        exact g_iretW G hr hk hf hw dX11_operation_121
    · rw [if_neg hc38] at hf
      refine lv_iconst (v := (0 : Int32)) G.1 G.2.1 dX11_operation_41 (by decide) ?_
      exact g_iretW G hr hk hf hw dX11_operation_42
  obtain ⟨j1, ej1, hf⟩ := lt9_some hf
  have hj1 : ∀ (_u : Unit) (H : Heap) (locs : List Loc) (ls : Array Slot), j1 _u = some (r, g') → GW D X idsM E (gA X idsM E s.heap.size) s g H locs → lv_has ls 3 [(0, .ref (E.1 10 0)), (1, .int a1), (2, .int a2)] → W p l en { frames := 1, cells := 0, slots := 0, locals := 20 } s m [.ref (E.1 10 0), .int a1, .int a2].toArray below meth c H locs 0 0 (MQ below (gQ (some (.int r)) (GP D X idsM E g') (gA X idsM E s.heap.size)) [.ref (E.1 10 0), .int a1, .int a2].toArray s 0 0 (gA X idsM E s.heap.size)) (F0 m 13 ls [.ref (E.1 10 0)]) := by
    intro _u H locs ls hf hw hl
    rw [ej1] at hf
    dsimp only at hf
    refine lv_iconst (v := (1 : Int32)) G.1 G.2.1 dX11_operation_13 (by decide) ?_
    refine lv_goto (tgt := 31) G.1 G.2.1 dX11_operation_14 (by decide) ?_
    exact hj2 (1 : Int32) _ _ ls hf hw (lv_sub hl [0, 1, 2] rfl)
  refine lv_if_lt (tgt := 13) G.1 G.2.1 dX11_operation_2 (by decide) (fun hc2 => ?_) (fun hc2 => ?_)
  · rw [if_pos hc2] at hf
    exact hj1 () _ _ ls hf hw (lv_sub hl [0, 1, 2] rfl)
  · rw [if_neg hc2] at hf
    refine lv_iload_n G.1 G.2.1 dX11_operation_5 rfl (lv_at hl 1 rfl) ?_
    refine lv_aload_n G.1 G.2.1 dX11_operation_6 rfl (lv_at hl 0 rfl) ?_
    refine g_getI G hw C_10 iM_10 25 rfl fl_X11_261 dX11_operation_7 ?_
    refine lv_icmp_lt (tgt := 17) G.1 G.2.1 dX11_operation_10 (by decide) (fun hc10 => ?_) (fun hc10 => ?_)
    · rw [if_pos hc10] at hf
      refine lv_iload_n G.1 G.2.1 dX11_operation_17 rfl (lv_at hl 2 rfl) ?_
      obtain ⟨j3, ej3, hf⟩ := lt9_some hf
      have hj3 : ∀ (_u : Unit) (H : Heap) (locs : List Loc) (ls : Array Slot), j3 _u = some (r, g') → GW D X idsM E (gA X idsM E s.heap.size) s g H locs → lv_has ls 3 [(0, .ref (E.1 10 0)), (1, .int a1), (2, .int a2)] → W p l en { frames := 1, cells := 0, slots := 0, locals := 20 } s m [.ref (E.1 10 0), .int a1, .int a2].toArray below meth c H locs 0 0 (MQ below (gQ (some (.int r)) (GP D X idsM E g') (gA X idsM E s.heap.size)) [.ref (E.1 10 0), .int a1, .int a2].toArray s 0 0 (gA X idsM E s.heap.size)) (F0 m 26 ls [.ref (E.1 10 0)]) := by
        intro _u H locs ls hf hw hl
        rw [ej3] at hf
        dsimp only at hf
        refine lv_iconst (v := (2 : Int32)) G.1 G.2.1 dX11_operation_26 (by decide) ?_
        refine lv_goto (tgt := 31) G.1 G.2.1 dX11_operation_27 (by decide) ?_
        exact hj2 (2 : Int32) _ _ ls hf hw (lv_sub hl [0, 1, 2] rfl)
      refine lv_if_lt (tgt := 26) G.1 G.2.1 dX11_operation_18 (by decide) (fun hc18 => ?_) (fun hc18 => ?_)
      · rw [if_pos hc18] at hf
        exact hj3 () _ _ ls hf hw (lv_sub hl [0, 1, 2] rfl)
      · rw [if_neg hc18] at hf
        refine lv_iload_n G.1 G.2.1 dX11_operation_21 rfl (lv_at hl 2 rfl) ?_
        refine lv_iconst (v := (5 : Int32)) G.1 G.2.1 dX11_operation_22 (by decide) ?_
        refine lv_icmp_le (tgt := 30) G.1 G.2.1 dX11_operation_23 (by decide) (fun hc23 => ?_) (fun hc23 => ?_)
        · rw [if_pos hc23] at hf
          refine lv_iconst (v := (0 : Int32)) G.1 G.2.1 dX11_operation_30 (by decide) ?_
          exact hj2 (0 : Int32) _ _ ls hf hw (lv_sub hl [0, 1, 2] rfl)
        · rw [if_neg hc23] at hf
          exact hj3 () _ _ ls hf hw (lv_sub hl [0, 1, 2] rfl)
    · rw [if_neg hc10] at hf
      exact hj1 () _ _ ls hf hw (lv_sub hl [0, 1, 2] rfl)

set_option maxHeartbeats 4000000 in
set_option maxRecDepth 100000 in
theorem c_M_set (l : Launch) (D : va_G) (X : va_W) (E : gE) (n : Nat) (a1 : Int32) (a2 : Int32) (g : Mem) (r : Int32) (g' : Mem) (hf : M_set n a1 a2 g = some (r, g')) : gMet l yX11_set cX11_set 4 (some .int) 0 0 D X idsM E [.ref (E.1 10 0), .int a1, .int a2] g (some (.int r)) g' := by
  rw [M_set] at hf
  refine gt_code (by decide) (Nat.le_of_ble_eq_true rfl) (fun p en s m below meth c ls G hr hk hw hl => ?_)
  have hl : lv_has ls 4 [(0, .ref (E.1 10 0)), (1, .int a1), (2, .int a2)] := hl
  refine lv_aload_n G.1 G.2.1 dX11_set_0 rfl (lv_at hl 0 rfl) ?_
  refine lv_iload_n G.1 G.2.1 dX11_set_1 rfl (lv_at hl 1 rfl) ?_
  obtain ⟨j2, ej2, hf⟩ := lt9_some hf
  have hj2 : ∀ (v3 : Int32) (H : Heap) (locs : List Loc) (ls : Array Slot), j2 v3 = some (r, g') → GW D X idsM E (gA X idsM E s.heap.size) s g H locs → lv_has ls 4 [(0, .ref (E.1 10 0)), (1, .int a1), (2, .int a2)] → W p l en { frames := 0, cells := 0, slots := 0, locals := 0 } s m [.ref (E.1 10 0), .int a1, .int a2].toArray below meth c H locs 0 0 (MQ below (gQ (some (.int r)) (GP D X idsM E g') (gA X idsM E s.heap.size)) [.ref (E.1 10 0), .int a1, .int a2].toArray s 0 0 (gA X idsM E s.heap.size)) (F0 m 16 ls [.int v3, .ref (E.1 10 0)]) := by
    intro v3 H locs ls hf hw hl
    rw [ej2] at hf
    dsimp only at hf
    obtain ⟨g4, eg4, hf⟩ := lt9_some hf
    refine g_putI G hw C_10 iM_10 0 rfl fl_X11_117 rfl rfl rfl dX11_set_16 (fun H locs hw => ?_)
    rw [← eg4] at hw
    refine lv_aload_n G.1 G.2.1 dX11_set_19 rfl (lv_at hl 0 rfl) ?_
    refine g_getI G hw C_10 iM_10 0 rfl fl_X11_117 dX11_set_20 ?_
    refine lv_if_le (tgt := 28) G.1 G.2.1 dX11_set_23 (by decide) (fun hc23 => ?_) (fun hc23 => ?_)
    · rw [if_pos hc23] at hf
      refine lv_aload_n G.1 G.2.1 dX11_set_28 rfl (lv_at hl 0 rfl) ?_
      refine g_getC G hw C_10 iM_10 44 144 rfl (by decide) rfl fl_X11_102 dX11_set_29 ?_
      refine lv_iload_n G.1 G.2.1 dX11_set_32 rfl (lv_at hl 1 rfl) ?_
      obtain ⟨j5, hj5, hf⟩ := bd_some hf
      refine g_iald G hw iM_144 (by decide) rfl hj5 dX11_set_33 ?_
      refine lv_istore_n (lv' := [(3, .int (gI g4 144 0 j5)), (0, .ref (E.1 10 0)), (1, .int a1), (2, .int a2)]) G.1 G.2.1 dX11_set_34 rfl hl (by decide) rfl (fun ls hl => ?_)
      refine lv_aload_n G.1 G.2.1 dX11_set_35 rfl (lv_at hl 1 rfl) ?_
      refine g_getC G hw C_10 iM_10 44 144 rfl (by decide) rfl fl_X11_102 dX11_set_36 ?_
      refine lv_iload_n G.1 G.2.1 dX11_set_39 rfl (lv_at hl 2 rfl) ?_
      refine lv_iload_n G.1 G.2.1 dX11_set_40 rfl (lv_at hl 3 rfl) ?_
      obtain ⟨j6, hj6, hf⟩ := bd_some hf
      obtain ⟨g7, eg7, hf⟩ := lt9_some hf
      refine g_iast G hw iM_144 (by decide) rfl hj6 dX11_set_41 (fun H locs hw => ?_)
      rw [← eg7] at hw
      refine lv_iload_n G.1 G.2.1 dX11_set_42 rfl (lv_at hl 0 rfl) ?_
      exact g_iretW G hr hk hf hw dX11_set_43
    · rw [if_neg hc23] at hf
      refine lv_iconst (v := (0 : Int32)) G.1 G.2.1 dX11_set_26 (by decide) ?_
      exact g_iretW G hr hk hf hw dX11_set_27
  obtain ⟨j1, ej1, hf⟩ := lt9_some hf
  have hj1 : ∀ (_u : Unit) (H : Heap) (locs : List Loc) (ls : Array Slot), j1 _u = some (r, g') → GW D X idsM E (gA X idsM E s.heap.size) s g H locs → lv_has ls 4 [(0, .ref (E.1 10 0)), (1, .int a1), (2, .int a2)] → W p l en { frames := 0, cells := 0, slots := 0, locals := 0 } s m [.ref (E.1 10 0), .int a1, .int a2].toArray below meth c H locs 0 0 (MQ below (gQ (some (.int r)) (GP D X idsM E g') (gA X idsM E s.heap.size)) [.ref (E.1 10 0), .int a1, .int a2].toArray s 0 0 (gA X idsM E s.heap.size)) (F0 m 11 ls [.ref (E.1 10 0)]) := by
    intro _u H locs ls hf hw hl
    rw [ej1] at hf
    dsimp only at hf
    refine lv_iconst (v := (1 : Int32)) G.1 G.2.1 dX11_set_11 (by decide) ?_
    refine lv_goto (tgt := 16) G.1 G.2.1 dX11_set_12 (by decide) ?_
    exact hj2 (1 : Int32) _ _ ls hf hw (lv_sub hl [0, 1, 2] rfl)
  refine lv_if_lt (tgt := 11) G.1 G.2.1 dX11_set_2 (by decide) (fun hc2 => ?_) (fun hc2 => ?_)
  · rw [if_pos hc2] at hf
    exact hj1 () _ _ ls hf hw (lv_sub hl [0, 1, 2] rfl)
  · rw [if_neg hc2] at hf
    refine lv_iload_n G.1 G.2.1 dX11_set_5 rfl (lv_at hl 1 rfl) ?_
    refine lv_bipush (v := (7 : Int32)) G.1 G.2.1 dX11_set_6 (by decide) ?_
    refine lv_icmp_le (tgt := 15) G.1 G.2.1 dX11_set_8 (by decide) (fun hc8 => ?_) (fun hc8 => ?_)
    · rw [if_pos hc8] at hf
      refine lv_iconst (v := (0 : Int32)) G.1 G.2.1 dX11_set_15 (by decide) ?_
      exact hj2 (0 : Int32) _ _ ls hf hw (lv_sub hl [0, 1, 2] rfl)
    · rw [if_neg hc8] at hf
      exact hj1 () _ _ ls hf hw (lv_sub hl [0, 1, 2] rfl)

set_option maxHeartbeats 4000000 in
set_option maxRecDepth 100000 in
theorem c_M_get (l : Launch) (D : va_G) (X : va_W) (E : gE) (n : Nat) (a1 : Int32) (g : Mem) (r : Int32) (g' : Mem) (hf : M_get n a1 g = some (r, g')) : gMet l yX11_get cX11_get 2 (some .int) 0 0 D X idsM E [.ref (E.1 10 0), .int a1] g (some (.int r)) g' := by
  rw [M_get] at hf
  refine gt_code (by decide) (Nat.le_of_ble_eq_true rfl) (fun p en s m below meth c ls G hr hk hw hl => ?_)
  have hl : lv_has ls 2 [(0, .ref (E.1 10 0)), (1, .int a1)] := hl
  refine lv_aload_n G.1 G.2.1 dX11_get_0 rfl (lv_at hl 0 rfl) ?_
  refine lv_iload_n G.1 G.2.1 dX11_get_1 rfl (lv_at hl 1 rfl) ?_
  obtain ⟨j2, ej2, hf⟩ := lt9_some hf
  have hj2 : ∀ (v3 : Int32) (H : Heap) (locs : List Loc) (ls : Array Slot), j2 v3 = some (r, g') → GW D X idsM E (gA X idsM E s.heap.size) s g H locs → lv_has ls 2 [(0, .ref (E.1 10 0)), (1, .int a1)] → W p l en { frames := 0, cells := 0, slots := 0, locals := 0 } s m [.ref (E.1 10 0), .int a1].toArray below meth c H locs 0 0 (MQ below (gQ (some (.int r)) (GP D X idsM E g') (gA X idsM E s.heap.size)) [.ref (E.1 10 0), .int a1].toArray s 0 0 (gA X idsM E s.heap.size)) (F0 m 16 ls [.int v3, .ref (E.1 10 0)]) := by
    intro v3 H locs ls hf hw hl
    rw [ej2] at hf
    dsimp only at hf
    obtain ⟨g4, eg4, hf⟩ := lt9_some hf
    refine g_putI G hw C_10 iM_10 0 rfl fl_X11_117 rfl rfl rfl dX11_get_16 (fun H locs hw => ?_)
    rw [← eg4] at hw
    refine lv_aload_n G.1 G.2.1 dX11_get_19 rfl (lv_at hl 0 rfl) ?_
    refine g_getI G hw C_10 iM_10 0 rfl fl_X11_117 dX11_get_20 ?_
    refine lv_if_le (tgt := 30) G.1 G.2.1 dX11_get_23 (by decide) (fun hc23 => ?_) (fun hc23 => ?_)
    · rw [if_pos hc23] at hf
      refine lv_aload_n G.1 G.2.1 dX11_get_30 rfl (lv_at hl 0 rfl) ?_
      refine g_getC G hw C_10 iM_10 44 144 rfl (by decide) rfl fl_X11_102 dX11_get_31 ?_
      refine lv_iload_n G.1 G.2.1 dX11_get_34 rfl (lv_at hl 1 rfl) ?_
      obtain ⟨j5, hj5, hf⟩ := bd_some hf
      refine g_iald G hw iM_144 (by decide) rfl hj5 dX11_get_35 ?_
      exact g_iretW G hr hk hf hw dX11_get_36
    · rw [if_neg hc23] at hf
      refine lv_iconst (v := (0 : Int32)) G.1 G.2.1 dX11_get_26 (by decide) ?_
      refine lv_goto (tgt := 36) G.1 G.2.1 dX11_get_27 (by decide) ?_
      exact g_iretW G hr hk hf hw dX11_get_36
  obtain ⟨j1, ej1, hf⟩ := lt9_some hf
  have hj1 : ∀ (_u : Unit) (H : Heap) (locs : List Loc) (ls : Array Slot), j1 _u = some (r, g') → GW D X idsM E (gA X idsM E s.heap.size) s g H locs → lv_has ls 2 [(0, .ref (E.1 10 0)), (1, .int a1)] → W p l en { frames := 0, cells := 0, slots := 0, locals := 0 } s m [.ref (E.1 10 0), .int a1].toArray below meth c H locs 0 0 (MQ below (gQ (some (.int r)) (GP D X idsM E g') (gA X idsM E s.heap.size)) [.ref (E.1 10 0), .int a1].toArray s 0 0 (gA X idsM E s.heap.size)) (F0 m 11 ls [.ref (E.1 10 0)]) := by
    intro _u H locs ls hf hw hl
    rw [ej1] at hf
    dsimp only at hf
    refine lv_iconst (v := (1 : Int32)) G.1 G.2.1 dX11_get_11 (by decide) ?_
    refine lv_goto (tgt := 16) G.1 G.2.1 dX11_get_12 (by decide) ?_
    exact hj2 (1 : Int32) _ _ ls hf hw (lv_sub hl [0, 1] rfl)
  refine lv_if_lt (tgt := 11) G.1 G.2.1 dX11_get_2 (by decide) (fun hc2 => ?_) (fun hc2 => ?_)
  · rw [if_pos hc2] at hf
    exact hj1 () _ _ ls hf hw (lv_sub hl [0, 1] rfl)
  · rw [if_neg hc2] at hf
    refine lv_iload_n G.1 G.2.1 dX11_get_5 rfl (lv_at hl 1 rfl) ?_
    refine lv_bipush (v := (7 : Int32)) G.1 G.2.1 dX11_get_6 (by decide) ?_
    refine lv_icmp_le (tgt := 15) G.1 G.2.1 dX11_get_8 (by decide) (fun hc8 => ?_) (fun hc8 => ?_)
    · rw [if_pos hc8] at hf
      refine lv_iconst (v := (0 : Int32)) G.1 G.2.1 dX11_get_15 (by decide) ?_
      exact hj2 (0 : Int32) _ _ ls hf hw (lv_sub hl [0, 1] rfl)
    · rw [if_neg hc8] at hf
      exact hj1 () _ _ ls hf hw (lv_sub hl [0, 1] rfl)

set_option maxHeartbeats 4000000 in
set_option maxRecDepth 100000 in
theorem c_M_poke (l : Launch) (D : va_G) (X : va_W) (E : gE) (n : Nat) (a1 : Int32) (a2 : Int32) (g : Mem) (r : Int32) (g' : Mem) (hf : M_poke n a1 a2 g = some (r, g')) : gMet l yX11_poke cX11_poke 4 (some .int) 0 0 D X idsM E [.ref (E.1 10 0), .int a1, .int a2] g (some (.int r)) g' := by
  rw [M_poke] at hf
  refine gt_code (by decide) (Nat.le_of_ble_eq_true rfl) (fun p en s m below meth c ls G hr hk hw hl => ?_)
  have hl : lv_has ls 4 [(0, .ref (E.1 10 0)), (1, .int a1), (2, .int a2)] := hl
  refine lv_aload_n G.1 G.2.1 dX11_poke_0 rfl (lv_at hl 0 rfl) ?_
  refine lv_iload_n G.1 G.2.1 dX11_poke_1 rfl (lv_at hl 1 rfl) ?_
  obtain ⟨j2, ej2, hf⟩ := lt9_some hf
  have hj2 : ∀ (v3 : Int32) (H : Heap) (locs : List Loc) (ls : Array Slot), j2 v3 = some (r, g') → GW D X idsM E (gA X idsM E s.heap.size) s g H locs → lv_has ls 4 [(0, .ref (E.1 10 0)), (1, .int a1), (2, .int a2)] → W p l en { frames := 0, cells := 0, slots := 0, locals := 0 } s m [.ref (E.1 10 0), .int a1, .int a2].toArray below meth c H locs 0 0 (MQ below (gQ (some (.int r)) (GP D X idsM E g') (gA X idsM E s.heap.size)) [.ref (E.1 10 0), .int a1, .int a2].toArray s 0 0 (gA X idsM E s.heap.size)) (F0 m 16 ls [.int v3, .ref (E.1 10 0)]) := by
    intro v3 H locs ls hf hw hl
    rw [ej2] at hf
    dsimp only at hf
    obtain ⟨g4, eg4, hf⟩ := lt9_some hf
    refine g_putI G hw C_10 iM_10 0 rfl fl_X11_117 rfl rfl rfl dX11_poke_16 (fun H locs hw => ?_)
    rw [← eg4] at hw
    refine lv_aload_n G.1 G.2.1 dX11_poke_19 rfl (lv_at hl 0 rfl) ?_
    refine g_getI G hw C_10 iM_10 0 rfl fl_X11_117 dX11_poke_20 ?_
    refine lv_if_le (tgt := 28) G.1 G.2.1 dX11_poke_23 (by decide) (fun hc23 => ?_) (fun hc23 => ?_)
    · rw [if_pos hc23] at hf
      refine lv_aload_n G.1 G.2.1 dX11_poke_28 rfl (lv_at hl 0 rfl) ?_
      refine g_getC G hw C_10 iM_10 45 145 rfl (by decide) rfl fl_X11_105 dX11_poke_29 ?_
      refine lv_iload_n G.1 G.2.1 dX11_poke_32 rfl (lv_at hl 1 rfl) ?_
      obtain ⟨j5, hj5, hf⟩ := bd_some hf
      refine g_iald G hw iM_145 (by decide) rfl hj5 dX11_poke_33 ?_
      refine lv_istore_n (lv' := [(3, .int (gI g4 145 0 j5)), (0, .ref (E.1 10 0)), (1, .int a1), (2, .int a2)]) G.1 G.2.1 dX11_poke_34 rfl hl (by decide) rfl (fun ls hl => ?_)
      refine lv_aload_n G.1 G.2.1 dX11_poke_35 rfl (lv_at hl 1 rfl) ?_
      refine g_getC G hw C_10 iM_10 45 145 rfl (by decide) rfl fl_X11_105 dX11_poke_36 ?_
      refine lv_iload_n G.1 G.2.1 dX11_poke_39 rfl (lv_at hl 2 rfl) ?_
      refine lv_iload_n G.1 G.2.1 dX11_poke_40 rfl (lv_at hl 3 rfl) ?_
      obtain ⟨j6, hj6, hf⟩ := bd_some hf
      obtain ⟨g7, eg7, hf⟩ := lt9_some hf
      refine g_iast G hw iM_145 (by decide) rfl hj6 dX11_poke_41 (fun H locs hw => ?_)
      rw [← eg7] at hw
      refine lv_iload_n G.1 G.2.1 dX11_poke_42 rfl (lv_at hl 0 rfl) ?_
      exact g_iretW G hr hk hf hw dX11_poke_43
    · rw [if_neg hc23] at hf
      refine lv_iconst (v := (0 : Int32)) G.1 G.2.1 dX11_poke_26 (by decide) ?_
      exact g_iretW G hr hk hf hw dX11_poke_27
  obtain ⟨j1, ej1, hf⟩ := lt9_some hf
  have hj1 : ∀ (_u : Unit) (H : Heap) (locs : List Loc) (ls : Array Slot), j1 _u = some (r, g') → GW D X idsM E (gA X idsM E s.heap.size) s g H locs → lv_has ls 4 [(0, .ref (E.1 10 0)), (1, .int a1), (2, .int a2)] → W p l en { frames := 0, cells := 0, slots := 0, locals := 0 } s m [.ref (E.1 10 0), .int a1, .int a2].toArray below meth c H locs 0 0 (MQ below (gQ (some (.int r)) (GP D X idsM E g') (gA X idsM E s.heap.size)) [.ref (E.1 10 0), .int a1, .int a2].toArray s 0 0 (gA X idsM E s.heap.size)) (F0 m 11 ls [.ref (E.1 10 0)]) := by
    intro _u H locs ls hf hw hl
    rw [ej1] at hf
    dsimp only at hf
    refine lv_iconst (v := (1 : Int32)) G.1 G.2.1 dX11_poke_11 (by decide) ?_
    refine lv_goto (tgt := 16) G.1 G.2.1 dX11_poke_12 (by decide) ?_
    exact hj2 (1 : Int32) _ _ ls hf hw (lv_sub hl [0, 1, 2] rfl)
  refine lv_if_lt (tgt := 11) G.1 G.2.1 dX11_poke_2 (by decide) (fun hc2 => ?_) (fun hc2 => ?_)
  · rw [if_pos hc2] at hf
    exact hj1 () _ _ ls hf hw (lv_sub hl [0, 1, 2] rfl)
  · rw [if_neg hc2] at hf
    refine lv_iload_n G.1 G.2.1 dX11_poke_5 rfl (lv_at hl 1 rfl) ?_
    refine lv_bipush (v := (15 : Int32)) G.1 G.2.1 dX11_poke_6 (by decide) ?_
    refine lv_icmp_le (tgt := 15) G.1 G.2.1 dX11_poke_8 (by decide) (fun hc8 => ?_) (fun hc8 => ?_)
    · rw [if_pos hc8] at hf
      refine lv_iconst (v := (0 : Int32)) G.1 G.2.1 dX11_poke_15 (by decide) ?_
      exact hj2 (0 : Int32) _ _ ls hf hw (lv_sub hl [0, 1, 2] rfl)
    · rw [if_neg hc8] at hf
      exact hj1 () _ _ ls hf hw (lv_sub hl [0, 1, 2] rfl)

set_option maxHeartbeats 4000000 in
set_option maxRecDepth 100000 in
theorem c_M_peek (l : Launch) (D : va_G) (X : va_W) (E : gE) (n : Nat) (a1 : Int32) (g : Mem) (r : Int32) (g' : Mem) (hf : M_peek n a1 g = some (r, g')) : gMet l yX11_peek cX11_peek 2 (some .int) 0 0 D X idsM E [.ref (E.1 10 0), .int a1] g (some (.int r)) g' := by
  rw [M_peek] at hf
  refine gt_code (by decide) (Nat.le_of_ble_eq_true rfl) (fun p en s m below meth c ls G hr hk hw hl => ?_)
  have hl : lv_has ls 2 [(0, .ref (E.1 10 0)), (1, .int a1)] := hl
  refine lv_aload_n G.1 G.2.1 dX11_peek_0 rfl (lv_at hl 0 rfl) ?_
  refine lv_iload_n G.1 G.2.1 dX11_peek_1 rfl (lv_at hl 1 rfl) ?_
  obtain ⟨j2, ej2, hf⟩ := lt9_some hf
  have hj2 : ∀ (v3 : Int32) (H : Heap) (locs : List Loc) (ls : Array Slot), j2 v3 = some (r, g') → GW D X idsM E (gA X idsM E s.heap.size) s g H locs → lv_has ls 2 [(0, .ref (E.1 10 0)), (1, .int a1)] → W p l en { frames := 0, cells := 0, slots := 0, locals := 0 } s m [.ref (E.1 10 0), .int a1].toArray below meth c H locs 0 0 (MQ below (gQ (some (.int r)) (GP D X idsM E g') (gA X idsM E s.heap.size)) [.ref (E.1 10 0), .int a1].toArray s 0 0 (gA X idsM E s.heap.size)) (F0 m 16 ls [.int v3, .ref (E.1 10 0)]) := by
    intro v3 H locs ls hf hw hl
    rw [ej2] at hf
    dsimp only at hf
    obtain ⟨g4, eg4, hf⟩ := lt9_some hf
    refine g_putI G hw C_10 iM_10 0 rfl fl_X11_117 rfl rfl rfl dX11_peek_16 (fun H locs hw => ?_)
    rw [← eg4] at hw
    refine lv_aload_n G.1 G.2.1 dX11_peek_19 rfl (lv_at hl 0 rfl) ?_
    refine g_getI G hw C_10 iM_10 0 rfl fl_X11_117 dX11_peek_20 ?_
    refine lv_if_le (tgt := 30) G.1 G.2.1 dX11_peek_23 (by decide) (fun hc23 => ?_) (fun hc23 => ?_)
    · rw [if_pos hc23] at hf
      refine lv_aload_n G.1 G.2.1 dX11_peek_30 rfl (lv_at hl 0 rfl) ?_
      refine g_getC G hw C_10 iM_10 45 145 rfl (by decide) rfl fl_X11_105 dX11_peek_31 ?_
      refine lv_iload_n G.1 G.2.1 dX11_peek_34 rfl (lv_at hl 1 rfl) ?_
      obtain ⟨j5, hj5, hf⟩ := bd_some hf
      refine g_iald G hw iM_145 (by decide) rfl hj5 dX11_peek_35 ?_
      exact g_iretW G hr hk hf hw dX11_peek_36
    · rw [if_neg hc23] at hf
      refine lv_iconst (v := (0 : Int32)) G.1 G.2.1 dX11_peek_26 (by decide) ?_
      refine lv_goto (tgt := 36) G.1 G.2.1 dX11_peek_27 (by decide) ?_
      exact g_iretW G hr hk hf hw dX11_peek_36
  obtain ⟨j1, ej1, hf⟩ := lt9_some hf
  have hj1 : ∀ (_u : Unit) (H : Heap) (locs : List Loc) (ls : Array Slot), j1 _u = some (r, g') → GW D X idsM E (gA X idsM E s.heap.size) s g H locs → lv_has ls 2 [(0, .ref (E.1 10 0)), (1, .int a1)] → W p l en { frames := 0, cells := 0, slots := 0, locals := 0 } s m [.ref (E.1 10 0), .int a1].toArray below meth c H locs 0 0 (MQ below (gQ (some (.int r)) (GP D X idsM E g') (gA X idsM E s.heap.size)) [.ref (E.1 10 0), .int a1].toArray s 0 0 (gA X idsM E s.heap.size)) (F0 m 11 ls [.ref (E.1 10 0)]) := by
    intro _u H locs ls hf hw hl
    rw [ej1] at hf
    dsimp only at hf
    refine lv_iconst (v := (1 : Int32)) G.1 G.2.1 dX11_peek_11 (by decide) ?_
    refine lv_goto (tgt := 16) G.1 G.2.1 dX11_peek_12 (by decide) ?_
    exact hj2 (1 : Int32) _ _ ls hf hw (lv_sub hl [0, 1] rfl)
  refine lv_if_lt (tgt := 11) G.1 G.2.1 dX11_peek_2 (by decide) (fun hc2 => ?_) (fun hc2 => ?_)
  · rw [if_pos hc2] at hf
    exact hj1 () _ _ ls hf hw (lv_sub hl [0, 1] rfl)
  · rw [if_neg hc2] at hf
    refine lv_iload_n G.1 G.2.1 dX11_peek_5 rfl (lv_at hl 1 rfl) ?_
    refine lv_bipush (v := (15 : Int32)) G.1 G.2.1 dX11_peek_6 (by decide) ?_
    refine lv_icmp_le (tgt := 15) G.1 G.2.1 dX11_peek_8 (by decide) (fun hc8 => ?_) (fun hc8 => ?_)
    · rw [if_pos hc8] at hf
      refine lv_iconst (v := (0 : Int32)) G.1 G.2.1 dX11_peek_15 (by decide) ?_
      exact hj2 (0 : Int32) _ _ ls hf hw (lv_sub hl [0, 1] rfl)
    · rw [if_neg hc8] at hf
      exact hj1 () _ _ ls hf hw (lv_sub hl [0, 1] rfl)

set_option maxHeartbeats 4000000 in
set_option maxRecDepth 100000 in
theorem c_M_restart (l : Launch) (D : va_G) (X : va_W) (E : gE) (n : Nat) (g : Mem) (g' : Mem) (hf : M_restart n g = some g') : gMet l yX11_restart cX11_restart 1 none 1 20 D X idsM E [.ref (E.1 10 0)] g none g' := by
  rw [M_restart] at hf
  refine gt_code (by decide) (Nat.le_of_ble_eq_true rfl) (fun p en s m below meth c ls G hr hk hw hl => ?_)
  have hl : lv_has ls 1 [(0, .ref (E.1 10 0))] := hl
  refine lv_aload_n G.1 G.2.1 dX11_restart_0 rfl (lv_at hl 0 rfl) ?_
  refine lv_iconst (v := (0 : Int32)) G.1 G.2.1 dX11_restart_1 (by decide) ?_
  obtain ⟨g1, eg1, hf⟩ := lt9_some hf
  refine g_putI G hw C_10 iM_10 0 rfl fl_X11_117 rfl rfl rfl dX11_restart_2 (fun H locs hw => ?_)
  rw [← eg1] at hw
  refine lv_aload_n G.1 G.2.1 dX11_restart_5 rfl (lv_at hl 0 rfl) ?_
  obtain ⟨g2, hcg2, hf⟩ := bd_some hf
  refine g_callV0 (As := []) (rest := []) G hw (gA_mono hw.2.2.2.1.1) C_10 iM_10 mv_X11_330 (c_M_stand l D X E n g1 g2 hcg2) hl.1 rfl rfl (Nat.le_of_ble_eq_true rfl) (Nat.le_of_ble_eq_true rfl) (Nat.le_of_ble_eq_true rfl) ⟨Nat.le_refl _, Nat.le_refl _⟩ dX11_restart_6 (fun H locs hw => ?_)
  exact g_vretW G hr hk hf hw dX11_restart_9

set_option maxHeartbeats 4000000 in
set_option maxRecDepth 100000 in
theorem c_M_look (l : Launch) (D : va_G) (X : va_W) (E : gE) (n : Nat) (a1 : Int32) (a2 : Int32) (g : Mem) (r : Int32) (hf : M_look n a1 a2 g = some r) : gMet l yX11_look cX11_look 3 (some .int) 0 0 D X idsM E [.ref (E.1 10 0), .int a1, .int a2] g (some (.int r)) g := by
  rw [M_look] at hf
  refine gt_code (by decide) (Nat.le_of_ble_eq_true rfl) (fun p en s m below meth c ls G hr hk hw hl => ?_)
  have hl : lv_has ls 3 [(0, .ref (E.1 10 0)), (1, .int a1), (2, .int a2)] := hl
  refine lv_iload_n G.1 G.2.1 dX11_look_0 rfl (lv_at hl 1 rfl) ?_
  refine lv_iconst (v := (1 : Int32)) G.1 G.2.1 dX11_look_1 (by decide) ?_
  refine lv_icmp_ne (tgt := 9) G.1 G.2.1 dX11_look_2 (by decide) (fun hc2 => ?_) (fun hc2 => ?_)
  · rw [if_neg hc2] at hf
    refine lv_iload_n G.1 G.2.1 dX11_look_9 rfl (lv_at hl 1 rfl) ?_
    refine lv_iconst (v := (2 : Int32)) G.1 G.2.1 dX11_look_10 (by decide) ?_
    refine lv_icmp_ne (tgt := 23) G.1 G.2.1 dX11_look_11 (by decide) (fun hc11 => ?_) (fun hc11 => ?_)
    · rw [if_neg hc11] at hf
      refine lv_iload_n G.1 G.2.1 dX11_look_23 rfl (lv_at hl 1 rfl) ?_
      refine lv_iconst (v := (3 : Int32)) G.1 G.2.1 dX11_look_24 (by decide) ?_
      refine lv_icmp_ne (tgt := 37) G.1 G.2.1 dX11_look_25 (by decide) (fun hc25 => ?_) (fun hc25 => ?_)
      · rw [if_neg hc25] at hf
        refine lv_iconst (v := (0 : Int32)) G.1 G.2.1 dX11_look_37 (by decide) ?_
        exact g_iretR G hr hk hf hw dX11_look_38
      · rw [if_pos hc25] at hf
        refine lv_aload_n G.1 G.2.1 dX11_look_28 rfl (lv_at hl 0 rfl) ?_
        refine g_getC G hw C_10 iM_10 46 146 rfl (by decide) rfl fl_X11_108 dX11_look_29 ?_
        refine lv_iload_n G.1 G.2.1 dX11_look_32 rfl (lv_at hl 2 rfl) ?_
        obtain ⟨j1, hj1, hf⟩ := bd_some hf
        refine g_iald G hw iM_146 (by decide) rfl hj1 dX11_look_33 ?_
        refine lv_goto (tgt := 38) G.1 G.2.1 dX11_look_34 (by decide) ?_
        exact g_iretR G hr hk hf hw dX11_look_38
    · rw [if_pos hc11] at hf
      refine lv_aload_n G.1 G.2.1 dX11_look_14 rfl (lv_at hl 0 rfl) ?_
      refine g_getC G hw C_10 iM_10 44 144 rfl (by decide) rfl fl_X11_102 dX11_look_15 ?_
      refine lv_iload_n G.1 G.2.1 dX11_look_18 rfl (lv_at hl 2 rfl) ?_
      obtain ⟨j2, hj2, hf⟩ := bd_some hf
      refine g_iald G hw iM_144 (by decide) rfl hj2 dX11_look_19 ?_
      refine lv_goto (tgt := 38) G.1 G.2.1 dX11_look_20 (by decide) ?_
      exact g_iretR G hr hk hf hw dX11_look_38
  · rw [if_pos hc2] at hf
    refine lv_iload_n G.1 G.2.1 dX11_look_5 rfl (lv_at hl 2 rfl) ?_
    refine lv_goto (tgt := 38) G.1 G.2.1 dX11_look_6 (by decide) ?_
    exact g_iretR G hr hk hf hw dX11_look_38

set_option maxHeartbeats 4000000 in
set_option maxRecDepth 100000 in
theorem c_M_doOperation (l : Launch) (D : va_G) (X : va_W) (E : gE) (n : Nat) (a1 : Int32) (g : Mem) (g' : Mem) (hf : M_doOperation n a1 g = some g') : gMet l yX11_doOperation cX11_doOperation 4 none 1 22 D X idsM E [.ref (E.1 10 0), .int a1] g none g' := by
  rw [M_doOperation] at hf
  refine gt_code (by decide) (Nat.le_of_ble_eq_true rfl) (fun p en s m below meth c ls G hr hk hw hl => ?_)
  have hl : lv_has ls 4 [(0, .ref (E.1 10 0)), (1, .int a1)] := hl
  refine lv_aload_n G.1 G.2.1 dX11_doOperation_0 rfl (lv_at hl 0 rfl) ?_
  refine lv_aload_n G.1 G.2.1 dX11_doOperation_1 rfl (lv_at hl 0 rfl) ?_
  refine g_getC G hw C_10 iM_10 27 127 rfl (by decide) rfl fl_X11_54 dX11_doOperation_2 ?_
  refine lv_iconst (v := (2 : Int32)) G.1 G.2.1 dX11_doOperation_5 (by decide) ?_
  refine lv_iload_n G.1 G.2.1 dX11_doOperation_6 rfl (lv_at hl 1 rfl) ?_
  refine lv_imul G.1 G.2.1 dX11_doOperation_7 ?_
  obtain ⟨j1, hj1, hf⟩ := bd_some hf
  refine g_iald G hw iM_127 (by decide) rfl hj1 dX11_doOperation_8 ?_
  refine lv_aload_n G.1 G.2.1 dX11_doOperation_9 rfl (lv_at hl 0 rfl) ?_
  refine g_getC G hw C_10 iM_10 28 128 rfl (by decide) rfl fl_X11_57 dX11_doOperation_10 ?_
  refine lv_iconst (v := (2 : Int32)) G.1 G.2.1 dX11_doOperation_13 (by decide) ?_
  refine lv_iload_n G.1 G.2.1 dX11_doOperation_14 rfl (lv_at hl 1 rfl) ?_
  refine lv_imul G.1 G.2.1 dX11_doOperation_15 ?_
  obtain ⟨j2, hj2, hf⟩ := bd_some hf
  refine g_iald G hw iM_128 (by decide) rfl hj2 dX11_doOperation_16 ?_
  obtain ⟨z3, hcz3, hf⟩ := bd_some hf
  refine g_callV1 (As := [.int (gI g 127 0 j1), .int (gI g 128 0 j2)]) (rest := []) G hw (gA_mono hw.2.2.2.1.1) C_10 iM_10 mv_X11_340 (c_M_look l D X E n (gI g 127 0 j1) (gI g 128 0 j2) g z3 hcz3) hl.1 rfl rfl (Nat.le_of_ble_eq_true rfl) (Nat.le_of_ble_eq_true rfl) (Nat.le_of_ble_eq_true rfl) ⟨Nat.le_refl _, Nat.le_refl _⟩ dX11_doOperation_17 (fun H locs hw => ?_)
  refine lv_istore_n (lv' := [(2, .int z3), (0, .ref (E.1 10 0)), (1, .int a1)]) G.1 G.2.1 dX11_doOperation_20 rfl hl (by decide) rfl (fun ls hl => ?_)
  refine lv_aload_n G.1 G.2.1 dX11_doOperation_21 rfl (lv_at hl 1 rfl) ?_
  refine lv_aload_n G.1 G.2.1 dX11_doOperation_22 rfl (lv_at hl 1 rfl) ?_
  refine g_getC G hw C_10 iM_10 27 127 rfl (by decide) rfl fl_X11_54 dX11_doOperation_23 ?_
  refine lv_iconst (v := (2 : Int32)) G.1 G.2.1 dX11_doOperation_26 (by decide) ?_
  refine lv_iload_n G.1 G.2.1 dX11_doOperation_27 rfl (lv_at hl 2 rfl) ?_
  refine lv_imul G.1 G.2.1 dX11_doOperation_28 ?_
  refine lv_iconst (v := (1 : Int32)) G.1 G.2.1 dX11_doOperation_29 (by decide) ?_
  refine lv_iadd G.1 G.2.1 dX11_doOperation_30 ?_
  obtain ⟨j4, hj4, hf⟩ := bd_some hf
  refine g_iald G hw iM_127 (by decide) rfl hj4 dX11_doOperation_31 ?_
  refine lv_aload_n G.1 G.2.1 dX11_doOperation_32 rfl (lv_at hl 1 rfl) ?_
  refine g_getC G hw C_10 iM_10 28 128 rfl (by decide) rfl fl_X11_57 dX11_doOperation_33 ?_
  refine lv_iconst (v := (2 : Int32)) G.1 G.2.1 dX11_doOperation_36 (by decide) ?_
  refine lv_iload_n G.1 G.2.1 dX11_doOperation_37 rfl (lv_at hl 2 rfl) ?_
  refine lv_imul G.1 G.2.1 dX11_doOperation_38 ?_
  refine lv_iconst (v := (1 : Int32)) G.1 G.2.1 dX11_doOperation_39 (by decide) ?_
  refine lv_iadd G.1 G.2.1 dX11_doOperation_40 ?_
  obtain ⟨j5, hj5, hf⟩ := bd_some hf
  refine g_iald G hw iM_128 (by decide) rfl hj5 dX11_doOperation_41 ?_
  obtain ⟨z6, hcz6, hf⟩ := bd_some hf
  refine g_callV1 (As := [.int (gI g 127 0 j4), .int (gI g 128 0 j5)]) (rest := []) G hw (gA_mono hw.2.2.2.1.1) C_10 iM_10 mv_X11_340 (c_M_look l D X E n (gI g 127 0 j4) (gI g 128 0 j5) g z6 hcz6) hl.1 rfl rfl (Nat.le_of_ble_eq_true rfl) (Nat.le_of_ble_eq_true rfl) (Nat.le_of_ble_eq_true rfl) ⟨Nat.le_refl _, Nat.le_refl _⟩ dX11_doOperation_42 (fun H locs hw => ?_)
  refine lv_istore_n (lv' := [(3, .int z6), (2, .int z3), (0, .ref (E.1 10 0)), (1, .int a1)]) G.1 G.2.1 dX11_doOperation_45 rfl hl (by decide) rfl (fun ls hl => ?_)
  refine lv_aload_n G.1 G.2.1 dX11_doOperation_46 rfl (lv_at hl 2 rfl) ?_
  refine g_getC G hw C_10 iM_10 26 126 rfl (by decide) rfl fl_X11_51 dX11_doOperation_47 ?_
  refine lv_iload_n G.1 G.2.1 dX11_doOperation_50 rfl (lv_at hl 3 rfl) ?_
  obtain ⟨j7, hj7, hf⟩ := bd_some hf
  refine g_iald G hw iM_126 (by decide) rfl hj7 dX11_doOperation_51 ?_
  obtain ⟨j8, ej8, hf⟩ := lt9_some hf
  have hj8 : ∀ (g30 : Mem) (H : Heap) (locs : List Loc) (ls : Array Slot), j8 g30 = some g' → GW D X idsM E (gA X idsM E s.heap.size) s g30 H locs → lv_has ls 4 [(0, .ref (E.1 10 0)), (1, .int a1)] → W p l en { frames := 1, cells := 0, slots := 0, locals := 22 } s m [.ref (E.1 10 0), .int a1].toArray below meth c H locs 0 0 (MQ below (gQ none (GP D X idsM E g') (gA X idsM E s.heap.size)) [.ref (E.1 10 0), .int a1].toArray s 0 0 (gA X idsM E s.heap.size)) (F0 m 208 ls []) := by
    intro g30 H locs ls hf hw hl
    rw [ej8] at hf
    dsimp only at hf
    refine lv_aload_n G.1 G.2.1 dX11_doOperation_208 rfl (lv_at hl 0 rfl) ?_
    refine g_getC G hw C_10 iM_10 29 129 rfl (by decide) rfl fl_X11_60 dX11_doOperation_209 ?_
    refine lv_iload_n G.1 G.2.1 dX11_doOperation_212 rfl (lv_at hl 1 rfl) ?_
    obtain ⟨j31, hj31, hf⟩ := bd_some hf
    refine g_iald G hw iM_129 (by decide) rfl hj31 dX11_doOperation_213 ?_
    refine lv_if_lt (tgt := 234) G.1 G.2.1 dX11_doOperation_214 (by decide) (fun hc214 => ?_) (fun hc214 => ?_)
    · rw [if_pos hc214] at hf
      exact g_vretW G hr hk hf hw dX11_doOperation_234
    · rw [if_neg hc214] at hf
      refine lv_aload_n G.1 G.2.1 dX11_doOperation_217 rfl (lv_at hl 0 rfl) ?_
      refine g_getC G hw C_10 iM_10 44 144 rfl (by decide) rfl fl_X11_102 dX11_doOperation_218 ?_
      refine lv_aload_n G.1 G.2.1 dX11_doOperation_221 rfl (lv_at hl 0 rfl) ?_
      refine g_getC G hw C_10 iM_10 29 129 rfl (by decide) rfl fl_X11_60 dX11_doOperation_222 ?_
      refine lv_iload_n G.1 G.2.1 dX11_doOperation_225 rfl (lv_at hl 1 rfl) ?_
      obtain ⟨j32, hj32, hf⟩ := bd_some hf
      refine g_iald G hw iM_129 (by decide) rfl hj32 dX11_doOperation_226 ?_
      refine lv_aload_n G.1 G.2.1 dX11_doOperation_227 rfl (lv_at hl 0 rfl) ?_
      refine g_getC G hw C_10 iM_10 46 146 rfl (by decide) rfl fl_X11_108 dX11_doOperation_228 ?_
      refine lv_iload_n G.1 G.2.1 dX11_doOperation_231 rfl (lv_at hl 1 rfl) ?_
      obtain ⟨j33, hj33, hf⟩ := bd_some hf
      refine g_iald G hw iM_146 (by decide) rfl hj33 dX11_doOperation_232 ?_
      obtain ⟨j34, hj34, hf⟩ := bd_some hf
      obtain ⟨g35, eg35, hf⟩ := lt9_some hf
      refine g_iast G hw iM_144 (by decide) rfl hj34 dX11_doOperation_233 (fun H locs hw => ?_)
      rw [← eg35] at hw
      exact g_vretW G hr hk hf hw dX11_doOperation_234
  by_cases hs52_0 : gI g 126 0 j7 = 0
  · rw [if_pos hs52_0] at hf
    refine lv_tableIn (tgt := 96) G.1 G.2.1 dX11_doOperation_52 (by rw [hs52_0]; decide) (by rw [hs52_0]; decide) (by rw [hs52_0]; rfl) (by decide) ?_
    refine lv_aload_n G.1 G.2.1 dX11_doOperation_96 rfl (lv_at hl 2 rfl) ?_
    refine g_getC G hw C_10 iM_10 46 146 rfl (by decide) rfl fl_X11_108 dX11_doOperation_97 ?_
    refine lv_iload_n G.1 G.2.1 dX11_doOperation_100 rfl (lv_at hl 3 rfl) ?_
    refine lv_iload_n G.1 G.2.1 dX11_doOperation_101 rfl (lv_at hl 1 rfl) ?_
    refine lv_iload_n G.1 G.2.1 dX11_doOperation_102 rfl (lv_at hl 0 rfl) ?_
    refine lv_iadd G.1 G.2.1 dX11_doOperation_103 ?_
    obtain ⟨j9, hj9, hf⟩ := bd_some hf
    obtain ⟨g10, eg10, hf⟩ := lt9_some hf
    refine g_iast G hw iM_146 (by decide) rfl hj9 dX11_doOperation_104 (fun H locs hw => ?_)
    rw [← eg10] at hw
    refine lv_goto (tgt := 208) G.1 G.2.1 dX11_doOperation_105 (by decide) ?_
    exact hj8 g10 _ _ ls hf hw (lv_sub hl [2, 3] rfl)
  · rw [if_neg hs52_0] at hf
    by_cases hs52_1 : gI g 126 0 j7 = 1
    · rw [if_pos hs52_1] at hf
      refine lv_tableIn (tgt := 108) G.1 G.2.1 dX11_doOperation_52 (by rw [hs52_1]; decide) (by rw [hs52_1]; decide) (by rw [hs52_1]; rfl) (by decide) ?_
      refine lv_aload_n G.1 G.2.1 dX11_doOperation_108 rfl (lv_at hl 2 rfl) ?_
      refine g_getC G hw C_10 iM_10 46 146 rfl (by decide) rfl fl_X11_108 dX11_doOperation_109 ?_
      refine lv_iload_n G.1 G.2.1 dX11_doOperation_112 rfl (lv_at hl 3 rfl) ?_
      refine lv_iload_n G.1 G.2.1 dX11_doOperation_113 rfl (lv_at hl 1 rfl) ?_
      refine lv_iload_n G.1 G.2.1 dX11_doOperation_114 rfl (lv_at hl 0 rfl) ?_
      refine lv_isub G.1 G.2.1 dX11_doOperation_115 ?_
      obtain ⟨j11, hj11, hf⟩ := bd_some hf
      obtain ⟨g12, eg12, hf⟩ := lt9_some hf
      refine g_iast G hw iM_146 (by decide) rfl hj11 dX11_doOperation_116 (fun H locs hw => ?_)
      rw [← eg12] at hw
      refine lv_goto (tgt := 208) G.1 G.2.1 dX11_doOperation_117 (by decide) ?_
      exact hj8 g12 _ _ ls hf hw (lv_sub hl [2, 3] rfl)
    · rw [if_neg hs52_1] at hf
      by_cases hs52_2 : gI g 126 0 j7 = 2
      · rw [if_pos hs52_2] at hf
        refine lv_tableIn (tgt := 120) G.1 G.2.1 dX11_doOperation_52 (by rw [hs52_2]; decide) (by rw [hs52_2]; decide) (by rw [hs52_2]; rfl) (by decide) ?_
        refine lv_aload_n G.1 G.2.1 dX11_doOperation_120 rfl (lv_at hl 2 rfl) ?_
        refine g_getC G hw C_10 iM_10 46 146 rfl (by decide) rfl fl_X11_108 dX11_doOperation_121 ?_
        refine lv_iload_n G.1 G.2.1 dX11_doOperation_124 rfl (lv_at hl 3 rfl) ?_
        refine lv_iload_n G.1 G.2.1 dX11_doOperation_125 rfl (lv_at hl 1 rfl) ?_
        refine lv_iload_n G.1 G.2.1 dX11_doOperation_126 rfl (lv_at hl 0 rfl) ?_
        refine lv_imul G.1 G.2.1 dX11_doOperation_127 ?_
        obtain ⟨j13, hj13, hf⟩ := bd_some hf
        obtain ⟨g14, eg14, hf⟩ := lt9_some hf
        refine g_iast G hw iM_146 (by decide) rfl hj13 dX11_doOperation_128 (fun H locs hw => ?_)
        rw [← eg14] at hw
        refine lv_goto (tgt := 208) G.1 G.2.1 dX11_doOperation_129 (by decide) ?_
        exact hj8 g14 _ _ ls hf hw (lv_sub hl [2, 3] rfl)
      · rw [if_neg hs52_2] at hf
        by_cases hs52_3 : gI g 126 0 j7 = 3
        · rw [if_pos hs52_3] at hf
          refine lv_tableIn (tgt := 132) G.1 G.2.1 dX11_doOperation_52 (by rw [hs52_3]; decide) (by rw [hs52_3]; decide) (by rw [hs52_3]; rfl) (by decide) ?_
          refine lv_aload_n G.1 G.2.1 dX11_doOperation_132 rfl (lv_at hl 2 rfl) ?_
          refine g_getC G hw C_10 iM_10 46 146 rfl (by decide) rfl fl_X11_108 dX11_doOperation_133 ?_
          refine lv_iload_n G.1 G.2.1 dX11_doOperation_136 rfl (lv_at hl 3 rfl) ?_
          refine lv_iload_n G.1 G.2.1 dX11_doOperation_137 rfl (lv_at hl 1 rfl) ?_
          refine lv_iload_n G.1 G.2.1 dX11_doOperation_138 rfl (lv_at hl 0 rfl) ?_
          obtain ⟨j15, ej15, hf⟩ := lt9_some hf
          have hj15 : ∀ (v16 : Int32) (H : Heap) (locs : List Loc) (ls : Array Slot), j15 v16 = some g' → GW D X idsM E (gA X idsM E s.heap.size) s g H locs → lv_has ls 4 [(0, .ref (E.1 10 0)), (1, .int a1)] → W p l en { frames := 1, cells := 0, slots := 0, locals := 22 } s m [.ref (E.1 10 0), .int a1].toArray below meth c H locs 0 0 (MQ below (gQ none (GP D X idsM E g') (gA X idsM E s.heap.size)) [.ref (E.1 10 0), .int a1].toArray s 0 0 (gA X idsM E s.heap.size)) (F0 m 147 ls [.int v16, .int a1, .ref (E.1 146 0)]) := by
            intro v16 H locs ls hf hw hl
            rw [ej15] at hf
            dsimp only at hf
            obtain ⟨j17, hj17, hf⟩ := bd_some hf
            obtain ⟨g18, eg18, hf⟩ := lt9_some hf
            refine g_iast G hw iM_146 (by decide) rfl hj17 dX11_doOperation_147 (fun H locs hw => ?_)
            rw [← eg18] at hw
            refine lv_goto (tgt := 208) G.1 G.2.1 dX11_doOperation_148 (by decide) ?_
            exact hj8 g18 _ _ ls hf hw (lv_sub hl [0, 1] rfl)
          refine lv_icmp_ge (tgt := 146) G.1 G.2.1 dX11_doOperation_139 (by decide) (fun hc139 => ?_) (fun hc139 => ?_)
          · rw [if_pos hc139] at hf
            refine lv_iconst (v := (0 : Int32)) G.1 G.2.1 dX11_doOperation_146 (by decide) ?_
            exact hj15 (0 : Int32) _ _ ls hf hw (lv_sub hl [2, 3] rfl)
          · rw [if_neg hc139] at hf
            refine lv_iconst (v := (1 : Int32)) G.1 G.2.1 dX11_doOperation_142 (by decide) ?_
            refine lv_goto (tgt := 147) G.1 G.2.1 dX11_doOperation_143 (by decide) ?_
            exact hj15 (1 : Int32) _ _ ls hf hw (lv_sub hl [2, 3] rfl)
        · rw [if_neg hs52_3] at hf
          by_cases hs52_4 : gI g 126 0 j7 = 4
          · rw [if_pos hs52_4] at hf
            refine lv_tableIn (tgt := 151) G.1 G.2.1 dX11_doOperation_52 (by rw [hs52_4]; decide) (by rw [hs52_4]; decide) (by rw [hs52_4]; rfl) (by decide) ?_
            refine lv_aload_n G.1 G.2.1 dX11_doOperation_151 rfl (lv_at hl 2 rfl) ?_
            refine g_getC G hw C_10 iM_10 46 146 rfl (by decide) rfl fl_X11_108 dX11_doOperation_152 ?_
            refine lv_iload_n G.1 G.2.1 dX11_doOperation_155 rfl (lv_at hl 3 rfl) ?_
            refine lv_iload_n G.1 G.2.1 dX11_doOperation_156 rfl (lv_at hl 1 rfl) ?_
            refine lv_iload_n G.1 G.2.1 dX11_doOperation_157 rfl (lv_at hl 0 rfl) ?_
            obtain ⟨j19, ej19, hf⟩ := lt9_some hf
            have hj19 : ∀ (v20 : Int32) (H : Heap) (locs : List Loc) (ls : Array Slot), j19 v20 = some g' → GW D X idsM E (gA X idsM E s.heap.size) s g H locs → lv_has ls 4 [(0, .ref (E.1 10 0)), (1, .int a1)] → W p l en { frames := 1, cells := 0, slots := 0, locals := 22 } s m [.ref (E.1 10 0), .int a1].toArray below meth c H locs 0 0 (MQ below (gQ none (GP D X idsM E g') (gA X idsM E s.heap.size)) [.ref (E.1 10 0), .int a1].toArray s 0 0 (gA X idsM E s.heap.size)) (F0 m 166 ls [.int v20, .int a1, .ref (E.1 146 0)]) := by
              intro v20 H locs ls hf hw hl
              rw [ej19] at hf
              dsimp only at hf
              obtain ⟨j21, hj21, hf⟩ := bd_some hf
              obtain ⟨g22, eg22, hf⟩ := lt9_some hf
              refine g_iast G hw iM_146 (by decide) rfl hj21 dX11_doOperation_166 (fun H locs hw => ?_)
              rw [← eg22] at hw
              refine lv_goto (tgt := 208) G.1 G.2.1 dX11_doOperation_167 (by decide) ?_
              exact hj8 g22 _ _ ls hf hw (lv_sub hl [0, 1] rfl)
            refine lv_icmp_ne (tgt := 165) G.1 G.2.1 dX11_doOperation_158 (by decide) (fun hc158 => ?_) (fun hc158 => ?_)
            · rw [if_neg hc158] at hf
              refine lv_iconst (v := (0 : Int32)) G.1 G.2.1 dX11_doOperation_165 (by decide) ?_
              exact hj19 (0 : Int32) _ _ ls hf hw (lv_sub hl [2, 3] rfl)
            · rw [if_pos hc158] at hf
              refine lv_iconst (v := (1 : Int32)) G.1 G.2.1 dX11_doOperation_161 (by decide) ?_
              refine lv_goto (tgt := 166) G.1 G.2.1 dX11_doOperation_162 (by decide) ?_
              exact hj19 (1 : Int32) _ _ ls hf hw (lv_sub hl [2, 3] rfl)
          · rw [if_neg hs52_4] at hf
            by_cases hs52_5 : gI g 126 0 j7 = 5
            · rw [if_pos hs52_5] at hf
              refine lv_tableIn (tgt := 170) G.1 G.2.1 dX11_doOperation_52 (by rw [hs52_5]; decide) (by rw [hs52_5]; decide) (by rw [hs52_5]; rfl) (by decide) ?_
              refine lv_aload_n G.1 G.2.1 dX11_doOperation_170 rfl (lv_at hl 2 rfl) ?_
              refine g_getC G hw C_10 iM_10 46 146 rfl (by decide) rfl fl_X11_108 dX11_doOperation_171 ?_
              refine lv_iload_n G.1 G.2.1 dX11_doOperation_174 rfl (lv_at hl 3 rfl) ?_
              refine lv_aload_n G.1 G.2.1 dX11_doOperation_175 rfl (lv_at hl 2 rfl) ?_
              refine g_getC G hw C_10 iM_10 45 145 rfl (by decide) rfl fl_X11_105 dX11_doOperation_176 ?_
              refine lv_iload_n G.1 G.2.1 dX11_doOperation_179 rfl (lv_at hl 1 rfl) ?_
              refine lv_bipush (v := (15 : Int32)) G.1 G.2.1 dX11_doOperation_180 (by decide) ?_
              refine lv_iand G.1 G.2.1 dX11_doOperation_182 ?_
              obtain ⟨j23, hj23, hf⟩ := bd_some hf
              refine g_iald G hw iM_145 (by decide) rfl hj23 dX11_doOperation_183 ?_
              obtain ⟨j24, hj24, hf⟩ := bd_some hf
              obtain ⟨g25, eg25, hf⟩ := lt9_some hf
              refine g_iast G hw iM_146 (by decide) rfl hj24 dX11_doOperation_184 (fun H locs hw => ?_)
              rw [← eg25] at hw
              refine lv_goto (tgt := 208) G.1 G.2.1 dX11_doOperation_185 (by decide) ?_
              exact hj8 g25 _ _ ls hf hw (lv_sub hl [2, 3] rfl)
            · rw [if_neg hs52_5] at hf
              by_cases hs52_6 : gI g 126 0 j7 = 6
              · rw [if_pos hs52_6] at hf
                refine lv_tableIn (tgt := 188) G.1 G.2.1 dX11_doOperation_52 (by rw [hs52_6]; decide) (by rw [hs52_6]; decide) (by rw [hs52_6]; rfl) (by decide) ?_
                refine lv_aload_n G.1 G.2.1 dX11_doOperation_188 rfl (lv_at hl 2 rfl) ?_
                refine g_getC G hw C_10 iM_10 45 145 rfl (by decide) rfl fl_X11_105 dX11_doOperation_189 ?_
                refine lv_iload_n G.1 G.2.1 dX11_doOperation_192 rfl (lv_at hl 1 rfl) ?_
                refine lv_bipush (v := (15 : Int32)) G.1 G.2.1 dX11_doOperation_193 (by decide) ?_
                refine lv_iand G.1 G.2.1 dX11_doOperation_195 ?_
                refine lv_iload_n G.1 G.2.1 dX11_doOperation_196 rfl (lv_at hl 0 rfl) ?_
                obtain ⟨j26, hj26, hf⟩ := bd_some hf
                obtain ⟨g27, eg27, hf⟩ := lt9_some hf
                refine g_iast G hw iM_145 (by decide) rfl hj26 dX11_doOperation_197 (fun H locs hw => ?_)
                rw [← eg27] at hw
                refine lv_goto (tgt := 208) G.1 G.2.1 dX11_doOperation_198 (by decide) ?_
                exact hj8 g27 _ _ ls hf hw (lv_sub hl [2, 3] rfl)
              · rw [if_neg hs52_6] at hf
                refine lv_tableOut (tgt := 201) G.1 G.2.1 dX11_doOperation_52 (sw_out (x := gI g 126 0 j7) (lo := 0) (n := 7) (by decide) (by decide) (by intro k hk; match k, hk with | 0, _ => exact hs52_0 | 1, _ => exact hs52_1 | 2, _ => exact hs52_2 | 3, _ => exact hs52_3 | 4, _ => exact hs52_4 | 5, _ => exact hs52_5 | 6, _ => exact hs52_6)) (by decide) ?_
                refine lv_aload_n G.1 G.2.1 dX11_doOperation_201 rfl (lv_at hl 2 rfl) ?_
                refine g_getC G hw C_10 iM_10 46 146 rfl (by decide) rfl fl_X11_108 dX11_doOperation_202 ?_
                refine lv_iload_n G.1 G.2.1 dX11_doOperation_205 rfl (lv_at hl 3 rfl) ?_
                refine lv_iload_n G.1 G.2.1 dX11_doOperation_206 rfl (lv_at hl 1 rfl) ?_
                obtain ⟨j28, hj28, hf⟩ := bd_some hf
                obtain ⟨g29, eg29, hf⟩ := lt9_some hf
                refine g_iast G hw iM_146 (by decide) rfl hj28 dX11_doOperation_207 (fun H locs hw => ?_)
                rw [← eg29] at hw
                exact hj8 g29 _ _ ls hf hw (lv_sub hl [2, 3] rfl)

set_option maxHeartbeats 4000000 in
set_option maxRecDepth 100000 in
theorem c_M_run (l : Launch) (D : va_G) (X : va_W) (E : gE) (n : Nat) (a1 : Int32) (g : Mem) (r : Int32) (g' : Mem) (hf : M_run n a1 g = some (r, g')) : gMet l yX11_run cX11_run 4 (some .int) 2 45 D X idsM E [.ref (E.1 10 0), .int a1] g (some (.int r)) g' := by
  rw [M_run] at hf
  refine gt_code (by decide) (Nat.le_of_ble_eq_true rfl) (fun p en s m below meth c ls G hr hk hw hl => ?_)
  have hl : lv_has ls 4 [(0, .ref (E.1 10 0)), (1, .int a1)] := hl
  refine lv_aload_n G.1 G.2.1 dX11_run_0 rfl (lv_at hl 0 rfl) ?_
  refine lv_iload_n G.1 G.2.1 dX11_run_1 rfl (lv_at hl 1 rfl) ?_
  obtain ⟨j2, ej2, hf⟩ := lt9_some hf
  have hj2 : ∀ (v3 : Int32) (H : Heap) (locs : List Loc) (ls : Array Slot), j2 v3 = some (r, g') → GW D X idsM E (gA X idsM E s.heap.size) s g H locs → lv_has ls 4 [(0, .ref (E.1 10 0)), (1, .int a1)] → W p l en { frames := 2, cells := 0, slots := 0, locals := 45 } s m [.ref (E.1 10 0), .int a1].toArray below meth c H locs 0 0 (MQ below (gQ (some (.int r)) (GP D X idsM E g') (gA X idsM E s.heap.size)) [.ref (E.1 10 0), .int a1].toArray s 0 0 (gA X idsM E s.heap.size)) (F0 m 17 ls [.int v3, .ref (E.1 10 0)]) := by
    intro v3 H locs ls hf hw hl
    rw [ej2] at hf
    dsimp only at hf
    obtain ⟨g4, eg4, hf⟩ := lt9_some hf
    refine g_putI G hw C_10 iM_10 0 rfl fl_X11_117 rfl rfl rfl dX11_run_17 (fun H locs hw => ?_)
    rw [← eg4] at hw
    refine lv_iconst (v := (0 : Int32)) G.1 G.2.1 dX11_run_20 (by decide) ?_
    refine lv_istore_n (lv' := [(2, .int (0 : Int32)), (0, .ref (E.1 10 0)), (1, .int a1)]) G.1 G.2.1 dX11_run_21 rfl hl (by decide) rfl (fun ls hl => ?_)
    have hL22 : ∀ (k5 : Nat) (x6 : Int32) (g7 : Mem) (res5 : Int32 × Mem) (H : Heap) (locs : List Loc) (ls : Array Slot), M_run_L22 n a1 k5 x6 g7 = some res5 → GW D X idsM E (gA X idsM E s.heap.size) s g7 H locs → lv_has ls 4 [(0, .ref (E.1 10 0)), (1, .int a1), (2, .int x6)] → (∀ (H : Heap) (locs : List Loc) (ls : Array Slot), GW D X idsM E (gA X idsM E s.heap.size) s res5.2 H locs → lv_has ls 4 [(0, .ref (E.1 10 0)), (2, .int res5.1)] → W p l en { frames := 2, cells := 0, slots := 0, locals := 45 } s m [.ref (E.1 10 0), .int a1].toArray below meth c H locs 0 0 (MQ below (gQ (some (.int r)) (GP D X idsM E g') (gA X idsM E s.heap.size)) [.ref (E.1 10 0), .int a1].toArray s 0 0 (gA X idsM E s.heap.size)) (F0 m 162 ls [])) → W p l en { frames := 2, cells := 0, slots := 0, locals := 45 } s m [.ref (E.1 10 0), .int a1].toArray below meth c H locs 0 0 (MQ below (gQ (some (.int r)) (GP D X idsM E g') (gA X idsM E s.heap.size)) [.ref (E.1 10 0), .int a1].toArray s 0 0 (gA X idsM E s.heap.size)) (F0 m 22 ls []) := by
      intro k5
      induction k5 with
      | zero => intro x6 g7 res5 H locs ls hf; rw [M_run_L22] at hf; cases hf
      | succ k5 ih5 =>
        intro x6 g7 res5 H locs ls hf hw hl hk5_0
        rw [M_run_L22] at hf
        refine lv_aload_n G.1 G.2.1 dX11_run_22 rfl (lv_at hl 0 rfl) ?_
        refine g_getI G hw C_10 iM_10 0 rfl fl_X11_117 dX11_run_23 ?_
        refine lv_if_ne (tgt := 162) G.1 G.2.1 dX11_run_26 (by decide) (fun hc26 => ?_) (fun hc26 => ?_)
        · rw [if_neg hc26] at hf
          obtain rfl := Option.some.inj hf
          exact hk5_0 _ _ ls hw (lv_sub hl [0, 2] rfl)
        · rw [if_pos hc26] at hf
          refine lv_aload_n G.1 G.2.1 dX11_run_29 rfl (lv_at hl 0 rfl) ?_
          refine g_getI G hw C_10 iM_10 47 rfl fl_X11_333 dX11_run_30 ?_
          refine lv_if_lt (tgt := 162) G.1 G.2.1 dX11_run_33 (by decide) (fun hc33 => ?_) (fun hc33 => ?_)
          · rw [if_pos hc33] at hf
            obtain rfl := Option.some.inj hf
            exact hk5_0 _ _ ls hw (lv_sub hl [0, 2] rfl)
          · rw [if_neg hc33] at hf
            refine lv_iload_n G.1 G.2.1 dX11_run_36 rfl (lv_at hl 2 rfl) ?_
            refine lv_iload_n G.1 G.2.1 dX11_run_37 rfl (lv_at hl 1 rfl) ?_
            refine lv_icmp_ge (tgt := 162) G.1 G.2.1 dX11_run_38 (by decide) (fun hc38 => ?_) (fun hc38 => ?_)
            · rw [if_pos hc38] at hf
              obtain rfl := Option.some.inj hf
              exact hk5_0 _ _ ls hw (lv_sub hl [0, 2] rfl)
            · rw [if_neg hc38] at hf
              refine lv_iconst (v := (0 : Int32)) G.1 G.2.1 dX11_run_41 (by decide) ?_
              refine lv_istore_n (lv' := [(3, .int (0 : Int32)), (0, .ref (E.1 10 0)), (1, .int a1), (2, .int x6)]) G.1 G.2.1 dX11_run_42 rfl hl (by decide) rfl (fun ls hl => ?_)
              have hL43 : ∀ (k8 : Nat) (x9 : Int32) (g10 : Mem) (res8 : Mem) (H : Heap) (locs : List Loc) (ls : Array Slot), M_run_L43 n k8 x9 g10 = some res8 → GW D X idsM E (gA X idsM E s.heap.size) s g10 H locs → lv_has ls 4 [(0, .ref (E.1 10 0)), (1, .int a1), (2, .int x6), (3, .int x9)] → (∀ (H : Heap) (locs : List Loc) (ls : Array Slot), GW D X idsM E (gA X idsM E s.heap.size) s res8 H locs → lv_has ls 4 [(0, .ref (E.1 10 0)), (1, .int a1), (2, .int x6)] → W p l en { frames := 2, cells := 0, slots := 0, locals := 45 } s m [.ref (E.1 10 0), .int a1].toArray below meth c H locs 0 0 (MQ below (gQ (some (.int r)) (GP D X idsM E g') (gA X idsM E s.heap.size)) [.ref (E.1 10 0), .int a1].toArray s 0 0 (gA X idsM E s.heap.size)) (F0 m 75 ls [])) → W p l en { frames := 2, cells := 0, slots := 0, locals := 45 } s m [.ref (E.1 10 0), .int a1].toArray below meth c H locs 0 0 (MQ below (gQ (some (.int r)) (GP D X idsM E g') (gA X idsM E s.heap.size)) [.ref (E.1 10 0), .int a1].toArray s 0 0 (gA X idsM E s.heap.size)) (F0 m 43 ls []) := by
                intro k8
                induction k8 with
                | zero => intro x9 g10 res8 H locs ls hf; rw [M_run_L43] at hf; cases hf
                | succ k8 ih8 =>
                  intro x9 g10 res8 H locs ls hf hw hl hk8_0
                  rw [M_run_L43] at hf
                  refine lv_iload_n G.1 G.2.1 dX11_run_43 rfl (lv_at hl 3 rfl) ?_
                  refine lv_aload_n G.1 G.2.1 dX11_run_44 rfl (lv_at hl 0 rfl) ?_
                  refine g_getI G hw C_10 iM_10 25 rfl fl_X11_261 dX11_run_45 ?_
                  refine lv_icmp_ge (tgt := 75) G.1 G.2.1 dX11_run_48 (by decide) (fun hc48 => ?_) (fun hc48 => ?_)
                  · rw [if_pos hc48] at hf
                    obtain rfl := Option.some.inj hf
                    exact hk8_0 _ _ ls hw (lv_sub hl [0, 1, 2] rfl)
                  · rw [if_neg hc48] at hf
                    refine lv_aload_n G.1 G.2.1 dX11_run_51 rfl (lv_at hl 0 rfl) ?_
                    refine g_getC G hw C_10 iM_10 30 130 rfl (by decide) rfl fl_X11_63 dX11_run_52 ?_
                    refine lv_iload_n G.1 G.2.1 dX11_run_55 rfl (lv_at hl 3 rfl) ?_
                    obtain ⟨j11, hj11, hf⟩ := bd_some hf
                    refine g_iald G hw iM_130 (by decide) rfl hj11 dX11_run_56 ?_
                    refine lv_aload_n G.1 G.2.1 dX11_run_57 rfl (lv_at hl 0 rfl) ?_
                    refine g_getI G hw C_10 iM_10 47 rfl fl_X11_333 dX11_run_58 ?_
                    refine lv_icmp_ne (tgt := 69) G.1 G.2.1 dX11_run_61 (by decide) (fun hc61 => ?_) (fun hc61 => ?_)
                    · rw [if_neg hc61] at hf
                      refine lv_iinc (v := x9 + 1) (lv' := [(3, .int (x9 + 1)), (0, .ref (E.1 10 0)), (1, .int a1), (2, .int x6)]) G.1 G.2.1 dX11_run_69 hl (k := 3) rfl rfl (by decide) rfl (fun ls hl => ?_)
                      refine lv_goto (tgt := 43) G.1 G.2.1 dX11_run_72 (by decide) ?_
                      exact ih8 (x9 + 1) g10 _ _ _ ls hf hw (lv_sub hl [1, 2, 3, 0] rfl) hk8_0
                    · rw [if_pos hc61] at hf
                      refine lv_aload_n G.1 G.2.1 dX11_run_64 rfl (lv_at hl 0 rfl) ?_
                      refine lv_iload_n G.1 G.2.1 dX11_run_65 rfl (lv_at hl 3 rfl) ?_
                      obtain ⟨g12, hcg12, hf⟩ := bd_some hf
                      refine g_callV0 (As := [.int x9]) (rest := []) G hw (gA_mono hw.2.2.2.1.1) C_10 iM_10 mv_X11_344 (c_M_doOperation l D X E n x9 g10 g12 hcg12) hl.1 rfl rfl (Nat.le_of_ble_eq_true rfl) (Nat.le_of_ble_eq_true rfl) (Nat.le_of_ble_eq_true rfl) ⟨Nat.le_refl _, Nat.le_refl _⟩ dX11_run_66 (fun H locs hw => ?_)
                      refine lv_iinc (v := x9 + 1) (lv' := [(3, .int (x9 + 1)), (0, .ref (E.1 10 0)), (1, .int a1), (2, .int x6)]) G.1 G.2.1 dX11_run_69 hl (k := 3) rfl rfl (by decide) rfl (fun ls hl => ?_)
                      refine lv_goto (tgt := 43) G.1 G.2.1 dX11_run_72 (by decide) ?_
                      exact ih8 (x9 + 1) g12 _ _ _ ls hf hw (lv_sub hl [1, 2, 3, 0] rfl) hk8_0
              obtain ⟨r13, hr13, hf⟩ := bd_some hf
              refine hL43 n (0 : Int32) g7 r13 _ _ ls hr13 hw (lv_sub hl [1, 2, 3, 0] rfl) ?_
              intro H locs ls hw hl
              refine lv_iload_n G.1 G.2.1 dX11_run_75 rfl (lv_at hl 2 rfl) ?_
              refine lv_aload_n G.1 G.2.1 dX11_run_76 rfl (lv_at hl 0 rfl) ?_
              refine g_getC G hw C_10 iM_10 43 143 rfl (by decide) rfl fl_X11_99 dX11_run_77 ?_
              refine lv_aload_n G.1 G.2.1 dX11_run_80 rfl (lv_at hl 0 rfl) ?_
              refine g_getI G hw C_10 iM_10 47 rfl fl_X11_333 dX11_run_81 ?_
              obtain ⟨j14, hj14, hf⟩ := bd_some hf
              refine g_iald G hw iM_143 (by decide) rfl hj14 dX11_run_84 ?_
              refine lv_iadd G.1 G.2.1 dX11_run_85 ?_
              refine lv_istore_n (lv' := [(2, .int (x6 + (gI r13 143 0 j14))), (0, .ref (E.1 10 0)), (1, .int a1)]) G.1 G.2.1 dX11_run_86 rfl hl (by decide) rfl (fun ls hl => ?_)
              refine lv_aload_n G.1 G.2.1 dX11_run_87 rfl (lv_at hl 1 rfl) ?_
              refine g_getC G hw C_10 iM_10 36 136 rfl (by decide) rfl fl_X11_78 dX11_run_88 ?_
              refine lv_aload_n G.1 G.2.1 dX11_run_91 rfl (lv_at hl 1 rfl) ?_
              refine g_getI G hw C_10 iM_10 47 rfl fl_X11_333 dX11_run_92 ?_
              obtain ⟨j15, hj15, hf⟩ := bd_some hf
              refine g_zald G hw iM_136 (by decide) rfl hj15 dX11_run_95 ?_
              obtain ⟨j17, ej17, hf⟩ := lt9_some hf
              have hj17 : ∀ (v21 : Int32) (H : Heap) (locs : List Loc) (ls : Array Slot), j17 v21 = some res5 → GW D X idsM E (gA X idsM E s.heap.size) s r13 H locs → lv_has ls 4 [(0, .ref (E.1 10 0)), (1, .int a1), (2, .int (x6 + (gI r13 143 0 j14)))] → W p l en { frames := 2, cells := 0, slots := 0, locals := 45 } s m [.ref (E.1 10 0), .int a1].toArray below meth c H locs 0 0 (MQ below (gQ (some (.int r)) (GP D X idsM E g') (gA X idsM E s.heap.size)) [.ref (E.1 10 0), .int a1].toArray s 0 0 (gA X idsM E s.heap.size)) (F0 m 129 ls [.int v21]) := by
                intro v21 H locs ls hf hw hl
                rw [ej17] at hf
                dsimp only at hf
                refine lv_istore_n (lv' := [(3, .int v21), (0, .ref (E.1 10 0)), (1, .int a1), (2, .int (x6 + (gI r13 143 0 j14)))]) G.1 G.2.1 dX11_run_129 rfl hl (by decide) rfl (fun ls hl => ?_)
                refine lv_aload_n G.1 G.2.1 dX11_run_130 rfl (lv_at hl 1 rfl) ?_
                refine lv_iload_n G.1 G.2.1 dX11_run_131 rfl (lv_at hl 0 rfl) ?_
                refine lv_if_eq (tgt := 147) G.1 G.2.1 dX11_run_132 (by decide) (fun hc132 => ?_) (fun hc132 => ?_)
                · rw [if_pos hc132] at hf
                  refine lv_aload_n G.1 G.2.1 dX11_run_147 rfl (lv_at hl 1 rfl) ?_
                  refine g_getC G hw C_10 iM_10 35 135 rfl (by decide) rfl fl_X11_75 dX11_run_148 ?_
                  refine lv_aload_n G.1 G.2.1 dX11_run_151 rfl (lv_at hl 1 rfl) ?_
                  refine g_getI G hw C_10 iM_10 47 rfl fl_X11_333 dX11_run_152 ?_
                  obtain ⟨j22, hj22, hf⟩ := bd_some hf
                  refine g_iald G hw iM_135 (by decide) rfl hj22 dX11_run_155 ?_
                  obtain ⟨g23, eg23, hf⟩ := lt9_some hf
                  refine g_putI G hw C_10 iM_10 47 rfl fl_X11_333 rfl rfl rfl dX11_run_156 (fun H locs hw => ?_)
                  rw [← eg23] at hw
                  refine lv_goto (tgt := 22) G.1 G.2.1 dX11_run_159 (by decide) ?_
                  exact ih5 (x6 + (gI r13 143 0 j14)) g23 _ _ _ ls hf hw (lv_sub hl [1, 2, 3] rfl) hk5_0
                · rw [if_neg hc132] at hf
                  refine lv_aload_n G.1 G.2.1 dX11_run_135 rfl (lv_at hl 1 rfl) ?_
                  refine g_getC G hw C_10 iM_10 34 134 rfl (by decide) rfl fl_X11_72 dX11_run_136 ?_
                  refine lv_aload_n G.1 G.2.1 dX11_run_139 rfl (lv_at hl 1 rfl) ?_
                  refine g_getI G hw C_10 iM_10 47 rfl fl_X11_333 dX11_run_140 ?_
                  obtain ⟨j24, hj24, hf⟩ := bd_some hf
                  refine g_iald G hw iM_134 (by decide) rfl hj24 dX11_run_143 ?_
                  refine lv_goto (tgt := 156) G.1 G.2.1 dX11_run_144 (by decide) ?_
                  obtain ⟨g25, eg25, hf⟩ := lt9_some hf
                  refine g_putI G hw C_10 iM_10 47 rfl fl_X11_333 rfl rfl rfl dX11_run_156 (fun H locs hw => ?_)
                  rw [← eg25] at hw
                  refine lv_goto (tgt := 22) G.1 G.2.1 dX11_run_159 (by decide) ?_
                  exact ih5 (x6 + (gI r13 143 0 j14)) g25 _ _ _ ls hf hw (lv_sub hl [1, 2, 3] rfl) hk5_0
              obtain ⟨j16, ej16, hf⟩ := lt9_some hf
              have hj16 : ∀ (_u : Unit) (H : Heap) (locs : List Loc) (ls : Array Slot), j16 _u = some res5 → GW D X idsM E (gA X idsM E s.heap.size) s r13 H locs → lv_has ls 4 [(0, .ref (E.1 10 0)), (1, .int a1), (2, .int (x6 + (gI r13 143 0 j14)))] → W p l en { frames := 2, cells := 0, slots := 0, locals := 45 } s m [.ref (E.1 10 0), .int a1].toArray below meth c H locs 0 0 (MQ below (gQ (some (.int r)) (GP D X idsM E g') (gA X idsM E s.heap.size)) [.ref (E.1 10 0), .int a1].toArray s 0 0 (gA X idsM E s.heap.size)) (F0 m 124 ls []) := by
                intro _u H locs ls hf hw hl
                rw [ej16] at hf
                dsimp only at hf
                refine lv_iconst (v := (1 : Int32)) G.1 G.2.1 dX11_run_124 (by decide) ?_
                refine lv_goto (tgt := 129) G.1 G.2.1 dX11_run_125 (by decide) ?_
                exact hj17 (1 : Int32) _ _ ls hf hw (lv_sub hl [0, 1, 2] rfl)
              refine lv_if_eq (tgt := 124) G.1 G.2.1 dX11_run_96 (by decide) (fun hc96 => ?_) (fun hc96 => ?_)
              · rw [if_pos hc96] at hf
                exact hj16 () _ _ ls hf hw (lv_sub hl [1, 2, 0] rfl)
              · rw [if_neg hc96] at hf
                refine lv_aload_n G.1 G.2.1 dX11_run_99 rfl (lv_at hl 1 rfl) ?_
                refine lv_aload_n G.1 G.2.1 dX11_run_100 rfl (lv_at hl 1 rfl) ?_
                refine g_getC G hw C_10 iM_10 32 132 rfl (by decide) rfl fl_X11_66 dX11_run_101 ?_
                refine lv_aload_n G.1 G.2.1 dX11_run_104 rfl (lv_at hl 1 rfl) ?_
                refine g_getI G hw C_10 iM_10 47 rfl fl_X11_333 dX11_run_105 ?_
                obtain ⟨j18, hj18, hf⟩ := bd_some hf
                refine g_iald G hw iM_132 (by decide) rfl hj18 dX11_run_108 ?_
                refine lv_aload_n G.1 G.2.1 dX11_run_109 rfl (lv_at hl 1 rfl) ?_
                refine g_getC G hw C_10 iM_10 33 133 rfl (by decide) rfl fl_X11_69 dX11_run_110 ?_
                refine lv_aload_n G.1 G.2.1 dX11_run_113 rfl (lv_at hl 1 rfl) ?_
                refine g_getI G hw C_10 iM_10 47 rfl fl_X11_333 dX11_run_114 ?_
                obtain ⟨j19, hj19, hf⟩ := bd_some hf
                refine g_iald G hw iM_133 (by decide) rfl hj19 dX11_run_117 ?_
                obtain ⟨z20, hcz20, hf⟩ := bd_some hf
                refine g_callV1 (As := [.int (gI r13 132 0 j18), .int (gI r13 133 0 j19)]) (rest := []) G hw (gA_mono hw.2.2.2.1.1) C_10 iM_10 mv_X11_340 (c_M_look l D X E n (gI r13 132 0 j18) (gI r13 133 0 j19) r13 z20 hcz20) hl.1 rfl rfl (Nat.le_of_ble_eq_true rfl) (Nat.le_of_ble_eq_true rfl) (Nat.le_of_ble_eq_true rfl) ⟨Nat.le_refl _, Nat.le_refl _⟩ dX11_run_118 (fun H locs hw => ?_)
                refine lv_if_eq (tgt := 128) G.1 G.2.1 dX11_run_121 (by decide) (fun hc121 => ?_) (fun hc121 => ?_)
                · rw [if_pos hc121] at hf
                  refine lv_iconst (v := (0 : Int32)) G.1 G.2.1 dX11_run_128 (by decide) ?_
                  exact hj17 (0 : Int32) _ _ ls hf hw (lv_sub hl [1, 2, 0] rfl)
                · rw [if_neg hc121] at hf
                  exact hj16 () _ _ ls hf hw (lv_sub hl [1, 2, 0] rfl)
    obtain ⟨r26, hr26, hf⟩ := bd_some hf
    refine hL22 n (0 : Int32) g4 r26 _ _ ls hr26 hw (lv_sub hl [1, 2, 0] rfl) ?_
    intro H locs ls hw hl
    refine lv_aload_n G.1 G.2.1 dX11_run_162 rfl (lv_at hl 0 rfl) ?_
    refine lv_aload_n G.1 G.2.1 dX11_run_163 rfl (lv_at hl 0 rfl) ?_
    refine g_getL G hw C_10 iM_10 48 rfl fl_X11_336 dX11_run_164 ?_
    refine lv_iload_n G.1 G.2.1 dX11_run_167 rfl (lv_at hl 1 rfl) ?_
    refine lv_i2l G.1 G.2.1 dX11_run_168 rfl ?_
    refine lv_ladd G.1 G.2.1 dX11_run_169 ?_
    obtain ⟨g27, eg27, hf⟩ := lt9_some hf
    refine g_putL G hw C_10 iM_10 48 rfl ol_10 fl_X11_336 rfl rfl rfl dX11_run_170 (fun H locs hw => ?_)
    rw [← eg27] at hw
    refine lv_iload_n G.1 G.2.1 dX11_run_173 rfl (lv_at hl 1 rfl) ?_
    exact g_iretW G hr hk hf hw dX11_run_174
  obtain ⟨j1, ej1, hf⟩ := lt9_some hf
  have hj1 : ∀ (_u : Unit) (H : Heap) (locs : List Loc) (ls : Array Slot), j1 _u = some (r, g') → GW D X idsM E (gA X idsM E s.heap.size) s g H locs → lv_has ls 4 [(0, .ref (E.1 10 0)), (1, .int a1)] → W p l en { frames := 2, cells := 0, slots := 0, locals := 45 } s m [.ref (E.1 10 0), .int a1].toArray below meth c H locs 0 0 (MQ below (gQ (some (.int r)) (GP D X idsM E g') (gA X idsM E s.heap.size)) [.ref (E.1 10 0), .int a1].toArray s 0 0 (gA X idsM E s.heap.size)) (F0 m 12 ls [.ref (E.1 10 0)]) := by
    intro _u H locs ls hf hw hl
    rw [ej1] at hf
    dsimp only at hf
    refine lv_iconst (v := (1 : Int32)) G.1 G.2.1 dX11_run_12 (by decide) ?_
    refine lv_goto (tgt := 17) G.1 G.2.1 dX11_run_13 (by decide) ?_
    exact hj2 (1 : Int32) _ _ ls hf hw (lv_sub hl [0, 1] rfl)
  refine lv_if_lt (tgt := 12) G.1 G.2.1 dX11_run_2 (by decide) (fun hc2 => ?_) (fun hc2 => ?_)
  · rw [if_pos hc2] at hf
    exact hj1 () _ _ ls hf hw (lv_sub hl [0, 1] rfl)
  · rw [if_neg hc2] at hf
    refine lv_iload_n G.1 G.2.1 dX11_run_5 rfl (lv_at hl 1 rfl) ?_
    refine lv_sipush (v := (5000 : Int32)) G.1 G.2.1 dX11_run_6 (by decide) ?_
    refine lv_icmp_le (tgt := 16) G.1 G.2.1 dX11_run_9 (by decide) (fun hc9 => ?_) (fun hc9 => ?_)
    · rw [if_pos hc9] at hf
      refine lv_iconst (v := (0 : Int32)) G.1 G.2.1 dX11_run_16 (by decide) ?_
      exact hj2 (0 : Int32) _ _ ls hf hw (lv_sub hl [0, 1] rfl)
    · rw [if_neg hc9] at hf
      exact hj1 () _ _ ls hf hw (lv_sub hl [0, 1] rfl)

set_option maxHeartbeats 4000000 in
set_option maxRecDepth 100000 in
theorem c_M_at (l : Launch) (D : va_G) (X : va_W) (E : gE) (n : Nat) (g : Mem) (r : Int32) (g' : Mem) (hf : M_at n g = some (r, g')) : gMet l yX11_at cX11_at 1 (some .int) 0 0 D X idsM E [.ref (E.1 10 0)] g (some (.int r)) g' := by
  rw [M_at] at hf
  refine gt_code (by decide) (Nat.le_of_ble_eq_true rfl) (fun p en s m below meth c ls G hr hk hw hl => ?_)
  have hl : lv_has ls 1 [(0, .ref (E.1 10 0))] := hl
  refine lv_aload_n G.1 G.2.1 dX11_at_0 rfl (lv_at hl 0 rfl) ?_
  refine lv_iconst (v := (0 : Int32)) G.1 G.2.1 dX11_at_1 (by decide) ?_
  obtain ⟨g1, eg1, hf⟩ := lt9_some hf
  refine g_putI G hw C_10 iM_10 0 rfl fl_X11_117 rfl rfl rfl dX11_at_2 (fun H locs hw => ?_)
  rw [← eg1] at hw
  refine lv_aload_n G.1 G.2.1 dX11_at_5 rfl (lv_at hl 0 rfl) ?_
  refine g_getI G hw C_10 iM_10 47 rfl fl_X11_333 dX11_at_6 ?_
  exact g_iretW G hr hk hf hw dX11_at_9

set_option maxHeartbeats 4000000 in
set_option maxRecDepth 100000 in
theorem c_M_cycles (l : Launch) (D : va_G) (X : va_W) (E : gE) (n : Nat) (g : Mem) (r : Int64) (g' : Mem) (hf : M_cycles n g = some (r, g')) : gMet l yX11_cycles cX11_cycles 1 (some .long) 0 0 D X idsM E [.ref (E.1 10 0)] g (some (.long r)) g' := by
  rw [M_cycles] at hf
  refine gt_code (by decide) (Nat.le_of_ble_eq_true rfl) (fun p en s m below meth c ls G hr hk hw hl => ?_)
  have hl : lv_has ls 1 [(0, .ref (E.1 10 0))] := hl
  refine lv_aload_n G.1 G.2.1 dX11_cycles_0 rfl (lv_at hl 0 rfl) ?_
  refine lv_iconst (v := (0 : Int32)) G.1 G.2.1 dX11_cycles_1 (by decide) ?_
  obtain ⟨g1, eg1, hf⟩ := lt9_some hf
  refine g_putI G hw C_10 iM_10 0 rfl fl_X11_117 rfl rfl rfl dX11_cycles_2 (fun H locs hw => ?_)
  rw [← eg1] at hw
  refine lv_aload_n G.1 G.2.1 dX11_cycles_5 rfl (lv_at hl 0 rfl) ?_
  refine g_getL G hw C_10 iM_10 48 rfl fl_X11_336 dX11_cycles_6 ?_
  exact g_lretW G hr hk hf hw dX11_cycles_9
