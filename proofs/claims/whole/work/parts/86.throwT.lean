/-! the methods that may throw, where they do (printed by program) -/
def K_feed_T (n : Nat) (a1 : Int32) (a2 : Int64) (g : Mem) : Option String :=
if a1 < (1 : Int32) then (
some sIAE)
else (
if a1 ≤ (8 : Int32) then (
none)
else (
some sIAE))
set_option maxHeartbeats 4000000 in
set_option maxRecDepth 100000 in
theorem t_K_feed (l : Launch) (hlf : l.stackTraces = false) (D : va_G) (X : va_W) (E : gE) (n : Nat) (a1 : Int32) (a2 : Int64) (g : Mem) (nm : String) (hf : K_feed_T n a1 a2 g = some nm) : gMetT l yX10_feed cX10_feed 4 (some .int) 6 81 D X idsC E [.ref (E.1 9 0), .int a1, .long a2] g nm := by
  rw [K_feed_T] at hf
  refine gt_codeT (by decide) (Nat.le_of_ble_eq_true rfl) (fun p en s m below meth c ls G hk ht hw hT hl => ?_)
  have hl : lv_has ls 4 [(0, .ref (E.1 9 0)), (1, .int a1), (2, .long a2)] := hl
  refine lv_iload_n G.1 G.2.1 dX10_feed_0 rfl (lv_at hl 1 rfl) ?_
  refine lv_iconst (v := (1 : Int32)) G.1 G.2.1 dX10_feed_1 (by decide) ?_
  refine lv_icmp_lt (tgt := 11) G.1 G.2.1 dX10_feed_2 (by decide) (fun hc2 => ?_) (fun hc2 => ?_)
  · rw [if_pos hc2] at hf
    obtain rfl := Option.some.inj hf
    exact g_throwA hlf G hk ht hw hT hl.1 (by decide) (by decide) ⟨rfl, rfl⟩ dX10_feed_11 dX10_feed_14 dX10_feed_15 dX10_feed_18
  · rw [if_neg hc2] at hf
    refine lv_iload_n G.1 G.2.1 dX10_feed_5 rfl (lv_at hl 1 rfl) ?_
    refine lv_bipush (v := (8 : Int32)) G.1 G.2.1 dX10_feed_6 (by decide) ?_
    refine lv_icmp_le (tgt := 19) G.1 G.2.1 dX10_feed_8 (by decide) (fun hc8 => ?_) (fun hc8 => ?_)
    · rw [if_pos hc8] at hf
      cases hf
    · rw [if_neg hc8] at hf
      obtain rfl := Option.some.inj hf
      exact g_throwA hlf G hk ht hw hT hl.1 (by decide) (by decide) ⟨rfl, rfl⟩ dX10_feed_11 dX10_feed_14 dX10_feed_15 dX10_feed_18

def K_units_T (n : Nat) (a1 : Int32) (a2 : Int32) (a3 : Int32) (g : Mem) : Option String :=
(Ly_allows n a1 a2 a3).bind fun z1 =>
if z1 = 0 then (
some sIAE)
else (
none)
set_option maxHeartbeats 4000000 in
set_option maxRecDepth 100000 in
theorem t_K_units (l : Launch) (hlf : l.stackTraces = false) (D : va_G) (X : va_W) (E : gE) (n : Nat) (a1 : Int32) (a2 : Int32) (a3 : Int32) (g : Mem) (nm : String) (hf : K_units_T n a1 a2 a3 g = some nm) : gMetT l yX10_units cX10_units 4 none 6 81 D X idsC E [.ref (E.1 9 0), .int a1, .int a2, .int a3] g nm := by
  rw [K_units_T] at hf
  refine gt_codeT (by decide) (Nat.le_of_ble_eq_true rfl) (fun p en s m below meth c ls G hk ht hw hT hl => ?_)
  have hl : lv_has ls 4 [(0, .ref (E.1 9 0)), (1, .int a1), (2, .int a2), (3, .int a3)] := hl
  refine lv_iload_n G.1 G.2.1 dX10_units_0 rfl (lv_at hl 1 rfl) ?_
  refine lv_iload_n G.1 G.2.1 dX10_units_1 rfl (lv_at hl 2 rfl) ?_
  refine lv_iload_n G.1 G.2.1 dX10_units_2 rfl (lv_at hl 3 rfl) ?_
  obtain ⟨z1, hcz1, hf⟩ := bd_some hf
  refine g_callS1 (As := [.int a1, .int a2, .int a3]) (rest := []) G hw (gA_mono hw.2.2.2.1.1)  ms_X10_68 (c_Ly_allows l D X E n a1 a2 a3 g z1 hcz1) hl.1 rfl rfl (Nat.le_of_ble_eq_true rfl) (Nat.le_of_ble_eq_true rfl) (Nat.le_of_ble_eq_true rfl) ⟨by decide, by decide⟩ dX10_units_3 (fun H locs hw => ?_)
  refine lv_if_ne (tgt := 17) G.1 G.2.1 dX10_units_6 (by decide) (fun hc6 => ?_) (fun hc6 => ?_)
  · rw [if_neg hc6] at hf
    cases hf
  · rw [if_pos hc6] at hf
    obtain rfl := Option.some.inj hf
    exact g_throwA hlf G hk ht hw hT hl.1 (by decide) (by decide) ⟨rfl, rfl⟩ dX10_units_9 dX10_units_12 dX10_units_13 dX10_units_16

def K_told_T (n : Nat) (a1 : Int32) (g : Mem) : Option String :=
if a1 = 0 then (
none)
else (
if a1 = 1 then (
none)
else (
if a1 = 2 then (
none)
else (
if a1 = 3 then (
none)
else (
if a1 = 4 then (
none)
else (
if a1 = 5 then (
none)
else (
if a1 = 6 then (
none)
else (
some sIAE)))))))
set_option maxHeartbeats 4000000 in
set_option maxRecDepth 100000 in
theorem t_K_told (l : Launch) (hlf : l.stackTraces = false) (D : va_G) (X : va_W) (E : gE) (n : Nat) (a1 : Int32) (g : Mem) (nm : String) (hf : K_told_T n a1 g = some nm) : gMetT l yX10_told cX10_told 2 (some .int) 6 81 D X idsC E [.ref (E.1 9 0), .int a1] g nm := by
  rw [K_told_T] at hf
  refine gt_codeT (by decide) (Nat.le_of_ble_eq_true rfl) (fun p en s m below meth c ls G hk ht hw hT hl => ?_)
  have hl : lv_has ls 2 [(0, .ref (E.1 9 0)), (1, .int a1)] := hl
  refine lv_iload_n G.1 G.2.1 dX10_told_0 rfl (lv_at hl 1 rfl) ?_
  by_cases hs1_0 : a1 = 0
  · rw [if_pos hs1_0] at hf
    refine lv_tableIn (tgt := 44) G.1 G.2.1 dX10_told_1 (by rw [hs1_0]; decide) (by rw [hs1_0]; decide) (by rw [hs1_0]; rfl) (by decide) ?_
    cases hf
  · rw [if_neg hs1_0] at hf
    by_cases hs1_1 : a1 = 1
    · rw [if_pos hs1_1] at hf
      refine lv_tableIn (tgt := 52) G.1 G.2.1 dX10_told_1 (by rw [hs1_1]; decide) (by rw [hs1_1]; decide) (by rw [hs1_1]; rfl) (by decide) ?_
      cases hf
    · rw [if_neg hs1_1] at hf
      by_cases hs1_2 : a1 = 2
      · rw [if_pos hs1_2] at hf
        refine lv_tableIn (tgt := 60) G.1 G.2.1 dX10_told_1 (by rw [hs1_2]; decide) (by rw [hs1_2]; decide) (by rw [hs1_2]; rfl) (by decide) ?_
        cases hf
      · rw [if_neg hs1_2] at hf
        by_cases hs1_3 : a1 = 3
        · rw [if_pos hs1_3] at hf
          refine lv_tableIn (tgt := 68) G.1 G.2.1 dX10_told_1 (by rw [hs1_3]; decide) (by rw [hs1_3]; decide) (by rw [hs1_3]; rfl) (by decide) ?_
          cases hf
        · rw [if_neg hs1_3] at hf
          by_cases hs1_4 : a1 = 4
          · rw [if_pos hs1_4] at hf
            refine lv_tableIn (tgt := 68) G.1 G.2.1 dX10_told_1 (by rw [hs1_4]; decide) (by rw [hs1_4]; decide) (by rw [hs1_4]; rfl) (by decide) ?_
            cases hf
          · rw [if_neg hs1_4] at hf
            by_cases hs1_5 : a1 = 5
            · rw [if_pos hs1_5] at hf
              refine lv_tableIn (tgt := 68) G.1 G.2.1 dX10_told_1 (by rw [hs1_5]; decide) (by rw [hs1_5]; decide) (by rw [hs1_5]; rfl) (by decide) ?_
              cases hf
            · rw [if_neg hs1_5] at hf
              by_cases hs1_6 : a1 = 6
              · rw [if_pos hs1_6] at hf
                refine lv_tableIn (tgt := 68) G.1 G.2.1 dX10_told_1 (by rw [hs1_6]; decide) (by rw [hs1_6]; decide) (by rw [hs1_6]; rfl) (by decide) ?_
                cases hf
              · rw [if_neg hs1_6] at hf
                refine lv_tableOut (tgt := 79) G.1 G.2.1 dX10_told_1 (sw_out (x := a1) (lo := 0) (n := 7) (by decide) (by decide) (by intro k hk; match k, hk with | 0, _ => exact hs1_0 | 1, _ => exact hs1_1 | 2, _ => exact hs1_2 | 3, _ => exact hs1_3 | 4, _ => exact hs1_4 | 5, _ => exact hs1_5 | 6, _ => exact hs1_6)) (by decide) ?_
                obtain rfl := Option.some.inj hf
                exact g_throwA hlf G hk ht hw hT hl.1 (by decide) (by decide) ⟨rfl, rfl⟩ dX10_told_79 dX10_told_82 dX10_told_83 dX10_told_86

def K_block_T (n : Nat) (a1 : Int32) (a2 : Int32) (g : Mem) : Option String :=
if a1 < 0 then (
some sIOB)
else (
(gR g 9 0 4).bind fun p1 =>
(if p1 < 2 then (
if a1 < (gI g 4 p1 3) then (
(gR g 9 0 4).bind fun p2 =>
(if p2 < 2 then (
(ix a1 175).bind fun j3 =>
if a2 = 0 then (
none)
else (
if a2 = 1 then (
none)
else (
if a2 = 2 then (
none)
else (
if a2 = 3 then (
none)
else (
if a2 = 4 then (
none)
else (
some sIAE))))))
else none))
else (
some sIOB))
else none))
set_option maxHeartbeats 4000000 in
set_option maxRecDepth 100000 in
theorem t_K_block (l : Launch) (hlf : l.stackTraces = false) (D : va_G) (X : va_W) (E : gE) (n : Nat) (a1 : Int32) (a2 : Int32) (g : Mem) (nm : String) (hf : K_block_T n a1 a2 g = some nm) : gMetT l yX10_block cX10_block 4 (some .int) 6 81 D X idsC E [.ref (E.1 9 0), .int a1, .int a2] g nm := by
  rw [K_block_T] at hf
  refine gt_codeT (by decide) (Nat.le_of_ble_eq_true rfl) (fun p en s m below meth c ls G hk ht hw hT hl => ?_)
  have hl : lv_has ls 4 [(0, .ref (E.1 9 0)), (1, .int a1), (2, .int a2)] := hl
  refine lv_iload_n G.1 G.2.1 dX10_block_0 rfl (lv_at hl 1 rfl) ?_
  refine lv_if_lt (tgt := 15) G.1 G.2.1 dX10_block_1 (by decide) (fun hc1 => ?_) (fun hc1 => ?_)
  · rw [if_pos hc1] at hf
    obtain rfl := Option.some.inj hf
    exact g_throwB hlf G hk ht hw hT hl.1 (by decide) (by decide) ⟨rfl, rfl⟩ dX10_block_15 dX10_block_18 dX10_block_19 dX10_block_22
  · rw [if_neg hc1] at hf
    refine lv_iload_n G.1 G.2.1 dX10_block_4 rfl (lv_at hl 1 rfl) ?_
    refine lv_aload_n G.1 G.2.1 dX10_block_5 rfl (lv_at hl 0 rfl) ?_
    obtain ⟨p1, hep1, hf⟩ := bd_some hf
    obtain ⟨hvp1, hf⟩ := ck_some hf
    refine g_getR G hw C_9 iC_9 4 4 rfl rfl fl_X10_42 hep1 dX10_block_6 ?_
    refine g_getI G hw C_4 (iC_4 hvp1) 3 rfl fl_X10_92 dX10_block_9 ?_
    refine lv_icmp_lt (tgt := 23) G.1 G.2.1 dX10_block_12 (by decide) (fun hc12 => ?_) (fun hc12 => ?_)
    · rw [if_pos hc12] at hf
      refine lv_aload_n G.1 G.2.1 dX10_block_23 rfl (lv_at hl 0 rfl) ?_
      obtain ⟨p2, hep2, hf⟩ := bd_some hf
      obtain ⟨hvp2, hf⟩ := ck_some hf
      refine g_getR G hw C_9 iC_9 4 4 rfl rfl fl_X10_42 hep2 dX10_block_24 ?_
      refine g_getC G hw C_4 (iC_4 hvp2) 1 32 rfl (by decide) rfl fl_X10_108 dX10_block_27 ?_
      refine lv_iload_n G.1 G.2.1 dX10_block_30 rfl (lv_at hl 1 rfl) ?_
      obtain ⟨j3, hj3, hf⟩ := bd_some hf
      refine g_bald G hw (iC_32 hvp2) (by decide) rfl hj3 dX10_block_31 ?_
      refine lv_astore_n (lv' := [(3, .ref (E.1 0 (175 * p2 + j3))), (0, .ref (E.1 9 0)), (1, .int a1), (2, .int a2)]) G.1 G.2.1 dX10_block_32 rfl hl (by decide) rfl (fun ls hl => ?_)
      refine lv_iload_n G.1 G.2.1 dX10_block_33 rfl (lv_at hl 3 rfl) ?_
      by_cases hs34_0 : a2 = 0
      · rw [if_pos hs34_0] at hf
        refine lv_tableIn (tgt := 68) G.1 G.2.1 dX10_block_34 (by rw [hs34_0]; decide) (by rw [hs34_0]; decide) (by rw [hs34_0]; rfl) (by decide) ?_
        cases hf
      · rw [if_neg hs34_0] at hf
        by_cases hs34_1 : a2 = 1
        · rw [if_pos hs34_1] at hf
          refine lv_tableIn (tgt := 73) G.1 G.2.1 dX10_block_34 (by rw [hs34_1]; decide) (by rw [hs34_1]; decide) (by rw [hs34_1]; rfl) (by decide) ?_
          cases hf
        · rw [if_neg hs34_1] at hf
          by_cases hs34_2 : a2 = 2
          · rw [if_pos hs34_2] at hf
            refine lv_tableIn (tgt := 89) G.1 G.2.1 dX10_block_34 (by rw [hs34_2]; decide) (by rw [hs34_2]; decide) (by rw [hs34_2]; rfl) (by decide) ?_
            cases hf
          · rw [if_neg hs34_2] at hf
            by_cases hs34_3 : a2 = 3
            · rw [if_pos hs34_3] at hf
              refine lv_tableIn (tgt := 94) G.1 G.2.1 dX10_block_34 (by rw [hs34_3]; decide) (by rw [hs34_3]; decide) (by rw [hs34_3]; rfl) (by decide) ?_
              cases hf
            · rw [if_neg hs34_3] at hf
              by_cases hs34_4 : a2 = 4
              · rw [if_pos hs34_4] at hf
                refine lv_tableIn (tgt := 99) G.1 G.2.1 dX10_block_34 (by rw [hs34_4]; decide) (by rw [hs34_4]; decide) (by rw [hs34_4]; rfl) (by decide) ?_
                cases hf
              · rw [if_neg hs34_4] at hf
                refine lv_tableOut (tgt := 104) G.1 G.2.1 dX10_block_34 (sw_out (x := a2) (lo := 0) (n := 5) (by decide) (by decide) (by intro k hk; match k, hk with | 0, _ => exact hs34_0 | 1, _ => exact hs34_1 | 2, _ => exact hs34_2 | 3, _ => exact hs34_3 | 4, _ => exact hs34_4)) (by decide) ?_
                obtain rfl := Option.some.inj hf
                exact g_throwA hlf G hk ht hw hT hl.1 (by decide) (by decide) ⟨rfl, rfl⟩ dX10_block_104 dX10_block_107 dX10_block_108 dX10_block_111
    · rw [if_neg hc12] at hf
      obtain rfl := Option.some.inj hf
      exact g_throwB hlf G hk ht hw hT hl.1 (by decide) (by decide) ⟨rfl, rfl⟩ dX10_block_15 dX10_block_18 dX10_block_19 dX10_block_22

def K_operation_T (n : Nat) (a1 : Int32) (a2 : Int32) (g : Mem) : Option String :=
if a1 < 0 then (
some sIOB)
else (
(gR g 9 0 4).bind fun p1 =>
(if p1 < 2 then (
if a1 < (gI g 4 p1 2) then (
(gR g 9 0 4).bind fun p2 =>
(if p2 < 2 then (
(ix a1 200).bind fun j3 =>
if a2 = 0 then (
none)
else (
if a2 = 1 then (
none)
else (
if a2 = 2 then (
none)
else (
if a2 = 3 then (
none)
else (
if a2 = 4 then (
none)
else (
if a2 = 5 then (
none)
else (
some sIAE)))))))
else none))
else (
some sIOB))
else none))
set_option maxHeartbeats 4000000 in
set_option maxRecDepth 100000 in
theorem t_K_operation (l : Launch) (hlf : l.stackTraces = false) (D : va_G) (X : va_W) (E : gE) (n : Nat) (a1 : Int32) (a2 : Int32) (g : Mem) (nm : String) (hf : K_operation_T n a1 a2 g = some nm) : gMetT l yX10_operation cX10_operation 4 (some .int) 6 81 D X idsC E [.ref (E.1 9 0), .int a1, .int a2] g nm := by
  rw [K_operation_T] at hf
  refine gt_codeT (by decide) (Nat.le_of_ble_eq_true rfl) (fun p en s m below meth c ls G hk ht hw hT hl => ?_)
  have hl : lv_has ls 4 [(0, .ref (E.1 9 0)), (1, .int a1), (2, .int a2)] := hl
  refine lv_iload_n G.1 G.2.1 dX10_operation_0 rfl (lv_at hl 1 rfl) ?_
  refine lv_if_lt (tgt := 15) G.1 G.2.1 dX10_operation_1 (by decide) (fun hc1 => ?_) (fun hc1 => ?_)
  · rw [if_pos hc1] at hf
    obtain rfl := Option.some.inj hf
    exact g_throwB hlf G hk ht hw hT hl.1 (by decide) (by decide) ⟨rfl, rfl⟩ dX10_operation_15 dX10_operation_18 dX10_operation_19 dX10_operation_22
  · rw [if_neg hc1] at hf
    refine lv_iload_n G.1 G.2.1 dX10_operation_4 rfl (lv_at hl 1 rfl) ?_
    refine lv_aload_n G.1 G.2.1 dX10_operation_5 rfl (lv_at hl 0 rfl) ?_
    obtain ⟨p1, hep1, hf⟩ := bd_some hf
    obtain ⟨hvp1, hf⟩ := ck_some hf
    refine g_getR G hw C_9 iC_9 4 4 rfl rfl fl_X10_42 hep1 dX10_operation_6 ?_
    refine g_getI G hw C_4 (iC_4 hvp1) 2 rfl fl_X10_83 dX10_operation_9 ?_
    refine lv_icmp_lt (tgt := 23) G.1 G.2.1 dX10_operation_12 (by decide) (fun hc12 => ?_) (fun hc12 => ?_)
    · rw [if_pos hc12] at hf
      refine lv_aload_n G.1 G.2.1 dX10_operation_23 rfl (lv_at hl 0 rfl) ?_
      obtain ⟨p2, hep2, hf⟩ := bd_some hf
      obtain ⟨hvp2, hf⟩ := ck_some hf
      refine g_getR G hw C_9 iC_9 4 4 rfl rfl fl_X10_42 hep2 dX10_operation_24 ?_
      refine g_getC G hw C_4 (iC_4 hvp2) 0 31 rfl (by decide) rfl fl_X10_129 dX10_operation_27 ?_
      refine lv_iload_n G.1 G.2.1 dX10_operation_30 rfl (lv_at hl 1 rfl) ?_
      obtain ⟨j3, hj3, hf⟩ := bd_some hf
      refine g_oald G hw (iC_31 hvp2) (by decide) rfl hj3 dX10_operation_31 ?_
      refine lv_astore_n (lv' := [(3, .ref (E.1 3 (200 * p2 + j3))), (0, .ref (E.1 9 0)), (1, .int a1), (2, .int a2)]) G.1 G.2.1 dX10_operation_32 rfl hl (by decide) rfl (fun ls hl => ?_)
      refine lv_iload_n G.1 G.2.1 dX10_operation_33 rfl (lv_at hl 3 rfl) ?_
      by_cases hs34_0 : a2 = 0
      · rw [if_pos hs34_0] at hf
        refine lv_tableIn (tgt := 72) G.1 G.2.1 dX10_operation_34 (by rw [hs34_0]; decide) (by rw [hs34_0]; decide) (by rw [hs34_0]; rfl) (by decide) ?_
        cases hf
      · rw [if_neg hs34_0] at hf
        by_cases hs34_1 : a2 = 1
        · rw [if_pos hs34_1] at hf
          refine lv_tableIn (tgt := 77) G.1 G.2.1 dX10_operation_34 (by rw [hs34_1]; decide) (by rw [hs34_1]; decide) (by rw [hs34_1]; rfl) (by decide) ?_
          cases hf
        · rw [if_neg hs34_1] at hf
          by_cases hs34_2 : a2 = 2
          · rw [if_pos hs34_2] at hf
            refine lv_tableIn (tgt := 82) G.1 G.2.1 dX10_operation_34 (by rw [hs34_2]; decide) (by rw [hs34_2]; decide) (by rw [hs34_2]; rfl) (by decide) ?_
            cases hf
          · rw [if_neg hs34_2] at hf
            by_cases hs34_3 : a2 = 3
            · rw [if_pos hs34_3] at hf
              refine lv_tableIn (tgt := 87) G.1 G.2.1 dX10_operation_34 (by rw [hs34_3]; decide) (by rw [hs34_3]; decide) (by rw [hs34_3]; rfl) (by decide) ?_
              cases hf
            · rw [if_neg hs34_3] at hf
              by_cases hs34_4 : a2 = 4
              · rw [if_pos hs34_4] at hf
                refine lv_tableIn (tgt := 92) G.1 G.2.1 dX10_operation_34 (by rw [hs34_4]; decide) (by rw [hs34_4]; decide) (by rw [hs34_4]; rfl) (by decide) ?_
                cases hf
              · rw [if_neg hs34_4] at hf
                by_cases hs34_5 : a2 = 5
                · rw [if_pos hs34_5] at hf
                  refine lv_tableIn (tgt := 97) G.1 G.2.1 dX10_operation_34 (by rw [hs34_5]; decide) (by rw [hs34_5]; decide) (by rw [hs34_5]; rfl) (by decide) ?_
                  cases hf
                · rw [if_neg hs34_5] at hf
                  refine lv_tableOut (tgt := 102) G.1 G.2.1 dX10_operation_34 (sw_out (x := a2) (lo := 0) (n := 6) (by decide) (by decide) (by intro k hk; match k, hk with | 0, _ => exact hs34_0 | 1, _ => exact hs34_1 | 2, _ => exact hs34_2 | 3, _ => exact hs34_3 | 4, _ => exact hs34_4 | 5, _ => exact hs34_5)) (by decide) ?_
                  obtain rfl := Option.some.inj hf
                  exact g_throwA hlf G hk ht hw hT hl.1 (by decide) (by decide) ⟨rfl, rfl⟩ dX10_operation_102 dX10_operation_105 dX10_operation_106 dX10_operation_109
    · rw [if_neg hc12] at hf
      obtain rfl := Option.some.inj hf
      exact g_throwB hlf G hk ht hw hT hl.1 (by decide) (by decide) ⟨rfl, rfl⟩ dX10_operation_15 dX10_operation_18 dX10_operation_19 dX10_operation_22

def K_get_T (n : Nat) (a1 : Int32) (g : Mem) : Option String :=
if a1 < 0 then (
some sIOB)
else (
if a1 < (8 : Int32) then (
none)
else (
some sIOB))
set_option maxHeartbeats 4000000 in
set_option maxRecDepth 100000 in
theorem t_K_get (l : Launch) (hlf : l.stackTraces = false) (D : va_G) (X : va_W) (E : gE) (n : Nat) (a1 : Int32) (g : Mem) (nm : String) (hf : K_get_T n a1 g = some nm) : gMetT l yX10_get cX10_get 2 (some .int) 6 81 D X idsC E [.ref (E.1 9 0), .int a1] g nm := by
  rw [K_get_T] at hf
  refine gt_codeT (by decide) (Nat.le_of_ble_eq_true rfl) (fun p en s m below meth c ls G hk ht hw hT hl => ?_)
  have hl : lv_has ls 2 [(0, .ref (E.1 9 0)), (1, .int a1)] := hl
  refine lv_iload_n G.1 G.2.1 dX10_get_0 rfl (lv_at hl 1 rfl) ?_
  refine lv_if_lt (tgt := 10) G.1 G.2.1 dX10_get_1 (by decide) (fun hc1 => ?_) (fun hc1 => ?_)
  · rw [if_pos hc1] at hf
    obtain rfl := Option.some.inj hf
    exact g_throwB hlf G hk ht hw hT hl.1 (by decide) (by decide) ⟨rfl, rfl⟩ dX10_get_10 dX10_get_13 dX10_get_14 dX10_get_17
  · rw [if_neg hc1] at hf
    refine lv_iload_n G.1 G.2.1 dX10_get_4 rfl (lv_at hl 1 rfl) ?_
    refine lv_bipush (v := (8 : Int32)) G.1 G.2.1 dX10_get_5 (by decide) ?_
    refine lv_icmp_lt (tgt := 18) G.1 G.2.1 dX10_get_7 (by decide) (fun hc7 => ?_) (fun hc7 => ?_)
    · rw [if_pos hc7] at hf
      cases hf
    · rw [if_neg hc7] at hf
      obtain rfl := Option.some.inj hf
      exact g_throwB hlf G hk ht hw hT hl.1 (by decide) (by decide) ⟨rfl, rfl⟩ dX10_get_10 dX10_get_13 dX10_get_14 dX10_get_17

def K_peek_T (n : Nat) (a1 : Int32) (g : Mem) : Option String :=
if a1 < 0 then (
some sIOB)
else (
if a1 < (16 : Int32) then (
none)
else (
some sIOB))
set_option maxHeartbeats 4000000 in
set_option maxRecDepth 100000 in
theorem t_K_peek (l : Launch) (hlf : l.stackTraces = false) (D : va_G) (X : va_W) (E : gE) (n : Nat) (a1 : Int32) (g : Mem) (nm : String) (hf : K_peek_T n a1 g = some nm) : gMetT l yX10_peek cX10_peek 2 (some .int) 6 81 D X idsC E [.ref (E.1 9 0), .int a1] g nm := by
  rw [K_peek_T] at hf
  refine gt_codeT (by decide) (Nat.le_of_ble_eq_true rfl) (fun p en s m below meth c ls G hk ht hw hT hl => ?_)
  have hl : lv_has ls 2 [(0, .ref (E.1 9 0)), (1, .int a1)] := hl
  refine lv_iload_n G.1 G.2.1 dX10_peek_0 rfl (lv_at hl 1 rfl) ?_
  refine lv_if_lt (tgt := 10) G.1 G.2.1 dX10_peek_1 (by decide) (fun hc1 => ?_) (fun hc1 => ?_)
  · rw [if_pos hc1] at hf
    obtain rfl := Option.some.inj hf
    exact g_throwB hlf G hk ht hw hT hl.1 (by decide) (by decide) ⟨rfl, rfl⟩ dX10_peek_10 dX10_peek_13 dX10_peek_14 dX10_peek_17
  · rw [if_neg hc1] at hf
    refine lv_iload_n G.1 G.2.1 dX10_peek_4 rfl (lv_at hl 1 rfl) ?_
    refine lv_bipush (v := (16 : Int32)) G.1 G.2.1 dX10_peek_5 (by decide) ?_
    refine lv_icmp_lt (tgt := 18) G.1 G.2.1 dX10_peek_7 (by decide) (fun hc7 => ?_) (fun hc7 => ?_)
    · rw [if_pos hc7] at hf
      cases hf
    · rw [if_neg hc7] at hf
      obtain rfl := Option.some.inj hf
      exact g_throwB hlf G hk ht hw hT hl.1 (by decide) (by decide) ⟨rfl, rfl⟩ dX10_peek_10 dX10_peek_13 dX10_peek_14 dX10_peek_17

def K_run_T (n : Nat) (a1 : Int32) (g : Mem) : Option String :=
if a1 < 0 then (
some sIAE)
else (
if a1 ≤ (5000 : Int32) then (
none)
else (
some sIAE))
set_option maxHeartbeats 4000000 in
set_option maxRecDepth 100000 in
theorem t_K_run (l : Launch) (hlf : l.stackTraces = false) (D : va_G) (X : va_W) (E : gE) (n : Nat) (a1 : Int32) (g : Mem) (nm : String) (hf : K_run_T n a1 g = some nm) : gMetT l yX10_run cX10_run 2 (some .int) 6 81 D X idsC E [.ref (E.1 9 0), .int a1] g nm := by
  rw [K_run_T] at hf
  refine gt_codeT (by decide) (Nat.le_of_ble_eq_true rfl) (fun p en s m below meth c ls G hk ht hw hT hl => ?_)
  have hl : lv_has ls 2 [(0, .ref (E.1 9 0)), (1, .int a1)] := hl
  refine lv_iload_n G.1 G.2.1 dX10_run_0 rfl (lv_at hl 1 rfl) ?_
  refine lv_if_lt (tgt := 11) G.1 G.2.1 dX10_run_1 (by decide) (fun hc1 => ?_) (fun hc1 => ?_)
  · rw [if_pos hc1] at hf
    obtain rfl := Option.some.inj hf
    exact g_throwA hlf G hk ht hw hT hl.1 (by decide) (by decide) ⟨rfl, rfl⟩ dX10_run_11 dX10_run_14 dX10_run_15 dX10_run_18
  · rw [if_neg hc1] at hf
    refine lv_iload_n G.1 G.2.1 dX10_run_4 rfl (lv_at hl 1 rfl) ?_
    refine lv_sipush (v := (5000 : Int32)) G.1 G.2.1 dX10_run_5 (by decide) ?_
    refine lv_icmp_le (tgt := 19) G.1 G.2.1 dX10_run_8 (by decide) (fun hc8 => ?_) (fun hc8 => ?_)
    · rw [if_pos hc8] at hf
      cases hf
    · rw [if_neg hc8] at hf
      obtain rfl := Option.some.inj hf
      exact g_throwA hlf G hk ht hw hT hl.1 (by decide) (by decide) ⟨rfl, rfl⟩ dX10_run_11 dX10_run_14 dX10_run_15 dX10_run_18
