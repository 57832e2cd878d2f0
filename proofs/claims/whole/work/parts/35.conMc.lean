/-! contracts (printed by program) -/
set_option maxHeartbeats 4000000 in
set_option maxRecDepth 100000 in
theorem c_Mc_begin (l : Launch) (D : va_G) (X : va_W) (E : gE) (n : Nat) (p1 : Nat) (hv_p1 : p1 < 2) (g : Mem) (g' : Mem) (hf : Mc_begin n p1 g = some g') : gMet l yX2_begin cX2_begin 2 none 0 0 D X idsC E [.ref (E.1 2 0), .ref (E.1 4 p1)] g none g' := by
  rw [Mc_begin] at hf
  refine gt_code (by decide) (Nat.le_of_ble_eq_true rfl) (fun p en s m below meth c ls G hr hk hw hl => ?_)
  have hl : lv_has ls 2 [(0, .ref (E.1 2 0)), (1, .ref (E.1 4 p1))] := hl
  refine lv_aload_n G.1 G.2.1 dX2_begin_0 rfl (lv_at hl 0 rfl) ?_
  refine lv_aload_n G.1 G.2.1 dX2_begin_1 rfl (lv_at hl 1 rfl) ?_
  obtain ⟨g1, eg1, hf⟩ := lt9_some hf
  refine g_putR G hw C_2 iC_2 3 4 rfl rfl fl_X2_21 rfl rfl rfl dX2_begin_2 (fun H locs hw => ?_)
  rw [← eg1] at hw
  refine lv_aload_n G.1 G.2.1 dX2_begin_5 rfl (lv_at hl 0 rfl) ?_
  refine lv_aload_n G.1 G.2.1 dX2_begin_6 rfl (lv_at hl 1 rfl) ?_
  refine g_getI G hw C_4 (iC_4 hv_p1) 3 rfl fl_X2_25 dX2_begin_7 ?_
  refine lv_if_le (tgt := 17) G.1 G.2.1 dX2_begin_10 (by decide) (fun hc10 => ?_) (fun hc10 => ?_)
  · rw [if_pos hc10] at hf
    refine lv_iconst (v := (-1 : Int32)) G.1 G.2.1 dX2_begin_17 (by decide) ?_
    obtain ⟨g2, eg2, hf⟩ := lt9_some hf
    refine g_putI G hw C_2 iC_2 4 rfl fl_X2_31 rfl rfl rfl dX2_begin_18 (fun H locs hw => ?_)
    rw [← eg2] at hw
    refine lv_aload_n G.1 G.2.1 dX2_begin_21 rfl (lv_at hl 0 rfl) ?_
    refine lv_lconst (v := (0 : Int64)) G.1 G.2.1 dX2_begin_22 (by decide) ?_
    obtain ⟨g3, eg3, hf⟩ := lt9_some hf
    refine g_putL G hw C_2 iC_2 5 rfl ol_2 fl_X2_34 rfl rfl rfl dX2_begin_23 (fun H locs hw => ?_)
    rw [← eg3] at hw
    exact g_vretW G hr hk hf hw dX2_begin_26
  · rw [if_neg hc10] at hf
    refine lv_iconst (v := (0 : Int32)) G.1 G.2.1 dX2_begin_13 (by decide) ?_
    refine lv_goto (tgt := 18) G.1 G.2.1 dX2_begin_14 (by decide) ?_
    obtain ⟨g4, eg4, hf⟩ := lt9_some hf
    refine g_putI G hw C_2 iC_2 4 rfl fl_X2_31 rfl rfl rfl dX2_begin_18 (fun H locs hw => ?_)
    rw [← eg4] at hw
    refine lv_aload_n G.1 G.2.1 dX2_begin_21 rfl (lv_at hl 0 rfl) ?_
    refine lv_lconst (v := (0 : Int64)) G.1 G.2.1 dX2_begin_22 (by decide) ?_
    obtain ⟨g5, eg5, hf⟩ := lt9_some hf
    refine g_putL G hw C_2 iC_2 5 rfl ol_2 fl_X2_34 rfl rfl rfl dX2_begin_23 (fun H locs hw => ?_)
    rw [← eg5] at hw
    exact g_vretW G hr hk hf hw dX2_begin_26

set_option maxHeartbeats 4000000 in
set_option maxRecDepth 100000 in
theorem c_Mc_taken (l : Launch) (D : va_G) (X : va_W) (E : gE) (n : Nat) (a1 : Int32) (g : Mem) (r : Int32) (hf : Mc_taken n a1 g = some r) : gMet l yX2_taken cX2_taken 2 (some .int) 1 20 D X idsC E [.ref (E.1 2 0), .int a1] g (some (.int r)) g := by
  rw [Mc_taken] at hf
  refine gt_code (by decide) (Nat.le_of_ble_eq_true rfl) (fun p en s m below meth c ls G hr hk hw hl => ?_)
  have hl : lv_has ls 2 [(0, .ref (E.1 2 0)), (1, .int a1)] := hl
  refine lv_iload_n G.1 G.2.1 dX2_taken_0 rfl (lv_at hl 1 rfl) ?_
  obtain ⟨z1, hcz1, hf⟩ := bd_some hf
  refine g_callS1 (As := [.int a1]) (rest := []) G hw (gA_mono hw.2.2.2.1.1)  ms_X2_96 (c_Od_isNumber l D X E n a1 g z1 hcz1) hl.1 rfl rfl (Nat.le_of_ble_eq_true rfl) (Nat.le_of_ble_eq_true rfl) (Nat.le_of_ble_eq_true rfl) ⟨Nat.le_refl _, Nat.le_refl _⟩ dX2_taken_1 (fun H locs hw => ?_)
  refine lv_if_eq (tgt := 9) G.1 G.2.1 dX2_taken_4 (by decide) (fun hc4 => ?_) (fun hc4 => ?_)
  · rw [if_pos hc4] at hf
    refine lv_iload_n G.1 G.2.1 dX2_taken_9 rfl (lv_at hl 1 rfl) ?_
    obtain ⟨z2, hcz2, hf⟩ := bd_some hf
    refine g_callS1 (As := [.int a1]) (rest := []) G hw (gA_mono hw.2.2.2.1.1)  ms_X2_102 (c_Od_isValue l D X E n a1 g z2 hcz2) hl.1 rfl rfl (Nat.le_of_ble_eq_true rfl) (Nat.le_of_ble_eq_true rfl) (Nat.le_of_ble_eq_true rfl) ⟨Nat.le_refl _, Nat.le_refl _⟩ dX2_taken_10 (fun H locs hw => ?_)
    refine lv_if_eq (tgt := 28) G.1 G.2.1 dX2_taken_13 (by decide) (fun hc13 => ?_) (fun hc13 => ?_)
    · rw [if_pos hc13] at hf
      refine lv_aload_n G.1 G.2.1 dX2_taken_28 rfl (lv_at hl 0 rfl) ?_
      refine g_getC G hw C_2 iC_2 0 28 rfl (by decide) rfl fl_X2_9 dX2_taken_29 ?_
      refine lv_iload_n G.1 G.2.1 dX2_taken_32 rfl (lv_at hl 1 rfl) ?_
      obtain ⟨z3, hcz3, hf⟩ := bd_some hf
      refine g_callS1 (As := [.int a1]) (rest := [.ref (E.1 28 0)]) G hw (gA_mono hw.2.2.2.1.1)  ms_X2_108 (c_Od_variableOf l D X E n a1 g z3 hcz3) hl.1 rfl rfl (Nat.le_of_ble_eq_true rfl) (Nat.le_of_ble_eq_true rfl) (Nat.le_of_ble_eq_true rfl) ⟨Nat.le_refl _, Nat.le_refl _⟩ dX2_taken_33 (fun H locs hw => ?_)
      obtain ⟨j4, hj4, hf⟩ := bd_some hf
      refine g_iald G hw iC_28 (by decide) rfl hj4 dX2_taken_36 ?_
      exact g_iretR G hr hk hf hw dX2_taken_37
    · rw [if_neg hc13] at hf
      refine lv_aload_n G.1 G.2.1 dX2_taken_16 rfl (lv_at hl 0 rfl) ?_
      refine g_getC G hw C_2 iC_2 2 30 rfl (by decide) rfl fl_X2_18 dX2_taken_17 ?_
      refine lv_iload_n G.1 G.2.1 dX2_taken_20 rfl (lv_at hl 1 rfl) ?_
      obtain ⟨z5, hcz5, hf⟩ := bd_some hf
      refine g_callS1 (As := [.int a1]) (rest := [.ref (E.1 30 0)]) G hw (gA_mono hw.2.2.2.1.1)  ms_X2_105 (c_Od_operationOf l D X E n a1 g z5 hcz5) hl.1 rfl rfl (Nat.le_of_ble_eq_true rfl) (Nat.le_of_ble_eq_true rfl) (Nat.le_of_ble_eq_true rfl) ⟨Nat.le_refl _, Nat.le_refl _⟩ dX2_taken_21 (fun H locs hw => ?_)
      obtain ⟨j6, hj6, hf⟩ := bd_some hf
      refine g_iald G hw iC_30 (by decide) rfl hj6 dX2_taken_24 ?_
      refine lv_goto (tgt := 37) G.1 G.2.1 dX2_taken_25 (by decide) ?_
      exact g_iretR G hr hk hf hw dX2_taken_37
  · rw [if_neg hc4] at hf
    refine lv_iload_n G.1 G.2.1 dX2_taken_7 rfl (lv_at hl 1 rfl) ?_
    exact g_iretR G hr hk hf hw dX2_taken_8

set_option maxHeartbeats 4000000 in
set_option maxRecDepth 100000 in
theorem c_Mc_outcome (l : Launch) (D : va_G) (X : va_W) (E : gE) (n : Nat) (o1 : Nat) (hv_o1 : o1 < 400) (g : Mem) (r : Int32) (g' : Mem) (hf : Mc_outcome n o1 g = some (r, g')) : gMet l yX2_outcome cX2_outcome 4 (some .int) 2 41 D X idsC E [.ref (E.1 2 0), .ref (E.1 3 o1)] g (some (.int r)) g' := by
  rw [Mc_outcome] at hf
  refine gt_code (by decide) (Nat.le_of_ble_eq_true rfl) (fun p en s m below meth c ls G hr hk hw hl => ?_)
  have hl : lv_has ls 4 [(0, .ref (E.1 2 0)), (1, .ref (E.1 3 o1))] := hl
  refine lv_aload_n G.1 G.2.1 dX2_outcome_0 rfl (lv_at hl 0 rfl) ?_
  refine lv_aload_n G.1 G.2.1 dX2_outcome_1 rfl (lv_at hl 1 rfl) ?_
  refine g_getI G hw C_3 (iC_3 hv_o1) 3 rfl fl_X2_87 dX2_outcome_2 ?_
  obtain ⟨z1, hcz1, hf⟩ := bd_some hf
  refine g_callV1 (As := [.int (gI g 3 o1 3)]) (rest := []) G hw (gA_mono hw.2.2.2.1.1) C_2 iC_2 mv_X2_77 (c_Mc_taken l D X E n (gI g 3 o1 3) g z1 hcz1) hl.1 rfl rfl (Nat.le_of_ble_eq_true rfl) (Nat.le_of_ble_eq_true rfl) (Nat.le_of_ble_eq_true rfl) ⟨Nat.le_refl _, Nat.le_refl _⟩ dX2_outcome_5 (fun H locs hw => ?_)
  refine lv_istore_n (lv' := [(2, .int z1), (0, .ref (E.1 2 0)), (1, .ref (E.1 3 o1))]) G.1 G.2.1 dX2_outcome_8 rfl hl (by decide) rfl (fun ls hl => ?_)
  refine lv_aload_n G.1 G.2.1 dX2_outcome_9 rfl (lv_at hl 1 rfl) ?_
  refine lv_aload_n G.1 G.2.1 dX2_outcome_10 rfl (lv_at hl 2 rfl) ?_
  refine g_getI G hw C_3 (iC_3 hv_o1) 4 rfl fl_X2_90 dX2_outcome_11 ?_
  obtain ⟨z2, hcz2, hf⟩ := bd_some hf
  refine g_callV1 (As := [.int (gI g 3 o1 4)]) (rest := []) G hw (gA_mono hw.2.2.2.1.1) C_2 iC_2 mv_X2_77 (c_Mc_taken l D X E n (gI g 3 o1 4) g z2 hcz2) hl.1 rfl rfl (Nat.le_of_ble_eq_true rfl) (Nat.le_of_ble_eq_true rfl) (Nat.le_of_ble_eq_true rfl) ⟨Nat.le_refl _, Nat.le_refl _⟩ dX2_outcome_14 (fun H locs hw => ?_)
  refine lv_istore_n (lv' := [(3, .int z2), (2, .int z1), (0, .ref (E.1 2 0)), (1, .ref (E.1 3 o1))]) G.1 G.2.1 dX2_outcome_17 rfl hl (by decide) rfl (fun ls hl => ?_)
  refine lv_aload_n G.1 G.2.1 dX2_outcome_18 rfl (lv_at hl 3 rfl) ?_
  refine g_getI G hw C_3 (iC_3 hv_o1) 1 rfl fl_X2_93 dX2_outcome_19 ?_
  by_cases hs22_1 : gI g 3 o1 1 = 1
  · rw [if_pos hs22_1] at hf
    refine lv_lookup (tgt := 122) G.1 G.2.1 dX2_outcome_22 (by decide) (by rw [hs22_1]) (by decide) ?_
    refine lv_aload_n G.1 G.2.1 dX2_outcome_122 rfl (lv_at hl 2 rfl) ?_
    refine g_getC G hw C_2 iC_2 1 29 rfl (by decide) rfl fl_X2_15 dX2_outcome_123 ?_
    refine lv_iload_n G.1 G.2.1 dX2_outcome_126 rfl (lv_at hl 1 rfl) ?_
    refine lv_bipush (v := (15 : Int32)) G.1 G.2.1 dX2_outcome_127 (by decide) ?_
    refine lv_iand G.1 G.2.1 dX2_outcome_129 ?_
    obtain ⟨j3, hj3, hf⟩ := bd_some hf
    refine g_iald G hw iC_29 (by decide) rfl hj3 dX2_outcome_130 ?_
    exact g_iretW G hr hk hf hw dX2_outcome_131
  · rw [if_neg hs22_1] at hf
    by_cases hs22_2 : gI g 3 o1 1 = 2
    · rw [if_pos hs22_2] at hf
      refine lv_lookup (tgt := 132) G.1 G.2.1 dX2_outcome_22 (by decide) (by rw [hs22_2]) (by decide) ?_
      refine lv_aload_n G.1 G.2.1 dX2_outcome_132 rfl (lv_at hl 2 rfl) ?_
      refine g_getC G hw C_2 iC_2 1 29 rfl (by decide) rfl fl_X2_15 dX2_outcome_133 ?_
      refine lv_iload_n G.1 G.2.1 dX2_outcome_136 rfl (lv_at hl 1 rfl) ?_
      refine lv_bipush (v := (15 : Int32)) G.1 G.2.1 dX2_outcome_137 (by decide) ?_
      refine lv_iand G.1 G.2.1 dX2_outcome_139 ?_
      refine lv_iload_n G.1 G.2.1 dX2_outcome_140 rfl (lv_at hl 0 rfl) ?_
      obtain ⟨j4, hj4, hf⟩ := bd_some hf
      obtain ⟨g5, eg5, hf⟩ := lt9_some hf
      refine g_iast G hw iC_29 (by decide) rfl hj4 dX2_outcome_141 (fun H locs hw => ?_)
      rw [← eg5] at hw
      refine lv_iload_n G.1 G.2.1 dX2_outcome_142 rfl (lv_at hl 0 rfl) ?_
      exact g_iretW G hr hk hf hw dX2_outcome_143
    · rw [if_neg hs22_2] at hf
      by_cases hs22_42 : gI g 3 o1 1 = 42
      · rw [if_pos hs22_42] at hf
        refine lv_lookup (tgt := 96) G.1 G.2.1 dX2_outcome_22 (by decide) (by rw [hs22_42]) (by decide) ?_
        refine lv_iload_n G.1 G.2.1 dX2_outcome_96 rfl (lv_at hl 1 rfl) ?_
        refine lv_iload_n G.1 G.2.1 dX2_outcome_97 rfl (lv_at hl 0 rfl) ?_
        refine lv_imul G.1 G.2.1 dX2_outcome_98 ?_
        exact g_iretW G hr hk hf hw dX2_outcome_99
      · rw [if_neg hs22_42] at hf
        by_cases hs22_43 : gI g 3 o1 1 = 43
        · rw [if_pos hs22_43] at hf
          refine lv_lookup (tgt := 88) G.1 G.2.1 dX2_outcome_22 (by decide) (by rw [hs22_43]) (by decide) ?_
          refine lv_iload_n G.1 G.2.1 dX2_outcome_88 rfl (lv_at hl 1 rfl) ?_
          refine lv_iload_n G.1 G.2.1 dX2_outcome_89 rfl (lv_at hl 0 rfl) ?_
          refine lv_iadd G.1 G.2.1 dX2_outcome_90 ?_
          exact g_iretW G hr hk hf hw dX2_outcome_91
        · rw [if_neg hs22_43] at hf
          by_cases hs22_45 : gI g 3 o1 1 = 45
          · rw [if_pos hs22_45] at hf
            refine lv_lookup (tgt := 92) G.1 G.2.1 dX2_outcome_22 (by decide) (by rw [hs22_45]) (by decide) ?_
            refine lv_iload_n G.1 G.2.1 dX2_outcome_92 rfl (lv_at hl 1 rfl) ?_
            refine lv_iload_n G.1 G.2.1 dX2_outcome_93 rfl (lv_at hl 0 rfl) ?_
            refine lv_isub G.1 G.2.1 dX2_outcome_94 ?_
            exact g_iretW G hr hk hf hw dX2_outcome_95
          · rw [if_neg hs22_45] at hf
            by_cases hs22_60 : gI g 3 o1 1 = 60
            · rw [if_pos hs22_60] at hf
              refine lv_lookup (tgt := 100) G.1 G.2.1 dX2_outcome_22 (by decide) (by rw [hs22_60]) (by decide) ?_
              refine lv_iload_n G.1 G.2.1 dX2_outcome_100 rfl (lv_at hl 1 rfl) ?_
              refine lv_iload_n G.1 G.2.1 dX2_outcome_101 rfl (lv_at hl 0 rfl) ?_
              refine lv_icmp_ge (tgt := 109) G.1 G.2.1 dX2_outcome_102 (by decide) (fun hc102 => ?_) (fun hc102 => ?_)
              · rw [if_pos hc102] at hf
                refine lv_iconst (v := (0 : Int32)) G.1 G.2.1 dX2_outcome_109 (by decide) ?_
                exact g_iretW G hr hk hf hw dX2_outcome_110
              · rw [if_neg hc102] at hf
                refine lv_iconst (v := (1 : Int32)) G.1 G.2.1 dX2_outcome_105 (by decide) ?_
                refine lv_goto (tgt := 110) G.1 G.2.1 dX2_outcome_106 (by decide) ?_
                exact g_iretW G hr hk hf hw dX2_outcome_110
            · rw [if_neg hs22_60] at hf
              by_cases hs22_61 : gI g 3 o1 1 = 61
              · rw [if_pos hs22_61] at hf
                refine lv_lookup (tgt := 111) G.1 G.2.1 dX2_outcome_22 (by decide) (by rw [hs22_61]) (by decide) ?_
                refine lv_iload_n G.1 G.2.1 dX2_outcome_111 rfl (lv_at hl 1 rfl) ?_
                refine lv_iload_n G.1 G.2.1 dX2_outcome_112 rfl (lv_at hl 0 rfl) ?_
                refine lv_icmp_ne (tgt := 120) G.1 G.2.1 dX2_outcome_113 (by decide) (fun hc113 => ?_) (fun hc113 => ?_)
                · rw [if_neg hc113] at hf
                  refine lv_iconst (v := (0 : Int32)) G.1 G.2.1 dX2_outcome_120 (by decide) ?_
                  exact g_iretW G hr hk hf hw dX2_outcome_121
                · rw [if_pos hc113] at hf
                  refine lv_iconst (v := (1 : Int32)) G.1 G.2.1 dX2_outcome_116 (by decide) ?_
                  refine lv_goto (tgt := 121) G.1 G.2.1 dX2_outcome_117 (by decide) ?_
                  exact g_iretW G hr hk hf hw dX2_outcome_121
              · rw [if_neg hs22_61] at hf
                refine lv_lookup (tgt := 144) G.1 G.2.1 dX2_outcome_22 (by decide) (off := 122) (by rw [lv_osw hs22_1 (by decide)]; rw [lv_osw hs22_2 (by decide)]; rw [lv_osw hs22_42 (by decide)]; rw [lv_osw hs22_43 (by decide)]; rw [lv_osw hs22_45 (by decide)]; rw [lv_osw hs22_60 (by decide)]; rw [lv_osw hs22_61 (by decide)]; rfl) (by decide) ?_
                refine lv_iload_n G.1 G.2.1 dX2_outcome_144 rfl (lv_at hl 1 rfl) ?_
                exact g_iretW G hr hk hf hw dX2_outcome_145

set_option maxHeartbeats 4000000 in
set_option maxRecDepth 100000 in
theorem c_Mc_perform (l : Launch) (D : va_G) (X : va_W) (E : gE) (n : Nat) (b1 : Nat) (hv_b1 : b1 < 350) (g : Mem) (g' : Mem) (hf : Mc_perform n b1 g = some g') : gMet l yX2_perform cX2_perform 4 none 3 64 D X idsC E [.ref (E.1 2 0), .ref (E.1 0 b1)] g none g' := by
  rw [Mc_perform] at hf
  refine gt_code (by decide) (Nat.le_of_ble_eq_true rfl) (fun p en s m below meth c ls G hr hk hw hl => ?_)
  have hl : lv_has ls 4 [(0, .ref (E.1 2 0)), (1, .ref (E.1 0 b1))] := hl
  refine lv_aload_n G.1 G.2.1 dX2_perform_0 rfl (lv_at hl 1 rfl) ?_
  refine g_getI G hw C_0 (iC_0 hv_b1) 0 rfl fl_X2_51 dX2_perform_1 ?_
  refine lv_istore_n (lv' := [(2, .int (gI g 0 b1 0)), (0, .ref (E.1 2 0)), (1, .ref (E.1 0 b1))]) G.1 G.2.1 dX2_perform_4 rfl hl (by decide) rfl (fun ls hl => ?_)
  have hL5 : ∀ (k1 : Nat) (x2 : Int32) (g3 : Mem) (res1 : Mem) (H : Heap) (locs : List Loc) (ls : Array Slot), Mc_perform_L5 n b1 k1 x2 g3 = some res1 → GW D X idsC E (gA X idsC E s.heap.size) s g3 H locs → lv_has ls 4 [(0, .ref (E.1 2 0)), (1, .ref (E.1 0 b1)), (2, .int x2)] → (∀ (H : Heap) (locs : List Loc) (ls : Array Slot), GW D X idsC E (gA X idsC E s.heap.size) s res1 H locs → lv_has ls 4 [(0, .ref (E.1 2 0)), (1, .ref (E.1 0 b1))] → W p l en { frames := 3, cells := 0, slots := 0, locals := 64 } s m [.ref (E.1 2 0), .ref (E.1 0 b1)].toArray below meth c H locs 0 0 (MQ below (gQ none (GP D X idsC E g') (gA X idsC E s.heap.size)) [.ref (E.1 2 0), .ref (E.1 0 b1)].toArray s 0 0 (gA X idsC E s.heap.size)) (F0 m 68 ls [])) → W p l en { frames := 3, cells := 0, slots := 0, locals := 64 } s m [.ref (E.1 2 0), .ref (E.1 0 b1)].toArray below meth c H locs 0 0 (MQ below (gQ none (GP D X idsC E g') (gA X idsC E s.heap.size)) [.ref (E.1 2 0), .ref (E.1 0 b1)].toArray s 0 0 (gA X idsC E s.heap.size)) (F0 m 5 ls []) := by
    intro k1
    induction k1 with
    | zero => intro x2 g3 res1 H locs ls hf; rw [Mc_perform_L5] at hf; cases hf
    | succ k1 ih1 =>
      intro x2 g3 res1 H locs ls hf hw hl hk1_0
      rw [Mc_perform_L5] at hf
      refine lv_iload_n G.1 G.2.1 dX2_perform_5 rfl (lv_at hl 2 rfl) ?_
      refine lv_aload_n G.1 G.2.1 dX2_perform_6 rfl (lv_at hl 1 rfl) ?_
      refine g_getI G hw C_0 (iC_0 hv_b1) 0 rfl fl_X2_51 dX2_perform_7 ?_
      refine lv_aload_n G.1 G.2.1 dX2_perform_10 rfl (lv_at hl 1 rfl) ?_
      refine g_getI G hw C_0 (iC_0 hv_b1) 1 rfl fl_X2_54 dX2_perform_11 ?_
      refine lv_iadd G.1 G.2.1 dX2_perform_14 ?_
      refine lv_icmp_ge (tgt := 68) G.1 G.2.1 dX2_perform_15 (by decide) (fun hc15 => ?_) (fun hc15 => ?_)
      · rw [if_pos hc15] at hf
        obtain rfl := Option.some.inj hf
        exact hk1_0 _ _ ls hw (lv_sub hl [0, 1] rfl)
      · rw [if_neg hc15] at hf
        refine lv_aload_n G.1 G.2.1 dX2_perform_18 rfl (lv_at hl 0 rfl) ?_
        obtain ⟨p4, hep4, hf⟩ := bd_some hf
        obtain ⟨hvp4, hf⟩ := ck_some hf
        refine g_getR G hw C_2 iC_2 3 4 rfl rfl fl_X2_21 hep4 dX2_perform_19 ?_
        refine g_getC G hw C_4 (iC_4 hvp4) 0 31 rfl (by decide) rfl fl_X2_57 dX2_perform_22 ?_
        refine lv_iload_n G.1 G.2.1 dX2_perform_25 rfl (lv_at hl 2 rfl) ?_
        obtain ⟨j5, hj5, hf⟩ := bd_some hf
        refine g_oald G hw (iC_31 hvp4) (by decide) rfl hj5 dX2_perform_26 ?_
        refine lv_astore_n (lv' := [(3, .ref (E.1 3 (200 * p4 + j5))), (0, .ref (E.1 2 0)), (1, .ref (E.1 0 b1)), (2, .int x2)]) G.1 G.2.1 dX2_perform_27 rfl hl (by decide) rfl (fun ls hl => ?_)
        refine lv_aload_n G.1 G.2.1 dX2_perform_28 rfl (lv_at hl 1 rfl) ?_
        refine g_getC G hw C_2 iC_2 2 30 rfl (by decide) rfl fl_X2_18 dX2_perform_29 ?_
        refine lv_iload_n G.1 G.2.1 dX2_perform_32 rfl (lv_at hl 3 rfl) ?_
        refine lv_aload_n G.1 G.2.1 dX2_perform_33 rfl (lv_at hl 1 rfl) ?_
        refine lv_aload_n G.1 G.2.1 dX2_perform_34 rfl (lv_at hl 0 rfl) ?_
        obtain ⟨z6, hcz6, hf⟩ := bd_some hf
        refine g_callV1 (As := [.ref (E.1 3 (200 * p4 + j5))]) (rest := [.int x2, .ref (E.1 30 0)]) G hw (gA_mono hw.2.2.2.1.1) C_2 iC_2 mv_X2_61 (c_Mc_outcome l D X E n (200 * p4 + j5) (v_3 hvp4 hj5) g3 z6.1 z6.2 hcz6) hl.1 rfl rfl (Nat.le_of_ble_eq_true rfl) (Nat.le_of_ble_eq_true rfl) (Nat.le_of_ble_eq_true rfl) ⟨Nat.le_refl _, Nat.le_refl _⟩ dX2_perform_35 (fun H locs hw => ?_)
        obtain ⟨j7, hj7, hf⟩ := bd_some hf
        obtain ⟨g8, eg8, hf⟩ := lt9_some hf
        refine g_iast G hw iC_30 (by decide) rfl hj7 dX2_perform_38 (fun H locs hw => ?_)
        rw [← eg8] at hw
        refine lv_aload_n G.1 G.2.1 dX2_perform_39 rfl (lv_at hl 0 rfl) ?_
        refine g_getI G hw C_3 (iC_3 (v_3 hvp4 hj5)) 5 rfl fl_X2_65 dX2_perform_40 ?_
        refine lv_iconst (v := (-1 : Int32)) G.1 G.2.1 dX2_perform_43 (by decide) ?_
        refine lv_icmp_eq (tgt := 62) G.1 G.2.1 dX2_perform_44 (by decide) (fun hc44 => ?_) (fun hc44 => ?_)
        · rw [if_pos hc44] at hf
          refine lv_iinc (v := x2 + 1) (lv' := [(2, .int (x2 + 1)), (3, .ref (E.1 3 (200 * p4 + j5))), (0, .ref (E.1 2 0)), (1, .ref (E.1 0 b1))]) G.1 G.2.1 dX2_perform_62 hl (k := 3) rfl rfl (by decide) rfl (fun ls hl => ?_)
          refine lv_goto (tgt := 5) G.1 G.2.1 dX2_perform_65 (by decide) ?_
          exact ih1 (x2 + 1) g8 _ _ _ ls hf hw (lv_sub hl [2, 3, 0] rfl) hk1_0
        · rw [if_neg hc44] at hf
          refine lv_aload_n G.1 G.2.1 dX2_perform_47 rfl (lv_at hl 1 rfl) ?_
          refine g_getC G hw C_2 iC_2 0 28 rfl (by decide) rfl fl_X2_9 dX2_perform_48 ?_
          refine lv_aload_n G.1 G.2.1 dX2_perform_51 rfl (lv_at hl 0 rfl) ?_
          refine g_getI G hw C_3 (iC_3 (v_3 hvp4 hj5)) 5 rfl fl_X2_65 dX2_perform_52 ?_
          refine lv_aload_n G.1 G.2.1 dX2_perform_55 rfl (lv_at hl 1 rfl) ?_
          refine g_getC G hw C_2 iC_2 2 30 rfl (by decide) rfl fl_X2_18 dX2_perform_56 ?_
          refine lv_iload_n G.1 G.2.1 dX2_perform_59 rfl (lv_at hl 3 rfl) ?_
          obtain ⟨j9, hj9, hf⟩ := bd_some hf
          refine g_iald G hw iC_30 (by decide) rfl hj9 dX2_perform_60 ?_
          obtain ⟨j10, hj10, hf⟩ := bd_some hf
          obtain ⟨g11, eg11, hf⟩ := lt9_some hf
          refine g_iast G hw iC_28 (by decide) rfl hj10 dX2_perform_61 (fun H locs hw => ?_)
          rw [← eg11] at hw
          refine lv_iinc (v := x2 + 1) (lv' := [(2, .int (x2 + 1)), (3, .ref (E.1 3 (200 * p4 + j5))), (0, .ref (E.1 2 0)), (1, .ref (E.1 0 b1))]) G.1 G.2.1 dX2_perform_62 hl (k := 3) rfl rfl (by decide) rfl (fun ls hl => ?_)
          refine lv_goto (tgt := 5) G.1 G.2.1 dX2_perform_65 (by decide) ?_
          exact ih1 (x2 + 1) g11 _ _ _ ls hf hw (lv_sub hl [2, 3, 0] rfl) hk1_0
  obtain ⟨r12, hr12, hf⟩ := bd_some hf
  refine hL5 n (gI g 0 b1 0) g r12 _ _ ls hr12 hw (lv_sub hl [1, 2, 0] rfl) ?_
  intro H locs ls hw hl
  refine lv_aload_n G.1 G.2.1 dX2_perform_68 rfl (lv_at hl 1 rfl) ?_
  refine g_getI G hw C_0 (iC_0 hv_b1) 2 rfl fl_X2_70 dX2_perform_69 ?_
  obtain ⟨j14, ej14, hf⟩ := lt9_some hf
  have hj14 : ∀ (v16 : Int32) (H : Heap) (locs : List Loc) (ls : Array Slot), j14 v16 = some g' → GW D X idsC E (gA X idsC E s.heap.size) s r12 H locs → lv_has ls 4 [(0, .ref (E.1 2 0)), (1, .ref (E.1 0 b1))] → W p l en { frames := 3, cells := 0, slots := 0, locals := 64 } s m [.ref (E.1 2 0), .ref (E.1 0 b1)].toArray below meth c H locs 0 0 (MQ below (gQ none (GP D X idsC E g') (gA X idsC E s.heap.size)) [.ref (E.1 2 0), .ref (E.1 0 b1)].toArray s 0 0 (gA X idsC E s.heap.size)) (F0 m 91 ls [.int v16]) := by
    intro v16 H locs ls hf hw hl
    rw [ej14] at hf
    dsimp only at hf
    refine lv_istore_n (lv' := [(2, .int v16), (0, .ref (E.1 2 0)), (1, .ref (E.1 0 b1))]) G.1 G.2.1 dX2_perform_91 rfl hl (by decide) rfl (fun ls hl => ?_)
    refine lv_aload_n G.1 G.2.1 dX2_perform_92 rfl (lv_at hl 1 rfl) ?_
    refine lv_iload_n G.1 G.2.1 dX2_perform_93 rfl (lv_at hl 0 rfl) ?_
    refine lv_if_eq (tgt := 104) G.1 G.2.1 dX2_perform_94 (by decide) (fun hc94 => ?_) (fun hc94 => ?_)
    · rw [if_pos hc94] at hf
      refine lv_aload_n G.1 G.2.1 dX2_perform_104 rfl (lv_at hl 2 rfl) ?_
      refine g_getI G hw C_0 (iC_0 hv_b1) 5 rfl fl_X2_84 dX2_perform_105 ?_
      obtain ⟨g17, eg17, hf⟩ := lt9_some hf
      refine g_putI G hw C_2 iC_2 4 rfl fl_X2_31 rfl rfl rfl dX2_perform_108 (fun H locs hw => ?_)
      rw [← eg17] at hw
      exact g_vretW G hr hk hf hw dX2_perform_111
    · rw [if_neg hc94] at hf
      refine lv_aload_n G.1 G.2.1 dX2_perform_97 rfl (lv_at hl 2 rfl) ?_
      refine g_getI G hw C_0 (iC_0 hv_b1) 4 rfl fl_X2_81 dX2_perform_98 ?_
      refine lv_goto (tgt := 108) G.1 G.2.1 dX2_perform_101 (by decide) ?_
      obtain ⟨g18, eg18, hf⟩ := lt9_some hf
      refine g_putI G hw C_2 iC_2 4 rfl fl_X2_31 rfl rfl rfl dX2_perform_108 (fun H locs hw => ?_)
      rw [← eg18] at hw
      exact g_vretW G hr hk hf hw dX2_perform_111
  obtain ⟨j13, ej13, hf⟩ := lt9_some hf
  have hj13 : ∀ (_u : Unit) (H : Heap) (locs : List Loc) (ls : Array Slot), j13 _u = some g' → GW D X idsC E (gA X idsC E s.heap.size) s r12 H locs → lv_has ls 4 [(0, .ref (E.1 2 0)), (1, .ref (E.1 0 b1))] → W p l en { frames := 3, cells := 0, slots := 0, locals := 64 } s m [.ref (E.1 2 0), .ref (E.1 0 b1)].toArray below meth c H locs 0 0 (MQ below (gQ none (GP D X idsC E g') (gA X idsC E s.heap.size)) [.ref (E.1 2 0), .ref (E.1 0 b1)].toArray s 0 0 (gA X idsC E s.heap.size)) (F0 m 86 ls []) := by
    intro _u H locs ls hf hw hl
    rw [ej13] at hf
    dsimp only at hf
    refine lv_iconst (v := (1 : Int32)) G.1 G.2.1 dX2_perform_86 (by decide) ?_
    refine lv_goto (tgt := 91) G.1 G.2.1 dX2_perform_87 (by decide) ?_
    exact hj14 (1 : Int32) _ _ ls hf hw (lv_sub hl [0, 1] rfl)
  refine lv_if_eq (tgt := 86) G.1 G.2.1 dX2_perform_72 (by decide) (fun hc72 => ?_) (fun hc72 => ?_)
  · rw [if_pos hc72] at hf
    exact hj13 () _ _ ls hf hw (lv_sub hl [0, 1] rfl)
  · rw [if_neg hc72] at hf
    refine lv_aload_n G.1 G.2.1 dX2_perform_75 rfl (lv_at hl 0 rfl) ?_
    refine lv_aload_n G.1 G.2.1 dX2_perform_76 rfl (lv_at hl 1 rfl) ?_
    refine g_getI G hw C_0 (iC_0 hv_b1) 3 rfl fl_X2_74 dX2_perform_77 ?_
    obtain ⟨z15, hcz15, hf⟩ := bd_some hf
    refine g_callV1 (As := [.int (gI r12 0 b1 3)]) (rest := []) G hw (gA_mono hw.2.2.2.1.1) C_2 iC_2 mv_X2_77 (c_Mc_taken l D X E n (gI r12 0 b1 3) r12 z15 hcz15) hl.1 rfl rfl (Nat.le_of_ble_eq_true rfl) (Nat.le_of_ble_eq_true rfl) (Nat.le_of_ble_eq_true rfl) ⟨Nat.le_refl _, Nat.le_refl _⟩ dX2_perform_80 (fun H locs hw => ?_)
    refine lv_if_eq (tgt := 90) G.1 G.2.1 dX2_perform_83 (by decide) (fun hc83 => ?_) (fun hc83 => ?_)
    · rw [if_pos hc83] at hf
      refine lv_iconst (v := (0 : Int32)) G.1 G.2.1 dX2_perform_90 (by decide) ?_
      exact hj14 (0 : Int32) _ _ ls hf hw (lv_sub hl [0, 1] rfl)
    · rw [if_neg hc83] at hf
      exact hj13 () _ _ ls hf hw (lv_sub hl [0, 1] rfl)

set_option maxHeartbeats 4000000 in
set_option maxRecDepth 100000 in
theorem c_Mc_advance (l : Launch) (D : va_G) (X : va_W) (E : gE) (n : Nat) (a1 : Int32) (g : Mem) (r : Int32) (g' : Mem) (hf : Mc_advance n a1 g = some (r, g')) : gMet l yX2_advance cX2_advance 5 (some .int) 4 87 D X idsC E [.ref (E.1 2 0), .int a1] g (some (.int r)) g' := by
  rw [Mc_advance] at hf
  refine gt_code (by decide) (Nat.le_of_ble_eq_true rfl) (fun p en s m below meth c ls G hr hk hw hl => ?_)
  have hl : lv_has ls 5 [(0, .ref (E.1 2 0)), (1, .int a1)] := hl
  refine lv_iconst (v := (0 : Int32)) G.1 G.2.1 dX2_advance_0 (by decide) ?_
  refine lv_istore_n (lv' := [(2, .int (0 : Int32)), (0, .ref (E.1 2 0)), (1, .int a1)]) G.1 G.2.1 dX2_advance_1 rfl hl (by decide) rfl (fun ls hl => ?_)
  refine lv_iconst (v := (0 : Int32)) G.1 G.2.1 dX2_advance_2 (by decide) ?_
  refine lv_istore_n (lv' := [(3, .int (0 : Int32)), (2, .int (0 : Int32)), (0, .ref (E.1 2 0)), (1, .int a1)]) G.1 G.2.1 dX2_advance_3 rfl hl (by decide) rfl (fun ls hl => ?_)
  have hL4 : ∀ (k1 : Nat) (x2 : Int32) (x3 : Int32) (g4 : Mem) (res1 : Int32 × Mem) (H : Heap) (locs : List Loc) (ls : Array Slot), Mc_advance_L4 n a1 k1 x2 x3 g4 = some res1 → GW D X idsC E (gA X idsC E s.heap.size) s g4 H locs → lv_has ls 5 [(0, .ref (E.1 2 0)), (1, .int a1), (2, .int x2), (3, .int x3)] → (∀ (H : Heap) (locs : List Loc) (ls : Array Slot), GW D X idsC E (gA X idsC E s.heap.size) s res1.2 H locs → lv_has ls 5 [(0, .ref (E.1 2 0)), (2, .int res1.1)] → W p l en { frames := 4, cells := 0, slots := 0, locals := 87 } s m [.ref (E.1 2 0), .int a1].toArray below meth c H locs 0 0 (MQ below (gQ (some (.int r)) (GP D X idsC E g') (gA X idsC E s.heap.size)) [.ref (E.1 2 0), .int a1].toArray s 0 0 (gA X idsC E s.heap.size)) (F0 m 56 ls [])) → W p l en { frames := 4, cells := 0, slots := 0, locals := 87 } s m [.ref (E.1 2 0), .int a1].toArray below meth c H locs 0 0 (MQ below (gQ (some (.int r)) (GP D X idsC E g') (gA X idsC E s.heap.size)) [.ref (E.1 2 0), .int a1].toArray s 0 0 (gA X idsC E s.heap.size)) (F0 m 4 ls []) := by
    intro k1
    induction k1 with
    | zero => intro x2 x3 g4 res1 H locs ls hf; rw [Mc_advance_L4] at hf; cases hf
    | succ k1 ih1 =>
      intro x2 x3 g4 res1 H locs ls hf hw hl hk1_0
      rw [Mc_advance_L4] at hf
      refine lv_iload_n G.1 G.2.1 dX2_advance_4 rfl (lv_at hl 3 rfl) ?_
      refine lv_iload_n G.1 G.2.1 dX2_advance_5 rfl (lv_at hl 1 rfl) ?_
      refine lv_icmp_ge (tgt := 56) G.1 G.2.1 dX2_advance_6 (by decide) (fun hc6 => ?_) (fun hc6 => ?_)
      · rw [if_pos hc6] at hf
        obtain rfl := Option.some.inj hf
        exact hk1_0 _ _ ls hw (lv_sub hl [0, 2] rfl)
      · rw [if_neg hc6] at hf
        refine lv_iload_n G.1 G.2.1 dX2_advance_9 rfl (lv_at hl 2 rfl) ?_
        refine lv_iload_n G.1 G.2.1 dX2_advance_10 rfl (lv_at hl 1 rfl) ?_
        refine lv_icmp_ge (tgt := 56) G.1 G.2.1 dX2_advance_11 (by decide) (fun hc11 => ?_) (fun hc11 => ?_)
        · rw [if_pos hc11] at hf
          obtain rfl := Option.some.inj hf
          exact hk1_0 _ _ ls hw (lv_sub hl [0, 2] rfl)
        · rw [if_neg hc11] at hf
          refine lv_aload_n G.1 G.2.1 dX2_advance_14 rfl (lv_at hl 0 rfl) ?_
          refine g_getI G hw C_2 iC_2 4 rfl fl_X2_31 dX2_advance_15 ?_
          refine lv_iconst (v := (-1 : Int32)) G.1 G.2.1 dX2_advance_18 (by decide) ?_
          refine lv_icmp_eq (tgt := 56) G.1 G.2.1 dX2_advance_19 (by decide) (fun hc19 => ?_) (fun hc19 => ?_)
          · rw [if_pos hc19] at hf
            obtain rfl := Option.some.inj hf
            exact hk1_0 _ _ ls hw (lv_sub hl [0, 2] rfl)
          · rw [if_neg hc19] at hf
            refine lv_aload_n G.1 G.2.1 dX2_advance_22 rfl (lv_at hl 0 rfl) ?_
            obtain ⟨p5, hep5, hf⟩ := bd_some hf
            obtain ⟨hvp5, hf⟩ := ck_some hf
            refine g_getR G hw C_2 iC_2 3 4 rfl rfl fl_X2_21 hep5 dX2_advance_23 ?_
            refine g_getC G hw C_4 (iC_4 hvp5) 1 32 rfl (by decide) rfl fl_X2_38 dX2_advance_26 ?_
            refine lv_aload_n G.1 G.2.1 dX2_advance_29 rfl (lv_at hl 0 rfl) ?_
            refine g_getI G hw C_2 iC_2 4 rfl fl_X2_31 dX2_advance_30 ?_
            obtain ⟨j6, hj6, hf⟩ := bd_some hf
            refine g_bald G hw (iC_32 hvp5) (by decide) rfl hj6 dX2_advance_33 ?_
            refine lv_astore (lv' := [(4, .ref (E.1 0 (175 * p5 + j6))), (0, .ref (E.1 2 0)), (1, .int a1), (2, .int x2), (3, .int x3)]) G.1 G.2.1 dX2_advance_34 hl (by decide) rfl (fun ls hl => ?_)
            refine lv_aload_n G.1 G.2.1 dX2_advance_36 rfl (lv_at hl 1 rfl) ?_
            refine lv_aload G.1 G.2.1 dX2_advance_37 (lv_at hl 0 rfl) ?_
            obtain ⟨g7, hcg7, hf⟩ := bd_some hf
            refine g_callV0 (As := [.ref (E.1 0 (175 * p5 + j6))]) (rest := []) G hw (gA_mono hw.2.2.2.1.1) C_2 iC_2 mv_X2_42 (c_Mc_perform l D X E n (175 * p5 + j6) (v_0 hvp5 hj6) g4 g7 hcg7) hl.1 rfl rfl (Nat.le_of_ble_eq_true rfl) (Nat.le_of_ble_eq_true rfl) (Nat.le_of_ble_eq_true rfl) ⟨Nat.le_refl _, Nat.le_refl _⟩ dX2_advance_39 (fun H locs hw => ?_)
            refine lv_iload_n G.1 G.2.1 dX2_advance_42 rfl (lv_at hl 3 rfl) ?_
            refine lv_aload G.1 G.2.1 dX2_advance_43 (lv_at hl 0 rfl) ?_
            refine g_getI G hw C_0 (iC_0 (v_0 hvp5 hj6)) 6 rfl fl_X2_46 dX2_advance_45 ?_
            refine lv_iadd G.1 G.2.1 dX2_advance_48 ?_
            refine lv_istore_n (lv' := [(2, .int (x2 + (gI g7 0 (175 * p5 + j6) 6))), (4, .ref (E.1 0 (175 * p5 + j6))), (0, .ref (E.1 2 0)), (1, .int a1), (3, .int x3)]) G.1 G.2.1 dX2_advance_49 rfl hl (by decide) rfl (fun ls hl => ?_)
            refine lv_iinc (v := x3 + 1) (lv' := [(3, .int (x3 + 1)), (2, .int (x2 + (gI g7 0 (175 * p5 + j6) 6))), (4, .ref (E.1 0 (175 * p5 + j6))), (0, .ref (E.1 2 0)), (1, .int a1)]) G.1 G.2.1 dX2_advance_50 hl (k := 4) rfl rfl (by decide) rfl (fun ls hl => ?_)
            refine lv_goto (tgt := 4) G.1 G.2.1 dX2_advance_53 (by decide) ?_
            exact ih1 (x2 + (gI g7 0 (175 * p5 + j6) 6)) (x3 + 1) g7 _ _ _ ls hf hw (lv_sub hl [3, 4, 1, 0] rfl) hk1_0
  obtain ⟨r8, hr8, hf⟩ := bd_some hf
  refine hL4 n (0 : Int32) (0 : Int32) g r8 _ _ ls hr8 hw (lv_sub hl [2, 3, 1, 0] rfl) ?_
  intro H locs ls hw hl
  refine lv_aload_n G.1 G.2.1 dX2_advance_56 rfl (lv_at hl 0 rfl) ?_
  refine lv_dup G.1 G.2.1 dX2_advance_57 rfl ?_
  refine g_getL G hw C_2 iC_2 5 rfl fl_X2_34 dX2_advance_58 ?_
  refine lv_iload_n G.1 G.2.1 dX2_advance_61 rfl (lv_at hl 1 rfl) ?_
  refine lv_i2l G.1 G.2.1 dX2_advance_62 rfl ?_
  refine lv_ladd G.1 G.2.1 dX2_advance_63 ?_
  obtain ⟨g9, eg9, hf⟩ := lt9_some hf
  refine g_putL G hw C_2 iC_2 5 rfl ol_2 fl_X2_34 rfl rfl rfl dX2_advance_64 (fun H locs hw => ?_)
  rw [← eg9] at hw
  refine lv_iload_n G.1 G.2.1 dX2_advance_67 rfl (lv_at hl 1 rfl) ?_
  exact g_iretW G hr hk hf hw dX2_advance_68
