/-! the methods that may throw, where they do not (printed by program) -/
theorem fl_X10_108 : Cond.fieldLink RX10 108 (TX5 1).1 (TX5 1).2.1 (TX5 1).2.2.1 ∈ gtbl := gt_in 401 (by decide +kernel) (by decide +kernel)
theorem fl_X10_112 : Cond.fieldLink RX10 112 (TX0 6).1 (TX0 6).2.1 (TX0 6).2.2.1 ∈ gtbl := gt_in 376 (by decide +kernel) (by decide +kernel)
theorem fl_X10_117 : Cond.fieldLink RX10 117 (TX0 1).1 (TX0 1).2.1 (TX0 1).2.2.1 ∈ gtbl := gt_in 356 (by decide +kernel) (by decide +kernel)
theorem fl_X10_120 : Cond.fieldLink RX10 120 (TX0 0).1 (TX0 0).2.1 (TX0 0).2.2.1 ∈ gtbl := gt_in 351 (by decide +kernel) (by decide +kernel)
theorem fl_X10_123 : Cond.fieldLink RX10 123 (TX0 4).1 (TX0 4).2.1 (TX0 4).2.2.1 ∈ gtbl := gt_in 368 (by decide +kernel) (by decide +kernel)
theorem fl_X10_126 : Cond.fieldLink RX10 126 (TX0 5).1 (TX0 5).2.1 (TX0 5).2.2.1 ∈ gtbl := gt_in 372 (by decide +kernel) (by decide +kernel)
theorem fl_X10_129 : Cond.fieldLink RX10 129 (TX5 0).1 (TX5 0).2.1 (TX5 0).2.2.1 ∈ gtbl := gt_in 396 (by decide +kernel) (by decide +kernel)
theorem fl_X10_133 : Cond.fieldLink RX10 133 (TX4 2).1 (TX4 2).2.1 (TX4 2).2.2.1 ∈ gtbl := gt_in 282 (by decide +kernel) (by decide +kernel)
theorem fl_X10_138 : Cond.fieldLink RX10 138 (TX4 6).1 (TX4 6).2.1 (TX4 6).2.2.1 ∈ gtbl := gt_in 293 (by decide +kernel) (by decide +kernel)
theorem fl_X10_140 : Cond.fieldLink RX10 140 (TX4 9).1 (TX4 9).2.1 (TX4 9).2.2.1 ∈ gtbl := gt_in 300 (by decide +kernel) (by decide +kernel)
theorem fl_X10_142 : Cond.fieldLink RX10 142 (TX4 8).1 (TX4 8).2.1 (TX4 8).2.2.1 ∈ gtbl := gt_in 297 (by decide +kernel) (by decide +kernel)
theorem fl_X10_145 : Cond.fieldLink RX10 145 (TX4 10).1 (TX4 10).2.1 (TX4 10).2.2.1 ∈ gtbl := gt_in 303 (by decide +kernel) (by decide +kernel)
theorem fl_X10_148 : Cond.fieldLink RX10 148 (TX4 11).1 (TX4 11).2.1 (TX4 11).2.2.1 ∈ gtbl := gt_in 306 (by decide +kernel) (by decide +kernel)
theorem fl_X10_154 : Cond.fieldLink RX10 154 (TX2 0).1 (TX2 0).2.1 (TX2 0).2.2.1 ∈ gtbl := gt_in 239 (by decide +kernel) (by decide +kernel)
theorem fl_X10_161 : Cond.fieldLink RX10 161 (TX2 1).1 (TX2 1).2.1 (TX2 1).2.2.1 ∈ gtbl := gt_in 241 (by decide +kernel) (by decide +kernel)
theorem fl_X10_60 : Cond.fieldLink RX10 60 (TX7 1).1 (TX7 1).2.1 (TX7 1).2.2.1 ∈ gtbl := gt_in 128 (by decide +kernel) (by decide +kernel)
theorem fl_X10_92 : Cond.fieldLink RX10 92 (TX5 3).1 (TX5 3).2.1 (TX5 3).2.2.1 ∈ gtbl := gt_in 408 (by decide +kernel) (by decide +kernel)
theorem ms_X10_68 : gS RX10 68 yX1_allows cX1_allows 3 (some .boolean) 3 := ⟨gt_in 897 (by decide +kernel) (by decide +kernel), gt_in 898 (by decide +kernel) (by decide +kernel), gt_in 94 (by decide +kernel) (by decide +kernel), gt_in 899 (by decide +kernel) (by decide +kernel), by decide +kernel, by decide +kernel, by decide +kernel⟩
theorem mv_X10_101 : gV RX10 101 RX5 yX5_usedUnits cX5_usedUnits 4 (some .int) 1 := ⟨gt_in 920 (by decide +kernel) (by decide +kernel), gt_in 921 (by decide +kernel) (by decide +kernel), gt_in 922 (by decide +kernel) (by decide +kernel), gt_in 96 (by decide +kernel) (by decide +kernel), gt_in 923 (by decide +kernel) (by decide +kernel), rfl, by decide +kernel, by decide +kernel, by decide +kernel⟩
theorem mv_X10_151 : gV RX10 151 RX10 yX10_get cX10_get 2 (some .int) 1 := ⟨gt_in 961 (by decide +kernel) (by decide +kernel), gt_in 962 (by decide +kernel) (by decide +kernel), gt_in 963 (by decide +kernel) (by decide +kernel), gt_in 89 (by decide +kernel) (by decide +kernel), gt_in 964 (by decide +kernel) (by decide +kernel), rfl, by decide +kernel, by decide +kernel, by decide +kernel⟩
theorem mv_X10_158 : gV RX10 158 RX10 yX10_peek cX10_peek 2 (some .int) 1 := ⟨gt_in 976 (by decide +kernel) (by decide +kernel), gt_in 977 (by decide +kernel) (by decide +kernel), gt_in 978 (by decide +kernel) (by decide +kernel), gt_in 89 (by decide +kernel) (by decide +kernel), gt_in 979 (by decide +kernel) (by decide +kernel), rfl, by decide +kernel, by decide +kernel, by decide +kernel⟩
theorem mv_X10_164 : gV RX10 164 RX2 yX2_advance cX2_advance 5 (some .int) 1 := ⟨gt_in 991 (by decide +kernel) (by decide +kernel), gt_in 992 (by decide +kernel) (by decide +kernel), gt_in 993 (by decide +kernel) (by decide +kernel), gt_in 95 (by decide +kernel) (by decide +kernel), gt_in 994 (by decide +kernel) (by decide +kernel), rfl, by decide +kernel, by decide +kernel, by decide +kernel⟩
theorem mv_X10_56 : gV RX10 56 RX7 yX7_append cX7_append 5 (some .boolean) 2 := ⟨gt_in 886 (by decide +kernel) (by decide +kernel), gt_in 887 (by decide +kernel) (by decide +kernel), gt_in 888 (by decide +kernel) (by decide +kernel), gt_in 90 (by decide +kernel) (by decide +kernel), gt_in 889 (by decide +kernel) (by decide +kernel), rfl, by decide +kernel, by decide +kernel, by decide +kernel⟩
theorem mv_X10_72 : gV RX10 72 RX1 yX1_supply cX1_supply 4 none 3 := ⟨gt_in 900 (by decide +kernel) (by decide +kernel), gt_in 901 (by decide +kernel) (by decide +kernel), gt_in 902 (by decide +kernel) (by decide +kernel), gt_in 94 (by decide +kernel) (by decide +kernel), gt_in 903 (by decide +kernel) (by decide +kernel), rfl, by decide +kernel, by decide +kernel, by decide +kernel⟩
theorem mv_X10_95 : gV RX10 95 RX5 yX5_allCycles cX5_allCycles 3 (some .int) 0 := ⟨gt_in 911 (by decide +kernel) (by decide +kernel), gt_in 912 (by decide +kernel) (by decide +kernel), gt_in 913 (by decide +kernel) (by decide +kernel), gt_in 96 (by decide +kernel) (by decide +kernel), gt_in 914 (by decide +kernel) (by decide +kernel), rfl, by decide +kernel, by decide +kernel, by decide +kernel⟩
theorem mv_X10_98 : gV RX10 98 RX5 yX5_usedRegisters cX5_usedRegisters 3 (some .int) 0 := ⟨gt_in 915 (by decide +kernel) (by decide +kernel), gt_in 916 (by decide +kernel) (by decide +kernel), gt_in 917 (by decide +kernel) (by decide +kernel), gt_in 96 (by decide +kernel) (by decide +kernel), gt_in 918 (by decide +kernel) (by decide +kernel), rfl, by decide +kernel, by decide +kernel, by decide +kernel⟩
def K_feed (n : Nat) (a1 : Int32) (a2 : Int64) (g : Mem) : Option (Int32 × Mem) :=
if a1 < (1 : Int32) then (
none)
else (
if a1 ≤ (8 : Int32) then (
(Tp_append n a1 a2 g).bind fun z1 =>
if z1.1 = 0 then (
some ((-1 : Int32), z1.2))
else (
some (gI z1.2 6 0 1, z1.2)))
else (
none))
set_option maxHeartbeats 4000000 in
set_option maxRecDepth 100000 in
theorem c_K_feed (l : Launch) (D : va_G) (X : va_W) (E : gE) (n : Nat) (a1 : Int32) (a2 : Int64) (g : Mem) (r : Int32) (g' : Mem) (hf : K_feed n a1 a2 g = some (r, g')) : gMet l yX10_feed cX10_feed 4 (some .int) 1 24 D X idsC E [.ref (E.1 9 0), .int a1, .long a2] g (some (.int r)) g' := by
  rw [K_feed] at hf
  refine gt_code (by decide) (Nat.le_of_ble_eq_true rfl) (fun p en s m below meth c ls G hr hk hw hl => ?_)
  have hl : lv_has ls 4 [(0, .ref (E.1 9 0)), (1, .int a1), (2, .long a2)] := hl
  refine lv_iload_n G.1 G.2.1 dX10_feed_0 rfl (lv_at hl 1 rfl) ?_
  refine lv_iconst (v := (1 : Int32)) G.1 G.2.1 dX10_feed_1 (by decide) ?_
  refine lv_icmp_lt (tgt := 11) G.1 G.2.1 dX10_feed_2 (by decide) (fun hc2 => ?_) (fun hc2 => ?_)
  · rw [if_pos hc2] at hf
    cases hf
  · rw [if_neg hc2] at hf
    refine lv_iload_n G.1 G.2.1 dX10_feed_5 rfl (lv_at hl 1 rfl) ?_
    refine lv_bipush (v := (8 : Int32)) G.1 G.2.1 dX10_feed_6 (by decide) ?_
    refine lv_icmp_le (tgt := 19) G.1 G.2.1 dX10_feed_8 (by decide) (fun hc8 => ?_) (fun hc8 => ?_)
    · rw [if_pos hc8] at hf
      refine lv_aload_n G.1 G.2.1 dX10_feed_19 rfl (lv_at hl 0 rfl) ?_
      refine g_getC G hw C_9 iC_9 0 6 rfl (by decide) rfl fl_X10_12 dX10_feed_20 ?_
      refine lv_iload_n G.1 G.2.1 dX10_feed_23 rfl (lv_at hl 1 rfl) ?_
      refine lv_lload_n G.1 G.2.1 dX10_feed_24 rfl (lv_at hl 2 rfl) ?_
      obtain ⟨z1, hcz1, hf⟩ := bd_some hf
      refine g_callV1 (As := [.int a1, .long a2]) (rest := []) G hw (gA_mono hw.2.2.2.1.1) C_6 iC_6 mv_X10_56 (c_Tp_append l D X E n a1 a2 g z1.1 z1.2 hcz1) hl.1 rfl rfl (Nat.le_of_ble_eq_true rfl) (Nat.le_of_ble_eq_true rfl) (Nat.le_of_ble_eq_true rfl) ⟨Nat.le_refl _, Nat.le_refl _⟩ dX10_feed_25 (fun H locs hw => ?_)
      refine lv_if_eq (tgt := 41) G.1 G.2.1 dX10_feed_28 (by decide) (fun hc28 => ?_) (fun hc28 => ?_)
      · rw [if_pos hc28] at hf
        refine lv_iconst (v := (-1 : Int32)) G.1 G.2.1 dX10_feed_41 (by decide) ?_
        exact g_iretW G hr hk hf hw dX10_feed_42
      · rw [if_neg hc28] at hf
        refine lv_aload_n G.1 G.2.1 dX10_feed_31 rfl (lv_at hl 0 rfl) ?_
        refine g_getC G hw C_9 iC_9 0 6 rfl (by decide) rfl fl_X10_12 dX10_feed_32 ?_
        refine g_getI G hw C_6 iC_6 1 rfl fl_X10_60 dX10_feed_35 ?_
        refine lv_goto (tgt := 42) G.1 G.2.1 dX10_feed_38 (by decide) ?_
        exact g_iretW G hr hk hf hw dX10_feed_42
    · rw [if_neg hc8] at hf
      cases hf

def K_units (n : Nat) (a1 : Int32) (a2 : Int32) (a3 : Int32) (g : Mem) : Option (Mem) :=
(Ly_allows n a1 a2 a3).bind fun z1 =>
if z1 = 0 then (
none)
else (
(Ly_supply n a1 a2 a3 g).bind fun g2 =>
(gR g2 9 0 4).bind fun p3 =>
(if p3 < 2 then (
(Ly_lay n p3 g2).bind fun g4 =>
(gR g4 9 0 4).bind fun p5 =>
(if p5 < 2 then (
(Mc_begin n p5 g4).bind fun g6 =>
some g6)
else none))
else none))
set_option maxHeartbeats 4000000 in
set_option maxRecDepth 100000 in
theorem c_K_units (l : Launch) (D : va_G) (X : va_W) (E : gE) (n : Nat) (a1 : Int32) (a2 : Int32) (a3 : Int32) (g : Mem) (g' : Mem) (hf : K_units n a1 a2 a3 g = some g') : gMet l yX10_units cX10_units 4 none 7 157 D X idsC E [.ref (E.1 9 0), .int a1, .int a2, .int a3] g none g' := by
  rw [K_units] at hf
  refine gt_code (by decide) (Nat.le_of_ble_eq_true rfl) (fun p en s m below meth c ls G hr hk hw hl => ?_)
  have hl : lv_has ls 4 [(0, .ref (E.1 9 0)), (1, .int a1), (2, .int a2), (3, .int a3)] := hl
  refine lv_iload_n G.1 G.2.1 dX10_units_0 rfl (lv_at hl 1 rfl) ?_
  refine lv_iload_n G.1 G.2.1 dX10_units_1 rfl (lv_at hl 2 rfl) ?_
  refine lv_iload_n G.1 G.2.1 dX10_units_2 rfl (lv_at hl 3 rfl) ?_
  obtain ⟨z1, hcz1, hf⟩ := bd_some hf
  refine g_callS1 (As := [.int a1, .int a2, .int a3]) (rest := []) G hw (gA_mono hw.2.2.2.1.1)  ms_X10_68 (c_Ly_allows l D X E n a1 a2 a3 g z1 hcz1) hl.1 rfl rfl (Nat.le_of_ble_eq_true rfl) (Nat.le_of_ble_eq_true rfl) (Nat.le_of_ble_eq_true rfl) ⟨Nat.le_refl _, Nat.le_refl _⟩ dX10_units_3 (fun H locs hw => ?_)
  refine lv_if_ne (tgt := 17) G.1 G.2.1 dX10_units_6 (by decide) (fun hc6 => ?_) (fun hc6 => ?_)
  · rw [if_neg hc6] at hf
    refine lv_aload_n G.1 G.2.1 dX10_units_17 rfl (lv_at hl 0 rfl) ?_
    refine g_getC G hw C_9 iC_9 2 1 rfl (by decide) rfl fl_X10_28 dX10_units_18 ?_
    refine lv_iload_n G.1 G.2.1 dX10_units_21 rfl (lv_at hl 1 rfl) ?_
    refine lv_iload_n G.1 G.2.1 dX10_units_22 rfl (lv_at hl 2 rfl) ?_
    refine lv_iload_n G.1 G.2.1 dX10_units_23 rfl (lv_at hl 3 rfl) ?_
    obtain ⟨g2, hcg2, hf⟩ := bd_some hf
    refine g_callV0 (As := [.int a1, .int a2, .int a3]) (rest := []) G hw (gA_mono hw.2.2.2.1.1) C_1 iC_1 mv_X10_72 (c_Ly_supply l D X E n a1 a2 a3 g g2 hcg2) hl.1 rfl rfl (Nat.le_of_ble_eq_true rfl) (Nat.le_of_ble_eq_true rfl) (Nat.le_of_ble_eq_true rfl) ⟨Nat.le_refl _, Nat.le_refl _⟩ dX10_units_24 (fun H locs hw => ?_)
    refine lv_aload_n G.1 G.2.1 dX10_units_27 rfl (lv_at hl 0 rfl) ?_
    refine g_getC G hw C_9 iC_9 2 1 rfl (by decide) rfl fl_X10_28 dX10_units_28 ?_
    refine lv_aload_n G.1 G.2.1 dX10_units_31 rfl (lv_at hl 0 rfl) ?_
    obtain ⟨p3, hep3, hf⟩ := bd_some hf
    obtain ⟨hvp3, hf⟩ := ck_some hf
    refine g_getR G hw C_9 iC_9 4 4 rfl rfl fl_X10_42 hep3 dX10_units_32 ?_
    obtain ⟨g4, hcg4, hf⟩ := bd_some hf
    refine g_callV0 (As := [.ref (E.1 4 p3)]) (rest := []) G hw (gA_mono hw.2.2.2.1.1) C_1 iC_1 mv_X10_76 (c_Ly_lay l D X E n p3 hvp3 g2 g4 hcg4) hl.1 rfl rfl (Nat.le_of_ble_eq_true rfl) (Nat.le_of_ble_eq_true rfl) (Nat.le_of_ble_eq_true rfl) ⟨Nat.le_refl _, Nat.le_refl _⟩ dX10_units_35 (fun H locs hw => ?_)
    refine lv_aload_n G.1 G.2.1 dX10_units_38 rfl (lv_at hl 0 rfl) ?_
    refine g_getC G hw C_9 iC_9 3 2 rfl (by decide) rfl fl_X10_35 dX10_units_39 ?_
    refine lv_aload_n G.1 G.2.1 dX10_units_42 rfl (lv_at hl 0 rfl) ?_
    obtain ⟨p5, hep5, hf⟩ := bd_some hf
    obtain ⟨hvp5, hf⟩ := ck_some hf
    refine g_getR G hw C_9 iC_9 4 4 rfl rfl fl_X10_42 hep5 dX10_units_43 ?_
    obtain ⟨g6, hcg6, hf⟩ := bd_some hf
    refine g_callV0 (As := [.ref (E.1 4 p5)]) (rest := []) G hw (gA_mono hw.2.2.2.1.1) C_2 iC_2 mv_X10_49 (c_Mc_begin l D X E n p5 hvp5 g4 g6 hcg6) hl.1 rfl rfl (Nat.le_of_ble_eq_true rfl) (Nat.le_of_ble_eq_true rfl) (Nat.le_of_ble_eq_true rfl) ⟨Nat.le_refl _, Nat.le_refl _⟩ dX10_units_46 (fun H locs hw => ?_)
    exact g_vretW G hr hk hf hw dX10_units_49
  · rw [if_pos hc6] at hf
    cases hf

def K_told (n : Nat) (a1 : Int32) (g : Mem) : Option (Int32) :=
if a1 = 0 then (
(gR g 9 0 4).bind fun p1 =>
(if p1 < 2 then (
some (gI g 4 p1 3))
else none))
else (
if a1 = 1 then (
(gR g 9 0 4).bind fun p2 =>
(if p2 < 2 then (
(Pg_allCycles n p2 g).bind fun z3 =>
some z3)
else none))
else (
if a1 = 2 then (
(gR g 9 0 4).bind fun p4 =>
(if p4 < 2 then (
(Pg_usedRegisters n p4 g).bind fun z5 =>
some z5)
else none))
else (
if a1 = 3 then (
(gR g 9 0 4).bind fun p6 =>
(if p6 < 2 then (
(Pg_usedUnits n p6 (a1 - (3 : Int32)) g).bind fun z7 =>
some z7)
else none))
else (
if a1 = 4 then (
(gR g 9 0 4).bind fun p8 =>
(if p8 < 2 then (
(Pg_usedUnits n p8 (a1 - (3 : Int32)) g).bind fun z9 =>
some z9)
else none))
else (
if a1 = 5 then (
(gR g 9 0 4).bind fun p10 =>
(if p10 < 2 then (
(Pg_usedUnits n p10 (a1 - (3 : Int32)) g).bind fun z11 =>
some z11)
else none))
else (
if a1 = 6 then (
(gR g 9 0 4).bind fun p12 =>
(if p12 < 2 then (
(Pg_usedUnits n p12 (a1 - (3 : Int32)) g).bind fun z13 =>
some z13)
else none))
else (
none)))))))
set_option maxHeartbeats 4000000 in
set_option maxRecDepth 100000 in
theorem c_K_told (l : Launch) (D : va_G) (X : va_W) (E : gE) (n : Nat) (a1 : Int32) (g : Mem) (r : Int32) (hf : K_told n a1 g = some r) : gMet l yX10_told cX10_told 2 (some .int) 2 47 D X idsC E [.ref (E.1 9 0), .int a1] g (some (.int r)) g := by
  rw [K_told] at hf
  refine gt_code (by decide) (Nat.le_of_ble_eq_true rfl) (fun p en s m below meth c ls G hr hk hw hl => ?_)
  have hl : lv_has ls 2 [(0, .ref (E.1 9 0)), (1, .int a1)] := hl
  refine lv_iload_n G.1 G.2.1 dX10_told_0 rfl (lv_at hl 1 rfl) ?_
  by_cases hs1_0 : a1 = 0
  · rw [if_pos hs1_0] at hf
    refine lv_tableIn (tgt := 44) G.1 G.2.1 dX10_told_1 (by rw [hs1_0]; decide) (by rw [hs1_0]; decide) (by rw [hs1_0]; rfl) (by decide) ?_
    refine lv_aload_n G.1 G.2.1 dX10_told_44 rfl (lv_at hl 0 rfl) ?_
    obtain ⟨p1, hep1, hf⟩ := bd_some hf
    obtain ⟨hvp1, hf⟩ := ck_some hf
    refine g_getR G hw C_9 iC_9 4 4 rfl rfl fl_X10_42 hep1 dX10_told_45 ?_
    refine g_getI G hw C_4 (iC_4 hvp1) 3 rfl fl_X10_92 dX10_told_48 ?_
    exact g_iretR G hr hk hf hw dX10_told_51
  · rw [if_neg hs1_0] at hf
    by_cases hs1_1 : a1 = 1
    · rw [if_pos hs1_1] at hf
      refine lv_tableIn (tgt := 52) G.1 G.2.1 dX10_told_1 (by rw [hs1_1]; decide) (by rw [hs1_1]; decide) (by rw [hs1_1]; rfl) (by decide) ?_
      refine lv_aload_n G.1 G.2.1 dX10_told_52 rfl (lv_at hl 0 rfl) ?_
      obtain ⟨p2, hep2, hf⟩ := bd_some hf
      obtain ⟨hvp2, hf⟩ := ck_some hf
      refine g_getR G hw C_9 iC_9 4 4 rfl rfl fl_X10_42 hep2 dX10_told_53 ?_
      obtain ⟨z3, hcz3, hf⟩ := bd_some hf
      refine g_callV1 (As := []) (rest := []) G hw (gA_mono hw.2.2.2.1.1) C_4 (iC_4 hvp2) mv_X10_95 (c_Pg_allCycles l D X E n p2 hvp2 g z3 hcz3) hl.1 rfl rfl (Nat.le_of_ble_eq_true rfl) (Nat.le_of_ble_eq_true rfl) (Nat.le_of_ble_eq_true rfl) ⟨Nat.le_refl _, Nat.le_refl _⟩ dX10_told_56 (fun H locs hw => ?_)
      exact g_iretR G hr hk hf hw dX10_told_59
    · rw [if_neg hs1_1] at hf
      by_cases hs1_2 : a1 = 2
      · rw [if_pos hs1_2] at hf
        refine lv_tableIn (tgt := 60) G.1 G.2.1 dX10_told_1 (by rw [hs1_2]; decide) (by rw [hs1_2]; decide) (by rw [hs1_2]; rfl) (by decide) ?_
        refine lv_aload_n G.1 G.2.1 dX10_told_60 rfl (lv_at hl 0 rfl) ?_
        obtain ⟨p4, hep4, hf⟩ := bd_some hf
        obtain ⟨hvp4, hf⟩ := ck_some hf
        refine g_getR G hw C_9 iC_9 4 4 rfl rfl fl_X10_42 hep4 dX10_told_61 ?_
        obtain ⟨z5, hcz5, hf⟩ := bd_some hf
        refine g_callV1 (As := []) (rest := []) G hw (gA_mono hw.2.2.2.1.1) C_4 (iC_4 hvp4) mv_X10_98 (c_Pg_usedRegisters l D X E n p4 hvp4 g z5 hcz5) hl.1 rfl rfl (Nat.le_of_ble_eq_true rfl) (Nat.le_of_ble_eq_true rfl) (Nat.le_of_ble_eq_true rfl) ⟨Nat.le_refl _, Nat.le_refl _⟩ dX10_told_64 (fun H locs hw => ?_)
        exact g_iretR G hr hk hf hw dX10_told_67
      · rw [if_neg hs1_2] at hf
        by_cases hs1_3 : a1 = 3
        · rw [if_pos hs1_3] at hf
          refine lv_tableIn (tgt := 68) G.1 G.2.1 dX10_told_1 (by rw [hs1_3]; decide) (by rw [hs1_3]; decide) (by rw [hs1_3]; rfl) (by decide) ?_
          refine lv_aload_n G.1 G.2.1 dX10_told_68 rfl (lv_at hl 0 rfl) ?_
          obtain ⟨p6, hep6, hf⟩ := bd_some hf
          obtain ⟨hvp6, hf⟩ := ck_some hf
          refine g_getR G hw C_9 iC_9 4 4 rfl rfl fl_X10_42 hep6 dX10_told_69 ?_
          refine lv_iload_n G.1 G.2.1 dX10_told_72 rfl (lv_at hl 1 rfl) ?_
          refine lv_iconst (v := (3 : Int32)) G.1 G.2.1 dX10_told_73 (by decide) ?_
          refine lv_isub G.1 G.2.1 dX10_told_74 ?_
          obtain ⟨z7, hcz7, hf⟩ := bd_some hf
          refine g_callV1 (As := [.int (a1 - (3 : Int32))]) (rest := []) G hw (gA_mono hw.2.2.2.1.1) C_4 (iC_4 hvp6) mv_X10_101 (c_Pg_usedUnits l D X E n p6 (a1 - (3 : Int32)) hvp6 g z7 hcz7) hl.1 rfl rfl (Nat.le_of_ble_eq_true rfl) (Nat.le_of_ble_eq_true rfl) (Nat.le_of_ble_eq_true rfl) ⟨Nat.le_refl _, Nat.le_refl _⟩ dX10_told_75 (fun H locs hw => ?_)
          exact g_iretR G hr hk hf hw dX10_told_78
        · rw [if_neg hs1_3] at hf
          by_cases hs1_4 : a1 = 4
          · rw [if_pos hs1_4] at hf
            refine lv_tableIn (tgt := 68) G.1 G.2.1 dX10_told_1 (by rw [hs1_4]; decide) (by rw [hs1_4]; decide) (by rw [hs1_4]; rfl) (by decide) ?_
            refine lv_aload_n G.1 G.2.1 dX10_told_68 rfl (lv_at hl 0 rfl) ?_
            obtain ⟨p8, hep8, hf⟩ := bd_some hf
            obtain ⟨hvp8, hf⟩ := ck_some hf
            refine g_getR G hw C_9 iC_9 4 4 rfl rfl fl_X10_42 hep8 dX10_told_69 ?_
            refine lv_iload_n G.1 G.2.1 dX10_told_72 rfl (lv_at hl 1 rfl) ?_
            refine lv_iconst (v := (3 : Int32)) G.1 G.2.1 dX10_told_73 (by decide) ?_
            refine lv_isub G.1 G.2.1 dX10_told_74 ?_
            obtain ⟨z9, hcz9, hf⟩ := bd_some hf
            refine g_callV1 (As := [.int (a1 - (3 : Int32))]) (rest := []) G hw (gA_mono hw.2.2.2.1.1) C_4 (iC_4 hvp8) mv_X10_101 (c_Pg_usedUnits l D X E n p8 (a1 - (3 : Int32)) hvp8 g z9 hcz9) hl.1 rfl rfl (Nat.le_of_ble_eq_true rfl) (Nat.le_of_ble_eq_true rfl) (Nat.le_of_ble_eq_true rfl) ⟨Nat.le_refl _, Nat.le_refl _⟩ dX10_told_75 (fun H locs hw => ?_)
            exact g_iretR G hr hk hf hw dX10_told_78
          · rw [if_neg hs1_4] at hf
            by_cases hs1_5 : a1 = 5
            · rw [if_pos hs1_5] at hf
              refine lv_tableIn (tgt := 68) G.1 G.2.1 dX10_told_1 (by rw [hs1_5]; decide) (by rw [hs1_5]; decide) (by rw [hs1_5]; rfl) (by decide) ?_
              refine lv_aload_n G.1 G.2.1 dX10_told_68 rfl (lv_at hl 0 rfl) ?_
              obtain ⟨p10, hep10, hf⟩ := bd_some hf
              obtain ⟨hvp10, hf⟩ := ck_some hf
              refine g_getR G hw C_9 iC_9 4 4 rfl rfl fl_X10_42 hep10 dX10_told_69 ?_
              refine lv_iload_n G.1 G.2.1 dX10_told_72 rfl (lv_at hl 1 rfl) ?_
              refine lv_iconst (v := (3 : Int32)) G.1 G.2.1 dX10_told_73 (by decide) ?_
              refine lv_isub G.1 G.2.1 dX10_told_74 ?_
              obtain ⟨z11, hcz11, hf⟩ := bd_some hf
              refine g_callV1 (As := [.int (a1 - (3 : Int32))]) (rest := []) G hw (gA_mono hw.2.2.2.1.1) C_4 (iC_4 hvp10) mv_X10_101 (c_Pg_usedUnits l D X E n p10 (a1 - (3 : Int32)) hvp10 g z11 hcz11) hl.1 rfl rfl (Nat.le_of_ble_eq_true rfl) (Nat.le_of_ble_eq_true rfl) (Nat.le_of_ble_eq_true rfl) ⟨Nat.le_refl _, Nat.le_refl _⟩ dX10_told_75 (fun H locs hw => ?_)
              exact g_iretR G hr hk hf hw dX10_told_78
            · rw [if_neg hs1_5] at hf
              by_cases hs1_6 : a1 = 6
              · rw [if_pos hs1_6] at hf
                refine lv_tableIn (tgt := 68) G.1 G.2.1 dX10_told_1 (by rw [hs1_6]; decide) (by rw [hs1_6]; decide) (by rw [hs1_6]; rfl) (by decide) ?_
                refine lv_aload_n G.1 G.2.1 dX10_told_68 rfl (lv_at hl 0 rfl) ?_
                obtain ⟨p12, hep12, hf⟩ := bd_some hf
                obtain ⟨hvp12, hf⟩ := ck_some hf
                refine g_getR G hw C_9 iC_9 4 4 rfl rfl fl_X10_42 hep12 dX10_told_69 ?_
                refine lv_iload_n G.1 G.2.1 dX10_told_72 rfl (lv_at hl 1 rfl) ?_
                refine lv_iconst (v := (3 : Int32)) G.1 G.2.1 dX10_told_73 (by decide) ?_
                refine lv_isub G.1 G.2.1 dX10_told_74 ?_
                obtain ⟨z13, hcz13, hf⟩ := bd_some hf
                refine g_callV1 (As := [.int (a1 - (3 : Int32))]) (rest := []) G hw (gA_mono hw.2.2.2.1.1) C_4 (iC_4 hvp12) mv_X10_101 (c_Pg_usedUnits l D X E n p12 (a1 - (3 : Int32)) hvp12 g z13 hcz13) hl.1 rfl rfl (Nat.le_of_ble_eq_true rfl) (Nat.le_of_ble_eq_true rfl) (Nat.le_of_ble_eq_true rfl) ⟨Nat.le_refl _, Nat.le_refl _⟩ dX10_told_75 (fun H locs hw => ?_)
                exact g_iretR G hr hk hf hw dX10_told_78
              · rw [if_neg hs1_6] at hf
                refine lv_tableOut (tgt := 79) G.1 G.2.1 dX10_told_1 (sw_out (x := a1) (lo := 0) (n := 7) (by decide) (by decide) (by intro k hk; match k, hk with | 0, _ => exact hs1_0 | 1, _ => exact hs1_1 | 2, _ => exact hs1_2 | 3, _ => exact hs1_3 | 4, _ => exact hs1_4 | 5, _ => exact hs1_5 | 6, _ => exact hs1_6)) (by decide) ?_
                cases hf

def K_block (n : Nat) (a1 : Int32) (a2 : Int32) (g : Mem) : Option (Int32) :=
if a1 < 0 then (
none)
else (
(gR g 9 0 4).bind fun p1 =>
(if p1 < 2 then (
if a1 < (gI g 4 p1 3) then (
(gR g 9 0 4).bind fun p2 =>
(if p2 < 2 then (
(ix a1 175).bind fun j3 =>
if a2 = 0 then (
some (gI g 0 (175 * p2 + j3) 6))
else (
if a2 = 1 then (
if (gI g 0 (175 * p2 + j3) 1) = 0 then (
some (-1 : Int32))
else (
some (gI g 0 (175 * p2 + j3) 0)))
else (
if a2 = 2 then (
some (gI g 0 (175 * p2 + j3) 1))
else (
if a2 = 3 then (
some (gI g 0 (175 * p2 + j3) 4))
else (
if a2 = 4 then (
some (gI g 0 (175 * p2 + j3) 5))
else (
none))))))
else none))
else (
none))
else none))
set_option maxHeartbeats 4000000 in
set_option maxRecDepth 100000 in
theorem c_K_block (l : Launch) (D : va_G) (X : va_W) (E : gE) (n : Nat) (a1 : Int32) (a2 : Int32) (g : Mem) (r : Int32) (hf : K_block n a1 a2 g = some r) : gMet l yX10_block cX10_block 4 (some .int) 0 0 D X idsC E [.ref (E.1 9 0), .int a1, .int a2] g (some (.int r)) g := by
  rw [K_block] at hf
  refine gt_code (by decide) (Nat.le_of_ble_eq_true rfl) (fun p en s m below meth c ls G hr hk hw hl => ?_)
  have hl : lv_has ls 4 [(0, .ref (E.1 9 0)), (1, .int a1), (2, .int a2)] := hl
  refine lv_iload_n G.1 G.2.1 dX10_block_0 rfl (lv_at hl 1 rfl) ?_
  refine lv_if_lt (tgt := 15) G.1 G.2.1 dX10_block_1 (by decide) (fun hc1 => ?_) (fun hc1 => ?_)
  · rw [if_pos hc1] at hf
    cases hf
  · rw [if_neg hc1] at hf
    refine lv_iload_n G.1 G.2.1 dX10_block_4 rfl (lv_at hl 1 rfl) ?_
    refine lv_aload_n G.1 G.2.1 dX10_block_5 rfl (lv_at hl 0 rfl) ?_
    obtain ⟨p1, hep1, hf⟩ := bd_some hf
    obtain ⟨hvp1, hf⟩ := ck_some hf
    refine g_getR G hw C_9 iC_9 4 4 rfl rfl fl_X10_42 hep1 dX10_block_6 ?_
    refine g_getI G hw C_4 (iC_4 hvp1) 3 rfl fl_X10_92 dX10_block_9 ?_
    refine lv_icmp_lt (tgt := 23) G.1 G.2.1 dX10_block_12 (by decide) (fun hc12 => ?_) (fun hc12 => ?_)
    · rw [if_pos hc12] at hf
      refine lv_aload_n G.1 G.2.1 dX10_block_23 rfl (lv_at hl 0 rfl) ?_
      obtain ⟨p2, hep2, hf⟩ := bd_some hf
      obtain ⟨hvp2, hf⟩ := ck_some hf
      refine g_getR G hw C_9 iC_9 4 4 rfl rfl fl_X10_42 hep2 dX10_block_24 ?_
      refine g_getC G hw C_4 (iC_4 hvp2) 1 32 rfl (by decide) rfl fl_X10_108 dX10_block_27 ?_
      refine lv_iload_n G.1 G.2.1 dX10_block_30 rfl (lv_at hl 1 rfl) ?_
      obtain ⟨j3, hj3, hf⟩ := bd_some hf
      refine g_bald G hw (iC_32 hvp2) (by decide) rfl hj3 dX10_block_31 ?_
      refine lv_astore_n (lv' := [(3, .ref (E.1 0 (175 * p2 + j3))), (0, .ref (E.1 9 0)), (1, .int a1), (2, .int a2)]) G.1 G.2.1 dX10_block_32 rfl hl (by decide) rfl (fun ls hl => ?_)
      refine lv_iload_n G.1 G.2.1 dX10_block_33 rfl (lv_at hl 3 rfl) ?_
      by_cases hs34_0 : a2 = 0
      · rw [if_pos hs34_0] at hf
        refine lv_tableIn (tgt := 68) G.1 G.2.1 dX10_block_34 (by rw [hs34_0]; decide) (by rw [hs34_0]; decide) (by rw [hs34_0]; rfl) (by decide) ?_
        refine lv_aload_n G.1 G.2.1 dX10_block_68 rfl (lv_at hl 0 rfl) ?_
        refine g_getI G hw C_0 (iC_0 (v_0 hvp2 hj3)) 6 rfl fl_X10_112 dX10_block_69 ?_
        exact g_iretR G hr hk hf hw dX10_block_72
      · rw [if_neg hs34_0] at hf
        by_cases hs34_1 : a2 = 1
        · rw [if_pos hs34_1] at hf
          refine lv_tableIn (tgt := 73) G.1 G.2.1 dX10_block_34 (by rw [hs34_1]; decide) (by rw [hs34_1]; decide) (by rw [hs34_1]; rfl) (by decide) ?_
          refine lv_aload_n G.1 G.2.1 dX10_block_73 rfl (lv_at hl 0 rfl) ?_
          refine g_getI G hw C_0 (iC_0 (v_0 hvp2 hj3)) 1 rfl fl_X10_117 dX10_block_74 ?_
          refine lv_if_ne (tgt := 84) G.1 G.2.1 dX10_block_77 (by decide) (fun hc77 => ?_) (fun hc77 => ?_)
          · rw [if_neg hc77] at hf
            refine lv_aload_n G.1 G.2.1 dX10_block_84 rfl (lv_at hl 0 rfl) ?_
            refine g_getI G hw C_0 (iC_0 (v_0 hvp2 hj3)) 0 rfl fl_X10_120 dX10_block_85 ?_
            exact g_iretR G hr hk hf hw dX10_block_88
          · rw [if_pos hc77] at hf
            refine lv_iconst (v := (-1 : Int32)) G.1 G.2.1 dX10_block_80 (by decide) ?_
            refine lv_goto (tgt := 88) G.1 G.2.1 dX10_block_81 (by decide) ?_
            exact g_iretR G hr hk hf hw dX10_block_88
        · rw [if_neg hs34_1] at hf
          by_cases hs34_2 : a2 = 2
          · rw [if_pos hs34_2] at hf
            refine lv_tableIn (tgt := 89) G.1 G.2.1 dX10_block_34 (by rw [hs34_2]; decide) (by rw [hs34_2]; decide) (by rw [hs34_2]; rfl) (by decide) ?_
            refine lv_aload_n G.1 G.2.1 dX10_block_89 rfl (lv_at hl 0 rfl) ?_
            refine g_getI G hw C_0 (iC_0 (v_0 hvp2 hj3)) 1 rfl fl_X10_117 dX10_block_90 ?_
            exact g_iretR G hr hk hf hw dX10_block_93
          · rw [if_neg hs34_2] at hf
            by_cases hs34_3 : a2 = 3
            · rw [if_pos hs34_3] at hf
              refine lv_tableIn (tgt := 94) G.1 G.2.1 dX10_block_34 (by rw [hs34_3]; decide) (by rw [hs34_3]; decide) (by rw [hs34_3]; rfl) (by decide) ?_
              refine lv_aload_n G.1 G.2.1 dX10_block_94 rfl (lv_at hl 0 rfl) ?_
              refine g_getI G hw C_0 (iC_0 (v_0 hvp2 hj3)) 4 rfl fl_X10_123 dX10_block_95 ?_
              exact g_iretR G hr hk hf hw dX10_block_98
            · rw [if_neg hs34_3] at hf
              by_cases hs34_4 : a2 = 4
              · rw [if_pos hs34_4] at hf
                refine lv_tableIn (tgt := 99) G.1 G.2.1 dX10_block_34 (by rw [hs34_4]; decide) (by rw [hs34_4]; decide) (by rw [hs34_4]; rfl) (by decide) ?_
                refine lv_aload_n G.1 G.2.1 dX10_block_99 rfl (lv_at hl 0 rfl) ?_
                refine g_getI G hw C_0 (iC_0 (v_0 hvp2 hj3)) 5 rfl fl_X10_126 dX10_block_100 ?_
                exact g_iretR G hr hk hf hw dX10_block_103
              · rw [if_neg hs34_4] at hf
                refine lv_tableOut (tgt := 104) G.1 G.2.1 dX10_block_34 (sw_out (x := a2) (lo := 0) (n := 5) (by decide) (by decide) (by intro k hk; match k, hk with | 0, _ => exact hs34_0 | 1, _ => exact hs34_1 | 2, _ => exact hs34_2 | 3, _ => exact hs34_3 | 4, _ => exact hs34_4)) (by decide) ?_
                cases hf
    · rw [if_neg hc12] at hf
      cases hf

def K_operation (n : Nat) (a1 : Int32) (a2 : Int32) (g : Mem) : Option (Int32) :=
if a1 < 0 then (
none)
else (
(gR g 9 0 4).bind fun p1 =>
(if p1 < 2 then (
if a1 < (gI g 4 p1 2) then (
(gR g 9 0 4).bind fun p2 =>
(if p2 < 2 then (
(ix a1 200).bind fun j3 =>
if a2 = 0 then (
some (gI g 3 (200 * p2 + j3) 2))
else (
if a2 = 1 then (
some (gI g 3 (200 * p2 + j3) 6))
else (
if a2 = 2 then (
some (gI g 3 (200 * p2 + j3) 9))
else (
if a2 = 3 then (
some (gI g 3 (200 * p2 + j3) 8))
else (
if a2 = 4 then (
some (gI g 3 (200 * p2 + j3) 10))
else (
if a2 = 5 then (
some (gI g 3 (200 * p2 + j3) 11))
else (
none)))))))
else none))
else (
none))
else none))
set_option maxHeartbeats 4000000 in
set_option maxRecDepth 100000 in
theorem c_K_operation (l : Launch) (D : va_G) (X : va_W) (E : gE) (n : Nat) (a1 : Int32) (a2 : Int32) (g : Mem) (r : Int32) (hf : K_operation n a1 a2 g = some r) : gMet l yX10_operation cX10_operation 4 (some .int) 0 0 D X idsC E [.ref (E.1 9 0), .int a1, .int a2] g (some (.int r)) g := by
  rw [K_operation] at hf
  refine gt_code (by decide) (Nat.le_of_ble_eq_true rfl) (fun p en s m below meth c ls G hr hk hw hl => ?_)
  have hl : lv_has ls 4 [(0, .ref (E.1 9 0)), (1, .int a1), (2, .int a2)] := hl
  refine lv_iload_n G.1 G.2.1 dX10_operation_0 rfl (lv_at hl 1 rfl) ?_
  refine lv_if_lt (tgt := 15) G.1 G.2.1 dX10_operation_1 (by decide) (fun hc1 => ?_) (fun hc1 => ?_)
  · rw [if_pos hc1] at hf
    cases hf
  · rw [if_neg hc1] at hf
    refine lv_iload_n G.1 G.2.1 dX10_operation_4 rfl (lv_at hl 1 rfl) ?_
    refine lv_aload_n G.1 G.2.1 dX10_operation_5 rfl (lv_at hl 0 rfl) ?_
    obtain ⟨p1, hep1, hf⟩ := bd_some hf
    obtain ⟨hvp1, hf⟩ := ck_some hf
    refine g_getR G hw C_9 iC_9 4 4 rfl rfl fl_X10_42 hep1 dX10_operation_6 ?_
    refine g_getI G hw C_4 (iC_4 hvp1) 2 rfl fl_X10_83 dX10_operation_9 ?_
    refine lv_icmp_lt (tgt := 23) G.1 G.2.1 dX10_operation_12 (by decide) (fun hc12 => ?_) (fun hc12 => ?_)
    · rw [if_pos hc12] at hf
      refine lv_aload_n G.1 G.2.1 dX10_operation_23 rfl (lv_at hl 0 rfl) ?_
      obtain ⟨p2, hep2, hf⟩ := bd_some hf
      obtain ⟨hvp2, hf⟩ := ck_some hf
      refine g_getR G hw C_9 iC_9 4 4 rfl rfl fl_X10_42 hep2 dX10_operation_24 ?_
      refine g_getC G hw C_4 (iC_4 hvp2) 0 31 rfl (by decide) rfl fl_X10_129 dX10_operation_27 ?_
      refine lv_iload_n G.1 G.2.1 dX10_operation_30 rfl (lv_at hl 1 rfl) ?_
      obtain ⟨j3, hj3, hf⟩ := bd_some hf
      refine g_oald G hw (iC_31 hvp2) (by decide) rfl hj3 dX10_operation_31 ?_
      refine lv_astore_n (lv' := [(3, .ref (E.1 3 (200 * p2 + j3))), (0, .ref (E.1 9 0)), (1, .int a1), (2, .int a2)]) G.1 G.2.1 dX10_operation_32 rfl hl (by decide) rfl (fun ls hl => ?_)
      refine lv_iload_n G.1 G.2.1 dX10_operation_33 rfl (lv_at hl 3 rfl) ?_
      by_cases hs34_0 : a2 = 0
      · rw [if_pos hs34_0] at hf
        refine lv_tableIn (tgt := 72) G.1 G.2.1 dX10_operation_34 (by rw [hs34_0]; decide) (by rw [hs34_0]; decide) (by rw [hs34_0]; rfl) (by decide) ?_
        refine lv_aload_n G.1 G.2.1 dX10_operation_72 rfl (lv_at hl 0 rfl) ?_
        refine g_getI G hw C_3 (iC_3 (v_3 hvp2 hj3)) 2 rfl fl_X10_133 dX10_operation_73 ?_
        exact g_iretR G hr hk hf hw dX10_operation_76
      · rw [if_neg hs34_0] at hf
        by_cases hs34_1 : a2 = 1
        · rw [if_pos hs34_1] at hf
          refine lv_tableIn (tgt := 77) G.1 G.2.1 dX10_operation_34 (by rw [hs34_1]; decide) (by rw [hs34_1]; decide) (by rw [hs34_1]; rfl) (by decide) ?_
          refine lv_aload_n G.1 G.2.1 dX10_operation_77 rfl (lv_at hl 0 rfl) ?_
          refine g_getI G hw C_3 (iC_3 (v_3 hvp2 hj3)) 6 rfl fl_X10_138 dX10_operation_78 ?_
          exact g_iretR G hr hk hf hw dX10_operation_81
        · rw [if_neg hs34_1] at hf
          by_cases hs34_2 : a2 = 2
          · rw [if_pos hs34_2] at hf
            refine lv_tableIn (tgt := 82) G.1 G.2.1 dX10_operation_34 (by rw [hs34_2]; decide) (by rw [hs34_2]; decide) (by rw [hs34_2]; rfl) (by decide) ?_
            refine lv_aload_n G.1 G.2.1 dX10_operation_82 rfl (lv_at hl 0 rfl) ?_
            refine g_getI G hw C_3 (iC_3 (v_3 hvp2 hj3)) 9 rfl fl_X10_140 dX10_operation_83 ?_
            exact g_iretR G hr hk hf hw dX10_operation_86
          · rw [if_neg hs34_2] at hf
            by_cases hs34_3 : a2 = 3
            · rw [if_pos hs34_3] at hf
              refine lv_tableIn (tgt := 87) G.1 G.2.1 dX10_operation_34 (by rw [hs34_3]; decide) (by rw [hs34_3]; decide) (by rw [hs34_3]; rfl) (by decide) ?_
              refine lv_aload_n G.1 G.2.1 dX10_operation_87 rfl (lv_at hl 0 rfl) ?_
              refine g_getI G hw C_3 (iC_3 (v_3 hvp2 hj3)) 8 rfl fl_X10_142 dX10_operation_88 ?_
              exact g_iretR G hr hk hf hw dX10_operation_91
            · rw [if_neg hs34_3] at hf
              by_cases hs34_4 : a2 = 4
              · rw [if_pos hs34_4] at hf
                refine lv_tableIn (tgt := 92) G.1 G.2.1 dX10_operation_34 (by rw [hs34_4]; decide) (by rw [hs34_4]; decide) (by rw [hs34_4]; rfl) (by decide) ?_
                refine lv_aload_n G.1 G.2.1 dX10_operation_92 rfl (lv_at hl 0 rfl) ?_
                refine g_getI G hw C_3 (iC_3 (v_3 hvp2 hj3)) 10 rfl fl_X10_145 dX10_operation_93 ?_
                exact g_iretR G hr hk hf hw dX10_operation_96
              · rw [if_neg hs34_4] at hf
                by_cases hs34_5 : a2 = 5
                · rw [if_pos hs34_5] at hf
                  refine lv_tableIn (tgt := 97) G.1 G.2.1 dX10_operation_34 (by rw [hs34_5]; decide) (by rw [hs34_5]; decide) (by rw [hs34_5]; rfl) (by decide) ?_
                  refine lv_aload_n G.1 G.2.1 dX10_operation_97 rfl (lv_at hl 0 rfl) ?_
                  refine g_getI G hw C_3 (iC_3 (v_3 hvp2 hj3)) 11 rfl fl_X10_148 dX10_operation_98 ?_
                  exact g_iretR G hr hk hf hw dX10_operation_101
                · rw [if_neg hs34_5] at hf
                  refine lv_tableOut (tgt := 102) G.1 G.2.1 dX10_operation_34 (sw_out (x := a2) (lo := 0) (n := 6) (by decide) (by decide) (by intro k hk; match k, hk with | 0, _ => exact hs34_0 | 1, _ => exact hs34_1 | 2, _ => exact hs34_2 | 3, _ => exact hs34_3 | 4, _ => exact hs34_4 | 5, _ => exact hs34_5)) (by decide) ?_
                  cases hf
    · rw [if_neg hc12] at hf
      cases hf

def K_get (n : Nat) (a1 : Int32) (g : Mem) : Option (Int32) :=
if a1 < 0 then (
none)
else (
if a1 < (8 : Int32) then (
(ix a1 8).bind fun j1 =>
some (gI g 28 0 j1))
else (
none))
set_option maxHeartbeats 4000000 in
set_option maxRecDepth 100000 in
theorem c_K_get (l : Launch) (D : va_G) (X : va_W) (E : gE) (n : Nat) (a1 : Int32) (g : Mem) (r : Int32) (hf : K_get n a1 g = some r) : gMet l yX10_get cX10_get 2 (some .int) 0 0 D X idsC E [.ref (E.1 9 0), .int a1] g (some (.int r)) g := by
  rw [K_get] at hf
  refine gt_code (by decide) (Nat.le_of_ble_eq_true rfl) (fun p en s m below meth c ls G hr hk hw hl => ?_)
  have hl : lv_has ls 2 [(0, .ref (E.1 9 0)), (1, .int a1)] := hl
  refine lv_iload_n G.1 G.2.1 dX10_get_0 rfl (lv_at hl 1 rfl) ?_
  refine lv_if_lt (tgt := 10) G.1 G.2.1 dX10_get_1 (by decide) (fun hc1 => ?_) (fun hc1 => ?_)
  · rw [if_pos hc1] at hf
    cases hf
  · rw [if_neg hc1] at hf
    refine lv_iload_n G.1 G.2.1 dX10_get_4 rfl (lv_at hl 1 rfl) ?_
    refine lv_bipush (v := (8 : Int32)) G.1 G.2.1 dX10_get_5 (by decide) ?_
    refine lv_icmp_lt (tgt := 18) G.1 G.2.1 dX10_get_7 (by decide) (fun hc7 => ?_) (fun hc7 => ?_)
    · rw [if_pos hc7] at hf
      refine lv_aload_n G.1 G.2.1 dX10_get_18 rfl (lv_at hl 0 rfl) ?_
      refine g_getC G hw C_9 iC_9 3 2 rfl (by decide) rfl fl_X10_35 dX10_get_19 ?_
      refine g_getC G hw C_2 iC_2 0 28 rfl (by decide) rfl fl_X10_154 dX10_get_22 ?_
      refine lv_iload_n G.1 G.2.1 dX10_get_25 rfl (lv_at hl 1 rfl) ?_
      obtain ⟨j1, hj1, hf⟩ := bd_some hf
      refine g_iald G hw iC_28 (by decide) rfl hj1 dX10_get_26 ?_
      exact g_iretR G hr hk hf hw dX10_get_27
    · rw [if_neg hc7] at hf
      cases hf

def K_set (n : Nat) (a1 : Int32) (a2 : Int32) (g : Mem) : Option (Int32 × Mem) :=
(K_get n a1 g).bind fun z1 =>
(ix a1 8).bind fun j2 =>
lt9 (sI g 28 0 j2 a2) fun g3 =>
some (z1, g3)
set_option maxHeartbeats 4000000 in
set_option maxRecDepth 100000 in
theorem c_K_set (l : Launch) (D : va_G) (X : va_W) (E : gE) (n : Nat) (a1 : Int32) (a2 : Int32) (g : Mem) (r : Int32) (g' : Mem) (hf : K_set n a1 a2 g = some (r, g')) : gMet l yX10_set cX10_set 4 (some .int) 1 21 D X idsC E [.ref (E.1 9 0), .int a1, .int a2] g (some (.int r)) g' := by
  rw [K_set] at hf
  refine gt_code (by decide) (Nat.le_of_ble_eq_true rfl) (fun p en s m below meth c ls G hr hk hw hl => ?_)
  have hl : lv_has ls 4 [(0, .ref (E.1 9 0)), (1, .int a1), (2, .int a2)] := hl
  refine lv_aload_n G.1 G.2.1 dX10_set_0 rfl (lv_at hl 0 rfl) ?_
  refine lv_iload_n G.1 G.2.1 dX10_set_1 rfl (lv_at hl 1 rfl) ?_
  obtain ⟨z1, hcz1, hf⟩ := bd_some hf
  refine g_callV1 (As := [.int a1]) (rest := []) G hw (gA_mono hw.2.2.2.1.1) C_9 iC_9 mv_X10_151 (c_K_get l D X E n a1 g z1 hcz1) hl.1 rfl rfl (Nat.le_of_ble_eq_true rfl) (Nat.le_of_ble_eq_true rfl) (Nat.le_of_ble_eq_true rfl) ⟨Nat.le_refl _, Nat.le_refl _⟩ dX10_set_2 (fun H locs hw => ?_)
  refine lv_istore_n (lv' := [(3, .int z1), (0, .ref (E.1 9 0)), (1, .int a1), (2, .int a2)]) G.1 G.2.1 dX10_set_5 rfl hl (by decide) rfl (fun ls hl => ?_)
  refine lv_aload_n G.1 G.2.1 dX10_set_6 rfl (lv_at hl 1 rfl) ?_
  refine g_getC G hw C_9 iC_9 3 2 rfl (by decide) rfl fl_X10_35 dX10_set_7 ?_
  refine g_getC G hw C_2 iC_2 0 28 rfl (by decide) rfl fl_X10_154 dX10_set_10 ?_
  refine lv_iload_n G.1 G.2.1 dX10_set_13 rfl (lv_at hl 2 rfl) ?_
  refine lv_iload_n G.1 G.2.1 dX10_set_14 rfl (lv_at hl 3 rfl) ?_
  obtain ⟨j2, hj2, hf⟩ := bd_some hf
  obtain ⟨g3, eg3, hf⟩ := lt9_some hf
  refine g_iast G hw iC_28 (by decide) rfl hj2 dX10_set_15 (fun H locs hw => ?_)
  rw [← eg3] at hw
  refine lv_iload_n G.1 G.2.1 dX10_set_16 rfl (lv_at hl 0 rfl) ?_
  exact g_iretW G hr hk hf hw dX10_set_17

def K_peek (n : Nat) (a1 : Int32) (g : Mem) : Option (Int32) :=
if a1 < 0 then (
none)
else (
if a1 < (16 : Int32) then (
(ix a1 16).bind fun j1 =>
some (gI g 29 0 j1))
else (
none))
set_option maxHeartbeats 4000000 in
set_option maxRecDepth 100000 in
theorem c_K_peek (l : Launch) (D : va_G) (X : va_W) (E : gE) (n : Nat) (a1 : Int32) (g : Mem) (r : Int32) (hf : K_peek n a1 g = some r) : gMet l yX10_peek cX10_peek 2 (some .int) 0 0 D X idsC E [.ref (E.1 9 0), .int a1] g (some (.int r)) g := by
  rw [K_peek] at hf
  refine gt_code (by decide) (Nat.le_of_ble_eq_true rfl) (fun p en s m below meth c ls G hr hk hw hl => ?_)
  have hl : lv_has ls 2 [(0, .ref (E.1 9 0)), (1, .int a1)] := hl
  refine lv_iload_n G.1 G.2.1 dX10_peek_0 rfl (lv_at hl 1 rfl) ?_
  refine lv_if_lt (tgt := 10) G.1 G.2.1 dX10_peek_1 (by decide) (fun hc1 => ?_) (fun hc1 => ?_)
  · rw [if_pos hc1] at hf
    cases hf
  · rw [if_neg hc1] at hf
    refine lv_iload_n G.1 G.2.1 dX10_peek_4 rfl (lv_at hl 1 rfl) ?_
    refine lv_bipush (v := (16 : Int32)) G.1 G.2.1 dX10_peek_5 (by decide) ?_
    refine lv_icmp_lt (tgt := 18) G.1 G.2.1 dX10_peek_7 (by decide) (fun hc7 => ?_) (fun hc7 => ?_)
    · rw [if_pos hc7] at hf
      refine lv_aload_n G.1 G.2.1 dX10_peek_18 rfl (lv_at hl 0 rfl) ?_
      refine g_getC G hw C_9 iC_9 3 2 rfl (by decide) rfl fl_X10_35 dX10_peek_19 ?_
      refine g_getC G hw C_2 iC_2 1 29 rfl (by decide) rfl fl_X10_161 dX10_peek_22 ?_
      refine lv_iload_n G.1 G.2.1 dX10_peek_25 rfl (lv_at hl 1 rfl) ?_
      obtain ⟨j1, hj1, hf⟩ := bd_some hf
      refine g_iald G hw iC_29 (by decide) rfl hj1 dX10_peek_26 ?_
      exact g_iretR G hr hk hf hw dX10_peek_27
    · rw [if_neg hc7] at hf
      cases hf

def K_poke (n : Nat) (a1 : Int32) (a2 : Int32) (g : Mem) : Option (Int32 × Mem) :=
(K_peek n a1 g).bind fun z1 =>
(ix a1 16).bind fun j2 =>
lt9 (sI g 29 0 j2 a2) fun g3 =>
some (z1, g3)
set_option maxHeartbeats 4000000 in
set_option maxRecDepth 100000 in
theorem c_K_poke (l : Launch) (D : va_G) (X : va_W) (E : gE) (n : Nat) (a1 : Int32) (a2 : Int32) (g : Mem) (r : Int32) (g' : Mem) (hf : K_poke n a1 a2 g = some (r, g')) : gMet l yX10_poke cX10_poke 4 (some .int) 1 21 D X idsC E [.ref (E.1 9 0), .int a1, .int a2] g (some (.int r)) g' := by
  rw [K_poke] at hf
  refine gt_code (by decide) (Nat.le_of_ble_eq_true rfl) (fun p en s m below meth c ls G hr hk hw hl => ?_)
  have hl : lv_has ls 4 [(0, .ref (E.1 9 0)), (1, .int a1), (2, .int a2)] := hl
  refine lv_aload_n G.1 G.2.1 dX10_poke_0 rfl (lv_at hl 0 rfl) ?_
  refine lv_iload_n G.1 G.2.1 dX10_poke_1 rfl (lv_at hl 1 rfl) ?_
  obtain ⟨z1, hcz1, hf⟩ := bd_some hf
  refine g_callV1 (As := [.int a1]) (rest := []) G hw (gA_mono hw.2.2.2.1.1) C_9 iC_9 mv_X10_158 (c_K_peek l D X E n a1 g z1 hcz1) hl.1 rfl rfl (Nat.le_of_ble_eq_true rfl) (Nat.le_of_ble_eq_true rfl) (Nat.le_of_ble_eq_true rfl) ⟨Nat.le_refl _, Nat.le_refl _⟩ dX10_poke_2 (fun H locs hw => ?_)
  refine lv_istore_n (lv' := [(3, .int z1), (0, .ref (E.1 9 0)), (1, .int a1), (2, .int a2)]) G.1 G.2.1 dX10_poke_5 rfl hl (by decide) rfl (fun ls hl => ?_)
  refine lv_aload_n G.1 G.2.1 dX10_poke_6 rfl (lv_at hl 1 rfl) ?_
  refine g_getC G hw C_9 iC_9 3 2 rfl (by decide) rfl fl_X10_35 dX10_poke_7 ?_
  refine g_getC G hw C_2 iC_2 1 29 rfl (by decide) rfl fl_X10_161 dX10_poke_10 ?_
  refine lv_iload_n G.1 G.2.1 dX10_poke_13 rfl (lv_at hl 2 rfl) ?_
  refine lv_iload_n G.1 G.2.1 dX10_poke_14 rfl (lv_at hl 3 rfl) ?_
  obtain ⟨j2, hj2, hf⟩ := bd_some hf
  obtain ⟨g3, eg3, hf⟩ := lt9_some hf
  refine g_iast G hw iC_29 (by decide) rfl hj2 dX10_poke_15 (fun H locs hw => ?_)
  rw [← eg3] at hw
  refine lv_iload_n G.1 G.2.1 dX10_poke_16 rfl (lv_at hl 0 rfl) ?_
  exact g_iretW G hr hk hf hw dX10_poke_17

def K_run (n : Nat) (a1 : Int32) (g : Mem) : Option (Int32 × Mem) :=
if a1 < 0 then (
none)
else (
if a1 ≤ (5000 : Int32) then (
(Mc_advance n a1 g).bind fun z1 =>
some (z1.1, z1.2))
else (
none))
set_option maxHeartbeats 4000000 in
set_option maxRecDepth 100000 in
theorem c_K_run (l : Launch) (D : va_G) (X : va_W) (E : gE) (n : Nat) (a1 : Int32) (g : Mem) (r : Int32) (g' : Mem) (hf : K_run n a1 g = some (r, g')) : gMet l yX10_run cX10_run 2 (some .int) 5 111 D X idsC E [.ref (E.1 9 0), .int a1] g (some (.int r)) g' := by
  rw [K_run] at hf
  refine gt_code (by decide) (Nat.le_of_ble_eq_true rfl) (fun p en s m below meth c ls G hr hk hw hl => ?_)
  have hl : lv_has ls 2 [(0, .ref (E.1 9 0)), (1, .int a1)] := hl
  refine lv_iload_n G.1 G.2.1 dX10_run_0 rfl (lv_at hl 1 rfl) ?_
  refine lv_if_lt (tgt := 11) G.1 G.2.1 dX10_run_1 (by decide) (fun hc1 => ?_) (fun hc1 => ?_)
  · rw [if_pos hc1] at hf
    cases hf
  · rw [if_neg hc1] at hf
    refine lv_iload_n G.1 G.2.1 dX10_run_4 rfl (lv_at hl 1 rfl) ?_
    refine lv_sipush (v := (5000 : Int32)) G.1 G.2.1 dX10_run_5 (by decide) ?_
    refine lv_icmp_le (tgt := 19) G.1 G.2.1 dX10_run_8 (by decide) (fun hc8 => ?_) (fun hc8 => ?_)
    · rw [if_pos hc8] at hf
      refine lv_aload_n G.1 G.2.1 dX10_run_19 rfl (lv_at hl 0 rfl) ?_
      refine g_getC G hw C_9 iC_9 3 2 rfl (by decide) rfl fl_X10_35 dX10_run_20 ?_
      refine lv_iload_n G.1 G.2.1 dX10_run_23 rfl (lv_at hl 1 rfl) ?_
      obtain ⟨z1, hcz1, hf⟩ := bd_some hf
      refine g_callV1 (As := [.int a1]) (rest := []) G hw (gA_mono hw.2.2.2.1.1) C_2 iC_2 mv_X10_164 (c_Mc_advance l D X E n a1 g z1.1 z1.2 hcz1) hl.1 rfl rfl (Nat.le_of_ble_eq_true rfl) (Nat.le_of_ble_eq_true rfl) (Nat.le_of_ble_eq_true rfl) ⟨Nat.le_refl _, Nat.le_refl _⟩ dX10_run_24 (fun H locs hw => ?_)
      exact g_iretW G hr hk hf hw dX10_run_27
    · rw [if_neg hc8] at hf
      cases hf
