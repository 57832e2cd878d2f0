/-! the law's cases (their walks printed by program) -/
theorem cl_L_51 : Cond.constantLong RL 51 (4294967295 : Int64) ∈ gtbl := gt_in 1457 (by decide +kernel) (by decide +kernel)
theorem mv_L_102 : gV RL 102 RX11 yX11_poke cX11_poke 4 (some .int) 2 := ⟨gt_in 1425 (by decide +kernel) (by decide +kernel), gt_in 1426 (by decide +kernel) (by decide +kernel), gt_in 1427 (by decide +kernel) (by decide +kernel), gt_in 99 (by decide +kernel) (by decide +kernel), gt_in 1428 (by decide +kernel) (by decide +kernel), rfl, by decide +kernel, by decide +kernel, by decide +kernel⟩
theorem mv_L_105 : gV RL 105 RX11 yX11_peek cX11_peek 2 (some .int) 1 := ⟨gt_in 1429 (by decide +kernel) (by decide +kernel), gt_in 1430 (by decide +kernel) (by decide +kernel), gt_in 1431 (by decide +kernel) (by decide +kernel), gt_in 99 (by decide +kernel) (by decide +kernel), gt_in 1432 (by decide +kernel) (by decide +kernel), rfl, by decide +kernel, by decide +kernel, by decide +kernel⟩
theorem mv_L_106 : gV RL 106 RX10 yX10_restart cX10_restart 1 none 0 := ⟨gt_in 804 (by decide +kernel) (by decide +kernel), gt_in 805 (by decide +kernel) (by decide +kernel), gt_in 806 (by decide +kernel) (by decide +kernel), gt_in 89 (by decide +kernel) (by decide +kernel), gt_in 807 (by decide +kernel) (by decide +kernel), rfl, by decide +kernel, by decide +kernel, by decide +kernel⟩
theorem mv_L_109 : gV RL 109 RX11 yX11_restart cX11_restart 1 none 0 := ⟨gt_in 1433 (by decide +kernel) (by decide +kernel), gt_in 1434 (by decide +kernel) (by decide +kernel), gt_in 1435 (by decide +kernel) (by decide +kernel), gt_in 99 (by decide +kernel) (by decide +kernel), gt_in 1436 (by decide +kernel) (by decide +kernel), rfl, by decide +kernel, by decide +kernel, by decide +kernel⟩
theorem mv_L_112 : gV RL 112 RX11 yX11_run cX11_run 4 (some .int) 1 := ⟨gt_in 1437 (by decide +kernel) (by decide +kernel), gt_in 1438 (by decide +kernel) (by decide +kernel), gt_in 1439 (by decide +kernel) (by decide +kernel), gt_in 99 (by decide +kernel) (by decide +kernel), gt_in 1440 (by decide +kernel) (by decide +kernel), rfl, by decide +kernel, by decide +kernel, by decide +kernel⟩
theorem mv_L_113 : gV RL 113 RX10 yX10_at cX10_at 1 (some .int) 0 := ⟨gt_in 808 (by decide +kernel) (by decide +kernel), gt_in 809 (by decide +kernel) (by decide +kernel), gt_in 810 (by decide +kernel) (by decide +kernel), gt_in 89 (by decide +kernel) (by decide +kernel), gt_in 811 (by decide +kernel) (by decide +kernel), rfl, by decide +kernel, by decide +kernel, by decide +kernel⟩
theorem mv_L_116 : gV RL 116 RX11 yX11_at cX11_at 1 (some .int) 0 := ⟨gt_in 1449 (by decide +kernel) (by decide +kernel), gt_in 1450 (by decide +kernel) (by decide +kernel), gt_in 1451 (by decide +kernel) (by decide +kernel), gt_in 99 (by decide +kernel) (by decide +kernel), gt_in 1452 (by decide +kernel) (by decide +kernel), rfl, by decide +kernel, by decide +kernel, by decide +kernel⟩
theorem mv_L_117 : gV RL 117 RX10 yX10_cycles cX10_cycles 1 (some .long) 0 := ⟨gt_in 812 (by decide +kernel) (by decide +kernel), gt_in 813 (by decide +kernel) (by decide +kernel), gt_in 814 (by decide +kernel) (by decide +kernel), gt_in 89 (by decide +kernel) (by decide +kernel), gt_in 815 (by decide +kernel) (by decide +kernel), rfl, by decide +kernel, by decide +kernel, by decide +kernel⟩
theorem mv_L_121 : gV RL 121 RX11 yX11_cycles cX11_cycles 1 (some .long) 0 := ⟨gt_in 1453 (by decide +kernel) (by decide +kernel), gt_in 1454 (by decide +kernel) (by decide +kernel), gt_in 1455 (by decide +kernel) (by decide +kernel), gt_in 99 (by decide +kernel) (by decide +kernel), gt_in 1456 (by decide +kernel) (by decide +kernel), rfl, by decide +kernel, by decide +kernel, by decide +kernel⟩
theorem mv_L_58 : gV RL 58 RX11 yX11_feed cX11_feed 5 (some .int) 2 := ⟨gt_in 1267 (by decide +kernel) (by decide +kernel), gt_in 1268 (by decide +kernel) (by decide +kernel), gt_in 1269 (by decide +kernel) (by decide +kernel), gt_in 99 (by decide +kernel) (by decide +kernel), gt_in 1270 (by decide +kernel) (by decide +kernel), rfl, by decide +kernel, by decide +kernel, by decide +kernel⟩
theorem mv_L_59 : gV RL 59 RX11 yX11_thrown cX11_thrown 1 (some .int) 0 := ⟨gt_in 1263 (by decide +kernel) (by decide +kernel), gt_in 1264 (by decide +kernel) (by decide +kernel), gt_in 1265 (by decide +kernel) (by decide +kernel), gt_in 99 (by decide +kernel) (by decide +kernel), gt_in 1266 (by decide +kernel) (by decide +kernel), rfl, by decide +kernel, by decide +kernel, by decide +kernel⟩
theorem mv_L_63 : gV RL 63 RX10 yX10_wipe cX10_wipe 1 (some .int) 0 := ⟨gt_in 441 (by decide +kernel) (by decide +kernel), gt_in 442 (by decide +kernel) (by decide +kernel), gt_in 443 (by decide +kernel) (by decide +kernel), gt_in 89 (by decide +kernel) (by decide +kernel), gt_in 444 (by decide +kernel) (by decide +kernel), rfl, by decide +kernel, by decide +kernel, by decide +kernel⟩
theorem mv_L_66 : gV RL 66 RX11 yX11_wipe cX11_wipe 2 (some .int) 0 := ⟨gt_in 1272 (by decide +kernel) (by decide +kernel), gt_in 1273 (by decide +kernel) (by decide +kernel), gt_in 1274 (by decide +kernel) (by decide +kernel), gt_in 99 (by decide +kernel) (by decide +kernel), gt_in 1275 (by decide +kernel) (by decide +kernel), rfl, by decide +kernel, by decide +kernel, by decide +kernel⟩
theorem mv_L_70 : gV RL 70 RX11 yX11_units cX11_units 4 none 3 := ⟨gt_in 1401 (by decide +kernel) (by decide +kernel), gt_in 1402 (by decide +kernel) (by decide +kernel), gt_in 1403 (by decide +kernel) (by decide +kernel), gt_in 99 (by decide +kernel) (by decide +kernel), gt_in 1404 (by decide +kernel) (by decide +kernel), rfl, by decide +kernel, by decide +kernel, by decide +kernel⟩
theorem mv_L_71 : gV RL 71 RX10 yX10_compile cX10_compile 2 (some .int) 0 := ⟨gt_in 449 (by decide +kernel) (by decide +kernel), gt_in 450 (by decide +kernel) (by decide +kernel), gt_in 451 (by decide +kernel) (by decide +kernel), gt_in 89 (by decide +kernel) (by decide +kernel), gt_in 452 (by decide +kernel) (by decide +kernel), rfl, by decide +kernel, by decide +kernel, by decide +kernel⟩
theorem mv_L_74 : gV RL 74 RX11 yX11_compile cX11_compile 1 (some .int) 0 := ⟨gt_in 1276 (by decide +kernel) (by decide +kernel), gt_in 1277 (by decide +kernel) (by decide +kernel), gt_in 1278 (by decide +kernel) (by decide +kernel), gt_in 99 (by decide +kernel) (by decide +kernel), gt_in 1279 (by decide +kernel) (by decide +kernel), rfl, by decide +kernel, by decide +kernel, by decide +kernel⟩
theorem mv_L_75 : gV RL 75 RX10 yX10_fault cX10_fault 1 (some .int) 0 := ⟨gt_in 796 (by decide +kernel) (by decide +kernel), gt_in 797 (by decide +kernel) (by decide +kernel), gt_in 798 (by decide +kernel) (by decide +kernel), gt_in 89 (by decide +kernel) (by decide +kernel), gt_in 799 (by decide +kernel) (by decide +kernel), rfl, by decide +kernel, by decide +kernel, by decide +kernel⟩
theorem mv_L_78 : gV RL 78 RX11 yX11_fault cX11_fault 1 (some .int) 0 := ⟨gt_in 1393 (by decide +kernel) (by decide +kernel), gt_in 1394 (by decide +kernel) (by decide +kernel), gt_in 1395 (by decide +kernel) (by decide +kernel), gt_in 99 (by decide +kernel) (by decide +kernel), gt_in 1396 (by decide +kernel) (by decide +kernel), rfl, by decide +kernel, by decide +kernel, by decide +kernel⟩
theorem mv_L_79 : gV RL 79 RX10 yX10_place cX10_place 1 (some .int) 0 := ⟨gt_in 800 (by decide +kernel) (by decide +kernel), gt_in 801 (by decide +kernel) (by decide +kernel), gt_in 802 (by decide +kernel) (by decide +kernel), gt_in 89 (by decide +kernel) (by decide +kernel), gt_in 803 (by decide +kernel) (by decide +kernel), rfl, by decide +kernel, by decide +kernel, by decide +kernel⟩
theorem mv_L_82 : gV RL 82 RX11 yX11_place cX11_place 1 (some .int) 0 := ⟨gt_in 1397 (by decide +kernel) (by decide +kernel), gt_in 1398 (by decide +kernel) (by decide +kernel), gt_in 1399 (by decide +kernel) (by decide +kernel), gt_in 99 (by decide +kernel) (by decide +kernel), gt_in 1400 (by decide +kernel) (by decide +kernel), rfl, by decide +kernel, by decide +kernel, by decide +kernel⟩
theorem mv_L_86 : gV RL 86 RX11 yX11_told cX11_told 6 (some .int) 1 := ⟨gt_in 1405 (by decide +kernel) (by decide +kernel), gt_in 1406 (by decide +kernel) (by decide +kernel), gt_in 1407 (by decide +kernel) (by decide +kernel), gt_in 99 (by decide +kernel) (by decide +kernel), gt_in 1408 (by decide +kernel) (by decide +kernel), rfl, by decide +kernel, by decide +kernel, by decide +kernel⟩
theorem mv_L_90 : gV RL 90 RX11 yX11_block cX11_block 4 (some .int) 2 := ⟨gt_in 1409 (by decide +kernel) (by decide +kernel), gt_in 1410 (by decide +kernel) (by decide +kernel), gt_in 1411 (by decide +kernel) (by decide +kernel), gt_in 99 (by decide +kernel) (by decide +kernel), gt_in 1412 (by decide +kernel) (by decide +kernel), rfl, by decide +kernel, by decide +kernel, by decide +kernel⟩
theorem mv_L_93 : gV RL 93 RX11 yX11_operation cX11_operation 3 (some .int) 2 := ⟨gt_in 1413 (by decide +kernel) (by decide +kernel), gt_in 1414 (by decide +kernel) (by decide +kernel), gt_in 1415 (by decide +kernel) (by decide +kernel), gt_in 99 (by decide +kernel) (by decide +kernel), gt_in 1416 (by decide +kernel) (by decide +kernel), rfl, by decide +kernel, by decide +kernel, by decide +kernel⟩
theorem mv_L_96 : gV RL 96 RX11 yX11_set cX11_set 4 (some .int) 2 := ⟨gt_in 1417 (by decide +kernel) (by decide +kernel), gt_in 1418 (by decide +kernel) (by decide +kernel), gt_in 1419 (by decide +kernel) (by decide +kernel), gt_in 99 (by decide +kernel) (by decide +kernel), gt_in 1420 (by decide +kernel) (by decide +kernel), rfl, by decide +kernel, by decide +kernel, by decide +kernel⟩
theorem mv_L_99 : gV RL 99 RX11 yX11_get cX11_get 2 (some .int) 1 := ⟨gt_in 1421 (by decide +kernel) (by decide +kernel), gt_in 1422 (by decide +kernel) (by decide +kernel), gt_in 1423 (by decide +kernel) (by decide +kernel), gt_in 99 (by decide +kernel) (by decide +kernel), gt_in 1424 (by decide +kernel) (by decide +kernel), rfl, by decide +kernel, by decide +kernel, by decide +kernel⟩
theorem mw_L_100 : gSW RL 100 yL_poke cL_poke 5 [(0, 10, 13, 27)] 4 := ⟨gt_in 969 (by decide +kernel) (by decide +kernel), gt_in 970 (by decide +kernel) (by decide +kernel), gt_in 88 (by decide +kernel) (by decide +kernel), gt_in 971 (by decide +kernel) (by decide +kernel), by decide +kernel, by decide +kernel, by decide +kernel⟩
theorem mw_L_103 : gSW RL 103 yL_peek cL_peek 4 [(0, 9, 12, 27)] 3 := ⟨gt_in 980 (by decide +kernel) (by decide +kernel), gt_in 981 (by decide +kernel) (by decide +kernel), gt_in 88 (by decide +kernel) (by decide +kernel), gt_in 982 (by decide +kernel) (by decide +kernel), by decide +kernel, by decide +kernel, by decide +kernel⟩
theorem mw_L_110 : gSW RL 110 yL_run cL_run 4 [(0, 9, 12, 13)] 3 := ⟨gt_in 984 (by decide +kernel) (by decide +kernel), gt_in 985 (by decide +kernel) (by decide +kernel), gt_in 88 (by decide +kernel) (by decide +kernel), gt_in 986 (by decide +kernel) (by decide +kernel), by decide +kernel, by decide +kernel, by decide +kernel⟩
theorem mw_L_53 : gSW RL 53 yL_feed cL_feed 6 [(0, 11, 14, 13)] 4 := ⟨gt_in 816 (by decide +kernel) (by decide +kernel), gt_in 817 (by decide +kernel) (by decide +kernel), gt_in 88 (by decide +kernel) (by decide +kernel), gt_in 818 (by decide +kernel) (by decide +kernel), by decide +kernel, by decide +kernel, by decide +kernel⟩
theorem mw_L_67 : gSW RL 67 yL_units cL_units 5 [(0, 7, 10, 13)] 4 := ⟨gt_in 890 (by decide +kernel) (by decide +kernel), gt_in 891 (by decide +kernel) (by decide +kernel), gt_in 88 (by decide +kernel) (by decide +kernel), gt_in 892 (by decide +kernel) (by decide +kernel), by decide +kernel, by decide +kernel, by decide +kernel⟩
theorem mw_L_83 : gSW RL 83 yL_told cL_told 4 [(0, 9, 12, 13)] 3 := ⟨gt_in 904 (by decide +kernel) (by decide +kernel), gt_in 905 (by decide +kernel) (by decide +kernel), gt_in 88 (by decide +kernel) (by decide +kernel), gt_in 906 (by decide +kernel) (by decide +kernel), by decide +kernel, by decide +kernel, by decide +kernel⟩
theorem mw_L_87 : gSW RL 87 yL_block cL_block 5 [(0, 10, 13, 27), (0, 10, 17, 13)] 4 := ⟨gt_in 924 (by decide +kernel) (by decide +kernel), gt_in 925 (by decide +kernel) (by decide +kernel), gt_in 88 (by decide +kernel) (by decide +kernel), gt_in 926 (by decide +kernel) (by decide +kernel), by decide +kernel, by decide +kernel, by decide +kernel⟩
theorem mw_L_91 : gSW RL 91 yL_operation cL_operation 5 [(0, 10, 13, 27), (0, 10, 17, 13)] 4 := ⟨gt_in 947 (by decide +kernel) (by decide +kernel), gt_in 948 (by decide +kernel) (by decide +kernel), gt_in 88 (by decide +kernel) (by decide +kernel), gt_in 949 (by decide +kernel) (by decide +kernel), by decide +kernel, by decide +kernel, by decide +kernel⟩
theorem mw_L_94 : gSW RL 94 yL_set cL_set 5 [(0, 10, 13, 27)] 4 := ⟨gt_in 954 (by decide +kernel) (by decide +kernel), gt_in 955 (by decide +kernel) (by decide +kernel), gt_in 88 (by decide +kernel) (by decide +kernel), gt_in 956 (by decide +kernel) (by decide +kernel), by decide +kernel, by decide +kernel, by decide +kernel⟩
theorem mw_L_97 : gSW RL 97 yL_get cL_get 4 [(0, 9, 12, 27)] 3 := ⟨gt_in 965 (by decide +kernel) (by decide +kernel), gt_in 966 (by decide +kernel) (by decide +kernel), gt_in 88 (by decide +kernel) (by decide +kernel), gt_in 967 (by decide +kernel) (by decide +kernel), by decide +kernel, by decide +kernel, by decide +kernel⟩
def fr9 (s : State) : Nat → Prop := fun q => s.heap.size ≤ q
section LCASE
variable {p : Program} {l : Launch} {en : Env} {s : State} {m : MethodId} {below : List Frame} {meth : Method} {c : Code} {H : Heap} {locs : List Loc} {cells slots : Nat} {Q : State → Prop}
variable {ls : Array Slot} {D : va_G} {E : gE} {o b L : Nat} {xs : Nat → Int32} {f : Nat → Int64} {mm cm : Mem} {iv : Int32}
set_option maxHeartbeats 4000000 in
set_option maxRecDepth 100000 in
theorem lc_0 (hlf : l.stackTraces = false) (G : CallFix p m c cL_law 7 s #[.ref b] gtbl RL) (hX : va_X b L xs s s.heap) (hbl : b < s.heap.size) (hw : LWs D E (fr9 s) s o f mm cm H locs) (hI : INVL cm mm) (hl : lv_has ls 7 [(4, .int iv), (3, .ref o), (2, .ref (E.1 10 0)), (1, .ref (E.1 9 0)), (0, .ref b)]) (h1 : vp_in (iv + 1) L) (h2 : vp_in (iv + 2) L) (h3 : vp_in (iv + 3) L) (hcs : cells + 1 ≤ room_1.cells ∧ slots + 6 ≤ room_1.slots) (kk : ∀ (f2 : Nat → Int64) (m2 c2 : Mem) (H1 : Heap) (locs1 : List Loc) (ls1 : Array Slot), LWs D E (fr9 s) s o f2 m2 c2 H1 locs1 → INVL c2 m2 → lv_has ls1 7 [(4, .int iv), (3, .ref o), (2, .ref (E.1 10 0)), (1, .ref (E.1 9 0)), (0, .ref b)] → W p l en room_1 s m #[.ref b] below meth c H1 locs1 (cells + 1) (slots + 6) Q (F0 m 866 ls1 [])) : W p l en room_1 s m #[.ref b] below meth c H locs cells slots Q (F0 m 120 ls []) := by
  have hbA : ¬ fr9 s b := Nat.not_le.mpr hbl
  have hcs0 : cells ≤ room_1.cells ∧ slots ≤ room_1.slots := ⟨Nat.le_trans (Nat.le_add_right _ _) hcs.1, Nat.le_trans (Nat.le_add_right _ _) hcs.2⟩
  refine lv_aload_n G.1 G.2.1 dL_law_120 rfl (lv_at hl 3 rfl) ?_
  refine lv_aload_n G.1 G.2.1 dL_law_121 rfl (lv_at hl 4 rfl) ?_
  refine lv_iload G.1 G.2.1 dL_law_122 (lv_at hl 0 rfl) ?_
  refine lv_iconst (v := (1 : Int32)) G.1 G.2.1 dL_law_124 (by decide) ?_
  refine lv_iadd G.1 G.2.1 dL_law_125 ?_
  refine va_sld G.1 G.2.1 hX hbl hbA hw.2.2.2.1 h1 dL_law_126 ?_
  refine lv_aload_n G.1 G.2.1 dL_law_127 rfl (lv_at hl 4 rfl) ?_
  refine lv_iload G.1 G.2.1 dL_law_128 (lv_at hl 0 rfl) ?_
  refine lv_iconst (v := (2 : Int32)) G.1 G.2.1 dL_law_130 (by decide) ?_
  refine lv_iadd G.1 G.2.1 dL_law_131 ?_
  refine va_sld G.1 G.2.1 hX hbl hbA hw.2.2.2.1 h2 dL_law_132 ?_
  refine lv_i2l G.1 G.2.1 dL_law_133 rfl ?_
  refine lv_bipush (v := (32 : Int32)) G.1 G.2.1 dL_law_134 (by decide) ?_
  refine lv_lshl G.1 G.2.1 dL_law_136 rfl ?_
  refine lv_aload_n G.1 G.2.1 dL_law_137 rfl (lv_at hl 4 rfl) ?_
  refine lv_iload G.1 G.2.1 dL_law_138 (lv_at hl 0 rfl) ?_
  refine lv_iconst (v := (3 : Int32)) G.1 G.2.1 dL_law_140 (by decide) ?_
  refine lv_iadd G.1 G.2.1 dL_law_141 ?_
  refine va_sld G.1 G.2.1 hX hbl hbA hw.2.2.2.1 h3 dL_law_142 ?_
  refine lv_i2l G.1 G.2.1 dL_law_143 rfl ?_
  refine lv_ldc2 (v := (4294967295 : Int64)) G.1 G.2.1 G.2.2.2.1 (G.2.2.2.2 _ cl_L_51) dL_law_144 ?_
  refine lv_land G.1 G.2.1 dL_law_147 ?_
  refine lv_lor G.1 G.2.1 dL_law_148 ?_
  refine lv_aload_n G.1 G.2.1 dL_law_149 rfl (lv_at hl 1 rfl) ?_
  rcases i_feed (n := 6000) (by decide) (xs (iv + (1 : Int32)).toNatClampNeg) (((xs (iv + (2 : Int32)).toNatClampNeg).toInt64 <<< ((32 : Int32).toInt64 &&& 63)) ||| ((xs (iv + (3 : Int32)).toNatClampNeg).toInt64 &&& (4294967295 : Int64))) hI with ⟨r, c', m', e1, e2, e3, hI⟩ | ⟨e1, r, m', e2, e3, hI⟩
  · refine l_help (As := [.ref (E.1 9 0), .int (xs (iv + (1 : Int32)).toNatClampNeg), .long (((xs (iv + (2 : Int32)).toNatClampNeg).toInt64 <<< ((32 : Int32).toInt64 &&& 63)) ||| ((xs (iv + (3 : Int32)).toNatClampNeg).toInt64 &&& (4294967295 : Int64))), .ref o]) (rest := []) G hw mw_L_53 (h_feed l D (gws idsM E mm) o f E 6000 (xs (iv + (1 : Int32)).toNatClampNeg) (((xs (iv + (2 : Int32)).toNatClampNeg).toInt64 <<< ((32 : Int32).toInt64 &&& 63)) ||| ((xs (iv + (3 : Int32)).toNatClampNeg).toInt64 &&& (4294967295 : Int64))) cm r c' e1) hl.1 rfl rfl (Nat.le_of_ble_eq_true rfl) (Nat.le_of_ble_eq_true rfl) (Nat.le_of_ble_eq_true rfl) hcs dL_law_150 (fun H locs hw => ?_)
    refine lv_istore (lv' := [(5, .int 0), (4, .int iv), (3, .ref o), (2, .ref (E.1 10 0)), (1, .ref (E.1 9 0)), (0, .ref b)]) G.1 G.2.1 dL_law_153 hl (by decide) rfl (fun ls hl => ?_)
    refine lv_aload_n G.1 G.2.1 dL_law_155 rfl (lv_at hl 3 rfl) ?_
    refine lv_aload_n G.1 G.2.1 dL_law_156 rfl (lv_at hl 5 rfl) ?_
    refine lv_iload G.1 G.2.1 dL_law_157 (lv_at hl 1 rfl) ?_
    refine lv_iconst (v := (1 : Int32)) G.1 G.2.1 dL_law_159 (by decide) ?_
    refine lv_iadd G.1 G.2.1 dL_law_160 ?_
    refine va_sld G.1 G.2.1 hX hbl hbA hw.2.2.2.1 h1 dL_law_161 ?_
    refine lv_aload_n G.1 G.2.1 dL_law_162 rfl (lv_at hl 5 rfl) ?_
    refine lv_iload G.1 G.2.1 dL_law_163 (lv_at hl 1 rfl) ?_
    refine lv_iconst (v := (2 : Int32)) G.1 G.2.1 dL_law_165 (by decide) ?_
    refine lv_iadd G.1 G.2.1 dL_law_166 ?_
    refine va_sld G.1 G.2.1 hX hbl hbA hw.2.2.2.1 h2 dL_law_167 ?_
    refine lv_i2l G.1 G.2.1 dL_law_168 rfl ?_
    refine lv_bipush (v := (32 : Int32)) G.1 G.2.1 dL_law_169 (by decide) ?_
    refine lv_lshl G.1 G.2.1 dL_law_171 rfl ?_
    refine lv_aload_n G.1 G.2.1 dL_law_172 rfl (lv_at hl 5 rfl) ?_
    refine lv_iload G.1 G.2.1 dL_law_173 (lv_at hl 1 rfl) ?_
    refine lv_iconst (v := (3 : Int32)) G.1 G.2.1 dL_law_175 (by decide) ?_
    refine lv_iadd G.1 G.2.1 dL_law_176 ?_
    refine va_sld G.1 G.2.1 hX hbl hbA hw.2.2.2.1 h3 dL_law_177 ?_
    refine lv_i2l G.1 G.2.1 dL_law_178 rfl ?_
    refine lv_ldc2 (v := (4294967295 : Int64)) G.1 G.2.1 G.2.2.2.1 (G.2.2.2.2 _ cl_L_51) dL_law_179 ?_
    refine lv_land G.1 G.2.1 dL_law_182 ?_
    refine lv_lor G.1 G.2.1 dL_law_183 ?_
    refine l_M (As := [.int (xs (iv + (1 : Int32)).toNatClampNeg), .long (((xs (iv + (2 : Int32)).toNatClampNeg).toInt64 <<< ((32 : Int32).toInt64 &&& 63)) ||| ((xs (iv + (3 : Int32)).toNatClampNeg).toInt64 &&& (4294967295 : Int64)))]) (rest := []) G hw mv_L_58 (c_M_feed l D _ E 6000 (xs (iv + (1 : Int32)).toNatClampNeg) (((xs (iv + (2 : Int32)).toNatClampNeg).toInt64 <<< ((32 : Int32).toInt64 &&& 63)) ||| ((xs (iv + (3 : Int32)).toNatClampNeg).toInt64 &&& (4294967295 : Int64))) mm r m' e2) hl.1 rfl rfl (Nat.le_of_ble_eq_true rfl) (Nat.le_of_ble_eq_true rfl) (Nat.le_of_ble_eq_true rfl) hcs dL_law_184 (fun H locs hw => ?_)
    refine lv_istore (lv' := [(6, .int r), (5, .int 0), (4, .int iv), (3, .ref o), (2, .ref (E.1 10 0)), (1, .ref (E.1 9 0)), (0, .ref b)]) G.1 G.2.1 dL_law_187 hl (by decide) rfl (fun ls hl => ?_)
    exact l_tail (P := 189) (k := 0) (b6 := r) (iv := iv) (b := b) G hw hl e3 (fun _ => rfl) mv_L_59 ⟨(Nat.le_of_ble_eq_true rfl), (Nat.le_of_ble_eq_true rfl), hcs.1, hcs.2⟩ dL_law_189 dL_law_190 dL_law_193 dL_law_195 dL_law_200 dL_law_202 dL_law_205 dL_law_206 dL_law_207 dL_law_208 dL_law_210 dL_law_211 dL_law_212 dL_law_217 (by decide) (fun H locs hw => kk _ _ _ _ _ _ hw hI (lv_sub hl [2, 3, 4, 5, 6] rfl))
  · refine l_help (As := [.ref (E.1 9 0), .int (xs (iv + (1 : Int32)).toNatClampNeg), .long (((xs (iv + (2 : Int32)).toNatClampNeg).toInt64 <<< ((32 : Int32).toInt64 &&& 63)) ||| ((xs (iv + (3 : Int32)).toNatClampNeg).toInt64 &&& (4294967295 : Int64))), .ref o]) (rest := []) G hw mw_L_53 (h_feed_T1 l hlf D (gws idsM E mm) o f E 6000 (xs (iv + (1 : Int32)).toNatClampNeg) (((xs (iv + (2 : Int32)).toNatClampNeg).toInt64 <<< ((32 : Int32).toInt64 &&& 63)) ||| ((xs (iv + (3 : Int32)).toNatClampNeg).toInt64 &&& (4294967295 : Int64))) cm e1) hl.1 rfl rfl (Nat.le_of_ble_eq_true rfl) (Nat.le_of_ble_eq_true rfl) (Nat.le_of_ble_eq_true rfl) hcs dL_law_150 (fun H locs hw => ?_)
    refine lv_istore (lv' := [(5, .int 1), (4, .int iv), (3, .ref o), (2, .ref (E.1 10 0)), (1, .ref (E.1 9 0)), (0, .ref b)]) G.1 G.2.1 dL_law_153 hl (by decide) rfl (fun ls hl => ?_)
    refine lv_aload_n G.1 G.2.1 dL_law_155 rfl (lv_at hl 3 rfl) ?_
    refine lv_aload_n G.1 G.2.1 dL_law_156 rfl (lv_at hl 5 rfl) ?_
    refine lv_iload G.1 G.2.1 dL_law_157 (lv_at hl 1 rfl) ?_
    refine lv_iconst (v := (1 : Int32)) G.1 G.2.1 dL_law_159 (by decide) ?_
    refine lv_iadd G.1 G.2.1 dL_law_160 ?_
    refine va_sld G.1 G.2.1 hX hbl hbA hw.2.2.2.1 h1 dL_law_161 ?_
    refine lv_aload_n G.1 G.2.1 dL_law_162 rfl (lv_at hl 5 rfl) ?_
    refine lv_iload G.1 G.2.1 dL_law_163 (lv_at hl 1 rfl) ?_
    refine lv_iconst (v := (2 : Int32)) G.1 G.2.1 dL_law_165 (by decide) ?_
    refine lv_iadd G.1 G.2.1 dL_law_166 ?_
    refine va_sld G.1 G.2.1 hX hbl hbA hw.2.2.2.1 h2 dL_law_167 ?_
    refine lv_i2l G.1 G.2.1 dL_law_168 rfl ?_
    refine lv_bipush (v := (32 : Int32)) G.1 G.2.1 dL_law_169 (by decide) ?_
    refine lv_lshl G.1 G.2.1 dL_law_171 rfl ?_
    refine lv_aload_n G.1 G.2.1 dL_law_172 rfl (lv_at hl 5 rfl) ?_
    refine lv_iload G.1 G.2.1 dL_law_173 (lv_at hl 1 rfl) ?_
    refine lv_iconst (v := (3 : Int32)) G.1 G.2.1 dL_law_175 (by decide) ?_
    refine lv_iadd G.1 G.2.1 dL_law_176 ?_
    refine va_sld G.1 G.2.1 hX hbl hbA hw.2.2.2.1 h3 dL_law_177 ?_
    refine lv_i2l G.1 G.2.1 dL_law_178 rfl ?_
    refine lv_ldc2 (v := (4294967295 : Int64)) G.1 G.2.1 G.2.2.2.1 (G.2.2.2.2 _ cl_L_51) dL_law_179 ?_
    refine lv_land G.1 G.2.1 dL_law_182 ?_
    refine lv_lor G.1 G.2.1 dL_law_183 ?_
    refine l_M (As := [.int (xs (iv + (1 : Int32)).toNatClampNeg), .long (((xs (iv + (2 : Int32)).toNatClampNeg).toInt64 <<< ((32 : Int32).toInt64 &&& 63)) ||| ((xs (iv + (3 : Int32)).toNatClampNeg).toInt64 &&& (4294967295 : Int64)))]) (rest := []) G hw mv_L_58 (c_M_feed l D _ E 6000 (xs (iv + (1 : Int32)).toNatClampNeg) (((xs (iv + (2 : Int32)).toNatClampNeg).toInt64 <<< ((32 : Int32).toInt64 &&& 63)) ||| ((xs (iv + (3 : Int32)).toNatClampNeg).toInt64 &&& (4294967295 : Int64))) mm r m' e2) hl.1 rfl rfl (Nat.le_of_ble_eq_true rfl) (Nat.le_of_ble_eq_true rfl) (Nat.le_of_ble_eq_true rfl) hcs dL_law_184 (fun H locs hw => ?_)
    refine lv_istore (lv' := [(6, .int r), (5, .int 1), (4, .int iv), (3, .ref o), (2, .ref (E.1 10 0)), (1, .ref (E.1 9 0)), (0, .ref b)]) G.1 G.2.1 dL_law_187 hl (by decide) rfl (fun ls hl => ?_)
    exact l_tail (P := 189) (k := 1) (b6 := r) (iv := iv) (b := b) G hw hl e3 (fun h => absurd h (by decide)) mv_L_59 ⟨(Nat.le_of_ble_eq_true rfl), (Nat.le_of_ble_eq_true rfl), hcs.1, hcs.2⟩ dL_law_189 dL_law_190 dL_law_193 dL_law_195 dL_law_200 dL_law_202 dL_law_205 dL_law_206 dL_law_207 dL_law_208 dL_law_210 dL_law_211 dL_law_212 dL_law_217 (by decide) (fun H locs hw => kk _ _ _ _ _ _ hw hI (lv_sub hl [2, 3, 4, 5, 6] rfl))
set_option maxHeartbeats 4000000 in
set_option maxRecDepth 100000 in
theorem lc_1 (hlf : l.stackTraces = false) (G : CallFix p m c cL_law 7 s #[.ref b] gtbl RL) (hX : va_X b L xs s s.heap) (hbl : b < s.heap.size) (hw : LWs D E (fr9 s) s o f mm cm H locs) (hI : INVL cm mm) (hl : lv_has ls 7 [(4, .int iv), (3, .ref o), (2, .ref (E.1 10 0)), (1, .ref (E.1 9 0)), (0, .ref b)]) (h1 : vp_in (iv + 1) L) (h2 : vp_in (iv + 2) L) (h3 : vp_in (iv + 3) L) (hcs : cells + 1 ≤ room_1.cells ∧ slots + 6 ≤ room_1.slots) (kk : ∀ (f2 : Nat → Int64) (m2 c2 : Mem) (H1 : Heap) (locs1 : List Loc) (ls1 : Array Slot), LWs D E (fr9 s) s o f2 m2 c2 H1 locs1 → INVL c2 m2 → lv_has ls1 7 [(4, .int iv), (3, .ref o), (2, .ref (E.1 10 0)), (1, .ref (E.1 9 0)), (0, .ref b)] → W p l en room_1 s m #[.ref b] below meth c H1 locs1 (cells + 1) (slots + 6) Q (F0 m 866 ls1 [])) : W p l en room_1 s m #[.ref b] below meth c H locs cells slots Q (F0 m 220 ls []) := by
  have hbA : ¬ fr9 s b := Nat.not_le.mpr hbl
  have hcs0 : cells ≤ room_1.cells ∧ slots ≤ room_1.slots := ⟨Nat.le_trans (Nat.le_add_right _ _) hcs.1, Nat.le_trans (Nat.le_add_right _ _) hcs.2⟩
  obtain ⟨r, c', m', e1, e2, hI⟩ := i_wipe (n := 6000) hI
  refine lv_aload_n G.1 G.2.1 dL_law_220 rfl (lv_at hl 3 rfl) ?_
  refine l_C (As := []) (rest := []) G hw mv_L_63 (c_K_wipe l D (outC E o f :: gws idsM E mm) E 6000 cm r c' e1) hl.1 rfl rfl (Nat.le_of_ble_eq_true rfl) (Nat.le_of_ble_eq_true rfl) (Nat.le_of_ble_eq_true rfl) hcs0 dL_law_221 (fun H locs hw => ?_)
  refine lv_aload_n G.1 G.2.1 dL_law_224 rfl (lv_at hl 2 rfl) ?_
  refine l_M (As := []) (rest := [.int r]) G hw mv_L_66 (c_M_wipe l D (outC E o f :: gws idsC E c') E 6000 mm r m' e2) hl.1 rfl rfl (Nat.le_of_ble_eq_true rfl) (Nat.le_of_ble_eq_true rfl) (Nat.le_of_ble_eq_true rfl) hcs0 dL_law_225 (fun H locs hw => ?_)
  refine W.widen (k := cells + 1) (n := slots + 6) (Nat.le_add_right _ _) (Nat.le_add_right _ _) ?_
  exact lv_icmp_eq (tgt := 866) G.1 G.2.1 dL_law_228 (by decide) (fun _ => kk _ _ _ _ _ _ hw hI hl) (fun h => absurd rfl h)
set_option maxHeartbeats 4000000 in
set_option maxRecDepth 100000 in
theorem lc_2 (hlf : l.stackTraces = false) (G : CallFix p m c cL_law 7 s #[.ref b] gtbl RL) (hX : va_X b L xs s s.heap) (hbl : b < s.heap.size) (hw : LWs D E (fr9 s) s o f mm cm H locs) (hI : INVL cm mm) (hl : lv_has ls 7 [(4, .int iv), (3, .ref o), (2, .ref (E.1 10 0)), (1, .ref (E.1 9 0)), (0, .ref b)]) (h1 : vp_in (iv + 1) L) (h2 : vp_in (iv + 2) L) (h3 : vp_in (iv + 3) L) (hcs : cells + 1 ≤ room_1.cells ∧ slots + 6 ≤ room_1.slots) (kk : ∀ (f2 : Nat → Int64) (m2 c2 : Mem) (H1 : Heap) (locs1 : List Loc) (ls1 : Array Slot), LWs D E (fr9 s) s o f2 m2 c2 H1 locs1 → INVL c2 m2 → lv_has ls1 7 [(4, .int iv), (3, .ref o), (2, .ref (E.1 10 0)), (1, .ref (E.1 9 0)), (0, .ref b)] → W p l en room_1 s m #[.ref b] below meth c H1 locs1 (cells + 1) (slots + 6) Q (F0 m 866 ls1 [])) : W p l en room_1 s m #[.ref b] below meth c H locs cells slots Q (F0 m 233 ls []) := by
  have hbA : ¬ fr9 s b := Nat.not_le.mpr hbl
  have hcs0 : cells ≤ room_1.cells ∧ slots ≤ room_1.slots := ⟨Nat.le_trans (Nat.le_add_right _ _) hcs.1, Nat.le_trans (Nat.le_add_right _ _) hcs.2⟩
  refine lv_aload_n G.1 G.2.1 dL_law_233 rfl (lv_at hl 3 rfl) ?_
  refine lv_aload_n G.1 G.2.1 dL_law_234 rfl (lv_at hl 4 rfl) ?_
  refine lv_iload G.1 G.2.1 dL_law_235 (lv_at hl 0 rfl) ?_
  refine lv_iconst (v := (1 : Int32)) G.1 G.2.1 dL_law_237 (by decide) ?_
  refine lv_iadd G.1 G.2.1 dL_law_238 ?_
  refine va_sld G.1 G.2.1 hX hbl hbA hw.2.2.2.1 h1 dL_law_239 ?_
  refine lv_aload_n G.1 G.2.1 dL_law_240 rfl (lv_at hl 4 rfl) ?_
  refine lv_iload G.1 G.2.1 dL_law_241 (lv_at hl 0 rfl) ?_
  refine lv_iconst (v := (2 : Int32)) G.1 G.2.1 dL_law_243 (by decide) ?_
  refine lv_iadd G.1 G.2.1 dL_law_244 ?_
  refine va_sld G.1 G.2.1 hX hbl hbA hw.2.2.2.1 h2 dL_law_245 ?_
  refine lv_aload_n G.1 G.2.1 dL_law_246 rfl (lv_at hl 4 rfl) ?_
  refine lv_iload G.1 G.2.1 dL_law_247 (lv_at hl 0 rfl) ?_
  refine lv_iconst (v := (3 : Int32)) G.1 G.2.1 dL_law_249 (by decide) ?_
  refine lv_iadd G.1 G.2.1 dL_law_250 ?_
  refine va_sld G.1 G.2.1 hX hbl hbA hw.2.2.2.1 h3 dL_law_251 ?_
  rcases i_units (n := 6000) (by decide) (xs (iv + (1 : Int32)).toNatClampNeg) (xs (iv + (2 : Int32)).toNatClampNeg) (xs (iv + (3 : Int32)).toNatClampNeg) hI with ⟨c', m', e1, e2, e3, hI⟩ | ⟨e1, m', e2, e3, hI⟩
  · refine l_help (As := [.ref (E.1 9 0), .int (xs (iv + (1 : Int32)).toNatClampNeg), .int (xs (iv + (2 : Int32)).toNatClampNeg), .int (xs (iv + (3 : Int32)).toNatClampNeg)]) (rest := []) G hw mw_L_67 (h_units l D (outC E o f :: gws idsM E mm) E 6000 (xs (iv + (1 : Int32)).toNatClampNeg) (xs (iv + (2 : Int32)).toNatClampNeg) (xs (iv + (3 : Int32)).toNatClampNeg) cm c' e1) hl.1 rfl rfl (Nat.le_of_ble_eq_true rfl) (Nat.le_of_ble_eq_true rfl) (Nat.le_of_ble_eq_true rfl) hcs dL_law_252 (fun H locs hw => ?_)
    refine lv_istore (lv' := [(5, .int 0), (4, .int iv), (3, .ref o), (2, .ref (E.1 10 0)), (1, .ref (E.1 9 0)), (0, .ref b)]) G.1 G.2.1 dL_law_255 hl (by decide) rfl (fun ls hl => ?_)
    refine lv_aload_n G.1 G.2.1 dL_law_257 rfl (lv_at hl 3 rfl) ?_
    refine lv_aload_n G.1 G.2.1 dL_law_258 rfl (lv_at hl 5 rfl) ?_
    refine lv_iload G.1 G.2.1 dL_law_259 (lv_at hl 1 rfl) ?_
    refine lv_iconst (v := (1 : Int32)) G.1 G.2.1 dL_law_261 (by decide) ?_
    refine lv_iadd G.1 G.2.1 dL_law_262 ?_
    refine va_sld G.1 G.2.1 hX hbl hbA hw.2.2.2.1 h1 dL_law_263 ?_
    refine lv_aload_n G.1 G.2.1 dL_law_264 rfl (lv_at hl 5 rfl) ?_
    refine lv_iload G.1 G.2.1 dL_law_265 (lv_at hl 1 rfl) ?_
    refine lv_iconst (v := (2 : Int32)) G.1 G.2.1 dL_law_267 (by decide) ?_
    refine lv_iadd G.1 G.2.1 dL_law_268 ?_
    refine va_sld G.1 G.2.1 hX hbl hbA hw.2.2.2.1 h2 dL_law_269 ?_
    refine lv_aload_n G.1 G.2.1 dL_law_270 rfl (lv_at hl 5 rfl) ?_
    refine lv_iload G.1 G.2.1 dL_law_271 (lv_at hl 1 rfl) ?_
    refine lv_iconst (v := (3 : Int32)) G.1 G.2.1 dL_law_273 (by decide) ?_
    refine lv_iadd G.1 G.2.1 dL_law_274 ?_
    refine va_sld G.1 G.2.1 hX hbl hbA hw.2.2.2.1 h3 dL_law_275 ?_
    refine l_M (As := [.int (xs (iv + (1 : Int32)).toNatClampNeg), .int (xs (iv + (2 : Int32)).toNatClampNeg), .int (xs (iv + (3 : Int32)).toNatClampNeg)]) (rest := []) G hw mv_L_70 (c_M_units l D _ E 6000 (xs (iv + (1 : Int32)).toNatClampNeg) (xs (iv + (2 : Int32)).toNatClampNeg) (xs (iv + (3 : Int32)).toNatClampNeg) mm m' e2) hl.1 rfl rfl (Nat.le_of_ble_eq_true rfl) (Nat.le_of_ble_eq_true rfl) (Nat.le_of_ble_eq_true rfl) hcs dL_law_276 (fun H locs hw => ?_)
    refine lv_aload_n G.1 G.2.1 dL_law_279 rfl (lv_at hl 3 rfl) ?_
    refine l_M (As := []) (rest := []) G hw mv_L_59 (c_M_thrown l D _ E 0 m' 0 (by rw [M_thrown, e3])) hl.1 rfl rfl (Nat.le_of_ble_eq_true rfl) (Nat.le_of_ble_eq_true rfl) (Nat.le_of_ble_eq_true rfl) hcs dL_law_280 (fun H locs hw => ?_)
    refine lv_iload G.1 G.2.1 dL_law_283 (lv_at hl 0 rfl) ?_
    exact lv_icmp_eq (tgt := 290) G.1 G.2.1 dL_law_285 (by decide) (fun _ => lv_goto (tgt := 866) G.1 G.2.1 dL_law_290 (by decide) (kk _ _ _ _ _ _ hw hI (lv_sub hl [1, 2, 3, 4, 5] rfl))) (fun h => absurd rfl h)
  · refine l_help (As := [.ref (E.1 9 0), .int (xs (iv + (1 : Int32)).toNatClampNeg), .int (xs (iv + (2 : Int32)).toNatClampNeg), .int (xs (iv + (3 : Int32)).toNatClampNeg)]) (rest := []) G hw mw_L_67 (h_units_T1 l hlf D (outC E o f :: gws idsM E mm) E 6000 (xs (iv + (1 : Int32)).toNatClampNeg) (xs (iv + (2 : Int32)).toNatClampNeg) (xs (iv + (3 : Int32)).toNatClampNeg) cm e1) hl.1 rfl rfl (Nat.le_of_ble_eq_true rfl) (Nat.le_of_ble_eq_true rfl) (Nat.le_of_ble_eq_true rfl) hcs dL_law_252 (fun H locs hw => ?_)
    refine lv_istore (lv' := [(5, .int 1), (4, .int iv), (3, .ref o), (2, .ref (E.1 10 0)), (1, .ref (E.1 9 0)), (0, .ref b)]) G.1 G.2.1 dL_law_255 hl (by decide) rfl (fun ls hl => ?_)
    refine lv_aload_n G.1 G.2.1 dL_law_257 rfl (lv_at hl 3 rfl) ?_
    refine lv_aload_n G.1 G.2.1 dL_law_258 rfl (lv_at hl 5 rfl) ?_
    refine lv_iload G.1 G.2.1 dL_law_259 (lv_at hl 1 rfl) ?_
    refine lv_iconst (v := (1 : Int32)) G.1 G.2.1 dL_law_261 (by decide) ?_
    refine lv_iadd G.1 G.2.1 dL_law_262 ?_
    refine va_sld G.1 G.2.1 hX hbl hbA hw.2.2.2.1 h1 dL_law_263 ?_
    refine lv_aload_n G.1 G.2.1 dL_law_264 rfl (lv_at hl 5 rfl) ?_
    refine lv_iload G.1 G.2.1 dL_law_265 (lv_at hl 1 rfl) ?_
    refine lv_iconst (v := (2 : Int32)) G.1 G.2.1 dL_law_267 (by decide) ?_
    refine lv_iadd G.1 G.2.1 dL_law_268 ?_
    refine va_sld G.1 G.2.1 hX hbl hbA hw.2.2.2.1 h2 dL_law_269 ?_
    refine lv_aload_n G.1 G.2.1 dL_law_270 rfl (lv_at hl 5 rfl) ?_
    refine lv_iload G.1 G.2.1 dL_law_271 (lv_at hl 1 rfl) ?_
    refine lv_iconst (v := (3 : Int32)) G.1 G.2.1 dL_law_273 (by decide) ?_
    refine lv_iadd G.1 G.2.1 dL_law_274 ?_
    refine va_sld G.1 G.2.1 hX hbl hbA hw.2.2.2.1 h3 dL_law_275 ?_
    refine l_M (As := [.int (xs (iv + (1 : Int32)).toNatClampNeg), .int (xs (iv + (2 : Int32)).toNatClampNeg), .int (xs (iv + (3 : Int32)).toNatClampNeg)]) (rest := []) G hw mv_L_70 (c_M_units l D _ E 6000 (xs (iv + (1 : Int32)).toNatClampNeg) (xs (iv + (2 : Int32)).toNatClampNeg) (xs (iv + (3 : Int32)).toNatClampNeg) mm m' e2) hl.1 rfl rfl (Nat.le_of_ble_eq_true rfl) (Nat.le_of_ble_eq_true rfl) (Nat.le_of_ble_eq_true rfl) hcs dL_law_276 (fun H locs hw => ?_)
    refine lv_aload_n G.1 G.2.1 dL_law_279 rfl (lv_at hl 3 rfl) ?_
    refine l_M (As := []) (rest := []) G hw mv_L_59 (c_M_thrown l D _ E 0 m' 1 (by rw [M_thrown, e3])) hl.1 rfl rfl (Nat.le_of_ble_eq_true rfl) (Nat.le_of_ble_eq_true rfl) (Nat.le_of_ble_eq_true rfl) hcs dL_law_280 (fun H locs hw => ?_)
    refine lv_iload G.1 G.2.1 dL_law_283 (lv_at hl 0 rfl) ?_
    exact lv_icmp_eq (tgt := 290) G.1 G.2.1 dL_law_285 (by decide) (fun _ => lv_goto (tgt := 866) G.1 G.2.1 dL_law_290 (by decide) (kk _ _ _ _ _ _ hw hI (lv_sub hl [1, 2, 3, 4, 5] rfl))) (fun h => absurd rfl h)
set_option maxHeartbeats 4000000 in
set_option maxRecDepth 100000 in
theorem lc_3 (hlf : l.stackTraces = false) (G : CallFix p m c cL_law 7 s #[.ref b] gtbl RL) (hX : va_X b L xs s s.heap) (hbl : b < s.heap.size) (hw : LWs D E (fr9 s) s o f mm cm H locs) (hI : INVL cm mm) (hl : lv_has ls 7 [(4, .int iv), (3, .ref o), (2, .ref (E.1 10 0)), (1, .ref (E.1 9 0)), (0, .ref b)]) (h1 : vp_in (iv + 1) L) (h2 : vp_in (iv + 2) L) (h3 : vp_in (iv + 3) L) (hcs : cells + 1 ≤ room_1.cells ∧ slots + 6 ≤ room_1.slots) (kk : ∀ (f2 : Nat → Int64) (m2 c2 : Mem) (H1 : Heap) (locs1 : List Loc) (ls1 : Array Slot), LWs D E (fr9 s) s o f2 m2 c2 H1 locs1 → INVL c2 m2 → lv_has ls1 7 [(4, .int iv), (3, .ref o), (2, .ref (E.1 10 0)), (1, .ref (E.1 9 0)), (0, .ref b)] → W p l en room_1 s m #[.ref b] below meth c H1 locs1 (cells + 1) (slots + 6) Q (F0 m 866 ls1 [])) : W p l en room_1 s m #[.ref b] below meth c H locs cells slots Q (F0 m 293 ls []) := by
  have hbA : ¬ fr9 s b := Nat.not_le.mpr hbl
  have hcs0 : cells ≤ room_1.cells ∧ slots ≤ room_1.slots := ⟨Nat.le_trans (Nat.le_add_right _ _) hcs.1, Nat.le_trans (Nat.le_add_right _ _) hcs.2⟩
  obtain ⟨r, c', m', e1, e2, hI⟩ := j_compile (n := 6000) (by decide) hI
  refine lv_aload_n G.1 G.2.1 dL_law_293 rfl (lv_at hl 3 rfl) ?_
  refine l_C (As := []) (rest := []) G hw mv_L_71 (c_K_compile l D (outC E o f :: gws idsM E mm) E 6000 cm r c' e1) hl.1 rfl rfl (Nat.le_of_ble_eq_true rfl) (Nat.le_of_ble_eq_true rfl) (Nat.le_of_ble_eq_true rfl) hcs0 dL_law_294 (fun H locs hw => ?_)
  refine lv_aload_n G.1 G.2.1 dL_law_297 rfl (lv_at hl 2 rfl) ?_
  refine l_M (As := []) (rest := [.int r]) G hw mv_L_74 (c_M_compile l D (outC E o f :: gws idsC E c') E 6000 mm r m' e2) hl.1 rfl rfl (Nat.le_of_ble_eq_true rfl) (Nat.le_of_ble_eq_true rfl) (Nat.le_of_ble_eq_true rfl) hcs0 dL_law_298 (fun H locs hw => ?_)
  refine W.widen (k := cells + 1) (n := slots + 6) (Nat.le_add_right _ _) (Nat.le_add_right _ _) ?_
  exact lv_icmp_eq (tgt := 866) G.1 G.2.1 dL_law_301 (by decide) (fun _ => kk _ _ _ _ _ _ hw hI hl) (fun h => absurd rfl h)
set_option maxHeartbeats 4000000 in
set_option maxRecDepth 100000 in
theorem lc_4 (hlf : l.stackTraces = false) (G : CallFix p m c cL_law 7 s #[.ref b] gtbl RL) (hX : va_X b L xs s s.heap) (hbl : b < s.heap.size) (hw : LWs D E (fr9 s) s o f mm cm H locs) (hI : INVL cm mm) (hl : lv_has ls 7 [(4, .int iv), (3, .ref o), (2, .ref (E.1 10 0)), (1, .ref (E.1 9 0)), (0, .ref b)]) (h1 : vp_in (iv + 1) L) (h2 : vp_in (iv + 2) L) (h3 : vp_in (iv + 3) L) (hcs : cells + 1 ≤ room_1.cells ∧ slots + 6 ≤ room_1.slots) (kk : ∀ (f2 : Nat → Int64) (m2 c2 : Mem) (H1 : Heap) (locs1 : List Loc) (ls1 : Array Slot), LWs D E (fr9 s) s o f2 m2 c2 H1 locs1 → INVL c2 m2 → lv_has ls1 7 [(4, .int iv), (3, .ref o), (2, .ref (E.1 10 0)), (1, .ref (E.1 9 0)), (0, .ref b)] → W p l en room_1 s m #[.ref b] below meth c H1 locs1 (cells + 1) (slots + 6) Q (F0 m 866 ls1 [])) : W p l en room_1 s m #[.ref b] below meth c H locs cells slots Q (F0 m 306 ls []) := by
  have hbA : ¬ fr9 s b := Nat.not_le.mpr hbl
  have hcs0 : cells ≤ room_1.cells ∧ slots ≤ room_1.slots := ⟨Nat.le_trans (Nat.le_add_right _ _) hcs.1, Nat.le_trans (Nat.le_add_right _ _) hcs.2⟩
  obtain ⟨r, m', e1, e2, hI⟩ := i_fault (n := 6000) hI
  refine lv_aload_n G.1 G.2.1 dL_law_306 rfl (lv_at hl 3 rfl) ?_
  refine l_C (As := []) (rest := []) G hw mv_L_75 (c_K_fault l D (outC E o f :: gws idsM E mm) E 6000 cm r e1) hl.1 rfl rfl (Nat.le_of_ble_eq_true rfl) (Nat.le_of_ble_eq_true rfl) (Nat.le_of_ble_eq_true rfl) hcs0 dL_law_307 (fun H locs hw => ?_)
  refine lv_aload_n G.1 G.2.1 dL_law_310 rfl (lv_at hl 2 rfl) ?_
  refine l_M (As := []) (rest := [.int r]) G hw mv_L_78 (c_M_fault l D (outC E o f :: gws idsC E cm) E 6000 mm r m' e2) hl.1 rfl rfl (Nat.le_of_ble_eq_true rfl) (Nat.le_of_ble_eq_true rfl) (Nat.le_of_ble_eq_true rfl) hcs0 dL_law_311 (fun H locs hw => ?_)
  refine W.widen (k := cells + 1) (n := slots + 6) (Nat.le_add_right _ _) (Nat.le_add_right _ _) ?_
  exact lv_icmp_eq (tgt := 866) G.1 G.2.1 dL_law_314 (by decide) (fun _ => kk _ _ _ _ _ _ hw hI hl) (fun h => absurd rfl h)
set_option maxHeartbeats 4000000 in
set_option maxRecDepth 100000 in
theorem lc_5 (hlf : l.stackTraces = false) (G : CallFix p m c cL_law 7 s #[.ref b] gtbl RL) (hX : va_X b L xs s s.heap) (hbl : b < s.heap.size) (hw : LWs D E (fr9 s) s o f mm cm H locs) (hI : INVL cm mm) (hl : lv_has ls 7 [(4, .int iv), (3, .ref o), (2, .ref (E.1 10 0)), (1, .ref (E.1 9 0)), (0, .ref b)]) (h1 : vp_in (iv + 1) L) (h2 : vp_in (iv + 2) L) (h3 : vp_in (iv + 3) L) (hcs : cells + 1 ≤ room_1.cells ∧ slots + 6 ≤ room_1.slots) (kk : ∀ (f2 : Nat → Int64) (m2 c2 : Mem) (H1 : Heap) (locs1 : List Loc) (ls1 : Array Slot), LWs D E (fr9 s) s o f2 m2 c2 H1 locs1 → INVL c2 m2 → lv_has ls1 7 [(4, .int iv), (3, .ref o), (2, .ref (E.1 10 0)), (1, .ref (E.1 9 0)), (0, .ref b)] → W p l en room_1 s m #[.ref b] below meth c H1 locs1 (cells + 1) (slots + 6) Q (F0 m 866 ls1 [])) : W p l en room_1 s m #[.ref b] below meth c H locs cells slots Q (F0 m 319 ls []) := by
  have hbA : ¬ fr9 s b := Nat.not_le.mpr hbl
  have hcs0 : cells ≤ room_1.cells ∧ slots ≤ room_1.slots := ⟨Nat.le_trans (Nat.le_add_right _ _) hcs.1, Nat.le_trans (Nat.le_add_right _ _) hcs.2⟩
  obtain ⟨r, m', e1, e2, hI⟩ := i_place (n := 6000) hI
  refine lv_aload_n G.1 G.2.1 dL_law_319 rfl (lv_at hl 3 rfl) ?_
  refine l_C (As := []) (rest := []) G hw mv_L_79 (c_K_place l D (outC E o f :: gws idsM E mm) E 6000 cm r e1) hl.1 rfl rfl (Nat.le_of_ble_eq_true rfl) (Nat.le_of_ble_eq_true rfl) (Nat.le_of_ble_eq_true rfl) hcs0 dL_law_320 (fun H locs hw => ?_)
  refine lv_aload_n G.1 G.2.1 dL_law_323 rfl (lv_at hl 2 rfl) ?_
  refine l_M (As := []) (rest := [.int r]) G hw mv_L_82 (c_M_place l D (outC E o f :: gws idsC E cm) E 6000 mm r m' e2) hl.1 rfl rfl (Nat.le_of_ble_eq_true rfl) (Nat.le_of_ble_eq_true rfl) (Nat.le_of_ble_eq_true rfl) hcs0 dL_law_324 (fun H locs hw => ?_)
  refine W.widen (k := cells + 1) (n := slots + 6) (Nat.le_add_right _ _) (Nat.le_add_right _ _) ?_
  exact lv_icmp_eq (tgt := 866) G.1 G.2.1 dL_law_327 (by decide) (fun _ => kk _ _ _ _ _ _ hw hI hl) (fun h => absurd rfl h)
set_option maxHeartbeats 4000000 in
set_option maxRecDepth 100000 in
theorem lc_6 (hlf : l.stackTraces = false) (G : CallFix p m c cL_law 7 s #[.ref b] gtbl RL) (hX : va_X b L xs s s.heap) (hbl : b < s.heap.size) (hw : LWs D E (fr9 s) s o f mm cm H locs) (hI : INVL cm mm) (hl : lv_has ls 7 [(4, .int iv), (3, .ref o), (2, .ref (E.1 10 0)), (1, .ref (E.1 9 0)), (0, .ref b)]) (h1 : vp_in (iv + 1) L) (h2 : vp_in (iv + 2) L) (h3 : vp_in (iv + 3) L) (hcs : cells + 1 ≤ room_1.cells ∧ slots + 6 ≤ room_1.slots) (kk : ∀ (f2 : Nat → Int64) (m2 c2 : Mem) (H1 : Heap) (locs1 : List Loc) (ls1 : Array Slot), LWs D E (fr9 s) s o f2 m2 c2 H1 locs1 → INVL c2 m2 → lv_has ls1 7 [(4, .int iv), (3, .ref o), (2, .ref (E.1 10 0)), (1, .ref (E.1 9 0)), (0, .ref b)] → W p l en room_1 s m #[.ref b] below meth c H1 locs1 (cells + 1) (slots + 6) Q (F0 m 866 ls1 [])) : W p l en room_1 s m #[.ref b] below meth c H locs cells slots Q (F0 m 332 ls []) := by
  have hbA : ¬ fr9 s b := Nat.not_le.mpr hbl
  have hcs0 : cells ≤ room_1.cells ∧ slots ≤ room_1.slots := ⟨Nat.le_trans (Nat.le_add_right _ _) hcs.1, Nat.le_trans (Nat.le_add_right _ _) hcs.2⟩
  refine lv_aload_n G.1 G.2.1 dL_law_332 rfl (lv_at hl 3 rfl) ?_
  refine lv_aload_n G.1 G.2.1 dL_law_333 rfl (lv_at hl 4 rfl) ?_
  refine lv_iload G.1 G.2.1 dL_law_334 (lv_at hl 0 rfl) ?_
  refine lv_iconst (v := (1 : Int32)) G.1 G.2.1 dL_law_336 (by decide) ?_
  refine lv_iadd G.1 G.2.1 dL_law_337 ?_
  refine va_sld G.1 G.2.1 hX hbl hbA hw.2.2.2.1 h1 dL_law_338 ?_
  refine lv_aload_n G.1 G.2.1 dL_law_339 rfl (lv_at hl 1 rfl) ?_
  rcases i_told (n := 6000) (by decide) (xs (iv + (1 : Int32)).toNatClampNeg) hI with ⟨r, m', e1, e2, e3, hI⟩ | ⟨e1, r, m', e2, e3, hI⟩
  · refine l_help (As := [.ref (E.1 9 0), .int (xs (iv + (1 : Int32)).toNatClampNeg), .ref o]) (rest := []) G hw mw_L_83 (h_told l D (gws idsM E mm) o f E 6000 (xs (iv + (1 : Int32)).toNatClampNeg) cm r e1) hl.1 rfl rfl (Nat.le_of_ble_eq_true rfl) (Nat.le_of_ble_eq_true rfl) (Nat.le_of_ble_eq_true rfl) hcs dL_law_340 (fun H locs hw => ?_)
    refine lv_istore (lv' := [(5, .int 0), (4, .int iv), (3, .ref o), (2, .ref (E.1 10 0)), (1, .ref (E.1 9 0)), (0, .ref b)]) G.1 G.2.1 dL_law_343 hl (by decide) rfl (fun ls hl => ?_)
    refine lv_aload_n G.1 G.2.1 dL_law_345 rfl (lv_at hl 3 rfl) ?_
    refine lv_aload_n G.1 G.2.1 dL_law_346 rfl (lv_at hl 5 rfl) ?_
    refine lv_iload G.1 G.2.1 dL_law_347 (lv_at hl 1 rfl) ?_
    refine lv_iconst (v := (1 : Int32)) G.1 G.2.1 dL_law_349 (by decide) ?_
    refine lv_iadd G.1 G.2.1 dL_law_350 ?_
    refine va_sld G.1 G.2.1 hX hbl hbA hw.2.2.2.1 h1 dL_law_351 ?_
    refine l_M (As := [.int (xs (iv + (1 : Int32)).toNatClampNeg)]) (rest := []) G hw mv_L_86 (c_M_told l D _ E 6000 (xs (iv + (1 : Int32)).toNatClampNeg) mm r m' e2) hl.1 rfl rfl (Nat.le_of_ble_eq_true rfl) (Nat.le_of_ble_eq_true rfl) (Nat.le_of_ble_eq_true rfl) hcs dL_law_352 (fun H locs hw => ?_)
    refine lv_istore (lv' := [(6, .int r), (5, .int 0), (4, .int iv), (3, .ref o), (2, .ref (E.1 10 0)), (1, .ref (E.1 9 0)), (0, .ref b)]) G.1 G.2.1 dL_law_355 hl (by decide) rfl (fun ls hl => ?_)
    exact l_tail (P := 357) (k := 0) (b6 := r) (iv := iv) (b := b) G hw hl e3 (fun _ => rfl) mv_L_59 ⟨(Nat.le_of_ble_eq_true rfl), (Nat.le_of_ble_eq_true rfl), hcs.1, hcs.2⟩ dL_law_357 dL_law_358 dL_law_361 dL_law_363 dL_law_368 dL_law_370 dL_law_373 dL_law_374 dL_law_375 dL_law_376 dL_law_378 dL_law_379 dL_law_380 dL_law_385 (by decide) (fun H locs hw => kk _ _ _ _ _ _ hw hI (lv_sub hl [2, 3, 4, 5, 6] rfl))
  · refine l_help (As := [.ref (E.1 9 0), .int (xs (iv + (1 : Int32)).toNatClampNeg), .ref o]) (rest := []) G hw mw_L_83 (h_told_T1 l hlf D (gws idsM E mm) o f E 6000 (xs (iv + (1 : Int32)).toNatClampNeg) cm e1) hl.1 rfl rfl (Nat.le_of_ble_eq_true rfl) (Nat.le_of_ble_eq_true rfl) (Nat.le_of_ble_eq_true rfl) hcs dL_law_340 (fun H locs hw => ?_)
    refine lv_istore (lv' := [(5, .int 1), (4, .int iv), (3, .ref o), (2, .ref (E.1 10 0)), (1, .ref (E.1 9 0)), (0, .ref b)]) G.1 G.2.1 dL_law_343 hl (by decide) rfl (fun ls hl => ?_)
    refine lv_aload_n G.1 G.2.1 dL_law_345 rfl (lv_at hl 3 rfl) ?_
    refine lv_aload_n G.1 G.2.1 dL_law_346 rfl (lv_at hl 5 rfl) ?_
    refine lv_iload G.1 G.2.1 dL_law_347 (lv_at hl 1 rfl) ?_
    refine lv_iconst (v := (1 : Int32)) G.1 G.2.1 dL_law_349 (by decide) ?_
    refine lv_iadd G.1 G.2.1 dL_law_350 ?_
    refine va_sld G.1 G.2.1 hX hbl hbA hw.2.2.2.1 h1 dL_law_351 ?_
    refine l_M (As := [.int (xs (iv + (1 : Int32)).toNatClampNeg)]) (rest := []) G hw mv_L_86 (c_M_told l D _ E 6000 (xs (iv + (1 : Int32)).toNatClampNeg) mm r m' e2) hl.1 rfl rfl (Nat.le_of_ble_eq_true rfl) (Nat.le_of_ble_eq_true rfl) (Nat.le_of_ble_eq_true rfl) hcs dL_law_352 (fun H locs hw => ?_)
    refine lv_istore (lv' := [(6, .int r), (5, .int 1), (4, .int iv), (3, .ref o), (2, .ref (E.1 10 0)), (1, .ref (E.1 9 0)), (0, .ref b)]) G.1 G.2.1 dL_law_355 hl (by decide) rfl (fun ls hl => ?_)
    exact l_tail (P := 357) (k := 1) (b6 := r) (iv := iv) (b := b) G hw hl e3 (fun h => absurd h (by decide)) mv_L_59 ⟨(Nat.le_of_ble_eq_true rfl), (Nat.le_of_ble_eq_true rfl), hcs.1, hcs.2⟩ dL_law_357 dL_law_358 dL_law_361 dL_law_363 dL_law_368 dL_law_370 dL_law_373 dL_law_374 dL_law_375 dL_law_376 dL_law_378 dL_law_379 dL_law_380 dL_law_385 (by decide) (fun H locs hw => kk _ _ _ _ _ _ hw hI (lv_sub hl [2, 3, 4, 5, 6] rfl))
set_option maxHeartbeats 4000000 in
set_option maxRecDepth 100000 in
theorem lc_7 (hlf : l.stackTraces = false) (G : CallFix p m c cL_law 7 s #[.ref b] gtbl RL) (hX : va_X b L xs s s.heap) (hbl : b < s.heap.size) (hw : LWs D E (fr9 s) s o f mm cm H locs) (hI : INVL cm mm) (hl : lv_has ls 7 [(4, .int iv), (3, .ref o), (2, .ref (E.1 10 0)), (1, .ref (E.1 9 0)), (0, .ref b)]) (h1 : vp_in (iv + 1) L) (h2 : vp_in (iv + 2) L) (h3 : vp_in (iv + 3) L) (hcs : cells + 1 ≤ room_1.cells ∧ slots + 6 ≤ room_1.slots) (kk : ∀ (f2 : Nat → Int64) (m2 c2 : Mem) (H1 : Heap) (locs1 : List Loc) (ls1 : Array Slot), LWs D E (fr9 s) s o f2 m2 c2 H1 locs1 → INVL c2 m2 → lv_has ls1 7 [(4, .int iv), (3, .ref o), (2, .ref (E.1 10 0)), (1, .ref (E.1 9 0)), (0, .ref b)] → W p l en room_1 s m #[.ref b] below meth c H1 locs1 (cells + 1) (slots + 6) Q (F0 m 866 ls1 [])) : W p l en room_1 s m #[.ref b] below meth c H locs cells slots Q (F0 m 388 ls []) := by
  have hbA : ¬ fr9 s b := Nat.not_le.mpr hbl
  have hcs0 : cells ≤ room_1.cells ∧ slots ≤ room_1.slots := ⟨Nat.le_trans (Nat.le_add_right _ _) hcs.1, Nat.le_trans (Nat.le_add_right _ _) hcs.2⟩
  refine lv_aload_n G.1 G.2.1 dL_law_388 rfl (lv_at hl 3 rfl) ?_
  refine lv_aload_n G.1 G.2.1 dL_law_389 rfl (lv_at hl 4 rfl) ?_
  refine lv_iload G.1 G.2.1 dL_law_390 (lv_at hl 0 rfl) ?_
  refine lv_iconst (v := (1 : Int32)) G.1 G.2.1 dL_law_392 (by decide) ?_
  refine lv_iadd G.1 G.2.1 dL_law_393 ?_
  refine va_sld G.1 G.2.1 hX hbl hbA hw.2.2.2.1 h1 dL_law_394 ?_
  refine lv_aload_n G.1 G.2.1 dL_law_395 rfl (lv_at hl 4 rfl) ?_
  refine lv_iload G.1 G.2.1 dL_law_396 (lv_at hl 0 rfl) ?_
  refine lv_iconst (v := (2 : Int32)) G.1 G.2.1 dL_law_398 (by decide) ?_
  refine lv_iadd G.1 G.2.1 dL_law_399 ?_
  refine va_sld G.1 G.2.1 hX hbl hbA hw.2.2.2.1 h2 dL_law_400 ?_
  refine lv_aload_n G.1 G.2.1 dL_law_401 rfl (lv_at hl 1 rfl) ?_
  rcases i_block (n := 6000) (by decide) (xs (iv + (1 : Int32)).toNatClampNeg) (xs (iv + (2 : Int32)).toNatClampNeg) hI with ⟨r, m', e1, e2, e3, hI⟩ | ⟨e1, r, m', e2, e3, hI⟩ | ⟨e1, r, m', e2, e3, hI⟩
  · refine l_help (As := [.ref (E.1 9 0), .int (xs (iv + (1 : Int32)).toNatClampNeg), .int (xs (iv + (2 : Int32)).toNatClampNeg), .ref o]) (rest := []) G hw mw_L_87 (h_block l D (gws idsM E mm) o f E 6000 (xs (iv + (1 : Int32)).toNatClampNeg) (xs (iv + (2 : Int32)).toNatClampNeg) cm r e1) hl.1 rfl rfl (Nat.le_of_ble_eq_true rfl) (Nat.le_of_ble_eq_true rfl) (Nat.le_of_ble_eq_true rfl) hcs dL_law_402 (fun H locs hw => ?_)
    refine lv_istore (lv' := [(5, .int 0), (4, .int iv), (3, .ref o), (2, .ref (E.1 10 0)), (1, .ref (E.1 9 0)), (0, .ref b)]) G.1 G.2.1 dL_law_405 hl (by decide) rfl (fun ls hl => ?_)
    refine lv_aload_n G.1 G.2.1 dL_law_407 rfl (lv_at hl 3 rfl) ?_
    refine lv_aload_n G.1 G.2.1 dL_law_408 rfl (lv_at hl 5 rfl) ?_
    refine lv_iload G.1 G.2.1 dL_law_409 (lv_at hl 1 rfl) ?_
    refine lv_iconst (v := (1 : Int32)) G.1 G.2.1 dL_law_411 (by decide) ?_
    refine lv_iadd G.1 G.2.1 dL_law_412 ?_
    refine va_sld G.1 G.2.1 hX hbl hbA hw.2.2.2.1 h1 dL_law_413 ?_
    refine lv_aload_n G.1 G.2.1 dL_law_414 rfl (lv_at hl 5 rfl) ?_
    refine lv_iload G.1 G.2.1 dL_law_415 (lv_at hl 1 rfl) ?_
    refine lv_iconst (v := (2 : Int32)) G.1 G.2.1 dL_law_417 (by decide) ?_
    refine lv_iadd G.1 G.2.1 dL_law_418 ?_
    refine va_sld G.1 G.2.1 hX hbl hbA hw.2.2.2.1 h2 dL_law_419 ?_
    refine l_M (As := [.int (xs (iv + (1 : Int32)).toNatClampNeg), .int (xs (iv + (2 : Int32)).toNatClampNeg)]) (rest := []) G hw mv_L_90 (c_M_block l D _ E 6000 (xs (iv + (1 : Int32)).toNatClampNeg) (xs (iv + (2 : Int32)).toNatClampNeg) mm r m' e2) hl.1 rfl rfl (Nat.le_of_ble_eq_true rfl) (Nat.le_of_ble_eq_true rfl) (Nat.le_of_ble_eq_true rfl) hcs dL_law_420 (fun H locs hw => ?_)
    refine lv_istore (lv' := [(6, .int r), (5, .int 0), (4, .int iv), (3, .ref o), (2, .ref (E.1 10 0)), (1, .ref (E.1 9 0)), (0, .ref b)]) G.1 G.2.1 dL_law_423 hl (by decide) rfl (fun ls hl => ?_)
    exact l_tail (P := 425) (k := 0) (b6 := r) (iv := iv) (b := b) G hw hl e3 (fun _ => rfl) mv_L_59 ⟨(Nat.le_of_ble_eq_true rfl), (Nat.le_of_ble_eq_true rfl), hcs.1, hcs.2⟩ dL_law_425 dL_law_426 dL_law_429 dL_law_431 dL_law_436 dL_law_438 dL_law_441 dL_law_442 dL_law_443 dL_law_444 dL_law_446 dL_law_447 dL_law_448 dL_law_453 (by decide) (fun H locs hw => kk _ _ _ _ _ _ hw hI (lv_sub hl [2, 3, 4, 5, 6] rfl))
  · refine l_help (As := [.ref (E.1 9 0), .int (xs (iv + (1 : Int32)).toNatClampNeg), .int (xs (iv + (2 : Int32)).toNatClampNeg), .ref o]) (rest := []) G hw mw_L_87 (h_block_T1 l hlf D (gws idsM E mm) o f E 6000 (xs (iv + (1 : Int32)).toNatClampNeg) (xs (iv + (2 : Int32)).toNatClampNeg) cm e1) hl.1 rfl rfl (Nat.le_of_ble_eq_true rfl) (Nat.le_of_ble_eq_true rfl) (Nat.le_of_ble_eq_true rfl) hcs dL_law_402 (fun H locs hw => ?_)
    refine lv_istore (lv' := [(5, .int 1), (4, .int iv), (3, .ref o), (2, .ref (E.1 10 0)), (1, .ref (E.1 9 0)), (0, .ref b)]) G.1 G.2.1 dL_law_405 hl (by decide) rfl (fun ls hl => ?_)
    refine lv_aload_n G.1 G.2.1 dL_law_407 rfl (lv_at hl 3 rfl) ?_
    refine lv_aload_n G.1 G.2.1 dL_law_408 rfl (lv_at hl 5 rfl) ?_
    refine lv_iload G.1 G.2.1 dL_law_409 (lv_at hl 1 rfl) ?_
    refine lv_iconst (v := (1 : Int32)) G.1 G.2.1 dL_law_411 (by decide) ?_
    refine lv_iadd G.1 G.2.1 dL_law_412 ?_
    refine va_sld G.1 G.2.1 hX hbl hbA hw.2.2.2.1 h1 dL_law_413 ?_
    refine lv_aload_n G.1 G.2.1 dL_law_414 rfl (lv_at hl 5 rfl) ?_
    refine lv_iload G.1 G.2.1 dL_law_415 (lv_at hl 1 rfl) ?_
    refine lv_iconst (v := (2 : Int32)) G.1 G.2.1 dL_law_417 (by decide) ?_
    refine lv_iadd G.1 G.2.1 dL_law_418 ?_
    refine va_sld G.1 G.2.1 hX hbl hbA hw.2.2.2.1 h2 dL_law_419 ?_
    refine l_M (As := [.int (xs (iv + (1 : Int32)).toNatClampNeg), .int (xs (iv + (2 : Int32)).toNatClampNeg)]) (rest := []) G hw mv_L_90 (c_M_block l D _ E 6000 (xs (iv + (1 : Int32)).toNatClampNeg) (xs (iv + (2 : Int32)).toNatClampNeg) mm r m' e2) hl.1 rfl rfl (Nat.le_of_ble_eq_true rfl) (Nat.le_of_ble_eq_true rfl) (Nat.le_of_ble_eq_true rfl) hcs dL_law_420 (fun H locs hw => ?_)
    refine lv_istore (lv' := [(6, .int r), (5, .int 1), (4, .int iv), (3, .ref o), (2, .ref (E.1 10 0)), (1, .ref (E.1 9 0)), (0, .ref b)]) G.1 G.2.1 dL_law_423 hl (by decide) rfl (fun ls hl => ?_)
    exact l_tail (P := 425) (k := 1) (b6 := r) (iv := iv) (b := b) G hw hl e3 (fun h => absurd h (by decide)) mv_L_59 ⟨(Nat.le_of_ble_eq_true rfl), (Nat.le_of_ble_eq_true rfl), hcs.1, hcs.2⟩ dL_law_425 dL_law_426 dL_law_429 dL_law_431 dL_law_436 dL_law_438 dL_law_441 dL_law_442 dL_law_443 dL_law_444 dL_law_446 dL_law_447 dL_law_448 dL_law_453 (by decide) (fun H locs hw => kk _ _ _ _ _ _ hw hI (lv_sub hl [2, 3, 4, 5, 6] rfl))
  · refine l_help (As := [.ref (E.1 9 0), .int (xs (iv + (1 : Int32)).toNatClampNeg), .int (xs (iv + (2 : Int32)).toNatClampNeg), .ref o]) (rest := []) G hw mw_L_87 (h_block_T2 l hlf D (gws idsM E mm) o f E 6000 (xs (iv + (1 : Int32)).toNatClampNeg) (xs (iv + (2 : Int32)).toNatClampNeg) cm e1) hl.1 rfl rfl (Nat.le_of_ble_eq_true rfl) (Nat.le_of_ble_eq_true rfl) (Nat.le_of_ble_eq_true rfl) hcs dL_law_402 (fun H locs hw => ?_)
    refine lv_istore (lv' := [(5, .int 2), (4, .int iv), (3, .ref o), (2, .ref (E.1 10 0)), (1, .ref (E.1 9 0)), (0, .ref b)]) G.1 G.2.1 dL_law_405 hl (by decide) rfl (fun ls hl => ?_)
    refine lv_aload_n G.1 G.2.1 dL_law_407 rfl (lv_at hl 3 rfl) ?_
    refine lv_aload_n G.1 G.2.1 dL_law_408 rfl (lv_at hl 5 rfl) ?_
    refine lv_iload G.1 G.2.1 dL_law_409 (lv_at hl 1 rfl) ?_
    refine lv_iconst (v := (1 : Int32)) G.1 G.2.1 dL_law_411 (by decide) ?_
    refine lv_iadd G.1 G.2.1 dL_law_412 ?_
    refine va_sld G.1 G.2.1 hX hbl hbA hw.2.2.2.1 h1 dL_law_413 ?_
    refine lv_aload_n G.1 G.2.1 dL_law_414 rfl (lv_at hl 5 rfl) ?_
    refine lv_iload G.1 G.2.1 dL_law_415 (lv_at hl 1 rfl) ?_
    refine lv_iconst (v := (2 : Int32)) G.1 G.2.1 dL_law_417 (by decide) ?_
    refine lv_iadd G.1 G.2.1 dL_law_418 ?_
    refine va_sld G.1 G.2.1 hX hbl hbA hw.2.2.2.1 h2 dL_law_419 ?_
    refine l_M (As := [.int (xs (iv + (1 : Int32)).toNatClampNeg), .int (xs (iv + (2 : Int32)).toNatClampNeg)]) (rest := []) G hw mv_L_90 (c_M_block l D _ E 6000 (xs (iv + (1 : Int32)).toNatClampNeg) (xs (iv + (2 : Int32)).toNatClampNeg) mm r m' e2) hl.1 rfl rfl (Nat.le_of_ble_eq_true rfl) (Nat.le_of_ble_eq_true rfl) (Nat.le_of_ble_eq_true rfl) hcs dL_law_420 (fun H locs hw => ?_)
    refine lv_istore (lv' := [(6, .int r), (5, .int 2), (4, .int iv), (3, .ref o), (2, .ref (E.1 10 0)), (1, .ref (E.1 9 0)), (0, .ref b)]) G.1 G.2.1 dL_law_423 hl (by decide) rfl (fun ls hl => ?_)
    exact l_tail (P := 425) (k := 2) (b6 := r) (iv := iv) (b := b) G hw hl e3 (fun h => absurd h (by decide)) mv_L_59 ⟨(Nat.le_of_ble_eq_true rfl), (Nat.le_of_ble_eq_true rfl), hcs.1, hcs.2⟩ dL_law_425 dL_law_426 dL_law_429 dL_law_431 dL_law_436 dL_law_438 dL_law_441 dL_law_442 dL_law_443 dL_law_444 dL_law_446 dL_law_447 dL_law_448 dL_law_453 (by decide) (fun H locs hw => kk _ _ _ _ _ _ hw hI (lv_sub hl [2, 3, 4, 5, 6] rfl))
set_option maxHeartbeats 4000000 in
set_option maxRecDepth 100000 in
theorem lc_8 (hlf : l.stackTraces = false) (G : CallFix p m c cL_law 7 s #[.ref b] gtbl RL) (hX : va_X b L xs s s.heap) (hbl : b < s.heap.size) (hw : LWs D E (fr9 s) s o f mm cm H locs) (hI : INVL cm mm) (hl : lv_has ls 7 [(4, .int iv), (3, .ref o), (2, .ref (E.1 10 0)), (1, .ref (E.1 9 0)), (0, .ref b)]) (h1 : vp_in (iv + 1) L) (h2 : vp_in (iv + 2) L) (h3 : vp_in (iv + 3) L) (hcs : cells + 1 ≤ room_1.cells ∧ slots + 6 ≤ room_1.slots) (kk : ∀ (f2 : Nat → Int64) (m2 c2 : Mem) (H1 : Heap) (locs1 : List Loc) (ls1 : Array Slot), LWs D E (fr9 s) s o f2 m2 c2 H1 locs1 → INVL c2 m2 → lv_has ls1 7 [(4, .int iv), (3, .ref o), (2, .ref (E.1 10 0)), (1, .ref (E.1 9 0)), (0, .ref b)] → W p l en room_1 s m #[.ref b] below meth c H1 locs1 (cells + 1) (slots + 6) Q (F0 m 866 ls1 [])) : W p l en room_1 s m #[.ref b] below meth c H locs cells slots Q (F0 m 456 ls []) := by
  have hbA : ¬ fr9 s b := Nat.not_le.mpr hbl
  have hcs0 : cells ≤ room_1.cells ∧ slots ≤ room_1.slots := ⟨Nat.le_trans (Nat.le_add_right _ _) hcs.1, Nat.le_trans (Nat.le_add_right _ _) hcs.2⟩
  refine lv_aload_n G.1 G.2.1 dL_law_456 rfl (lv_at hl 3 rfl) ?_
  refine lv_aload_n G.1 G.2.1 dL_law_457 rfl (lv_at hl 4 rfl) ?_
  refine lv_iload G.1 G.2.1 dL_law_458 (lv_at hl 0 rfl) ?_
  refine lv_iconst (v := (1 : Int32)) G.1 G.2.1 dL_law_460 (by decide) ?_
  refine lv_iadd G.1 G.2.1 dL_law_461 ?_
  refine va_sld G.1 G.2.1 hX hbl hbA hw.2.2.2.1 h1 dL_law_462 ?_
  refine lv_aload_n G.1 G.2.1 dL_law_463 rfl (lv_at hl 4 rfl) ?_
  refine lv_iload G.1 G.2.1 dL_law_464 (lv_at hl 0 rfl) ?_
  refine lv_iconst (v := (2 : Int32)) G.1 G.2.1 dL_law_466 (by decide) ?_
  refine lv_iadd G.1 G.2.1 dL_law_467 ?_
  refine va_sld G.1 G.2.1 hX hbl hbA hw.2.2.2.1 h2 dL_law_468 ?_
  refine lv_aload_n G.1 G.2.1 dL_law_469 rfl (lv_at hl 1 rfl) ?_
  rcases i_operation (n := 6000) (by decide) (xs (iv + (1 : Int32)).toNatClampNeg) (xs (iv + (2 : Int32)).toNatClampNeg) hI with ⟨r, m', e1, e2, e3, hI⟩ | ⟨e1, r, m', e2, e3, hI⟩ | ⟨e1, r, m', e2, e3, hI⟩
  · refine l_help (As := [.ref (E.1 9 0), .int (xs (iv + (1 : Int32)).toNatClampNeg), .int (xs (iv + (2 : Int32)).toNatClampNeg), .ref o]) (rest := []) G hw mw_L_91 (h_operation l D (gws idsM E mm) o f E 6000 (xs (iv + (1 : Int32)).toNatClampNeg) (xs (iv + (2 : Int32)).toNatClampNeg) cm r e1) hl.1 rfl rfl (Nat.le_of_ble_eq_true rfl) (Nat.le_of_ble_eq_true rfl) (Nat.le_of_ble_eq_true rfl) hcs dL_law_470 (fun H locs hw => ?_)
    refine lv_istore (lv' := [(5, .int 0), (4, .int iv), (3, .ref o), (2, .ref (E.1 10 0)), (1, .ref (E.1 9 0)), (0, .ref b)]) G.1 G.2.1 dL_law_473 hl (by decide) rfl (fun ls hl => ?_)
    refine lv_aload_n G.1 G.2.1 dL_law_475 rfl (lv_at hl 3 rfl) ?_
    refine lv_aload_n G.1 G.2.1 dL_law_476 rfl (lv_at hl 5 rfl) ?_
    refine lv_iload G.1 G.2.1 dL_law_477 (lv_at hl 1 rfl) ?_
    refine lv_iconst (v := (1 : Int32)) G.1 G.2.1 dL_law_479 (by decide) ?_
    refine lv_iadd G.1 G.2.1 dL_law_480 ?_
    refine va_sld G.1 G.2.1 hX hbl hbA hw.2.2.2.1 h1 dL_law_481 ?_
    refine lv_aload_n G.1 G.2.1 dL_law_482 rfl (lv_at hl 5 rfl) ?_
    refine lv_iload G.1 G.2.1 dL_law_483 (lv_at hl 1 rfl) ?_
    refine lv_iconst (v := (2 : Int32)) G.1 G.2.1 dL_law_485 (by decide) ?_
    refine lv_iadd G.1 G.2.1 dL_law_486 ?_
    refine va_sld G.1 G.2.1 hX hbl hbA hw.2.2.2.1 h2 dL_law_487 ?_
    refine l_M (As := [.int (xs (iv + (1 : Int32)).toNatClampNeg), .int (xs (iv + (2 : Int32)).toNatClampNeg)]) (rest := []) G hw mv_L_93 (c_M_operation l D _ E 6000 (xs (iv + (1 : Int32)).toNatClampNeg) (xs (iv + (2 : Int32)).toNatClampNeg) mm r m' e2) hl.1 rfl rfl (Nat.le_of_ble_eq_true rfl) (Nat.le_of_ble_eq_true rfl) (Nat.le_of_ble_eq_true rfl) hcs dL_law_488 (fun H locs hw => ?_)
    refine lv_istore (lv' := [(6, .int r), (5, .int 0), (4, .int iv), (3, .ref o), (2, .ref (E.1 10 0)), (1, .ref (E.1 9 0)), (0, .ref b)]) G.1 G.2.1 dL_law_491 hl (by decide) rfl (fun ls hl => ?_)
    exact l_tail (P := 493) (k := 0) (b6 := r) (iv := iv) (b := b) G hw hl e3 (fun _ => rfl) mv_L_59 ⟨(Nat.le_of_ble_eq_true rfl), (Nat.le_of_ble_eq_true rfl), hcs.1, hcs.2⟩ dL_law_493 dL_law_494 dL_law_497 dL_law_499 dL_law_504 dL_law_506 dL_law_509 dL_law_510 dL_law_511 dL_law_512 dL_law_514 dL_law_515 dL_law_516 dL_law_521 (by decide) (fun H locs hw => kk _ _ _ _ _ _ hw hI (lv_sub hl [2, 3, 4, 5, 6] rfl))
  · refine l_help (As := [.ref (E.1 9 0), .int (xs (iv + (1 : Int32)).toNatClampNeg), .int (xs (iv + (2 : Int32)).toNatClampNeg), .ref o]) (rest := []) G hw mw_L_91 (h_operation_T1 l hlf D (gws idsM E mm) o f E 6000 (xs (iv + (1 : Int32)).toNatClampNeg) (xs (iv + (2 : Int32)).toNatClampNeg) cm e1) hl.1 rfl rfl (Nat.le_of_ble_eq_true rfl) (Nat.le_of_ble_eq_true rfl) (Nat.le_of_ble_eq_true rfl) hcs dL_law_470 (fun H locs hw => ?_)
    refine lv_istore (lv' := [(5, .int 1), (4, .int iv), (3, .ref o), (2, .ref (E.1 10 0)), (1, .ref (E.1 9 0)), (0, .ref b)]) G.1 G.2.1 dL_law_473 hl (by decide) rfl (fun ls hl => ?_)
    refine lv_aload_n G.1 G.2.1 dL_law_475 rfl (lv_at hl 3 rfl) ?_
    refine lv_aload_n G.1 G.2.1 dL_law_476 rfl (lv_at hl 5 rfl) ?_
    refine lv_iload G.1 G.2.1 dL_law_477 (lv_at hl 1 rfl) ?_
    refine lv_iconst (v := (1 : Int32)) G.1 G.2.1 dL_law_479 (by decide) ?_
    refine lv_iadd G.1 G.2.1 dL_law_480 ?_
    refine va_sld G.1 G.2.1 hX hbl hbA hw.2.2.2.1 h1 dL_law_481 ?_
    refine lv_aload_n G.1 G.2.1 dL_law_482 rfl (lv_at hl 5 rfl) ?_
    refine lv_iload G.1 G.2.1 dL_law_483 (lv_at hl 1 rfl) ?_
    refine lv_iconst (v := (2 : Int32)) G.1 G.2.1 dL_law_485 (by decide) ?_
    refine lv_iadd G.1 G.2.1 dL_law_486 ?_
    refine va_sld G.1 G.2.1 hX hbl hbA hw.2.2.2.1 h2 dL_law_487 ?_
    refine l_M (As := [.int (xs (iv + (1 : Int32)).toNatClampNeg), .int (xs (iv + (2 : Int32)).toNatClampNeg)]) (rest := []) G hw mv_L_93 (c_M_operation l D _ E 6000 (xs (iv + (1 : Int32)).toNatClampNeg) (xs (iv + (2 : Int32)).toNatClampNeg) mm r m' e2) hl.1 rfl rfl (Nat.le_of_ble_eq_true rfl) (Nat.le_of_ble_eq_true rfl) (Nat.le_of_ble_eq_true rfl) hcs dL_law_488 (fun H locs hw => ?_)
    refine lv_istore (lv' := [(6, .int r), (5, .int 1), (4, .int iv), (3, .ref o), (2, .ref (E.1 10 0)), (1, .ref (E.1 9 0)), (0, .ref b)]) G.1 G.2.1 dL_law_491 hl (by decide) rfl (fun ls hl => ?_)
    exact l_tail (P := 493) (k := 1) (b6 := r) (iv := iv) (b := b) G hw hl e3 (fun h => absurd h (by decide)) mv_L_59 ⟨(Nat.le_of_ble_eq_true rfl), (Nat.le_of_ble_eq_true rfl), hcs.1, hcs.2⟩ dL_law_493 dL_law_494 dL_law_497 dL_law_499 dL_law_504 dL_law_506 dL_law_509 dL_law_510 dL_law_511 dL_law_512 dL_law_514 dL_law_515 dL_law_516 dL_law_521 (by decide) (fun H locs hw => kk _ _ _ _ _ _ hw hI (lv_sub hl [2, 3, 4, 5, 6] rfl))
  · refine l_help (As := [.ref (E.1 9 0), .int (xs (iv + (1 : Int32)).toNatClampNeg), .int (xs (iv + (2 : Int32)).toNatClampNeg), .ref o]) (rest := []) G hw mw_L_91 (h_operation_T2 l hlf D (gws idsM E mm) o f E 6000 (xs (iv + (1 : Int32)).toNatClampNeg) (xs (iv + (2 : Int32)).toNatClampNeg) cm e1) hl.1 rfl rfl (Nat.le_of_ble_eq_true rfl) (Nat.le_of_ble_eq_true rfl) (Nat.le_of_ble_eq_true rfl) hcs dL_law_470 (fun H locs hw => ?_)
    refine lv_istore (lv' := [(5, .int 2), (4, .int iv), (3, .ref o), (2, .ref (E.1 10 0)), (1, .ref (E.1 9 0)), (0, .ref b)]) G.1 G.2.1 dL_law_473 hl (by decide) rfl (fun ls hl => ?_)
    refine lv_aload_n G.1 G.2.1 dL_law_475 rfl (lv_at hl 3 rfl) ?_
    refine lv_aload_n G.1 G.2.1 dL_law_476 rfl (lv_at hl 5 rfl) ?_
    refine lv_iload G.1 G.2.1 dL_law_477 (lv_at hl 1 rfl) ?_
    refine lv_iconst (v := (1 : Int32)) G.1 G.2.1 dL_law_479 (by decide) ?_
    refine lv_iadd G.1 G.2.1 dL_law_480 ?_
    refine va_sld G.1 G.2.1 hX hbl hbA hw.2.2.2.1 h1 dL_law_481 ?_
    refine lv_aload_n G.1 G.2.1 dL_law_482 rfl (lv_at hl 5 rfl) ?_
    refine lv_iload G.1 G.2.1 dL_law_483 (lv_at hl 1 rfl) ?_
    refine lv_iconst (v := (2 : Int32)) G.1 G.2.1 dL_law_485 (by decide) ?_
    refine lv_iadd G.1 G.2.1 dL_law_486 ?_
    refine va_sld G.1 G.2.1 hX hbl hbA hw.2.2.2.1 h2 dL_law_487 ?_
    refine l_M (As := [.int (xs (iv + (1 : Int32)).toNatClampNeg), .int (xs (iv + (2 : Int32)).toNatClampNeg)]) (rest := []) G hw mv_L_93 (c_M_operation l D _ E 6000 (xs (iv + (1 : Int32)).toNatClampNeg) (xs (iv + (2 : Int32)).toNatClampNeg) mm r m' e2) hl.1 rfl rfl (Nat.le_of_ble_eq_true rfl) (Nat.le_of_ble_eq_true rfl) (Nat.le_of_ble_eq_true rfl) hcs dL_law_488 (fun H locs hw => ?_)
    refine lv_istore (lv' := [(6, .int r), (5, .int 2), (4, .int iv), (3, .ref o), (2, .ref (E.1 10 0)), (1, .ref (E.1 9 0)), (0, .ref b)]) G.1 G.2.1 dL_law_491 hl (by decide) rfl (fun ls hl => ?_)
    exact l_tail (P := 493) (k := 2) (b6 := r) (iv := iv) (b := b) G hw hl e3 (fun h => absurd h (by decide)) mv_L_59 ⟨(Nat.le_of_ble_eq_true rfl), (Nat.le_of_ble_eq_true rfl), hcs.1, hcs.2⟩ dL_law_493 dL_law_494 dL_law_497 dL_law_499 dL_law_504 dL_law_506 dL_law_509 dL_law_510 dL_law_511 dL_law_512 dL_law_514 dL_law_515 dL_law_516 dL_law_521 (by decide) (fun H locs hw => kk _ _ _ _ _ _ hw hI (lv_sub hl [2, 3, 4, 5, 6] rfl))
set_option maxHeartbeats 4000000 in
set_option maxRecDepth 100000 in
theorem lc_9 (hlf : l.stackTraces = false) (G : CallFix p m c cL_law 7 s #[.ref b] gtbl RL) (hX : va_X b L xs s s.heap) (hbl : b < s.heap.size) (hw : LWs D E (fr9 s) s o f mm cm H locs) (hI : INVL cm mm) (hl : lv_has ls 7 [(4, .int iv), (3, .ref o), (2, .ref (E.1 10 0)), (1, .ref (E.1 9 0)), (0, .ref b)]) (h1 : vp_in (iv + 1) L) (h2 : vp_in (iv + 2) L) (h3 : vp_in (iv + 3) L) (hcs : cells + 1 ≤ room_1.cells ∧ slots + 6 ≤ room_1.slots) (kk : ∀ (f2 : Nat → Int64) (m2 c2 : Mem) (H1 : Heap) (locs1 : List Loc) (ls1 : Array Slot), LWs D E (fr9 s) s o f2 m2 c2 H1 locs1 → INVL c2 m2 → lv_has ls1 7 [(4, .int iv), (3, .ref o), (2, .ref (E.1 10 0)), (1, .ref (E.1 9 0)), (0, .ref b)] → W p l en room_1 s m #[.ref b] below meth c H1 locs1 (cells + 1) (slots + 6) Q (F0 m 866 ls1 [])) : W p l en room_1 s m #[.ref b] below meth c H locs cells slots Q (F0 m 524 ls []) := by
  have hbA : ¬ fr9 s b := Nat.not_le.mpr hbl
  have hcs0 : cells ≤ room_1.cells ∧ slots ≤ room_1.slots := ⟨Nat.le_trans (Nat.le_add_right _ _) hcs.1, Nat.le_trans (Nat.le_add_right _ _) hcs.2⟩
  refine lv_aload_n G.1 G.2.1 dL_law_524 rfl (lv_at hl 3 rfl) ?_
  refine lv_aload_n G.1 G.2.1 dL_law_525 rfl (lv_at hl 4 rfl) ?_
  refine lv_iload G.1 G.2.1 dL_law_526 (lv_at hl 0 rfl) ?_
  refine lv_iconst (v := (1 : Int32)) G.1 G.2.1 dL_law_528 (by decide) ?_
  refine lv_iadd G.1 G.2.1 dL_law_529 ?_
  refine va_sld G.1 G.2.1 hX hbl hbA hw.2.2.2.1 h1 dL_law_530 ?_
  refine lv_aload_n G.1 G.2.1 dL_law_531 rfl (lv_at hl 4 rfl) ?_
  refine lv_iload G.1 G.2.1 dL_law_532 (lv_at hl 0 rfl) ?_
  refine lv_iconst (v := (2 : Int32)) G.1 G.2.1 dL_law_534 (by decide) ?_
  refine lv_iadd G.1 G.2.1 dL_law_535 ?_
  refine va_sld G.1 G.2.1 hX hbl hbA hw.2.2.2.1 h2 dL_law_536 ?_
  refine lv_aload_n G.1 G.2.1 dL_law_537 rfl (lv_at hl 1 rfl) ?_
  rcases i_set (n := 6000) (xs (iv + (1 : Int32)).toNatClampNeg) (xs (iv + (2 : Int32)).toNatClampNeg) hI with ⟨r, c', m', e1, e2, e3, hI⟩ | ⟨e1, r, m', e2, e3, hI⟩
  · refine l_help (As := [.ref (E.1 9 0), .int (xs (iv + (1 : Int32)).toNatClampNeg), .int (xs (iv + (2 : Int32)).toNatClampNeg), .ref o]) (rest := []) G hw mw_L_94 (h_set l D (gws idsM E mm) o f E 6000 (xs (iv + (1 : Int32)).toNatClampNeg) (xs (iv + (2 : Int32)).toNatClampNeg) cm r c' e1) hl.1 rfl rfl (Nat.le_of_ble_eq_true rfl) (Nat.le_of_ble_eq_true rfl) (Nat.le_of_ble_eq_true rfl) hcs dL_law_538 (fun H locs hw => ?_)
    refine lv_istore (lv' := [(5, .int 0), (4, .int iv), (3, .ref o), (2, .ref (E.1 10 0)), (1, .ref (E.1 9 0)), (0, .ref b)]) G.1 G.2.1 dL_law_541 hl (by decide) rfl (fun ls hl => ?_)
    refine lv_aload_n G.1 G.2.1 dL_law_543 rfl (lv_at hl 3 rfl) ?_
    refine lv_aload_n G.1 G.2.1 dL_law_544 rfl (lv_at hl 5 rfl) ?_
    refine lv_iload G.1 G.2.1 dL_law_545 (lv_at hl 1 rfl) ?_
    refine lv_iconst (v := (1 : Int32)) G.1 G.2.1 dL_law_547 (by decide) ?_
    refine lv_iadd G.1 G.2.1 dL_law_548 ?_
    refine va_sld G.1 G.2.1 hX hbl hbA hw.2.2.2.1 h1 dL_law_549 ?_
    refine lv_aload_n G.1 G.2.1 dL_law_550 rfl (lv_at hl 5 rfl) ?_
    refine lv_iload G.1 G.2.1 dL_law_551 (lv_at hl 1 rfl) ?_
    refine lv_iconst (v := (2 : Int32)) G.1 G.2.1 dL_law_553 (by decide) ?_
    refine lv_iadd G.1 G.2.1 dL_law_554 ?_
    refine va_sld G.1 G.2.1 hX hbl hbA hw.2.2.2.1 h2 dL_law_555 ?_
    refine l_M (As := [.int (xs (iv + (1 : Int32)).toNatClampNeg), .int (xs (iv + (2 : Int32)).toNatClampNeg)]) (rest := []) G hw mv_L_96 (c_M_set l D _ E 6000 (xs (iv + (1 : Int32)).toNatClampNeg) (xs (iv + (2 : Int32)).toNatClampNeg) mm r m' e2) hl.1 rfl rfl (Nat.le_of_ble_eq_true rfl) (Nat.le_of_ble_eq_true rfl) (Nat.le_of_ble_eq_true rfl) hcs dL_law_556 (fun H locs hw => ?_)
    refine lv_istore (lv' := [(6, .int r), (5, .int 0), (4, .int iv), (3, .ref o), (2, .ref (E.1 10 0)), (1, .ref (E.1 9 0)), (0, .ref b)]) G.1 G.2.1 dL_law_559 hl (by decide) rfl (fun ls hl => ?_)
    exact l_tail (P := 561) (k := 0) (b6 := r) (iv := iv) (b := b) G hw hl e3 (fun _ => rfl) mv_L_59 ⟨(Nat.le_of_ble_eq_true rfl), (Nat.le_of_ble_eq_true rfl), hcs.1, hcs.2⟩ dL_law_561 dL_law_562 dL_law_565 dL_law_567 dL_law_572 dL_law_574 dL_law_577 dL_law_578 dL_law_579 dL_law_580 dL_law_582 dL_law_583 dL_law_584 dL_law_589 (by decide) (fun H locs hw => kk _ _ _ _ _ _ hw hI (lv_sub hl [2, 3, 4, 5, 6] rfl))
  · refine l_help (As := [.ref (E.1 9 0), .int (xs (iv + (1 : Int32)).toNatClampNeg), .int (xs (iv + (2 : Int32)).toNatClampNeg), .ref o]) (rest := []) G hw mw_L_94 (h_set_T1 l hlf D (gws idsM E mm) o f E 6000 (xs (iv + (1 : Int32)).toNatClampNeg) (xs (iv + (2 : Int32)).toNatClampNeg) cm e1) hl.1 rfl rfl (Nat.le_of_ble_eq_true rfl) (Nat.le_of_ble_eq_true rfl) (Nat.le_of_ble_eq_true rfl) hcs dL_law_538 (fun H locs hw => ?_)
    refine lv_istore (lv' := [(5, .int 1), (4, .int iv), (3, .ref o), (2, .ref (E.1 10 0)), (1, .ref (E.1 9 0)), (0, .ref b)]) G.1 G.2.1 dL_law_541 hl (by decide) rfl (fun ls hl => ?_)
    refine lv_aload_n G.1 G.2.1 dL_law_543 rfl (lv_at hl 3 rfl) ?_
    refine lv_aload_n G.1 G.2.1 dL_law_544 rfl (lv_at hl 5 rfl) ?_
    refine lv_iload G.1 G.2.1 dL_law_545 (lv_at hl 1 rfl) ?_
    refine lv_iconst (v := (1 : Int32)) G.1 G.2.1 dL_law_547 (by decide) ?_
    refine lv_iadd G.1 G.2.1 dL_law_548 ?_
    refine va_sld G.1 G.2.1 hX hbl hbA hw.2.2.2.1 h1 dL_law_549 ?_
    refine lv_aload_n G.1 G.2.1 dL_law_550 rfl (lv_at hl 5 rfl) ?_
    refine lv_iload G.1 G.2.1 dL_law_551 (lv_at hl 1 rfl) ?_
    refine lv_iconst (v := (2 : Int32)) G.1 G.2.1 dL_law_553 (by decide) ?_
    refine lv_iadd G.1 G.2.1 dL_law_554 ?_
    refine va_sld G.1 G.2.1 hX hbl hbA hw.2.2.2.1 h2 dL_law_555 ?_
    refine l_M (As := [.int (xs (iv + (1 : Int32)).toNatClampNeg), .int (xs (iv + (2 : Int32)).toNatClampNeg)]) (rest := []) G hw mv_L_96 (c_M_set l D _ E 6000 (xs (iv + (1 : Int32)).toNatClampNeg) (xs (iv + (2 : Int32)).toNatClampNeg) mm r m' e2) hl.1 rfl rfl (Nat.le_of_ble_eq_true rfl) (Nat.le_of_ble_eq_true rfl) (Nat.le_of_ble_eq_true rfl) hcs dL_law_556 (fun H locs hw => ?_)
    refine lv_istore (lv' := [(6, .int r), (5, .int 1), (4, .int iv), (3, .ref o), (2, .ref (E.1 10 0)), (1, .ref (E.1 9 0)), (0, .ref b)]) G.1 G.2.1 dL_law_559 hl (by decide) rfl (fun ls hl => ?_)
    exact l_tail (P := 561) (k := 1) (b6 := r) (iv := iv) (b := b) G hw hl e3 (fun h => absurd h (by decide)) mv_L_59 ⟨(Nat.le_of_ble_eq_true rfl), (Nat.le_of_ble_eq_true rfl), hcs.1, hcs.2⟩ dL_law_561 dL_law_562 dL_law_565 dL_law_567 dL_law_572 dL_law_574 dL_law_577 dL_law_578 dL_law_579 dL_law_580 dL_law_582 dL_law_583 dL_law_584 dL_law_589 (by decide) (fun H locs hw => kk _ _ _ _ _ _ hw hI (lv_sub hl [2, 3, 4, 5, 6] rfl))
set_option maxHeartbeats 4000000 in
set_option maxRecDepth 100000 in
theorem lc_10 (hlf : l.stackTraces = false) (G : CallFix p m c cL_law 7 s #[.ref b] gtbl RL) (hX : va_X b L xs s s.heap) (hbl : b < s.heap.size) (hw : LWs D E (fr9 s) s o f mm cm H locs) (hI : INVL cm mm) (hl : lv_has ls 7 [(4, .int iv), (3, .ref o), (2, .ref (E.1 10 0)), (1, .ref (E.1 9 0)), (0, .ref b)]) (h1 : vp_in (iv + 1) L) (h2 : vp_in (iv + 2) L) (h3 : vp_in (iv + 3) L) (hcs : cells + 1 ≤ room_1.cells ∧ slots + 6 ≤ room_1.slots) (kk : ∀ (f2 : Nat → Int64) (m2 c2 : Mem) (H1 : Heap) (locs1 : List Loc) (ls1 : Array Slot), LWs D E (fr9 s) s o f2 m2 c2 H1 locs1 → INVL c2 m2 → lv_has ls1 7 [(4, .int iv), (3, .ref o), (2, .ref (E.1 10 0)), (1, .ref (E.1 9 0)), (0, .ref b)] → W p l en room_1 s m #[.ref b] below meth c H1 locs1 (cells + 1) (slots + 6) Q (F0 m 866 ls1 [])) : W p l en room_1 s m #[.ref b] below meth c H locs cells slots Q (F0 m 592 ls []) := by
  have hbA : ¬ fr9 s b := Nat.not_le.mpr hbl
  have hcs0 : cells ≤ room_1.cells ∧ slots ≤ room_1.slots := ⟨Nat.le_trans (Nat.le_add_right _ _) hcs.1, Nat.le_trans (Nat.le_add_right _ _) hcs.2⟩
  refine lv_aload_n G.1 G.2.1 dL_law_592 rfl (lv_at hl 3 rfl) ?_
  refine lv_aload_n G.1 G.2.1 dL_law_593 rfl (lv_at hl 4 rfl) ?_
  refine lv_iload G.1 G.2.1 dL_law_594 (lv_at hl 0 rfl) ?_
  refine lv_iconst (v := (1 : Int32)) G.1 G.2.1 dL_law_596 (by decide) ?_
  refine lv_iadd G.1 G.2.1 dL_law_597 ?_
  refine va_sld G.1 G.2.1 hX hbl hbA hw.2.2.2.1 h1 dL_law_598 ?_
  refine lv_aload_n G.1 G.2.1 dL_law_599 rfl (lv_at hl 1 rfl) ?_
  rcases i_get (n := 6000) (xs (iv + (1 : Int32)).toNatClampNeg) hI with ⟨r, m', e1, e2, e3, hI⟩ | ⟨e1, r, m', e2, e3, hI⟩
  · refine l_help (As := [.ref (E.1 9 0), .int (xs (iv + (1 : Int32)).toNatClampNeg), .ref o]) (rest := []) G hw mw_L_97 (h_get l D (gws idsM E mm) o f E 6000 (xs (iv + (1 : Int32)).toNatClampNeg) cm r e1) hl.1 rfl rfl (Nat.le_of_ble_eq_true rfl) (Nat.le_of_ble_eq_true rfl) (Nat.le_of_ble_eq_true rfl) hcs dL_law_600 (fun H locs hw => ?_)
    refine lv_istore (lv' := [(5, .int 0), (4, .int iv), (3, .ref o), (2, .ref (E.1 10 0)), (1, .ref (E.1 9 0)), (0, .ref b)]) G.1 G.2.1 dL_law_603 hl (by decide) rfl (fun ls hl => ?_)
    refine lv_aload_n G.1 G.2.1 dL_law_605 rfl (lv_at hl 3 rfl) ?_
    refine lv_aload_n G.1 G.2.1 dL_law_606 rfl (lv_at hl 5 rfl) ?_
    refine lv_iload G.1 G.2.1 dL_law_607 (lv_at hl 1 rfl) ?_
    refine lv_iconst (v := (1 : Int32)) G.1 G.2.1 dL_law_609 (by decide) ?_
    refine lv_iadd G.1 G.2.1 dL_law_610 ?_
    refine va_sld G.1 G.2.1 hX hbl hbA hw.2.2.2.1 h1 dL_law_611 ?_
    refine l_M (As := [.int (xs (iv + (1 : Int32)).toNatClampNeg)]) (rest := []) G hw mv_L_99 (c_M_get l D _ E 6000 (xs (iv + (1 : Int32)).toNatClampNeg) mm r m' e2) hl.1 rfl rfl (Nat.le_of_ble_eq_true rfl) (Nat.le_of_ble_eq_true rfl) (Nat.le_of_ble_eq_true rfl) hcs dL_law_612 (fun H locs hw => ?_)
    refine lv_istore (lv' := [(6, .int r), (5, .int 0), (4, .int iv), (3, .ref o), (2, .ref (E.1 10 0)), (1, .ref (E.1 9 0)), (0, .ref b)]) G.1 G.2.1 dL_law_615 hl (by decide) rfl (fun ls hl => ?_)
    exact l_tail (P := 617) (k := 0) (b6 := r) (iv := iv) (b := b) G hw hl e3 (fun _ => rfl) mv_L_59 ⟨(Nat.le_of_ble_eq_true rfl), (Nat.le_of_ble_eq_true rfl), hcs.1, hcs.2⟩ dL_law_617 dL_law_618 dL_law_621 dL_law_623 dL_law_628 dL_law_630 dL_law_633 dL_law_634 dL_law_635 dL_law_636 dL_law_638 dL_law_639 dL_law_640 dL_law_645 (by decide) (fun H locs hw => kk _ _ _ _ _ _ hw hI (lv_sub hl [2, 3, 4, 5, 6] rfl))
  · refine l_help (As := [.ref (E.1 9 0), .int (xs (iv + (1 : Int32)).toNatClampNeg), .ref o]) (rest := []) G hw mw_L_97 (h_get_T1 l hlf D (gws idsM E mm) o f E 6000 (xs (iv + (1 : Int32)).toNatClampNeg) cm e1) hl.1 rfl rfl (Nat.le_of_ble_eq_true rfl) (Nat.le_of_ble_eq_true rfl) (Nat.le_of_ble_eq_true rfl) hcs dL_law_600 (fun H locs hw => ?_)
    refine lv_istore (lv' := [(5, .int 1), (4, .int iv), (3, .ref o), (2, .ref (E.1 10 0)), (1, .ref (E.1 9 0)), (0, .ref b)]) G.1 G.2.1 dL_law_603 hl (by decide) rfl (fun ls hl => ?_)
    refine lv_aload_n G.1 G.2.1 dL_law_605 rfl (lv_at hl 3 rfl) ?_
    refine lv_aload_n G.1 G.2.1 dL_law_606 rfl (lv_at hl 5 rfl) ?_
    refine lv_iload G.1 G.2.1 dL_law_607 (lv_at hl 1 rfl) ?_
    refine lv_iconst (v := (1 : Int32)) G.1 G.2.1 dL_law_609 (by decide) ?_
    refine lv_iadd G.1 G.2.1 dL_law_610 ?_
    refine va_sld G.1 G.2.1 hX hbl hbA hw.2.2.2.1 h1 dL_law_611 ?_
    refine l_M (As := [.int (xs (iv + (1 : Int32)).toNatClampNeg)]) (rest := []) G hw mv_L_99 (c_M_get l D _ E 6000 (xs (iv + (1 : Int32)).toNatClampNeg) mm r m' e2) hl.1 rfl rfl (Nat.le_of_ble_eq_true rfl) (Nat.le_of_ble_eq_true rfl) (Nat.le_of_ble_eq_true rfl) hcs dL_law_612 (fun H locs hw => ?_)
    refine lv_istore (lv' := [(6, .int r), (5, .int 1), (4, .int iv), (3, .ref o), (2, .ref (E.1 10 0)), (1, .ref (E.1 9 0)), (0, .ref b)]) G.1 G.2.1 dL_law_615 hl (by decide) rfl (fun ls hl => ?_)
    exact l_tail (P := 617) (k := 1) (b6 := r) (iv := iv) (b := b) G hw hl e3 (fun h => absurd h (by decide)) mv_L_59 ⟨(Nat.le_of_ble_eq_true rfl), (Nat.le_of_ble_eq_true rfl), hcs.1, hcs.2⟩ dL_law_617 dL_law_618 dL_law_621 dL_law_623 dL_law_628 dL_law_630 dL_law_633 dL_law_634 dL_law_635 dL_law_636 dL_law_638 dL_law_639 dL_law_640 dL_law_645 (by decide) (fun H locs hw => kk _ _ _ _ _ _ hw hI (lv_sub hl [2, 3, 4, 5, 6] rfl))
set_option maxHeartbeats 4000000 in
set_option maxRecDepth 100000 in
theorem lc_11 (hlf : l.stackTraces = false) (G : CallFix p m c cL_law 7 s #[.ref b] gtbl RL) (hX : va_X b L xs s s.heap) (hbl : b < s.heap.size) (hw : LWs D E (fr9 s) s o f mm cm H locs) (hI : INVL cm mm) (hl : lv_has ls 7 [(4, .int iv), (3, .ref o), (2, .ref (E.1 10 0)), (1, .ref (E.1 9 0)), (0, .ref b)]) (h1 : vp_in (iv + 1) L) (h2 : vp_in (iv + 2) L) (h3 : vp_in (iv + 3) L) (hcs : cells + 1 ≤ room_1.cells ∧ slots + 6 ≤ room_1.slots) (kk : ∀ (f2 : Nat → Int64) (m2 c2 : Mem) (H1 : Heap) (locs1 : List Loc) (ls1 : Array Slot), LWs D E (fr9 s) s o f2 m2 c2 H1 locs1 → INVL c2 m2 → lv_has ls1 7 [(4, .int iv), (3, .ref o), (2, .ref (E.1 10 0)), (1, .ref (E.1 9 0)), (0, .ref b)] → W p l en room_1 s m #[.ref b] below meth c H1 locs1 (cells + 1) (slots + 6) Q (F0 m 866 ls1 [])) : W p l en room_1 s m #[.ref b] below meth c H locs cells slots Q (F0 m 648 ls []) := by
  have hbA : ¬ fr9 s b := Nat.not_le.mpr hbl
  have hcs0 : cells ≤ room_1.cells ∧ slots ≤ room_1.slots := ⟨Nat.le_trans (Nat.le_add_right _ _) hcs.1, Nat.le_trans (Nat.le_add_right _ _) hcs.2⟩
  refine lv_aload_n G.1 G.2.1 dL_law_648 rfl (lv_at hl 3 rfl) ?_
  refine lv_aload_n G.1 G.2.1 dL_law_649 rfl (lv_at hl 4 rfl) ?_
  refine lv_iload G.1 G.2.1 dL_law_650 (lv_at hl 0 rfl) ?_
  refine lv_iconst (v := (1 : Int32)) G.1 G.2.1 dL_law_652 (by decide) ?_
  refine lv_iadd G.1 G.2.1 dL_law_653 ?_
  refine va_sld G.1 G.2.1 hX hbl hbA hw.2.2.2.1 h1 dL_law_654 ?_
  refine lv_aload_n G.1 G.2.1 dL_law_655 rfl (lv_at hl 4 rfl) ?_
  refine lv_iload G.1 G.2.1 dL_law_656 (lv_at hl 0 rfl) ?_
  refine lv_iconst (v := (2 : Int32)) G.1 G.2.1 dL_law_658 (by decide) ?_
  refine lv_iadd G.1 G.2.1 dL_law_659 ?_
  refine va_sld G.1 G.2.1 hX hbl hbA hw.2.2.2.1 h2 dL_law_660 ?_
  refine lv_aload_n G.1 G.2.1 dL_law_661 rfl (lv_at hl 1 rfl) ?_
  rcases i_poke (n := 6000) (xs (iv + (1 : Int32)).toNatClampNeg) (xs (iv + (2 : Int32)).toNatClampNeg) hI with ⟨r, c', m', e1, e2, e3, hI⟩ | ⟨e1, r, m', e2, e3, hI⟩
  · refine l_help (As := [.ref (E.1 9 0), .int (xs (iv + (1 : Int32)).toNatClampNeg), .int (xs (iv + (2 : Int32)).toNatClampNeg), .ref o]) (rest := []) G hw mw_L_100 (h_poke l D (gws idsM E mm) o f E 6000 (xs (iv + (1 : Int32)).toNatClampNeg) (xs (iv + (2 : Int32)).toNatClampNeg) cm r c' e1) hl.1 rfl rfl (Nat.le_of_ble_eq_true rfl) (Nat.le_of_ble_eq_true rfl) (Nat.le_of_ble_eq_true rfl) hcs dL_law_662 (fun H locs hw => ?_)
    refine lv_istore (lv' := [(5, .int 0), (4, .int iv), (3, .ref o), (2, .ref (E.1 10 0)), (1, .ref (E.1 9 0)), (0, .ref b)]) G.1 G.2.1 dL_law_665 hl (by decide) rfl (fun ls hl => ?_)
    refine lv_aload_n G.1 G.2.1 dL_law_667 rfl (lv_at hl 3 rfl) ?_
    refine lv_aload_n G.1 G.2.1 dL_law_668 rfl (lv_at hl 5 rfl) ?_
    refine lv_iload G.1 G.2.1 dL_law_669 (lv_at hl 1 rfl) ?_
    refine lv_iconst (v := (1 : Int32)) G.1 G.2.1 dL_law_671 (by decide) ?_
    refine lv_iadd G.1 G.2.1 dL_law_672 ?_
    refine va_sld G.1 G.2.1 hX hbl hbA hw.2.2.2.1 h1 dL_law_673 ?_
    refine lv_aload_n G.1 G.2.1 dL_law_674 rfl (lv_at hl 5 rfl) ?_
    refine lv_iload G.1 G.2.1 dL_law_675 (lv_at hl 1 rfl) ?_
    refine lv_iconst (v := (2 : Int32)) G.1 G.2.1 dL_law_677 (by decide) ?_
    refine lv_iadd G.1 G.2.1 dL_law_678 ?_
    refine va_sld G.1 G.2.1 hX hbl hbA hw.2.2.2.1 h2 dL_law_679 ?_
    refine l_M (As := [.int (xs (iv + (1 : Int32)).toNatClampNeg), .int (xs (iv + (2 : Int32)).toNatClampNeg)]) (rest := []) G hw mv_L_102 (c_M_poke l D _ E 6000 (xs (iv + (1 : Int32)).toNatClampNeg) (xs (iv + (2 : Int32)).toNatClampNeg) mm r m' e2) hl.1 rfl rfl (Nat.le_of_ble_eq_true rfl) (Nat.le_of_ble_eq_true rfl) (Nat.le_of_ble_eq_true rfl) hcs dL_law_680 (fun H locs hw => ?_)
    refine lv_istore (lv' := [(6, .int r), (5, .int 0), (4, .int iv), (3, .ref o), (2, .ref (E.1 10 0)), (1, .ref (E.1 9 0)), (0, .ref b)]) G.1 G.2.1 dL_law_683 hl (by decide) rfl (fun ls hl => ?_)
    exact l_tail (P := 685) (k := 0) (b6 := r) (iv := iv) (b := b) G hw hl e3 (fun _ => rfl) mv_L_59 ⟨(Nat.le_of_ble_eq_true rfl), (Nat.le_of_ble_eq_true rfl), hcs.1, hcs.2⟩ dL_law_685 dL_law_686 dL_law_689 dL_law_691 dL_law_696 dL_law_698 dL_law_701 dL_law_702 dL_law_703 dL_law_704 dL_law_706 dL_law_707 dL_law_708 dL_law_713 (by decide) (fun H locs hw => kk _ _ _ _ _ _ hw hI (lv_sub hl [2, 3, 4, 5, 6] rfl))
  · refine l_help (As := [.ref (E.1 9 0), .int (xs (iv + (1 : Int32)).toNatClampNeg), .int (xs (iv + (2 : Int32)).toNatClampNeg), .ref o]) (rest := []) G hw mw_L_100 (h_poke_T1 l hlf D (gws idsM E mm) o f E 6000 (xs (iv + (1 : Int32)).toNatClampNeg) (xs (iv + (2 : Int32)).toNatClampNeg) cm e1) hl.1 rfl rfl (Nat.le_of_ble_eq_true rfl) (Nat.le_of_ble_eq_true rfl) (Nat.le_of_ble_eq_true rfl) hcs dL_law_662 (fun H locs hw => ?_)
    refine lv_istore (lv' := [(5, .int 1), (4, .int iv), (3, .ref o), (2, .ref (E.1 10 0)), (1, .ref (E.1 9 0)), (0, .ref b)]) G.1 G.2.1 dL_law_665 hl (by decide) rfl (fun ls hl => ?_)
    refine lv_aload_n G.1 G.2.1 dL_law_667 rfl (lv_at hl 3 rfl) ?_
    refine lv_aload_n G.1 G.2.1 dL_law_668 rfl (lv_at hl 5 rfl) ?_
    refine lv_iload G.1 G.2.1 dL_law_669 (lv_at hl 1 rfl) ?_
    refine lv_iconst (v := (1 : Int32)) G.1 G.2.1 dL_law_671 (by decide) ?_
    refine lv_iadd G.1 G.2.1 dL_law_672 ?_
    refine va_sld G.1 G.2.1 hX hbl hbA hw.2.2.2.1 h1 dL_law_673 ?_
    refine lv_aload_n G.1 G.2.1 dL_law_674 rfl (lv_at hl 5 rfl) ?_
    refine lv_iload G.1 G.2.1 dL_law_675 (lv_at hl 1 rfl) ?_
    refine lv_iconst (v := (2 : Int32)) G.1 G.2.1 dL_law_677 (by decide) ?_
    refine lv_iadd G.1 G.2.1 dL_law_678 ?_
    refine va_sld G.1 G.2.1 hX hbl hbA hw.2.2.2.1 h2 dL_law_679 ?_
    refine l_M (As := [.int (xs (iv + (1 : Int32)).toNatClampNeg), .int (xs (iv + (2 : Int32)).toNatClampNeg)]) (rest := []) G hw mv_L_102 (c_M_poke l D _ E 6000 (xs (iv + (1 : Int32)).toNatClampNeg) (xs (iv + (2 : Int32)).toNatClampNeg) mm r m' e2) hl.1 rfl rfl (Nat.le_of_ble_eq_true rfl) (Nat.le_of_ble_eq_true rfl) (Nat.le_of_ble_eq_true rfl) hcs dL_law_680 (fun H locs hw => ?_)
    refine lv_istore (lv' := [(6, .int r), (5, .int 1), (4, .int iv), (3, .ref o), (2, .ref (E.1 10 0)), (1, .ref (E.1 9 0)), (0, .ref b)]) G.1 G.2.1 dL_law_683 hl (by decide) rfl (fun ls hl => ?_)
    exact l_tail (P := 685) (k := 1) (b6 := r) (iv := iv) (b := b) G hw hl e3 (fun h => absurd h (by decide)) mv_L_59 ⟨(Nat.le_of_ble_eq_true rfl), (Nat.le_of_ble_eq_true rfl), hcs.1, hcs.2⟩ dL_law_685 dL_law_686 dL_law_689 dL_law_691 dL_law_696 dL_law_698 dL_law_701 dL_law_702 dL_law_703 dL_law_704 dL_law_706 dL_law_707 dL_law_708 dL_law_713 (by decide) (fun H locs hw => kk _ _ _ _ _ _ hw hI (lv_sub hl [2, 3, 4, 5, 6] rfl))
set_option maxHeartbeats 4000000 in
set_option maxRecDepth 100000 in
theorem lc_12 (hlf : l.stackTraces = false) (G : CallFix p m c cL_law 7 s #[.ref b] gtbl RL) (hX : va_X b L xs s s.heap) (hbl : b < s.heap.size) (hw : LWs D E (fr9 s) s o f mm cm H locs) (hI : INVL cm mm) (hl : lv_has ls 7 [(4, .int iv), (3, .ref o), (2, .ref (E.1 10 0)), (1, .ref (E.1 9 0)), (0, .ref b)]) (h1 : vp_in (iv + 1) L) (h2 : vp_in (iv + 2) L) (h3 : vp_in (iv + 3) L) (hcs : cells + 1 ≤ room_1.cells ∧ slots + 6 ≤ room_1.slots) (kk : ∀ (f2 : Nat → Int64) (m2 c2 : Mem) (H1 : Heap) (locs1 : List Loc) (ls1 : Array Slot), LWs D E (fr9 s) s o f2 m2 c2 H1 locs1 → INVL c2 m2 → lv_has ls1 7 [(4, .int iv), (3, .ref o), (2, .ref (E.1 10 0)), (1, .ref (E.1 9 0)), (0, .ref b)] → W p l en room_1 s m #[.ref b] below meth c H1 locs1 (cells + 1) (slots + 6) Q (F0 m 866 ls1 [])) : W p l en room_1 s m #[.ref b] below meth c H locs cells slots Q (F0 m 716 ls []) := by
  have hbA : ¬ fr9 s b := Nat.not_le.mpr hbl
  have hcs0 : cells ≤ room_1.cells ∧ slots ≤ room_1.slots := ⟨Nat.le_trans (Nat.le_add_right _ _) hcs.1, Nat.le_trans (Nat.le_add_right _ _) hcs.2⟩
  refine lv_aload_n G.1 G.2.1 dL_law_716 rfl (lv_at hl 3 rfl) ?_
  refine lv_aload_n G.1 G.2.1 dL_law_717 rfl (lv_at hl 4 rfl) ?_
  refine lv_iload G.1 G.2.1 dL_law_718 (lv_at hl 0 rfl) ?_
  refine lv_iconst (v := (1 : Int32)) G.1 G.2.1 dL_law_720 (by decide) ?_
  refine lv_iadd G.1 G.2.1 dL_law_721 ?_
  refine va_sld G.1 G.2.1 hX hbl hbA hw.2.2.2.1 h1 dL_law_722 ?_
  refine lv_aload_n G.1 G.2.1 dL_law_723 rfl (lv_at hl 1 rfl) ?_
  rcases i_peek (n := 6000) (xs (iv + (1 : Int32)).toNatClampNeg) hI with ⟨r, m', e1, e2, e3, hI⟩ | ⟨e1, r, m', e2, e3, hI⟩
  · refine l_help (As := [.ref (E.1 9 0), .int (xs (iv + (1 : Int32)).toNatClampNeg), .ref o]) (rest := []) G hw mw_L_103 (h_peek l D (gws idsM E mm) o f E 6000 (xs (iv + (1 : Int32)).toNatClampNeg) cm r e1) hl.1 rfl rfl (Nat.le_of_ble_eq_true rfl) (Nat.le_of_ble_eq_true rfl) (Nat.le_of_ble_eq_true rfl) hcs dL_law_724 (fun H locs hw => ?_)
    refine lv_istore (lv' := [(5, .int 0), (4, .int iv), (3, .ref o), (2, .ref (E.1 10 0)), (1, .ref (E.1 9 0)), (0, .ref b)]) G.1 G.2.1 dL_law_727 hl (by decide) rfl (fun ls hl => ?_)
    refine lv_aload_n G.1 G.2.1 dL_law_729 rfl (lv_at hl 3 rfl) ?_
    refine lv_aload_n G.1 G.2.1 dL_law_730 rfl (lv_at hl 5 rfl) ?_
    refine lv_iload G.1 G.2.1 dL_law_731 (lv_at hl 1 rfl) ?_
    refine lv_iconst (v := (1 : Int32)) G.1 G.2.1 dL_law_733 (by decide) ?_
    refine lv_iadd G.1 G.2.1 dL_law_734 ?_
    refine va_sld G.1 G.2.1 hX hbl hbA hw.2.2.2.1 h1 dL_law_735 ?_
    refine l_M (As := [.int (xs (iv + (1 : Int32)).toNatClampNeg)]) (rest := []) G hw mv_L_105 (c_M_peek l D _ E 6000 (xs (iv + (1 : Int32)).toNatClampNeg) mm r m' e2) hl.1 rfl rfl (Nat.le_of_ble_eq_true rfl) (Nat.le_of_ble_eq_true rfl) (Nat.le_of_ble_eq_true rfl) hcs dL_law_736 (fun H locs hw => ?_)
    refine lv_istore (lv' := [(6, .int r), (5, .int 0), (4, .int iv), (3, .ref o), (2, .ref (E.1 10 0)), (1, .ref (E.1 9 0)), (0, .ref b)]) G.1 G.2.1 dL_law_739 hl (by decide) rfl (fun ls hl => ?_)
    exact l_tail (P := 741) (k := 0) (b6 := r) (iv := iv) (b := b) G hw hl e3 (fun _ => rfl) mv_L_59 ⟨(Nat.le_of_ble_eq_true rfl), (Nat.le_of_ble_eq_true rfl), hcs.1, hcs.2⟩ dL_law_741 dL_law_742 dL_law_745 dL_law_747 dL_law_752 dL_law_754 dL_law_757 dL_law_758 dL_law_759 dL_law_760 dL_law_762 dL_law_763 dL_law_764 dL_law_769 (by decide) (fun H locs hw => kk _ _ _ _ _ _ hw hI (lv_sub hl [2, 3, 4, 5, 6] rfl))
  · refine l_help (As := [.ref (E.1 9 0), .int (xs (iv + (1 : Int32)).toNatClampNeg), .ref o]) (rest := []) G hw mw_L_103 (h_peek_T1 l hlf D (gws idsM E mm) o f E 6000 (xs (iv + (1 : Int32)).toNatClampNeg) cm e1) hl.1 rfl rfl (Nat.le_of_ble_eq_true rfl) (Nat.le_of_ble_eq_true rfl) (Nat.le_of_ble_eq_true rfl) hcs dL_law_724 (fun H locs hw => ?_)
    refine lv_istore (lv' := [(5, .int 1), (4, .int iv), (3, .ref o), (2, .ref (E.1 10 0)), (1, .ref (E.1 9 0)), (0, .ref b)]) G.1 G.2.1 dL_law_727 hl (by decide) rfl (fun ls hl => ?_)
    refine lv_aload_n G.1 G.2.1 dL_law_729 rfl (lv_at hl 3 rfl) ?_
    refine lv_aload_n G.1 G.2.1 dL_law_730 rfl (lv_at hl 5 rfl) ?_
    refine lv_iload G.1 G.2.1 dL_law_731 (lv_at hl 1 rfl) ?_
    refine lv_iconst (v := (1 : Int32)) G.1 G.2.1 dL_law_733 (by decide) ?_
    refine lv_iadd G.1 G.2.1 dL_law_734 ?_
    refine va_sld G.1 G.2.1 hX hbl hbA hw.2.2.2.1 h1 dL_law_735 ?_
    refine l_M (As := [.int (xs (iv + (1 : Int32)).toNatClampNeg)]) (rest := []) G hw mv_L_105 (c_M_peek l D _ E 6000 (xs (iv + (1 : Int32)).toNatClampNeg) mm r m' e2) hl.1 rfl rfl (Nat.le_of_ble_eq_true rfl) (Nat.le_of_ble_eq_true rfl) (Nat.le_of_ble_eq_true rfl) hcs dL_law_736 (fun H locs hw => ?_)
    refine lv_istore (lv' := [(6, .int r), (5, .int 1), (4, .int iv), (3, .ref o), (2, .ref (E.1 10 0)), (1, .ref (E.1 9 0)), (0, .ref b)]) G.1 G.2.1 dL_law_739 hl (by decide) rfl (fun ls hl => ?_)
    exact l_tail (P := 741) (k := 1) (b6 := r) (iv := iv) (b := b) G hw hl e3 (fun h => absurd h (by decide)) mv_L_59 ⟨(Nat.le_of_ble_eq_true rfl), (Nat.le_of_ble_eq_true rfl), hcs.1, hcs.2⟩ dL_law_741 dL_law_742 dL_law_745 dL_law_747 dL_law_752 dL_law_754 dL_law_757 dL_law_758 dL_law_759 dL_law_760 dL_law_762 dL_law_763 dL_law_764 dL_law_769 (by decide) (fun H locs hw => kk _ _ _ _ _ _ hw hI (lv_sub hl [2, 3, 4, 5, 6] rfl))
set_option maxHeartbeats 4000000 in
set_option maxRecDepth 100000 in
theorem lc_13 (hlf : l.stackTraces = false) (G : CallFix p m c cL_law 7 s #[.ref b] gtbl RL) (hX : va_X b L xs s s.heap) (hbl : b < s.heap.size) (hw : LWs D E (fr9 s) s o f mm cm H locs) (hI : INVL cm mm) (hl : lv_has ls 7 [(4, .int iv), (3, .ref o), (2, .ref (E.1 10 0)), (1, .ref (E.1 9 0)), (0, .ref b)]) (h1 : vp_in (iv + 1) L) (h2 : vp_in (iv + 2) L) (h3 : vp_in (iv + 3) L) (hcs : cells + 1 ≤ room_1.cells ∧ slots + 6 ≤ room_1.slots) (kk : ∀ (f2 : Nat → Int64) (m2 c2 : Mem) (H1 : Heap) (locs1 : List Loc) (ls1 : Array Slot), LWs D E (fr9 s) s o f2 m2 c2 H1 locs1 → INVL c2 m2 → lv_has ls1 7 [(4, .int iv), (3, .ref o), (2, .ref (E.1 10 0)), (1, .ref (E.1 9 0)), (0, .ref b)] → W p l en room_1 s m #[.ref b] below meth c H1 locs1 (cells + 1) (slots + 6) Q (F0 m 866 ls1 [])) : W p l en room_1 s m #[.ref b] below meth c H locs cells slots Q (F0 m 772 ls []) := by
  have hbA : ¬ fr9 s b := Nat.not_le.mpr hbl
  have hcs0 : cells ≤ room_1.cells ∧ slots ≤ room_1.slots := ⟨Nat.le_trans (Nat.le_add_right _ _) hcs.1, Nat.le_trans (Nat.le_add_right _ _) hcs.2⟩
  obtain ⟨c', m', e1, e2, hI⟩ := i_restart (n := 6000) hI
  refine lv_aload_n G.1 G.2.1 dL_law_772 rfl (lv_at hl 3 rfl) ?_
  refine l_C (As := []) (rest := []) G hw mv_L_106 (c_K_restart l D (outC E o f :: gws idsM E mm) E 6000 cm c' e1) hl.1 rfl rfl (Nat.le_of_ble_eq_true rfl) (Nat.le_of_ble_eq_true rfl) (Nat.le_of_ble_eq_true rfl) hcs0 dL_law_773 (fun H locs hw => ?_)
  refine lv_aload_n G.1 G.2.1 dL_law_776 rfl (lv_at hl 2 rfl) ?_
  refine l_M (As := []) (rest := []) G hw mv_L_109 (c_M_restart l D (outC E o f :: gws idsC E c') E 6000 mm m' e2) hl.1 rfl rfl (Nat.le_of_ble_eq_true rfl) (Nat.le_of_ble_eq_true rfl) (Nat.le_of_ble_eq_true rfl) hcs0 dL_law_777 (fun H locs hw => ?_)
  refine W.widen (k := cells + 1) (n := slots + 6) (Nat.le_add_right _ _) (Nat.le_add_right _ _) ?_
  exact lv_goto (tgt := 866) G.1 G.2.1 dL_law_780 (by decide) (kk _ _ _ _ _ _ hw hI hl)
set_option maxHeartbeats 4000000 in
set_option maxRecDepth 100000 in
theorem lc_14 (hlf : l.stackTraces = false) (G : CallFix p m c cL_law 7 s #[.ref b] gtbl RL) (hX : va_X b L xs s s.heap) (hbl : b < s.heap.size) (hw : LWs D E (fr9 s) s o f mm cm H locs) (hI : INVL cm mm) (hl : lv_has ls 7 [(4, .int iv), (3, .ref o), (2, .ref (E.1 10 0)), (1, .ref (E.1 9 0)), (0, .ref b)]) (h1 : vp_in (iv + 1) L) (h2 : vp_in (iv + 2) L) (h3 : vp_in (iv + 3) L) (hcs : cells + 1 ≤ room_1.cells ∧ slots + 6 ≤ room_1.slots) (kk : ∀ (f2 : Nat → Int64) (m2 c2 : Mem) (H1 : Heap) (locs1 : List Loc) (ls1 : Array Slot), LWs D E (fr9 s) s o f2 m2 c2 H1 locs1 → INVL c2 m2 → lv_has ls1 7 [(4, .int iv), (3, .ref o), (2, .ref (E.1 10 0)), (1, .ref (E.1 9 0)), (0, .ref b)] → W p l en room_1 s m #[.ref b] below meth c H1 locs1 (cells + 1) (slots + 6) Q (F0 m 866 ls1 [])) : W p l en room_1 s m #[.ref b] below meth c H locs cells slots Q (F0 m 783 ls []) := by
  have hbA : ¬ fr9 s b := Nat.not_le.mpr hbl
  have hcs0 : cells ≤ room_1.cells ∧ slots ≤ room_1.slots := ⟨Nat.le_trans (Nat.le_add_right _ _) hcs.1, Nat.le_trans (Nat.le_add_right _ _) hcs.2⟩
  refine lv_aload_n G.1 G.2.1 dL_law_783 rfl (lv_at hl 3 rfl) ?_
  refine lv_aload_n G.1 G.2.1 dL_law_784 rfl (lv_at hl 4 rfl) ?_
  refine lv_iload G.1 G.2.1 dL_law_785 (lv_at hl 0 rfl) ?_
  refine lv_iconst (v := (1 : Int32)) G.1 G.2.1 dL_law_787 (by decide) ?_
  refine lv_iadd G.1 G.2.1 dL_law_788 ?_
  refine va_sld G.1 G.2.1 hX hbl hbA hw.2.2.2.1 h1 dL_law_789 ?_
  refine lv_aload_n G.1 G.2.1 dL_law_790 rfl (lv_at hl 1 rfl) ?_
  rcases i_run (n := 6000) (by decide) (xs (iv + (1 : Int32)).toNatClampNeg) hI with ⟨r, c', m', e1, e2, e3, hI⟩ | ⟨e1, r, m', e2, e3, hI⟩
  · refine l_help (As := [.ref (E.1 9 0), .int (xs (iv + (1 : Int32)).toNatClampNeg), .ref o]) (rest := []) G hw mw_L_110 (h_run l D (gws idsM E mm) o f E 6000 (xs (iv + (1 : Int32)).toNatClampNeg) cm r c' e1) hl.1 rfl rfl (Nat.le_of_ble_eq_true rfl) (Nat.le_of_ble_eq_true rfl) (Nat.le_of_ble_eq_true rfl) hcs dL_law_791 (fun H locs hw => ?_)
    refine lv_istore (lv' := [(5, .int 0), (4, .int iv), (3, .ref o), (2, .ref (E.1 10 0)), (1, .ref (E.1 9 0)), (0, .ref b)]) G.1 G.2.1 dL_law_794 hl (by decide) rfl (fun ls hl => ?_)
    refine lv_aload_n G.1 G.2.1 dL_law_796 rfl (lv_at hl 3 rfl) ?_
    refine lv_aload_n G.1 G.2.1 dL_law_797 rfl (lv_at hl 5 rfl) ?_
    refine lv_iload G.1 G.2.1 dL_law_798 (lv_at hl 1 rfl) ?_
    refine lv_iconst (v := (1 : Int32)) G.1 G.2.1 dL_law_800 (by decide) ?_
    refine lv_iadd G.1 G.2.1 dL_law_801 ?_
    refine va_sld G.1 G.2.1 hX hbl hbA hw.2.2.2.1 h1 dL_law_802 ?_
    refine l_M (As := [.int (xs (iv + (1 : Int32)).toNatClampNeg)]) (rest := []) G hw mv_L_112 (c_M_run l D _ E 6000 (xs (iv + (1 : Int32)).toNatClampNeg) mm r m' e2) hl.1 rfl rfl (Nat.le_of_ble_eq_true rfl) (Nat.le_of_ble_eq_true rfl) (Nat.le_of_ble_eq_true rfl) hcs dL_law_803 (fun H locs hw => ?_)
    refine lv_istore (lv' := [(6, .int r), (5, .int 0), (4, .int iv), (3, .ref o), (2, .ref (E.1 10 0)), (1, .ref (E.1 9 0)), (0, .ref b)]) G.1 G.2.1 dL_law_806 hl (by decide) rfl (fun ls hl => ?_)
    exact l_tail (P := 808) (k := 0) (b6 := r) (iv := iv) (b := b) G hw hl e3 (fun _ => rfl) mv_L_59 ⟨(Nat.le_of_ble_eq_true rfl), (Nat.le_of_ble_eq_true rfl), hcs.1, hcs.2⟩ dL_law_808 dL_law_809 dL_law_812 dL_law_814 dL_law_819 dL_law_821 dL_law_824 dL_law_825 dL_law_826 dL_law_827 dL_law_829 dL_law_830 dL_law_831 dL_law_836 (by decide) (fun H locs hw => kk _ _ _ _ _ _ hw hI (lv_sub hl [2, 3, 4, 5, 6] rfl))
  · refine l_help (As := [.ref (E.1 9 0), .int (xs (iv + (1 : Int32)).toNatClampNeg), .ref o]) (rest := []) G hw mw_L_110 (h_run_T1 l hlf D (gws idsM E mm) o f E 6000 (xs (iv + (1 : Int32)).toNatClampNeg) cm e1) hl.1 rfl rfl (Nat.le_of_ble_eq_true rfl) (Nat.le_of_ble_eq_true rfl) (Nat.le_of_ble_eq_true rfl) hcs dL_law_791 (fun H locs hw => ?_)
    refine lv_istore (lv' := [(5, .int 1), (4, .int iv), (3, .ref o), (2, .ref (E.1 10 0)), (1, .ref (E.1 9 0)), (0, .ref b)]) G.1 G.2.1 dL_law_794 hl (by decide) rfl (fun ls hl => ?_)
    refine lv_aload_n G.1 G.2.1 dL_law_796 rfl (lv_at hl 3 rfl) ?_
    refine lv_aload_n G.1 G.2.1 dL_law_797 rfl (lv_at hl 5 rfl) ?_
    refine lv_iload G.1 G.2.1 dL_law_798 (lv_at hl 1 rfl) ?_
    refine lv_iconst (v := (1 : Int32)) G.1 G.2.1 dL_law_800 (by decide) ?_
    refine lv_iadd G.1 G.2.1 dL_law_801 ?_
    refine va_sld G.1 G.2.1 hX hbl hbA hw.2.2.2.1 h1 dL_law_802 ?_
    refine l_M (As := [.int (xs (iv + (1 : Int32)).toNatClampNeg)]) (rest := []) G hw mv_L_112 (c_M_run l D _ E 6000 (xs (iv + (1 : Int32)).toNatClampNeg) mm r m' e2) hl.1 rfl rfl (Nat.le_of_ble_eq_true rfl) (Nat.le_of_ble_eq_true rfl) (Nat.le_of_ble_eq_true rfl) hcs dL_law_803 (fun H locs hw => ?_)
    refine lv_istore (lv' := [(6, .int r), (5, .int 1), (4, .int iv), (3, .ref o), (2, .ref (E.1 10 0)), (1, .ref (E.1 9 0)), (0, .ref b)]) G.1 G.2.1 dL_law_806 hl (by decide) rfl (fun ls hl => ?_)
    exact l_tail (P := 808) (k := 1) (b6 := r) (iv := iv) (b := b) G hw hl e3 (fun h => absurd h (by decide)) mv_L_59 ⟨(Nat.le_of_ble_eq_true rfl), (Nat.le_of_ble_eq_true rfl), hcs.1, hcs.2⟩ dL_law_808 dL_law_809 dL_law_812 dL_law_814 dL_law_819 dL_law_821 dL_law_824 dL_law_825 dL_law_826 dL_law_827 dL_law_829 dL_law_830 dL_law_831 dL_law_836 (by decide) (fun H locs hw => kk _ _ _ _ _ _ hw hI (lv_sub hl [2, 3, 4, 5, 6] rfl))
set_option maxHeartbeats 4000000 in
set_option maxRecDepth 100000 in
theorem lc_15 (hlf : l.stackTraces = false) (G : CallFix p m c cL_law 7 s #[.ref b] gtbl RL) (hX : va_X b L xs s s.heap) (hbl : b < s.heap.size) (hw : LWs D E (fr9 s) s o f mm cm H locs) (hI : INVL cm mm) (hl : lv_has ls 7 [(4, .int iv), (3, .ref o), (2, .ref (E.1 10 0)), (1, .ref (E.1 9 0)), (0, .ref b)]) (h1 : vp_in (iv + 1) L) (h2 : vp_in (iv + 2) L) (h3 : vp_in (iv + 3) L) (hcs : cells + 1 ≤ room_1.cells ∧ slots + 6 ≤ room_1.slots) (kk : ∀ (f2 : Nat → Int64) (m2 c2 : Mem) (H1 : Heap) (locs1 : List Loc) (ls1 : Array Slot), LWs D E (fr9 s) s o f2 m2 c2 H1 locs1 → INVL c2 m2 → lv_has ls1 7 [(4, .int iv), (3, .ref o), (2, .ref (E.1 10 0)), (1, .ref (E.1 9 0)), (0, .ref b)] → W p l en room_1 s m #[.ref b] below meth c H1 locs1 (cells + 1) (slots + 6) Q (F0 m 866 ls1 [])) : W p l en room_1 s m #[.ref b] below meth c H locs cells slots Q (F0 m 839 ls []) := by
  have hbA : ¬ fr9 s b := Nat.not_le.mpr hbl
  have hcs0 : cells ≤ room_1.cells ∧ slots ≤ room_1.slots := ⟨Nat.le_trans (Nat.le_add_right _ _) hcs.1, Nat.le_trans (Nat.le_add_right _ _) hcs.2⟩
  obtain ⟨r, m', e1, e2, hI⟩ := i_at (n := 6000) hI
  refine lv_aload_n G.1 G.2.1 dL_law_839 rfl (lv_at hl 3 rfl) ?_
  refine l_C (As := []) (rest := []) G hw mv_L_113 (c_K_at l D (outC E o f :: gws idsM E mm) E 6000 cm r e1) hl.1 rfl rfl (Nat.le_of_ble_eq_true rfl) (Nat.le_of_ble_eq_true rfl) (Nat.le_of_ble_eq_true rfl) hcs0 dL_law_840 (fun H locs hw => ?_)
  refine lv_aload_n G.1 G.2.1 dL_law_843 rfl (lv_at hl 2 rfl) ?_
  refine l_M (As := []) (rest := [.int r]) G hw mv_L_116 (c_M_at l D (outC E o f :: gws idsC E cm) E 6000 mm r m' e2) hl.1 rfl rfl (Nat.le_of_ble_eq_true rfl) (Nat.le_of_ble_eq_true rfl) (Nat.le_of_ble_eq_true rfl) hcs0 dL_law_844 (fun H locs hw => ?_)
  refine W.widen (k := cells + 1) (n := slots + 6) (Nat.le_add_right _ _) (Nat.le_add_right _ _) ?_
  exact lv_icmp_eq (tgt := 866) G.1 G.2.1 dL_law_847 (by decide) (fun _ => kk _ _ _ _ _ _ hw hI hl) (fun h => absurd rfl h)
set_option maxHeartbeats 4000000 in
set_option maxRecDepth 100000 in
theorem lc_16 (hlf : l.stackTraces = false) (G : CallFix p m c cL_law 7 s #[.ref b] gtbl RL) (hX : va_X b L xs s s.heap) (hbl : b < s.heap.size) (hw : LWs D E (fr9 s) s o f mm cm H locs) (hI : INVL cm mm) (hl : lv_has ls 7 [(4, .int iv), (3, .ref o), (2, .ref (E.1 10 0)), (1, .ref (E.1 9 0)), (0, .ref b)]) (h1 : vp_in (iv + 1) L) (h2 : vp_in (iv + 2) L) (h3 : vp_in (iv + 3) L) (hcs : cells + 1 ≤ room_1.cells ∧ slots + 6 ≤ room_1.slots) (kk : ∀ (f2 : Nat → Int64) (m2 c2 : Mem) (H1 : Heap) (locs1 : List Loc) (ls1 : Array Slot), LWs D E (fr9 s) s o f2 m2 c2 H1 locs1 → INVL c2 m2 → lv_has ls1 7 [(4, .int iv), (3, .ref o), (2, .ref (E.1 10 0)), (1, .ref (E.1 9 0)), (0, .ref b)] → W p l en room_1 s m #[.ref b] below meth c H1 locs1 (cells + 1) (slots + 6) Q (F0 m 866 ls1 [])) : W p l en room_1 s m #[.ref b] below meth c H locs cells slots Q (F0 m 852 ls []) := by
  have hbA : ¬ fr9 s b := Nat.not_le.mpr hbl
  have hcs0 : cells ≤ room_1.cells ∧ slots ≤ room_1.slots := ⟨Nat.le_trans (Nat.le_add_right _ _) hcs.1, Nat.le_trans (Nat.le_add_right _ _) hcs.2⟩
  obtain ⟨r, m', e1, e2, hI⟩ := i_cycles (n := 6000) hI
  refine lv_aload_n G.1 G.2.1 dL_law_852 rfl (lv_at hl 3 rfl) ?_
  refine l_C (As := []) (rest := []) G hw mv_L_117 (c_K_cycles l D (outC E o f :: gws idsM E mm) E 6000 cm r e1) hl.1 rfl rfl (Nat.le_of_ble_eq_true rfl) (Nat.le_of_ble_eq_true rfl) (Nat.le_of_ble_eq_true rfl) hcs0 dL_law_853 (fun H locs hw => ?_)
  refine lv_aload_n G.1 G.2.1 dL_law_856 rfl (lv_at hl 2 rfl) ?_
  refine l_M (As := []) (rest := [.long r]) G hw mv_L_121 (c_M_cycles l D (outC E o f :: gws idsC E cm) E 6000 mm r m' e2) hl.1 rfl rfl (Nat.le_of_ble_eq_true rfl) (Nat.le_of_ble_eq_true rfl) (Nat.le_of_ble_eq_true rfl) hcs0 dL_law_857 (fun H locs hw => ?_)
  refine W.widen (k := cells + 1) (n := slots + 6) (Nat.le_add_right _ _) (Nat.le_add_right _ _) ?_
  refine W.lcmp G.1 G.2.1 dL_law_860 ?_
  have e0 : lg_cmp r r = 0 := by
    unfold lg_cmp
    simp
  exact lv_if_eq (tgt := 866) G.1 G.2.1 dL_law_861 (by decide) (fun _ => kk _ _ _ _ _ _ hw hI hl) (fun h => absurd e0 h)
end LCASE
