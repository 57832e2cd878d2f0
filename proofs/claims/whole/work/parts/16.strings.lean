/-! ===== the written texts: length and charAt, by the JDK's own code ===== -/
theorem fl_J0_1053 : Cond.fieldLink RJ0 1053 "jdk/internal/util/Preconditions" "SIOOBE_FORMATTER" "Ljava/util/function/BiFunction;" ∈ gtbl := gt_in 529 (by decide +kernel) (by decide +kernel)
theorem fl_J0_15 : Cond.fieldLink RJ0 15 "java/lang/String" "coder" "B" ∈ gtbl := gt_in 1461 (by decide +kernel) (by decide +kernel)
theorem fl_J0_38 : Cond.fieldLink RJ0 38 "java/lang/String" "COMPACT_STRINGS" "Z" ∈ gtbl := gt_in 513 (by decide +kernel) (by decide +kernel)
theorem fl_J0_9 : Cond.fieldLink RJ0 9 "java/lang/String" "value" "[B" ∈ gtbl := gt_in 1460 (by decide +kernel) (by decide +kernel)
theorem ms_J0_1059 : gS RJ0 1059 yJ3_checkIndex_8e157 cJ3_checkIndex_8e157 3 (some .int) 3 := ⟨gt_in 531 (by decide +kernel) (by decide +kernel), gt_in 532 (by decide +kernel) (by decide +kernel), gt_in 108 (by decide +kernel) (by decide +kernel), gt_in 533 (by decide +kernel) (by decide +kernel), by decide +kernel, by decide +kernel, by decide +kernel⟩
theorem ms_J0_495 : gS RJ0 495 yJ1_charAt_3b067 cJ1_charAt_3b067 2 (some .char) 2 := ⟨gt_in 523 (by decide +kernel) (by decide +kernel), gt_in 524 (by decide +kernel) (by decide +kernel), gt_in 107 (by decide +kernel) (by decide +kernel), gt_in 525 (by decide +kernel) (by decide +kernel), by decide +kernel, by decide +kernel, by decide +kernel⟩
theorem ms_J1_9 : gS RJ1 9 yJ0_checkIndex_df160 cJ0_checkIndex_df160 2 none 2 := ⟨gt_in 526 (by decide +kernel) (by decide +kernel), gt_in 527 (by decide +kernel) (by decide +kernel), gt_in 106 (by decide +kernel) (by decide +kernel), gt_in 528 (by decide +kernel) (by decide +kernel), by decide +kernel, by decide +kernel, by decide +kernel⟩
theorem mv_J0_335 : gV RJ0 335 RJ0 yJ0_coder_7d493 cJ0_coder_7d493 1 (some .byte) 0 := ⟨gt_in 509 (by decide +kernel) (by decide +kernel), gt_in 510 (by decide +kernel) (by decide +kernel), gt_in 511 (by decide +kernel) (by decide +kernel), gt_in 106 (by decide +kernel) (by decide +kernel), gt_in 512 (by decide +kernel) (by decide +kernel), rfl, by decide +kernel, by decide +kernel, by decide +kernel⟩
theorem mv_J0_492 : gV RJ0 492 RJ0 yJ0_isLatin1_aae02 cJ0_isLatin1_aae02 1 (some .boolean) 0 := ⟨gt_in 519 (by decide +kernel) (by decide +kernel), gt_in 520 (by decide +kernel) (by decide +kernel), gt_in 521 (by decide +kernel) (by decide +kernel), gt_in 106 (by decide +kernel) (by decide +kernel), gt_in 522 (by decide +kernel) (by decide +kernel), rfl, by decide +kernel, by decide +kernel, by decide +kernel⟩
theorem tx_ch : ∀ w, w < 4 → ∀ k, k < lenS.getD w 0 → (((bytS.getD w []).getD k 0 &&& 255).toUInt32 % 65536).toInt32 = (bytS.getD w []).getD k 0 ∧ narrow .char (.int ((bytS.getD w []).getD k 0)) = .int ((bytS.getD w []).getD k 0) := by
  have key : ∀ w, w < 4 → ∀ k, k < 5 → (((bytS.getD w []).getD k 0 &&& 255).toUInt32 % 65536).toInt32 = (bytS.getD w []).getD k 0 ∧ narrow .char (.int ((bytS.getD w []).getD k 0)) = .int ((bytS.getD w []).getD k 0) := by decide +kernel
  have hl : ∀ w, w < 4 → lenS.getD w 0 ≤ 5 := by decide +kernel
  intro w hw k hk
  exact key w hw k (Nat.lt_of_lt_of_le hk (hl w hw))
theorem tx_len : ∀ w, w < 4 → lenS.getD w 0 < 2 ^ 31 := by decide +kernel
theorem tx_sh : ∀ w, w < 4 → (nI (lenS.getD w 0)) >>> ((0 : Int32) &&& 31) = nI (lenS.getD w 0) := by decide +kernel
section GSTR
variable {p : Program} {l : Launch} {en : Env} {R : Room} {s : State} {m : MethodId} {args : Array Value} {below : List Frame} {meth : Method} {c : Code} {H : Heap} {locs : List Loc} {cells slots : Nat} {Q : State → Prop}
variable {cc : ByteArray} {nL pc : Nat} {ls : Array Slot} {rest st0 : List Value} {own : String} {D : va_G} {X : va_W} {ids : List (Nat × Nat)} {E : gE} {A : Nat → Prop} {g : Mem} {index w : Nat}
theorem g_callVS {y : MethodName} {cy : ByteArray} {maxLy n fr lo : Nat} {ret : Option FieldType} {As : List Value} {v : Value} (G : CallFix p m c cc nL s args gtbl own) (hw : GW D X ids E A s g H locs) (hA : ∀ q, gA X ids E H.size q → A q) (h4 : w < 4) (hy : gV own index RJ0 y cy maxLy ret n) (hM : gMet l y cy maxLy ret fr lo D X ids E (.ref (E.2.2.2.2.2.2.1 w) :: As) g (some v) g)
    (hls : ls.size = nL) (hn : As.length = n) (hst : st0 = As.reverse ++ .ref (E.2.2.2.2.2.2.1 w) :: rest) (hrest : (rest.map fun v => v.category).sum ≤ 8) (hfr : fr + 1 ≤ R.frames) (hlo : 8 + (maxLy + 11) + lo ≤ R.locals) (hcs : cells ≤ R.cells ∧ slots ≤ R.slots) (hdg : decode cc pc = .ok (.invokevirtual index, 3))
    (kk : ∀ (H1 : Heap) (locs1 : List Loc), GW D X ids E A s g H1 locs1 → W p l en R s m args below meth c H1 locs1 cells slots Q (F0 m (pc + 3) ls (v :: rest))) : W p l en R s m args below meth c H locs cells slots Q (F0 m pc ls st0) := by
  obtain ⟨y1, y2, y3, y4, y5, y6, y7, y8, y9⟩ := hy
  have hts := G.2.2.2.2
  refine g_call (va_runV (As := As) (rest := rest) G (hM H.size) ⟨callB_of n hts (gt_good (fun w h => h) y5) rfl rfl rfl (by rw [y6]; exact hts _ y4) (hts _ y1) ⟨y7, y8, y9⟩ ⟨hfr, hlo⟩, hts _ y2, hts _ y3⟩ ⟨GP_blind, vk_recv hw.2.2.2.2.1 h4 hw.2.2.2.1, fun U hU hW => GW_pre hw hA hU hW⟩ rfl hn hls hst (lv_room hrest) hdg hcs) hw.2.2.2.1 (fun q _ h => hA q h) hA (fun t H1 locs1 ht hvm hB hz1 hk1 hS => ?_)
  exact kk H1 locs1 (GW_back (A1 := A) hw ht hvm hB hw.2.2.1 hS)
theorem g_callS0X {y : MethodName} {cy : ByteArray} {maxLy n fr lo : Nat} {ret : Option FieldType} {As : List Value} (G : CallFix p m c cc nL s args gtbl own) (hw : GW D X ids E A s g H locs) (hA : ∀ q, gA X ids E H.size q → A q) (hy : gS own index y cy maxLy ret n) (hM : gMet l y cy maxLy ret fr lo D X ids E As g none g)
    (hls : ls.size = nL) (hn : As.length = n) (hst : st0 = As.reverse ++ rest) (hrest : (rest.map fun v => v.category).sum ≤ 8) (hfr : fr + 1 ≤ R.frames) (hlo : 8 + (maxLy + 11) + lo ≤ R.locals) (hcs : cells ≤ R.cells ∧ slots ≤ R.slots) (hdg : decode cc pc = .ok (.invokestatic index, 3))
    (kk : ∀ (H1 : Heap) (locs1 : List Loc), GW D X ids E A s g H1 locs1 → W p l en R s m args below meth c H1 locs1 cells slots Q (F0 m (pc + 3) ls rest)) : W p l en R s m args below meth c H locs cells slots Q (F0 m pc ls st0) := g_callS G hw hA hy hM hls hn hst hrest hfr hlo hcs hdg kk
end GSTR
set_option maxHeartbeats 4000000 in
set_option maxRecDepth 100000 in
theorem c_J0_coder (l : Launch) (D : va_G) (X : va_W) (ids : List (Nat × Nat)) (E : gE) (w : Nat) (h4 : w < 4) (g : Mem) : gMet l yJ0_coder_7d493 cJ0_coder_7d493 1 (some .byte) 0 0 D X ids E [.ref (E.2.2.2.2.2.2.1 w)] g (some (.int 0)) g := by
  refine gt_code (by decide) (Nat.le_of_ble_eq_true rfl) (fun p en s m below meth c ls G hr hk hw hl => ?_)
  have hl : lv_has ls 1 [(0, .ref (E.2.2.2.2.2.2.1 w))] := hl
  refine va_gets G.1 G.2.1 hw.2.2.2.2.2.2.1 hw.2.2.2.1 G.2.2.2.1 (G.2.2.2.2 _ fl_J0_38) (fun _ h9 => h9) dJ0_coder_7d493_0 ?_
  refine lv_if_eq (tgt := 13) G.1 G.2.1 dJ0_coder_7d493_3 (by decide) (fun hc => absurd hc (by decide)) (fun _ => ?_)
  refine lv_aload_n G.1 G.2.1 dJ0_coder_7d493_6 rfl (lv_at hl 0 rfl) ?_
  refine vk_getf G.1 G.2.1 (hw.2.2.2.2.1.1 w h4).2.1 hw.2.2.2.1 G.2.2.2.1 (G.2.2.2.2 _ fl_J0_15) (fun _ h9 => h9) dJ0_coder_7d493_7 ?_
  refine lv_goto (tgt := 14) G.1 G.2.1 dJ0_coder_7d493_10 (by decide) ?_
  exact g_zret G hr rfl hk hw dJ0_coder_7d493_14
set_option maxHeartbeats 4000000 in
set_option maxRecDepth 100000 in
theorem c_J0_isLatin1 (l : Launch) (D : va_G) (X : va_W) (ids : List (Nat × Nat)) (E : gE) (w : Nat) (h4 : w < 4) (g : Mem) : gMet l yJ0_isLatin1_aae02 cJ0_isLatin1_aae02 1 (some .boolean) 0 0 D X ids E [.ref (E.2.2.2.2.2.2.1 w)] g (some (.int 1)) g := by
  refine gt_code (by decide) (Nat.le_of_ble_eq_true rfl) (fun p en s m below meth c ls G hr hk hw hl => ?_)
  have hl : lv_has ls 1 [(0, .ref (E.2.2.2.2.2.2.1 w))] := hl
  refine va_gets G.1 G.2.1 hw.2.2.2.2.2.2.1 hw.2.2.2.1 G.2.2.2.1 (G.2.2.2.2 _ fl_J0_38) (fun _ h9 => h9) dJ0_isLatin1_aae02_0 ?_
  refine lv_if_eq (tgt := 17) G.1 G.2.1 dJ0_isLatin1_aae02_3 (by decide) (fun hc => absurd hc (by decide)) (fun _ => ?_)
  refine lv_aload_n G.1 G.2.1 dJ0_isLatin1_aae02_6 rfl (lv_at hl 0 rfl) ?_
  refine vk_getf G.1 G.2.1 (hw.2.2.2.2.1.1 w h4).2.1 hw.2.2.2.1 G.2.2.2.1 (G.2.2.2.2 _ fl_J0_15) (fun _ h9 => h9) dJ0_isLatin1_aae02_7 ?_
  refine lv_if_ne (tgt := 17) G.1 G.2.1 dJ0_isLatin1_aae02_10 (by decide) (fun hc => absurd rfl hc) (fun _ => ?_)
  refine lv_iconst (v := (1 : Int32)) G.1 G.2.1 dJ0_isLatin1_aae02_13 (by decide) ?_
  refine lv_goto (tgt := 18) G.1 G.2.1 dJ0_isLatin1_aae02_14 (by decide) ?_
  exact g_zret G hr rfl hk hw dJ0_isLatin1_aae02_18
set_option maxHeartbeats 4000000 in
set_option maxRecDepth 100000 in
theorem c_J0_length (l : Launch) (D : va_G) (X : va_W) (ids : List (Nat × Nat)) (E : gE) (w : Nat) (h4 : w < 4) (g : Mem) : gMet l yJ0_length_8abf5 cJ0_length_8abf5 1 (some .int) 1 20 D X ids E [.ref (E.2.2.2.2.2.2.1 w)] g (some (.int (nI (lenS.getD w 0)))) g := by
  refine gt_code (by decide) (Nat.le_of_ble_eq_true rfl) (fun p en s m below meth c ls G hr hk hw hl => ?_)
  have hl : lv_has ls 1 [(0, .ref (E.2.2.2.2.2.2.1 w))] := hl
  refine lv_aload_n G.1 G.2.1 dJ0_length_8abf5_0 rfl (lv_at hl 0 rfl) ?_
  refine vk_getf G.1 G.2.1 (hw.2.2.2.2.1.1 w h4).2.2.1 hw.2.2.2.1 G.2.2.2.1 (G.2.2.2.2 _ fl_J0_9) (fun _ h9 => h9) dJ0_length_8abf5_1 ?_
  refine va_tlen G.1 G.2.1 (hw.2.2.2.2.1.1 w h4).2.2.2 hw.2.2.2.1 (v := nI (lenS.getD w 0)) rfl dJ0_length_8abf5_4 ?_
  refine lv_aload_n G.1 G.2.1 dJ0_length_8abf5_5 rfl (lv_at hl 0 rfl) ?_
  refine g_callVS (As := []) (rest := [.int (nI (lenS.getD w 0))]) G hw (gA_mono hw.2.2.2.1.1) h4 mv_J0_335 (c_J0_coder l D X ids E w h4 g) hl.1 rfl rfl (Nat.le_of_ble_eq_true rfl) (Nat.le_of_ble_eq_true rfl) (Nat.le_of_ble_eq_true rfl) ⟨Nat.le_refl _, Nat.le_refl _⟩ dJ0_length_8abf5_6 (fun H locs hw => ?_)
  refine lv_ishr G.1 G.2.1 dJ0_length_8abf5_9 ?_
  rw [tx_sh w h4]
  exact g_iret G hr hk hw dJ0_length_8abf5_10
set_option maxHeartbeats 4000000 in
set_option maxRecDepth 100000 in
theorem c_J3_checkIndex (l : Launch) (D : va_G) (X : va_W) (ids : List (Nat × Nat)) (E : gE) (a b : Int32) (v : Value) (hv : v = .null ∨ ∃ t, v = .ref t) (h0 : ¬ a < 0) (h1 : a < b) (g : Mem) : gMet l yJ3_checkIndex_8e157 cJ3_checkIndex_8e157 3 (some .int) 0 0 D X ids E [.int a, .int b, v] g (some (.int a)) g := by
  have key : ∀ (hlen : (lg_sl [.int a, .int b, v]).length ≤ 3) (hla : ∀ (ls : Array Slot), lv_has ls 3 (lv_args 0 [.int a, .int b, v]) → lv_has ls 3 [(0, .int a), (1, .int b)]), gMet l yJ3_checkIndex_8e157 cJ3_checkIndex_8e157 3 (some .int) 0 0 D X ids E [.int a, .int b, v] g (some (.int a)) g := by
    intro hlen hla
    refine gt_code (by decide) hlen (fun p en s m below meth c ls G hr hk hw hl => ?_)
    have hl := hla ls hl
    refine lv_iload_n G.1 G.2.1 dJ3_checkIndex_8e157_0 rfl (lv_at hl 0 rfl) ?_
    refine lv_if_lt (tgt := 9) G.1 G.2.1 dJ3_checkIndex_8e157_1 (by decide) (fun hc => absurd hc h0) (fun _ => ?_)
    refine lv_iload_n G.1 G.2.1 dJ3_checkIndex_8e157_4 rfl (lv_at hl 0 rfl) ?_
    refine lv_iload_n G.1 G.2.1 dJ3_checkIndex_8e157_5 rfl (lv_at hl 1 rfl) ?_
    refine lv_icmp_lt (tgt := 16) G.1 G.2.1 dJ3_checkIndex_8e157_6 (by decide) (fun _ => ?_) (fun hc => absurd h1 hc)
    refine lv_iload_n G.1 G.2.1 dJ3_checkIndex_8e157_16 rfl (lv_at hl 0 rfl) ?_
    exact g_iret G hr hk hw dJ3_checkIndex_8e157_17
  rcases hv with rfl | ⟨t, rfl⟩
  · exact key (Nat.le_of_ble_eq_true rfl) (fun ls h => lv_sub h [0, 1] rfl)
  · exact key (Nat.le_of_ble_eq_true rfl) (fun ls h => lv_sub h [0, 1] rfl)
set_option maxHeartbeats 4000000 in
set_option maxRecDepth 100000 in
theorem c_J0_checkIndex (l : Launch) (D : va_G) (X : va_W) (ids : List (Nat × Nat)) (E : gE) (a b : Int32) (h0 : ¬ a < 0) (h1 : a < b) (g : Mem) : gMet l yJ0_checkIndex_df160 cJ0_checkIndex_df160 2 none 1 30 D X ids E [.int a, .int b] g none g := by
  refine gt_code (by decide) (Nat.le_of_ble_eq_true rfl) (fun p en s m below meth c ls G hr hk hw hl => ?_)
  have hl : lv_has ls 2 [(0, .int a), (1, .int b)] := hl
  refine lv_iload_n G.1 G.2.1 dJ0_checkIndex_df160_0 rfl (lv_at hl 0 rfl) ?_
  refine lv_iload_n G.1 G.2.1 dJ0_checkIndex_df160_1 rfl (lv_at hl 1 rfl) ?_
  rcases hw.2.2.2.2.2.2.2 with hz | ⟨t, hz⟩
  · refine va_gets G.1 G.2.1 hz hw.2.2.2.1 G.2.2.2.1 (G.2.2.2.2 _ fl_J0_1053) (fun _ h9 => h9) dJ0_checkIndex_df160_2 ?_
    refine g_callS1 (As := [.int a, .int b, .null]) (rest := []) G hw (gA_mono hw.2.2.2.1.1) ms_J0_1059 (c_J3_checkIndex l D X ids E a b .null (Or.inl rfl) h0 h1 g) hl.1 rfl rfl (Nat.le_of_ble_eq_true rfl) (Nat.le_of_ble_eq_true rfl) (Nat.le_of_ble_eq_true rfl) ⟨Nat.le_refl _, Nat.le_refl _⟩ dJ0_checkIndex_df160_5 (fun H locs hw => ?_)
    refine lv_pop G.1 G.2.1 dJ0_checkIndex_df160_8 rfl ?_
    exact g_vret G hr hk hw dJ0_checkIndex_df160_9
  · refine va_gets G.1 G.2.1 hz hw.2.2.2.1 G.2.2.2.1 (G.2.2.2.2 _ fl_J0_1053) (fun _ h9 => h9) dJ0_checkIndex_df160_2 ?_
    refine g_callS1 (As := [.int a, .int b, .ref t]) (rest := []) G hw (gA_mono hw.2.2.2.1.1) ms_J0_1059 (c_J3_checkIndex l D X ids E a b (.ref t) (Or.inr ⟨t, rfl⟩) h0 h1 g) hl.1 rfl rfl (Nat.le_of_ble_eq_true rfl) (Nat.le_of_ble_eq_true rfl) (Nat.le_of_ble_eq_true rfl) ⟨Nat.le_refl _, Nat.le_refl _⟩ dJ0_checkIndex_df160_5 (fun H locs hw => ?_)
    refine lv_pop G.1 G.2.1 dJ0_checkIndex_df160_8 rfl ?_
    exact g_vret G hr hk hw dJ0_checkIndex_df160_9
theorem ix_bds {x : Int32} {n k : Nat} (hn : n < 2 ^ 31) (h : ix x n = some k) : ¬ x < 0 ∧ x < nI n := by
  have h1 := ix_in h
  obtain ⟨j, hj, rfl⟩ := vp_in_of h1 hn
  exact ⟨nI_pos (by omega), nI_lt hj hn⟩
set_option maxHeartbeats 4000000 in
set_option maxRecDepth 100000 in
theorem c_J1_charAt (l : Launch) (D : va_G) (X : va_W) (ids : List (Nat × Nat)) (E : gE) (w k : Nat) (a : Int32) (h4 : w < 4) (hx : ix a (lenS.getD w 0) = some k) (g : Mem) : gMet l yJ1_charAt_3b067 cJ1_charAt_3b067 2 (some .char) 2 60 D X ids E [.ref (E.2.2.2.2.2.2.2 w), .int a] g (some (.int ((bytS.getD w []).getD k 0))) g := by
  refine gt_code (by decide) (Nat.le_of_ble_eq_true rfl) (fun p en s m below meth c ls G hr hk hw hl => ?_)
  have hl : lv_has ls 2 [(0, .ref (E.2.2.2.2.2.2.2 w)), (1, .int a)] := hl
  have hb := ix_bds (tx_len w h4) hx
  refine lv_iload_n G.1 G.2.1 dJ1_charAt_3b067_0 rfl (lv_at hl 1 rfl) ?_
  refine lv_aload_n G.1 G.2.1 dJ1_charAt_3b067_1 rfl (lv_at hl 0 rfl) ?_
  refine va_tlen G.1 G.2.1 (hw.2.2.2.2.1.1 w h4).2.2.2 hw.2.2.2.1 (v := nI (lenS.getD w 0)) rfl dJ1_charAt_3b067_2 ?_
  refine g_callS0X (As := [.int a, .int (nI (lenS.getD w 0))]) (rest := []) G hw (gA_mono hw.2.2.2.1.1) ms_J1_9 (c_J0_checkIndex l D X ids E a (nI (lenS.getD w 0)) hb.1 hb.2 g) hl.1 rfl rfl (Nat.le_of_ble_eq_true rfl) (Nat.le_of_ble_eq_true rfl) (Nat.le_of_ble_eq_true rfl) ⟨Nat.le_refl _, Nat.le_refl _⟩ dJ1_charAt_3b067_3 (fun H locs hw => ?_)
  refine lv_aload_n G.1 G.2.1 dJ1_charAt_3b067_6 rfl (lv_at hl 0 rfl) ?_
  refine lv_iload_n G.1 G.2.1 dJ1_charAt_3b067_7 rfl (lv_at hl 1 rfl) ?_
  refine va_tb G.1 G.2.1 (hw.2.2.2.2.1.1 w h4).2.2.2 hw.2.2.2.1 (ix_in hx) (v := .int ((bytS.getD w []).getD k 0)) (by rw [ix_eq hx]) dJ1_charAt_3b067_8 ?_
  refine lv_sipush (v := (255 : Int32)) G.1 G.2.1 dJ1_charAt_3b067_9 (by decide) ?_
  refine lv_iand G.1 G.2.1 dJ1_charAt_3b067_12 ?_
  refine lv_i2c (v := (bytS.getD w []).getD k 0) G.1 G.2.1 dJ1_charAt_3b067_13 (tx_ch w h4 k (ix_lt hx)).1 ?_
  exact g_zret G hr (tx_ch w h4 k (ix_lt hx)).2 hk hw dJ1_charAt_3b067_14
set_option maxHeartbeats 4000000 in
set_option maxRecDepth 100000 in
theorem c_J0_charAt (l : Launch) (D : va_G) (X : va_W) (ids : List (Nat × Nat)) (E : gE) (w k : Nat) (a : Int32) (h4 : w < 4) (hx : ix a (lenS.getD w 0) = some k) (g : Mem) : gMet l yJ0_charAt_5068e cJ0_charAt_5068e 2 (some .char) 3 90 D X ids E [.ref (E.2.2.2.2.2.2.1 w), .int a] g (some (.int ((bytS.getD w []).getD k 0))) g := by
  refine gt_code (by decide) (Nat.le_of_ble_eq_true rfl) (fun p en s m below meth c ls G hr hk hw hl => ?_)
  have hl : lv_has ls 2 [(0, .ref (E.2.2.2.2.2.2.1 w)), (1, .int a)] := hl
  refine lv_aload_n G.1 G.2.1 dJ0_charAt_5068e_0 rfl (lv_at hl 0 rfl) ?_
  refine g_callVS (As := []) (rest := []) G hw (gA_mono hw.2.2.2.1.1) h4 mv_J0_492 (c_J0_isLatin1 l D X ids E w h4 g) hl.1 rfl rfl (Nat.le_of_ble_eq_true rfl) (Nat.le_of_ble_eq_true rfl) (Nat.le_of_ble_eq_true rfl) ⟨Nat.le_refl _, Nat.le_refl _⟩ dJ0_charAt_5068e_1 (fun H locs hw => ?_)
  refine lv_if_eq (tgt := 16) G.1 G.2.1 dJ0_charAt_5068e_4 (by decide) (fun hc => absurd hc (by decide)) (fun _ => ?_)
  refine lv_aload_n G.1 G.2.1 dJ0_charAt_5068e_7 rfl (lv_at hl 0 rfl) ?_
  refine vk_getf G.1 G.2.1 (hw.2.2.2.2.1.1 w h4).2.2.1 hw.2.2.2.1 G.2.2.2.1 (G.2.2.2.2 _ fl_J0_9) (fun _ h9 => h9) dJ0_charAt_5068e_8 ?_
  refine lv_iload_n G.1 G.2.1 dJ0_charAt_5068e_11 rfl (lv_at hl 1 rfl) ?_
  refine g_callS1 (As := [.ref (E.2.2.2.2.2.2.2 w), .int a]) (rest := []) G hw (gA_mono hw.2.2.2.1.1) ms_J0_495 (c_J1_charAt l D X ids E w k a h4 hx g) hl.1 rfl rfl (Nat.le_of_ble_eq_true rfl) (Nat.le_of_ble_eq_true rfl) (Nat.le_of_ble_eq_true rfl) ⟨Nat.le_refl _, Nat.le_refl _⟩ dJ0_charAt_5068e_12 (fun H locs hw => ?_)
  exact g_zret G hr (tx_ch w h4 k (ix_lt hx)).2 hk hw dJ0_charAt_5068e_15
section GSTR2
variable {p : Program} {l : Launch} {en : Env} {R : Room} {s : State} {m : MethodId} {args : Array Value} {below : List Frame} {meth : Method} {c : Code} {H : Heap} {locs : List Loc} {cells slots : Nat} {Q : State → Prop}
variable {cc : ByteArray} {nL pc : Nat} {ls : Array Slot} {rest st0 : List Value} {own : String} {D : va_G} {X : va_W} {ids : List (Nat × Nat)} {E : gE} {g : Mem} {index w : Nat}
theorem g_slen (G : CallFix p m c cc nL s args gtbl own) (hw : GW D X ids E (gA X ids E s.heap.size) s g H locs) (h4 : w < 4) (hy : gV own index RJ0 yJ0_length_8abf5 cJ0_length_8abf5 1 (some .int) 0) (hls : ls.size = nL) (hrest : (rest.map fun v => v.category).sum ≤ 8) (hfr : 2 ≤ R.frames) (hlo : 40 ≤ R.locals) (hdg : decode cc pc = .ok (.invokevirtual index, 3))
    (kk : ∀ (H1 : Heap) (locs1 : List Loc), GW D X ids E (gA X ids E s.heap.size) s g H1 locs1 → W p l en R s m args below meth c H1 locs1 0 0 Q (F0 m (pc + 3) ls (.int (nI (lenS.getD w 0)) :: rest))) : W p l en R s m args below meth c H locs 0 0 Q (F0 m pc ls (.ref (E.2.2.2.2.2.2.1 w) :: rest)) :=
  g_callVS (As := []) (rest := rest) G hw (gA_mono hw.2.2.2.1.1) h4 hy (c_J0_length l D X ids E w h4 g) hls rfl rfl hrest hfr hlo ⟨Nat.zero_le _, Nat.zero_le _⟩ hdg kk
theorem g_scha {a : Int32} {k : Nat} (G : CallFix p m c cc nL s args gtbl own) (hw : GW D X ids E (gA X ids E s.heap.size) s g H locs) (h4 : w < 4) (hx : ix a (lenS.getD w 0) = some k) (hy : gV own index RJ0 yJ0_charAt_5068e cJ0_charAt_5068e 2 (some .char) 1) (hls : ls.size = nL) (hrest : (rest.map fun v => v.category).sum ≤ 8) (hfr : 4 ≤ R.frames) (hlo : 111 ≤ R.locals) (hdg : decode cc pc = .ok (.invokevirtual index, 3))
    (kk : ∀ (H1 : Heap) (locs1 : List Loc), GW D X ids E (gA X ids E s.heap.size) s g H1 locs1 → W p l en R s m args below meth c H1 locs1 0 0 Q (F0 m (pc + 3) ls (.int ((bytS.getD w []).getD k 0) :: rest))) : W p l en R s m args below meth c H locs 0 0 Q (F0 m pc ls (.int a :: .ref (E.2.2.2.2.2.2.1 w) :: rest)) :=
  g_callVS (As := [.int a]) (rest := rest) G hw (gA_mono hw.2.2.2.1.1) h4 hy (c_J0_charAt l D X ids E w k a h4 hx g) hls rfl rfl hrest hfr hlo ⟨Nat.zero_le _, Nat.zero_le _⟩ hdg kk
end GSTR2
