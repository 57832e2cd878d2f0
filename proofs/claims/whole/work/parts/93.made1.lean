/-! constructors (printed by program) -/
theorem oi_i : Cond.instanceMethod objectInit ∈ gtbl := gt_in 117 (by decide +kernel) (by decide +kernel)
theorem oi_c : Cond.code objectInit object_method_1_code 1 none ∈ gtbl := gt_in 118 (by decide +kernel) (by decide +kernel)
theorem ac_int : Cond.arrayClass .int ∈ gtbl := gt_in 135 (by decide +kernel) (by decide +kernel)
theorem cl_X1_24 : Cond.classLink RX1 24 "CycleSynthesis$Operation" ∈ gtbl := gt_in 211 (by decide +kernel) (by decide +kernel)
theorem cl_X8_20 : Cond.classLink RX8 20 RX9 ∈ gtbl := gt_in 156 (by decide +kernel) (by decide +kernel)
theorem cl_X8_9 : Cond.classLink RX8 9 RX6 ∈ gtbl := gt_in 142 (by decide +kernel) (by decide +kernel)
theorem in_X6 : Cond.initialized RX6 ∈ gtbl := gt_in 92 (by decide +kernel) (by decide +kernel)
theorem in_X9 : Cond.initialized RX9 ∈ gtbl := gt_in 93 (by decide +kernel) (by decide +kernel)
theorem it_X6 : Cond.instantiable RX6 2 ∈ gtbl := gt_in 143 (by decide +kernel) (by decide +kernel)
theorem it_X9 : Cond.instantiable RX9 6 ∈ gtbl := gt_in 157 (by decide +kernel) (by decide +kernel)
theorem mi_X8_11 : gN RX8 11 yX6_init cX6_init 2 1 := ⟨gt_in 144 (by decide +kernel) (by decide +kernel), gt_in 145 (by decide +kernel) (by decide +kernel), gt_in 92 (by decide +kernel) (by decide +kernel), gt_in 146 (by decide +kernel) (by decide +kernel), rfl, by decide +kernel, by decide +kernel, by decide +kernel⟩
theorem mi_X8_22 : gN RX8 22 yX9_init cX9_init 1 0 := ⟨gt_in 158 (by decide +kernel) (by decide +kernel), gt_in 159 (by decide +kernel) (by decide +kernel), gt_in 93 (by decide +kernel) (by decide +kernel), gt_in 160 (by decide +kernel) (by decide +kernel), rfl, by decide +kernel, by decide +kernel, by decide +kernel⟩
theorem oi_X0 : Cond.methodLink RX0 3 objectInit ∈ gtbl := gt_in 347 (by decide +kernel) (by decide +kernel)
theorem oi_X1 : Cond.methodLink RX1 3 objectInit ∈ gtbl := gt_in 210 (by decide +kernel) (by decide +kernel)
theorem oi_X2 : Cond.methodLink RX2 3 objectInit ∈ gtbl := gt_in 237 (by decide +kernel) (by decide +kernel)
theorem oi_X4 : Cond.methodLink RX4 3 objectInit ∈ gtbl := gt_in 272 (by decide +kernel) (by decide +kernel)
theorem oi_X6 : Cond.methodLink RX6 3 objectInit ∈ gtbl := gt_in 147 (by decide +kernel) (by decide +kernel)
theorem oi_X7 : Cond.methodLink RX7 3 objectInit ∈ gtbl := gt_in 124 (by decide +kernel) (by decide +kernel)
theorem oi_X8 : Cond.methodLink RX8 3 objectInit ∈ gtbl := gt_in 141 (by decide +kernel) (by decide +kernel)
theorem oi_X9 : Cond.methodLink RX9 3 objectInit ∈ gtbl := gt_in 161 (by decide +kernel) (by decide +kernel)
set_option maxHeartbeats 4000000 in
set_option maxRecDepth 100000 in
theorem n_X7_init (l : Launch) (D : va_G) (E : gE) (X : va_W) (a : Nat) : nMet l yX7_init cX7_init 1 1 12 1 700 D E [.ref a] (X ++ [(a, .inr (6, [.null, .int 0]))]) (fun W2 => ∃ q1 : Nat, W2 = X ++ [(a, .inr (6, [.ref q1, .int 0])), (q1, .inl (E.2.1, 700, .inl (fun _ => 0)))]) := by
  refine nt_code (by decide) rfl (Nat.le_of_ble_eq_true rfl) (fun p en s m below meth c ls G hr hk hin hw hl => ?_)
  have hl : lv_has ls 1 [(0, .ref a)] := hl
  refine lv_aload_n G.1 G.2.1 dX7_init_0 rfl (lv_at hl 0 rfl) ?_
  refine W.objInit G.1 G.2.1 G.2.2.2.1 (G.2.2.2.2 _ oi_X7) (G.2.2.2.2 _ oi_i) (G.2.2.2.2 _ oi_c) rfl (by rw [G.2.2.1]; exact hl.1) rfl dX7_init_1 (Nat.le_of_ble_eq_true rfl) (Nat.le_of_ble_eq_true rfl) ?_
  refine W.eq (g2 := F0 m 4 ls []) rfl ?_
  refine lv_aload_n G.1 G.2.1 dX7_init_4 rfl (lv_at hl 0 rfl) ?_
  refine lv_sipush (v := (700 : Int32)) G.1 G.2.1 dX7_init_5 (by decide) ?_
  refine n_newa (N' := 700) G hw ac_int (by decide) rfl (by decide) (by decide) (by decide) dX7_init_8 (fun q1 H hw => ?_)
  rw [List.append_assoc] at hw
  change NW D E _ s (X ++ [(a, .inr (6, [.null, .int 0])), (q1, .inl (E.2.1, 700, .inl (fun _ => 0)))]) _ _ at hw
  refine n_putF 0 G hin hw C_6 (X.length + 0) (n_at (X := X) (j := 0) rfl) (by decide) fl_X7_9 rfl rfl rfl rfl (Nat.le_of_ble_eq_true rfl) dX7_init_10 (fun H locs hw => ?_)
  rw [n_set] at hw
  change NW D E _ s (X ++ [(a, .inr (6, [.ref q1, .int 0])), (q1, .inl (E.2.1, 700, .inl (fun _ => 0)))]) _ _ at hw
  exact n_vret G hr hk hw ⟨q1, rfl⟩ (by decide) (by decide) dX7_init_13

set_option maxHeartbeats 4000000 in
set_option maxRecDepth 100000 in
theorem n_X6_init (l : Launch) (D : va_G) (E : gE) (X : va_W) (a b1 : Nat) : nMet l yX6_init cX6_init 2 1 12 0 0 D E [.ref a, .ref b1] (X ++ [(a, .inr (5, [.null, .int 0]))]) (fun W2 => W2 = X ++ [(a, .inr (5, [.ref b1, .int 0]))]) := by
  refine nt_code (by decide) rfl (Nat.le_of_ble_eq_true rfl) (fun p en s m below meth c ls G hr hk hin hw hl => ?_)
  have hl : lv_has ls 2 [(0, .ref a), (1, .ref b1)] := hl
  refine lv_aload_n G.1 G.2.1 dX6_init_0 rfl (lv_at hl 0 rfl) ?_
  refine W.objInit G.1 G.2.1 G.2.2.2.1 (G.2.2.2.2 _ oi_X6) (G.2.2.2.2 _ oi_i) (G.2.2.2.2 _ oi_c) rfl (by rw [G.2.2.1]; exact hl.1) rfl dX6_init_1 (Nat.le_of_ble_eq_true rfl) (Nat.le_of_ble_eq_true rfl) ?_
  refine W.eq (g2 := F0 m 4 ls []) rfl ?_
  refine lv_aload_n G.1 G.2.1 dX6_init_4 rfl (lv_at hl 0 rfl) ?_
  refine lv_aload_n G.1 G.2.1 dX6_init_5 rfl (lv_at hl 1 rfl) ?_
  refine n_putF 0 G hin hw C_5 (X.length + 0) (n_at (X := X) (j := 0) rfl) (by decide) fl_X6_9 rfl rfl rfl rfl (Nat.le_of_ble_eq_true rfl) dX6_init_6 (fun H locs hw => ?_)
  rw [n_set] at hw
  change NW D E _ s (X ++ [(a, .inr (5, [.ref b1, .int 0]))]) _ _ at hw
  exact n_vret G hr hk hw rfl (by decide) (by decide) dX6_init_9

set_option maxHeartbeats 4000000 in
set_option maxRecDepth 100000 in
theorem n_X9_init (l : Launch) (D : va_G) (E : gE) (X : va_W) (a : Nat) : nMet l yX9_init cX9_init 1 1 12 2 700 D E [.ref a] (X ++ [(a, .inr (8, [.null, .null, .int 0, .null, .null, .int 0]))]) (fun W2 => ∃ q1 q2 : Nat, W2 = X ++ [(a, .inr (8, [.ref q1, .ref q2, .int 0, .null, .null, .int 0])), (q1, .inl (E.2.1, 350, .inl (fun _ => 0))), (q2, .inl (E.2.1, 350, .inl (fun _ => 0)))]) := by
  refine nt_code (by decide) rfl (Nat.le_of_ble_eq_true rfl) (fun p en s m below meth c ls G hr hk hin hw hl => ?_)
  have hl : lv_has ls 1 [(0, .ref a)] := hl
  refine lv_aload_n G.1 G.2.1 dX9_init_0 rfl (lv_at hl 0 rfl) ?_
  refine W.objInit G.1 G.2.1 G.2.2.2.1 (G.2.2.2.2 _ oi_X9) (G.2.2.2.2 _ oi_i) (G.2.2.2.2 _ oi_c) rfl (by rw [G.2.2.1]; exact hl.1) rfl dX9_init_1 (Nat.le_of_ble_eq_true rfl) (Nat.le_of_ble_eq_true rfl) ?_
  refine W.eq (g2 := F0 m 4 ls []) rfl ?_
  refine lv_aload_n G.1 G.2.1 dX9_init_4 rfl (lv_at hl 0 rfl) ?_
  refine lv_sipush (v := (350 : Int32)) G.1 G.2.1 dX9_init_5 (by decide) ?_
  refine n_newa (N' := 350) G hw ac_int (by decide) rfl (by decide) (by decide) (by decide) dX9_init_8 (fun q1 H hw => ?_)
  rw [List.append_assoc] at hw
  change NW D E _ s (X ++ [(a, .inr (8, [.null, .null, .int 0, .null, .null, .int 0])), (q1, .inl (E.2.1, 350, .inl (fun _ => 0)))]) _ _ at hw
  refine n_putF 0 G hin hw C_8 (X.length + 0) (n_at (X := X) (j := 0) rfl) (by decide) fl_X9_9 rfl rfl rfl rfl (Nat.le_of_ble_eq_true rfl) dX9_init_10 (fun H locs hw => ?_)
  rw [n_set] at hw
  change NW D E _ s (X ++ [(a, .inr (8, [.ref q1, .null, .int 0, .null, .null, .int 0])), (q1, .inl (E.2.1, 350, .inl (fun _ => 0)))]) _ _ at hw
  refine lv_aload_n G.1 G.2.1 dX9_init_13 rfl (lv_at hl 0 rfl) ?_
  refine lv_sipush (v := (350 : Int32)) G.1 G.2.1 dX9_init_14 (by decide) ?_
  refine n_newa (N' := 350) G hw ac_int (by decide) rfl (by decide) (by decide) (by decide) dX9_init_17 (fun q2 H hw => ?_)
  rw [List.append_assoc] at hw
  change NW D E _ s (X ++ [(a, .inr (8, [.ref q1, .null, .int 0, .null, .null, .int 0])), (q1, .inl (E.2.1, 350, .inl (fun _ => 0))), (q2, .inl (E.2.1, 350, .inl (fun _ => 0)))]) _ _ at hw
  refine n_putF 1 G hin hw C_8 (X.length + 0) (n_at (X := X) (j := 0) rfl) (by decide) fl_X9_15 rfl rfl rfl rfl (Nat.le_of_ble_eq_true rfl) dX9_init_19 (fun H locs hw => ?_)
  rw [n_set] at hw
  change NW D E _ s (X ++ [(a, .inr (8, [.ref q1, .ref q2, .int 0, .null, .null, .int 0])), (q1, .inl (E.2.1, 350, .inl (fun _ => 0))), (q2, .inl (E.2.1, 350, .inl (fun _ => 0)))]) _ _ at hw
  exact n_vret G hr hk hw ⟨q1, q2, rfl⟩ (by decide) (by decide) dX9_init_22

set_option maxHeartbeats 4000000 in
set_option maxRecDepth 100000 in
theorem n_X8_init (l : Launch) (D : va_G) (E : gE) (X : va_W) (a b1 : Nat) : nMet l yX8_init cX8_init 2 2 33 4 708 D E [.ref a, .ref b1] (X ++ [(a, .inr (7, [.null, .null, .null, .int 0, .int 0, .int 0, .int 0]))]) (fun W2 => ∃ q1 q2 q3 q4 : Nat, W2 = X ++ [(a, .inr (7, [.ref q1, .ref q2, .null, .int 0, .int 0, .int 0, .int (-1)])), (q1, .inr (5, [.ref b1, .int 0])), (q2, .inr (8, [.ref q3, .ref q4, .int 0, .null, .null, .int 0])), (q3, .inl (E.2.1, 350, .inl (fun _ => 0))), (q4, .inl (E.2.1, 350, .inl (fun _ => 0)))]) := by
  refine nt_code (by decide) rfl (Nat.le_of_ble_eq_true rfl) (fun p en s m below meth c ls G hr hk hin hw hl => ?_)
  have hl : lv_has ls 2 [(0, .ref a), (1, .ref b1)] := hl
  refine lv_aload_n G.1 G.2.1 dX8_init_0 rfl (lv_at hl 0 rfl) ?_
  refine W.objInit G.1 G.2.1 G.2.2.2.1 (G.2.2.2.2 _ oi_X8) (G.2.2.2.2 _ oi_i) (G.2.2.2.2 _ oi_c) rfl (by rw [G.2.2.1]; exact hl.1) rfl dX8_init_1 (Nat.le_of_ble_eq_true rfl) (Nat.le_of_ble_eq_true rfl) ?_
  refine W.eq (g2 := F0 m 4 ls []) rfl ?_
  refine lv_aload_n G.1 G.2.1 dX8_init_4 rfl (lv_at hl 0 rfl) ?_
  refine n_new (fs := [.null, .int 0]) G hw C_5 cl_X8_9 it_X6 in_X6 (by decide) (by decide) (by decide) dX8_init_5 (fun q1 H hw => ?_)
  refine lv_dup G.1 G.2.1 dX8_init_8 rfl ?_
  refine lv_aload_n G.1 G.2.1 dX8_init_9 rfl (lv_at hl 1 rfl) ?_
  refine n_call (As := [.ref b1]) (rest := [.ref q1, .ref a]) G hw mi_X8_11 (n_X6_init l D E (X ++ [(a, .inr (7, [.null, .null, .null, .int 0, .int 0, .int 0, .int 0]))]) q1 b1) hl.1 rfl rfl (Nat.le_of_ble_eq_true rfl) (Nat.le_of_ble_eq_true rfl) (Nat.le_of_ble_eq_true rfl) ⟨by decide, by decide⟩ dX8_init_10 (fun W2 H locs hW2 hw => ?_)
  obtain rfl := hW2
  rw [List.append_assoc] at hw
  change NW D E _ s (X ++ [(a, .inr (7, [.null, .null, .null, .int 0, .int 0, .int 0, .int 0])), (q1, .inr (5, [.ref b1, .int 0]))]) _ _ at hw
  refine n_putF 0 G hin hw C_7 (X.length + 0) (n_at (X := X) (j := 0) rfl) (by decide) fl_X8_14 rfl rfl rfl rfl (Nat.le_of_ble_eq_true rfl) dX8_init_13 (fun H locs hw => ?_)
  rw [n_set] at hw
  change NW D E _ s (X ++ [(a, .inr (7, [.ref q1, .null, .null, .int 0, .int 0, .int 0, .int 0])), (q1, .inr (5, [.ref b1, .int 0]))]) _ _ at hw
  refine lv_aload_n G.1 G.2.1 dX8_init_16 rfl (lv_at hl 0 rfl) ?_
  refine n_new (fs := [.null, .null, .int 0, .null, .null, .int 0]) G hw C_8 cl_X8_20 it_X9 in_X9 (by decide) (by decide) (by decide) dX8_init_17 (fun q2 H hw => ?_)
  refine lv_dup G.1 G.2.1 dX8_init_20 rfl ?_
  refine n_call (As := []) (rest := [.ref q2, .ref a]) G hw mi_X8_22 (n_X9_init l D E (X ++ [(a, .inr (7, [.ref q1, .null, .null, .int 0, .int 0, .int 0, .int 0])), (q1, .inr (5, [.ref b1, .int 0]))]) q2) hl.1 rfl rfl (Nat.le_of_ble_eq_true rfl) (Nat.le_of_ble_eq_true rfl) (Nat.le_of_ble_eq_true rfl) ⟨by decide, by decide⟩ dX8_init_21 (fun W2 H locs hW2 hw => ?_)
  obtain ⟨q3, q4, rfl⟩ := hW2
  rw [List.append_assoc] at hw
  change NW D E _ s (X ++ [(a, .inr (7, [.ref q1, .null, .null, .int 0, .int 0, .int 0, .int 0])), (q1, .inr (5, [.ref b1, .int 0])), (q2, .inr (8, [.ref q3, .ref q4, .int 0, .null, .null, .int 0])), (q3, .inl (E.2.1, 350, .inl (fun _ => 0))), (q4, .inl (E.2.1, 350, .inl (fun _ => 0)))]) _ _ at hw
  refine n_putF 1 G hin hw C_7 (X.length + 0) (n_at (X := X) (j := 0) rfl) (by decide) fl_X8_23 rfl rfl rfl rfl (Nat.le_of_ble_eq_true rfl) dX8_init_24 (fun H locs hw => ?_)
  rw [n_set] at hw
  change NW D E _ s (X ++ [(a, .inr (7, [.ref q1, .ref q2, .null, .int 0, .int 0, .int 0, .int 0])), (q1, .inr (5, [.ref b1, .int 0])), (q2, .inr (8, [.ref q3, .ref q4, .int 0, .null, .null, .int 0])), (q3, .inl (E.2.1, 350, .inl (fun _ => 0))), (q4, .inl (E.2.1, 350, .inl (fun _ => 0)))]) _ _ at hw
  refine lv_aload_n G.1 G.2.1 dX8_init_27 rfl (lv_at hl 0 rfl) ?_
  refine lv_iconst (v := (-1 : Int32)) G.1 G.2.1 dX8_init_28 (by decide) ?_
  refine n_put 6 G hw C_7 (X.length + 0) (n_at (X := X) (j := 0) rfl) (by decide) fl_X8_27 rfl rfl rfl (Nat.le_of_ble_eq_true rfl) dX8_init_29 (fun H locs hw => ?_)
  rw [n_set] at hw
  change NW D E _ s (X ++ [(a, .inr (7, [.ref q1, .ref q2, .null, .int 0, .int 0, .int 0, .int (-1)])), (q1, .inr (5, [.ref b1, .int 0])), (q2, .inr (8, [.ref q3, .ref q4, .int 0, .null, .null, .int 0])), (q3, .inl (E.2.1, 350, .inl (fun _ => 0))), (q4, .inl (E.2.1, 350, .inl (fun _ => 0)))]) _ _ at hw
  exact n_vret G hr hk hw ⟨q1, q2, q3, q4, rfl⟩ (by decide) (by decide) dX8_init_32

set_option maxHeartbeats 4000000 in
set_option maxRecDepth 100000 in
theorem n_X1_init (l : Launch) (D : va_G) (E : gE) (X : va_W) (a : Nat) : nMet l yX1_init cX1_init 1 1 12 5 419 D E [.ref a] (X ++ [(a, .inr (1, [.null, .null, .null, .null, .null, .int 0]))]) (fun W2 => ∃ q1 q2 q3 q4 q5 : Nat, W2 = X ++ [(a, .inr (1, [.ref q1, .ref q2, .ref q3, .ref q4, .ref q5, .int 0])), (q1, .inl (E.2.1, 3, .inl (upd (upd (upd (fun _ => 0) (0 : Int32).toNatClampNeg 1) (1 : Int32).toNatClampNeg 1) (2 : Int32).toNatClampNeg 1))), (q2, .inl (E.2.1, 4, .inl (upd (upd (upd (upd (fun _ => 0) (0 : Int32).toNatClampNeg 1) (1 : Int32).toNatClampNeg 1) (2 : Int32).toNatClampNeg 1) (3 : Int32).toNatClampNeg 1))), (q3, .inl (E.2.1, 12, .inl (fun _ => 0))), (q4, .inl (E.2.1, 200, .inl (fun _ => 0))), (q5, .inl (E.2.2.2.1, 200, .inr (.inr (.inr (.inr (fun _ => none))))))]) := by
  refine nt_code (by decide) rfl (Nat.le_of_ble_eq_true rfl) (fun p en s m below meth c ls G hr hk hin hw hl => ?_)
  have hl : lv_has ls 1 [(0, .ref a)] := hl
  refine lv_aload_n G.1 G.2.1 dX1_init_0 rfl (lv_at hl 0 rfl) ?_
  refine W.objInit G.1 G.2.1 G.2.2.2.1 (G.2.2.2.2 _ oi_X1) (G.2.2.2.2 _ oi_i) (G.2.2.2.2 _ oi_c) rfl (by rw [G.2.2.1]; exact hl.1) rfl dX1_init_1 (Nat.le_of_ble_eq_true rfl) (Nat.le_of_ble_eq_true rfl) ?_
  refine W.eq (g2 := F0 m 4 ls []) rfl ?_
  refine lv_aload_n G.1 G.2.1 dX1_init_4 rfl (lv_at hl 0 rfl) ?_
  refine lv_iconst (v := (3 : Int32)) G.1 G.2.1 dX1_init_5 (by decide) ?_
  refine n_newa (N' := 3) G hw ac_int (by decide) rfl (by decide) (by decide) (by decide) dX1_init_6 (fun q1 H hw => ?_)
  rw [List.append_assoc] at hw
  change NW D E _ s (X ++ [(a, .inr (1, [.null, .null, .null, .null, .null, .int 0])), (q1, .inl (E.2.1, 3, .inl (fun _ => 0)))]) _ _ at hw
  refine lv_dup G.1 G.2.1 dX1_init_8 rfl ?_
  refine lv_iconst (v := (0 : Int32)) G.1 G.2.1 dX1_init_9 (by decide) ?_
  refine lv_iconst (v := (1 : Int32)) G.1 G.2.1 dX1_init_10 (by decide) ?_
  refine n_iast (N' := 3) G hw (X.length + 1) (n_at (X := X) (j := 1) rfl) (by unfold vp_in; decide) dX1_init_11 (fun H locs hw => ?_)
  rw [n_set] at hw
  change NW D E _ s (X ++ [(a, .inr (1, [.null, .null, .null, .null, .null, .int 0])), (q1, .inl (E.2.1, 3, .inl (upd (fun _ => 0) (0 : Int32).toNatClampNeg 1)))]) _ _ at hw
  refine lv_dup G.1 G.2.1 dX1_init_12 rfl ?_
  refine lv_iconst (v := (1 : Int32)) G.1 G.2.1 dX1_init_13 (by decide) ?_
  refine lv_iconst (v := (1 : Int32)) G.1 G.2.1 dX1_init_14 (by decide) ?_
  refine n_iast (N' := 3) G hw (X.length + 1) (n_at (X := X) (j := 1) rfl) (by unfold vp_in; decide) dX1_init_15 (fun H locs hw => ?_)
  rw [n_set] at hw
  change NW D E _ s (X ++ [(a, .inr (1, [.null, .null, .null, .null, .null, .int 0])), (q1, .inl (E.2.1, 3, .inl (upd (upd (fun _ => 0) (0 : Int32).toNatClampNeg 1) (1 : Int32).toNatClampNeg 1)))]) _ _ at hw
  refine lv_dup G.1 G.2.1 dX1_init_16 rfl ?_
  refine lv_iconst (v := (2 : Int32)) G.1 G.2.1 dX1_init_17 (by decide) ?_
  refine lv_iconst (v := (1 : Int32)) G.1 G.2.1 dX1_init_18 (by decide) ?_
  refine n_iast (N' := 3) G hw (X.length + 1) (n_at (X := X) (j := 1) rfl) (by unfold vp_in; decide) dX1_init_19 (fun H locs hw => ?_)
  rw [n_set] at hw
  change NW D E _ s (X ++ [(a, .inr (1, [.null, .null, .null, .null, .null, .int 0])), (q1, .inl (E.2.1, 3, .inl (upd (upd (upd (fun _ => 0) (0 : Int32).toNatClampNeg 1) (1 : Int32).toNatClampNeg 1) (2 : Int32).toNatClampNeg 1)))]) _ _ at hw
  refine n_putF 0 G hin hw C_1 (X.length + 0) (n_at (X := X) (j := 0) rfl) (by decide) fl_X1_9 rfl rfl rfl rfl (Nat.le_of_ble_eq_true rfl) dX1_init_20 (fun H locs hw => ?_)
  rw [n_set] at hw
  change NW D E _ s (X ++ [(a, .inr (1, [.ref q1, .null, .null, .null, .null, .int 0])), (q1, .inl (E.2.1, 3, .inl (upd (upd (upd (fun _ => 0) (0 : Int32).toNatClampNeg 1) (1 : Int32).toNatClampNeg 1) (2 : Int32).toNatClampNeg 1)))]) _ _ at hw
  refine lv_aload_n G.1 G.2.1 dX1_init_23 rfl (lv_at hl 0 rfl) ?_
  refine lv_iconst (v := (4 : Int32)) G.1 G.2.1 dX1_init_24 (by decide) ?_
  refine n_newa (N' := 4) G hw ac_int (by decide) rfl (by decide) (by decide) (by decide) dX1_init_25 (fun q2 H hw => ?_)
  rw [List.append_assoc] at hw
  change NW D E _ s (X ++ [(a, .inr (1, [.ref q1, .null, .null, .null, .null, .int 0])), (q1, .inl (E.2.1, 3, .inl (upd (upd (upd (fun _ => 0) (0 : Int32).toNatClampNeg 1) (1 : Int32).toNatClampNeg 1) (2 : Int32).toNatClampNeg 1))), (q2, .inl (E.2.1, 4, .inl (fun _ => 0)))]) _ _ at hw
  refine lv_dup G.1 G.2.1 dX1_init_27 rfl ?_
  refine lv_iconst (v := (0 : Int32)) G.1 G.2.1 dX1_init_28 (by decide) ?_
  refine lv_iconst (v := (1 : Int32)) G.1 G.2.1 dX1_init_29 (by decide) ?_
  refine n_iast (N' := 4) G hw (X.length + 2) (n_at (X := X) (j := 2) rfl) (by unfold vp_in; decide) dX1_init_30 (fun H locs hw => ?_)
  rw [n_set] at hw
  change NW D E _ s (X ++ [(a, .inr (1, [.ref q1, .null, .null, .null, .null, .int 0])), (q1, .inl (E.2.1, 3, .inl (upd (upd (upd (fun _ => 0) (0 : Int32).toNatClampNeg 1) (1 : Int32).toNatClampNeg 1) (2 : Int32).toNatClampNeg 1))), (q2, .inl (E.2.1, 4, .inl (upd (fun _ => 0) (0 : Int32).toNatClampNeg 1)))]) _ _ at hw
  refine lv_dup G.1 G.2.1 dX1_init_31 rfl ?_
  refine lv_iconst (v := (1 : Int32)) G.1 G.2.1 dX1_init_32 (by decide) ?_
  refine lv_iconst (v := (1 : Int32)) G.1 G.2.1 dX1_init_33 (by decide) ?_
  refine n_iast (N' := 4) G hw (X.length + 2) (n_at (X := X) (j := 2) rfl) (by unfold vp_in; decide) dX1_init_34 (fun H locs hw => ?_)
  rw [n_set] at hw
  change NW D E _ s (X ++ [(a, .inr (1, [.ref q1, .null, .null, .null, .null, .int 0])), (q1, .inl (E.2.1, 3, .inl (upd (upd (upd (fun _ => 0) (0 : Int32).toNatClampNeg 1) (1 : Int32).toNatClampNeg 1) (2 : Int32).toNatClampNeg 1))), (q2, .inl (E.2.1, 4, .inl (upd (upd (fun _ => 0) (0 : Int32).toNatClampNeg 1) (1 : Int32).toNatClampNeg 1)))]) _ _ at hw
  refine lv_dup G.1 G.2.1 dX1_init_35 rfl ?_
  refine lv_iconst (v := (2 : Int32)) G.1 G.2.1 dX1_init_36 (by decide) ?_
  refine lv_iconst (v := (1 : Int32)) G.1 G.2.1 dX1_init_37 (by decide) ?_
  refine n_iast (N' := 4) G hw (X.length + 2) (n_at (X := X) (j := 2) rfl) (by unfold vp_in; decide) dX1_init_38 (fun H locs hw => ?_)
  rw [n_set] at hw
  change NW D E _ s (X ++ [(a, .inr (1, [.ref q1, .null, .null, .null, .null, .int 0])), (q1, .inl (E.2.1, 3, .inl (upd (upd (upd (fun _ => 0) (0 : Int32).toNatClampNeg 1) (1 : Int32).toNatClampNeg 1) (2 : Int32).toNatClampNeg 1))), (q2, .inl (E.2.1, 4, .inl (upd (upd (upd (fun _ => 0) (0 : Int32).toNatClampNeg 1) (1 : Int32).toNatClampNeg 1) (2 : Int32).toNatClampNeg 1)))]) _ _ at hw
  refine lv_dup G.1 G.2.1 dX1_init_39 rfl ?_
  refine lv_iconst (v := (3 : Int32)) G.1 G.2.1 dX1_init_40 (by decide) ?_
  refine lv_iconst (v := (1 : Int32)) G.1 G.2.1 dX1_init_41 (by decide) ?_
  refine n_iast (N' := 4) G hw (X.length + 2) (n_at (X := X) (j := 2) rfl) (by unfold vp_in; decide) dX1_init_42 (fun H locs hw => ?_)
  rw [n_set] at hw
  change NW D E _ s (X ++ [(a, .inr (1, [.ref q1, .null, .null, .null, .null, .int 0])), (q1, .inl (E.2.1, 3, .inl (upd (upd (upd (fun _ => 0) (0 : Int32).toNatClampNeg 1) (1 : Int32).toNatClampNeg 1) (2 : Int32).toNatClampNeg 1))), (q2, .inl (E.2.1, 4, .inl (upd (upd (upd (upd (fun _ => 0) (0 : Int32).toNatClampNeg 1) (1 : Int32).toNatClampNeg 1) (2 : Int32).toNatClampNeg 1) (3 : Int32).toNatClampNeg 1)))]) _ _ at hw
  refine n_putF 1 G hin hw C_1 (X.length + 0) (n_at (X := X) (j := 0) rfl) (by decide) fl_X1_15 rfl rfl rfl rfl (Nat.le_of_ble_eq_true rfl) dX1_init_43 (fun H locs hw => ?_)
  rw [n_set] at hw
  change NW D E _ s (X ++ [(a, .inr (1, [.ref q1, .ref q2, .null, .null, .null, .int 0])), (q1, .inl (E.2.1, 3, .inl (upd (upd (upd (fun _ => 0) (0 : Int32).toNatClampNeg 1) (1 : Int32).toNatClampNeg 1) (2 : Int32).toNatClampNeg 1))), (q2, .inl (E.2.1, 4, .inl (upd (upd (upd (upd (fun _ => 0) (0 : Int32).toNatClampNeg 1) (1 : Int32).toNatClampNeg 1) (2 : Int32).toNatClampNeg 1) (3 : Int32).toNatClampNeg 1)))]) _ _ at hw
  refine lv_aload_n G.1 G.2.1 dX1_init_46 rfl (lv_at hl 0 rfl) ?_
  refine lv_bipush (v := (12 : Int32)) G.1 G.2.1 dX1_init_47 (by decide) ?_
  refine n_newa (N' := 12) G hw ac_int (by decide) rfl (by decide) (by decide) (by decide) dX1_init_49 (fun q3 H hw => ?_)
  rw [List.append_assoc] at hw
  change NW D E _ s (X ++ [(a, .inr (1, [.ref q1, .ref q2, .null, .null, .null, .int 0])), (q1, .inl (E.2.1, 3, .inl (upd (upd (upd (fun _ => 0) (0 : Int32).toNatClampNeg 1) (1 : Int32).toNatClampNeg 1) (2 : Int32).toNatClampNeg 1))), (q2, .inl (E.2.1, 4, .inl (upd (upd (upd (upd (fun _ => 0) (0 : Int32).toNatClampNeg 1) (1 : Int32).toNatClampNeg 1) (2 : Int32).toNatClampNeg 1) (3 : Int32).toNatClampNeg 1))), (q3, .inl (E.2.1, 12, .inl (fun _ => 0)))]) _ _ at hw
  refine n_putF 2 G hin hw C_1 (X.length + 0) (n_at (X := X) (j := 0) rfl) (by decide) fl_X1_18 rfl rfl rfl rfl (Nat.le_of_ble_eq_true rfl) dX1_init_51 (fun H locs hw => ?_)
  rw [n_set] at hw
  change NW D E _ s (X ++ [(a, .inr (1, [.ref q1, .ref q2, .ref q3, .null, .null, .int 0])), (q1, .inl (E.2.1, 3, .inl (upd (upd (upd (fun _ => 0) (0 : Int32).toNatClampNeg 1) (1 : Int32).toNatClampNeg 1) (2 : Int32).toNatClampNeg 1))), (q2, .inl (E.2.1, 4, .inl (upd (upd (upd (upd (fun _ => 0) (0 : Int32).toNatClampNeg 1) (1 : Int32).toNatClampNeg 1) (2 : Int32).toNatClampNeg 1) (3 : Int32).toNatClampNeg 1))), (q3, .inl (E.2.1, 12, .inl (fun _ => 0)))]) _ _ at hw
  refine lv_aload_n G.1 G.2.1 dX1_init_54 rfl (lv_at hl 0 rfl) ?_
  refine lv_sipush (v := (200 : Int32)) G.1 G.2.1 dX1_init_55 (by decide) ?_
  refine n_newa (N' := 200) G hw ac_int (by decide) rfl (by decide) (by decide) (by decide) dX1_init_58 (fun q4 H hw => ?_)
  rw [List.append_assoc] at hw
  change NW D E _ s (X ++ [(a, .inr (1, [.ref q1, .ref q2, .ref q3, .null, .null, .int 0])), (q1, .inl (E.2.1, 3, .inl (upd (upd (upd (fun _ => 0) (0 : Int32).toNatClampNeg 1) (1 : Int32).toNatClampNeg 1) (2 : Int32).toNatClampNeg 1))), (q2, .inl (E.2.1, 4, .inl (upd (upd (upd (upd (fun _ => 0) (0 : Int32).toNatClampNeg 1) (1 : Int32).toNatClampNeg 1) (2 : Int32).toNatClampNeg 1) (3 : Int32).toNatClampNeg 1))), (q3, .inl (E.2.1, 12, .inl (fun _ => 0))), (q4, .inl (E.2.1, 200, .inl (fun _ => 0)))]) _ _ at hw
  refine n_putF 3 G hin hw C_1 (X.length + 0) (n_at (X := X) (j := 0) rfl) (by decide) fl_X1_21 rfl rfl rfl rfl (Nat.le_of_ble_eq_true rfl) dX1_init_60 (fun H locs hw => ?_)
  rw [n_set] at hw
  change NW D E _ s (X ++ [(a, .inr (1, [.ref q1, .ref q2, .ref q3, .ref q4, .null, .int 0])), (q1, .inl (E.2.1, 3, .inl (upd (upd (upd (fun _ => 0) (0 : Int32).toNatClampNeg 1) (1 : Int32).toNatClampNeg 1) (2 : Int32).toNatClampNeg 1))), (q2, .inl (E.2.1, 4, .inl (upd (upd (upd (upd (fun _ => 0) (0 : Int32).toNatClampNeg 1) (1 : Int32).toNatClampNeg 1) (2 : Int32).toNatClampNeg 1) (3 : Int32).toNatClampNeg 1))), (q3, .inl (E.2.1, 12, .inl (fun _ => 0))), (q4, .inl (E.2.1, 200, .inl (fun _ => 0)))]) _ _ at hw
  refine lv_aload_n G.1 G.2.1 dX1_init_63 rfl (lv_at hl 0 rfl) ?_
  refine lv_sipush (v := (200 : Int32)) G.1 G.2.1 dX1_init_64 (by decide) ?_
  refine n_newq (N' := 200) (C := "CycleSynthesis$Operation") 2 rfl (by decide) G hw cl_X1_24 hw.2.2.2.2.2.1 (by decide) rfl (by decide) (by decide) (by decide) dX1_init_67 (fun q5 H hw => ?_)
  rw [List.append_assoc] at hw
  change NW D E _ s (X ++ [(a, .inr (1, [.ref q1, .ref q2, .ref q3, .ref q4, .null, .int 0])), (q1, .inl (E.2.1, 3, .inl (upd (upd (upd (fun _ => 0) (0 : Int32).toNatClampNeg 1) (1 : Int32).toNatClampNeg 1) (2 : Int32).toNatClampNeg 1))), (q2, .inl (E.2.1, 4, .inl (upd (upd (upd (upd (fun _ => 0) (0 : Int32).toNatClampNeg 1) (1 : Int32).toNatClampNeg 1) (2 : Int32).toNatClampNeg 1) (3 : Int32).toNatClampNeg 1))), (q3, .inl (E.2.1, 12, .inl (fun _ => 0))), (q4, .inl (E.2.1, 200, .inl (fun _ => 0))), (q5, .inl (E.2.2.2.1, 200, .inr (.inr (.inr (.inr (fun _ => none))))))]) _ _ at hw
  refine n_putF 4 G hin hw C_1 (X.length + 0) (n_at (X := X) (j := 0) rfl) (by decide) fl_X1_26 rfl rfl rfl rfl (Nat.le_of_ble_eq_true rfl) dX1_init_70 (fun H locs hw => ?_)
  rw [n_set] at hw
  change NW D E _ s (X ++ [(a, .inr (1, [.ref q1, .ref q2, .ref q3, .ref q4, .ref q5, .int 0])), (q1, .inl (E.2.1, 3, .inl (upd (upd (upd (fun _ => 0) (0 : Int32).toNatClampNeg 1) (1 : Int32).toNatClampNeg 1) (2 : Int32).toNatClampNeg 1))), (q2, .inl (E.2.1, 4, .inl (upd (upd (upd (upd (fun _ => 0) (0 : Int32).toNatClampNeg 1) (1 : Int32).toNatClampNeg 1) (2 : Int32).toNatClampNeg 1) (3 : Int32).toNatClampNeg 1))), (q3, .inl (E.2.1, 12, .inl (fun _ => 0))), (q4, .inl (E.2.1, 200, .inl (fun _ => 0))), (q5, .inl (E.2.2.2.1, 200, .inr (.inr (.inr (.inr (fun _ => none))))))]) _ _ at hw
  exact n_vret G hr hk hw ⟨q1, q2, q3, q4, q5, rfl⟩ (by decide) (by decide) dX1_init_73

set_option maxHeartbeats 4000000 in
set_option maxRecDepth 100000 in
theorem n_X2_init (l : Launch) (D : va_G) (E : gE) (X : va_W) (a : Nat) : nMet l yX2_init cX2_init 1 1 12 3 224 D E [.ref a] (X ++ [(a, .inr (2, [.null, .null, .null, .null, .int 0, .long 0]))]) (fun W2 => ∃ q1 q2 q3 : Nat, W2 = X ++ [(a, .inr (2, [.ref q1, .ref q2, .ref q3, .null, .int 0, .long 0])), (q1, .inl (E.2.1, 8, .inl (fun _ => 0))), (q2, .inl (E.2.1, 16, .inl (fun _ => 0))), (q3, .inl (E.2.1, 200, .inl (fun _ => 0)))]) := by
  refine nt_code (by decide) rfl (Nat.le_of_ble_eq_true rfl) (fun p en s m below meth c ls G hr hk hin hw hl => ?_)
  have hl : lv_has ls 1 [(0, .ref a)] := hl
  refine lv_aload_n G.1 G.2.1 dX2_init_0 rfl (lv_at hl 0 rfl) ?_
  refine W.objInit G.1 G.2.1 G.2.2.2.1 (G.2.2.2.2 _ oi_X2) (G.2.2.2.2 _ oi_i) (G.2.2.2.2 _ oi_c) rfl (by rw [G.2.2.1]; exact hl.1) rfl dX2_init_1 (Nat.le_of_ble_eq_true rfl) (Nat.le_of_ble_eq_true rfl) ?_
  refine W.eq (g2 := F0 m 4 ls []) rfl ?_
  refine lv_aload_n G.1 G.2.1 dX2_init_4 rfl (lv_at hl 0 rfl) ?_
  refine lv_bipush (v := (8 : Int32)) G.1 G.2.1 dX2_init_5 (by decide) ?_
  refine n_newa (N' := 8) G hw ac_int (by decide) rfl (by decide) (by decide) (by decide) dX2_init_7 (fun q1 H hw => ?_)
  rw [List.append_assoc] at hw
  change NW D E _ s (X ++ [(a, .inr (2, [.null, .null, .null, .null, .int 0, .long 0])), (q1, .inl (E.2.1, 8, .inl (fun _ => 0)))]) _ _ at hw
  refine n_putF 0 G hin hw C_2 (X.length + 0) (n_at (X := X) (j := 0) rfl) (by decide) fl_X2_9 rfl rfl rfl rfl (Nat.le_of_ble_eq_true rfl) dX2_init_9 (fun H locs hw => ?_)
  rw [n_set] at hw
  change NW D E _ s (X ++ [(a, .inr (2, [.ref q1, .null, .null, .null, .int 0, .long 0])), (q1, .inl (E.2.1, 8, .inl (fun _ => 0)))]) _ _ at hw
  refine lv_aload_n G.1 G.2.1 dX2_init_12 rfl (lv_at hl 0 rfl) ?_
  refine lv_bipush (v := (16 : Int32)) G.1 G.2.1 dX2_init_13 (by decide) ?_
  refine n_newa (N' := 16) G hw ac_int (by decide) rfl (by decide) (by decide) (by decide) dX2_init_15 (fun q2 H hw => ?_)
  rw [List.append_assoc] at hw
  change NW D E _ s (X ++ [(a, .inr (2, [.ref q1, .null, .null, .null, .int 0, .long 0])), (q1, .inl (E.2.1, 8, .inl (fun _ => 0))), (q2, .inl (E.2.1, 16, .inl (fun _ => 0)))]) _ _ at hw
  refine n_putF 1 G hin hw C_2 (X.length + 0) (n_at (X := X) (j := 0) rfl) (by decide) fl_X2_15 rfl rfl rfl rfl (Nat.le_of_ble_eq_true rfl) dX2_init_17 (fun H locs hw => ?_)
  rw [n_set] at hw
  change NW D E _ s (X ++ [(a, .inr (2, [.ref q1, .ref q2, .null, .null, .int 0, .long 0])), (q1, .inl (E.2.1, 8, .inl (fun _ => 0))), (q2, .inl (E.2.1, 16, .inl (fun _ => 0)))]) _ _ at hw
  refine lv_aload_n G.1 G.2.1 dX2_init_20 rfl (lv_at hl 0 rfl) ?_
  refine lv_sipush (v := (200 : Int32)) G.1 G.2.1 dX2_init_21 (by decide) ?_
  refine n_newa (N' := 200) G hw ac_int (by decide) rfl (by decide) (by decide) (by decide) dX2_init_24 (fun q3 H hw => ?_)
  rw [List.append_assoc] at hw
  change NW D E _ s (X ++ [(a, .inr (2, [.ref q1, .ref q2, .null, .null, .int 0, .long 0])), (q1, .inl (E.2.1, 8, .inl (fun _ => 0))), (q2, .inl (E.2.1, 16, .inl (fun _ => 0))), (q3, .inl (E.2.1, 200, .inl (fun _ => 0)))]) _ _ at hw
  refine n_putF 2 G hin hw C_2 (X.length + 0) (n_at (X := X) (j := 0) rfl) (by decide) fl_X2_18 rfl rfl rfl rfl (Nat.le_of_ble_eq_true rfl) dX2_init_26 (fun H locs hw => ?_)
  rw [n_set] at hw
  change NW D E _ s (X ++ [(a, .inr (2, [.ref q1, .ref q2, .ref q3, .null, .int 0, .long 0])), (q1, .inl (E.2.1, 8, .inl (fun _ => 0))), (q2, .inl (E.2.1, 16, .inl (fun _ => 0))), (q3, .inl (E.2.1, 200, .inl (fun _ => 0)))]) _ _ at hw
  exact n_vret G hr hk hw ⟨q1, q2, q3, rfl⟩ (by decide) (by decide) dX2_init_29

set_option maxHeartbeats 4000000 in
set_option maxRecDepth 100000 in
theorem n_X4_init (l : Launch) (D : va_G) (E : gE) (X : va_W) (a : Nat) : nMet l yX4_init cX4_init 1 1 12 0 0 D E [.ref a] (X ++ [(a, .inr (3, [.int 0, .int 0, .int 0, .int 0, .int 0, .int 0, .int 0, .int 0, .int 0, .int 0, .int 0, .int 0, .int 0, .int 0, .int 0]))]) (fun W2 => W2 = X ++ [(a, .inr (3, [.int 0, .int 0, .int 0, .int 0, .int 0, .int 0, .int 0, .int 0, .int 0, .int 0, .int 0, .int 0, .int 0, .int 0, .int 0]))]) := by
  refine nt_code (by decide) rfl (Nat.le_of_ble_eq_true rfl) (fun p en s m below meth c ls G hr hk hin hw hl => ?_)
  have hl : lv_has ls 1 [(0, .ref a)] := hl
  refine lv_aload_n G.1 G.2.1 dX4_init_0 rfl (lv_at hl 0 rfl) ?_
  refine W.objInit G.1 G.2.1 G.2.2.2.1 (G.2.2.2.2 _ oi_X4) (G.2.2.2.2 _ oi_i) (G.2.2.2.2 _ oi_c) rfl (by rw [G.2.2.1]; exact hl.1) rfl dX4_init_1 (Nat.le_of_ble_eq_true rfl) (Nat.le_of_ble_eq_true rfl) ?_
  refine W.eq (g2 := F0 m 4 ls []) rfl ?_
  exact n_vret G hr hk hw rfl (by decide) (by decide) dX4_init_4

set_option maxHeartbeats 4000000 in
set_option maxRecDepth 100000 in
theorem n_X0_init (l : Launch) (D : va_G) (E : gE) (X : va_W) (a : Nat) : nMet l yX0_init cX0_init 1 1 12 0 0 D E [.ref a] (X ++ [(a, .inr (0, [.int 0, .int 0, .int 0, .int 0, .int 0, .int 0, .int 0]))]) (fun W2 => W2 = X ++ [(a, .inr (0, [.int 0, .int 0, .int 0, .int 0, .int 0, .int 0, .int 0]))]) := by
  refine nt_code (by decide) rfl (Nat.le_of_ble_eq_true rfl) (fun p en s m below meth c ls G hr hk hin hw hl => ?_)
  have hl : lv_has ls 1 [(0, .ref a)] := hl
  refine lv_aload_n G.1 G.2.1 dX0_init_0 rfl (lv_at hl 0 rfl) ?_
  refine W.objInit G.1 G.2.1 G.2.2.2.1 (G.2.2.2.2 _ oi_X0) (G.2.2.2.2 _ oi_i) (G.2.2.2.2 _ oi_c) rfl (by rw [G.2.2.1]; exact hl.1) rfl dX0_init_1 (Nat.le_of_ble_eq_true rfl) (Nat.le_of_ble_eq_true rfl) ?_
  refine W.eq (g2 := F0 m 4 ls []) rfl ?_
  exact n_vret G hr hk hw rfl (by decide) (by decide) dX0_init_4
