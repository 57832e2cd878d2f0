/-! the program's constructor -/
theorem cl_X5_22 : Cond.classLink RX5 22 RX0 ∈ gtbl := gt_in 341 (by decide +kernel) (by decide +kernel)
theorem cl_X5_9 : Cond.classLink RX5 9 RX4 ∈ gtbl := gt_in 267 (by decide +kernel) (by decide +kernel)
theorem fl_X5_18 : Cond.fieldLink RX5 18 (TX4 0).1 (TX4 0).2.1 (TX4 0).2.2.1 ∈ gtbl := gt_in 273 (by decide +kernel) (by decide +kernel)
theorem in_X0 : Cond.initialized RX0 ∈ gtbl := gt_in 98 (by decide +kernel) (by decide +kernel)
theorem in_X4 : Cond.initialized RX4 ∈ gtbl := gt_in 97 (by decide +kernel) (by decide +kernel)
theorem it_X0 : Cond.instantiable RX0 7 ∈ gtbl := gt_in 343 (by decide +kernel) (by decide +kernel)
theorem it_X4 : Cond.instantiable RX4 15 ∈ gtbl := gt_in 268 (by decide +kernel) (by decide +kernel)
theorem mn_X0 : gNN yX0_init cX0_init 1 0 := ⟨gt_in 345 (by decide +kernel) (by decide +kernel), gt_in 98 (by decide +kernel) (by decide +kernel), gt_in 346 (by decide +kernel) (by decide +kernel), rfl, by decide +kernel, by decide +kernel, by decide +kernel⟩
theorem mn_X4 : gNN yX4_init cX4_init 1 0 := ⟨gt_in 270 (by decide +kernel) (by decide +kernel), gt_in 97 (by decide +kernel) (by decide +kernel), gt_in 271 (by decide +kernel) (by decide +kernel), rfl, by decide +kernel, by decide +kernel, by decide +kernel⟩
theorem oi_X5 : Cond.methodLink RX5 3 objectInit ∈ gtbl := gt_in 266 (by decide +kernel) (by decide +kernel)
def z14 : List Value := [.int 0, .int 0, .int 0, .int 0, .int 0, .int 0, .int 0, .int 0, .int 0, .int 0, .int 0, .int 0, .int 0, .int 0]
def opF (j : Nat) : List Value := .int (nI j) :: z14
def blkF : List Value := [.int 0, .int 0, .int 0, .int 0, .int 0, .int 0, .int 0]
def rowF (ad : Nat → Nat) (i : Nat) : Nat → Option Nat := fun j => if j < i then some (ad j) else none
def opsL (ad : Nat → Nat) (i : Nat) : va_W := (List.range i).map (fun j => (ad j, .inr (3, opF j)))
def blksL (ad : Nat → Nat) (i : Nat) : va_W := (List.range i).map (fun j => (ad j, .inr (0, blkF)))
def qRow (E : gE) (q : Nat) (f : Nat → Option Nat) : Nat × va_E := (q, .inl (E.2.2.2.1, 200, .inr (.inr (.inr (.inr f)))))
def bRow (E : gE) (q : Nat) (f : Nat → Option Nat) : Nat × va_E := (q, .inl (E.2.2.2.2.1, 175, .inr (.inr (.inr (.inr f)))))
theorem opsL_len {ad : Nat → Nat} {i : Nat} : (opsL ad i).length = i := by unfold opsL; rw [List.length_map, List.length_range]
theorem blksL_len {ad : Nat → Nat} {i : Nat} : (blksL ad i).length = i := by unfold blksL; rw [List.length_map, List.length_range]
theorem opsL_s {ad : Nat → Nat} {i q : Nat} : opsL (upN ad i q) (i + 1) = opsL ad i ++ [(q, .inr (3, opF i))] := by
  unfold opsL
  rw [List.range_succ, List.map_append, List.map_cons, List.map_nil, upN_s]
  congr 1
  refine List.map_congr_left (fun j hj => ?_)
  rw [upN_n (by have := List.mem_range.mp hj; omega)]
theorem blksL_s {ad : Nat → Nat} {i q : Nat} : blksL (upN ad i q) (i + 1) = blksL ad i ++ [(q, .inr (0, blkF))] := by
  unfold blksL
  rw [List.range_succ, List.map_append, List.map_cons, List.map_nil, upN_s]
  congr 1
  refine List.map_congr_left (fun j hj => ?_)
  rw [upN_n (by have := List.mem_range.mp hj; omega)]
theorem rowF_s {ad : Nat → Nat} {i q : Nat} : va_up (rowF ad i) i (some q) = rowF (upN ad i q) (i + 1) := by
  funext j
  unfold va_up rowF
  by_cases h : j = i
  · subst h
    rw [if_pos rfl, if_pos (by omega), upN_s]
  · rw [if_neg h]
    by_cases h2 : j < i
    · rw [if_pos h2, if_pos (by omega), upN_n h]
    · rw [if_neg h2, if_neg (by omega)]
theorem n_mid {A B : va_W} {v : Nat × va_E} {k : Nat} (h : A.length = k) : (A ++ v :: B)[k]? = some v := by
  rw [← h, List.getElem?_append_right (Nat.le_refl _), Nat.sub_self]
  rfl
theorem n_midS {A B : va_W} {v w : Nat × va_E} {k : Nat} (h : A.length = k) : (A ++ v :: B).set k w = A ++ w :: B := by
  rw [← h, List.set_append, if_neg (by omega), Nat.sub_self]
  rfl
section PLOOP
variable {p : Program} {l : Launch} {en : Env} {R : Room} {s : State} {m : MethodId} {args : Array Value} {below : List Frame} {meth : Method} {c : Code} {Q : State → Prop}
variable {D : va_G} {X : va_W} {E : gE} {A : Nat → Prop} {a q1 q2 : Nat}
set_option maxHeartbeats 4000000 in
set_option maxRecDepth 100000 in
theorem p_loop1 (G : CallFix p m c cX5_init 2 s args gtbl RX5) (hRc : 377 ≤ R.cells) (hRs : 4600 ≤ R.slots) (hfr : 2 ≤ R.frames) (hlo : 32 ≤ R.locals)
    (kk : ∀ (ad : Nat → Nat) (H : Heap) (locs : List Loc) (ls : Array Slot), NW D E A s (X ++ ((a, .inr (4, [.ref q1, .null, .int 0, .int 0])) :: qRow E q1 (rowF ad 200) :: opsL ad 200)) H locs → lv_has ls 2 [(1, .int (nI 200)), (0, .ref a)] → W p l en R s m args below meth c H locs 201 3200 Q (F0 m 52 ls [])) :
    ∀ (d i : Nat) (ad : Nat → Nat) (H : Heap) (locs : List Loc) (ls : Array Slot), i + d = 200 → NW D E A s (X ++ ((a, .inr (4, [.ref q1, .null, .int 0, .int 0])) :: qRow E q1 (rowF ad i) :: opsL ad i)) H locs → lv_has ls 2 [(1, .int (nI i)), (0, .ref a)] → W p l en R s m args below meth c H locs (1 + i) (200 + 15 * i) Q (F0 m 16 ls []) := by
  intro d
  induction d with
  | zero =>
    intro i ad H locs ls hi hw hl
    have : i = 200 := by omega
    subst this
    refine lv_iload_n G.1 G.2.1 dX5_init_16 rfl (lv_at hl 0 rfl) ?_
    refine lv_sipush (v := (200 : Int32)) G.1 G.2.1 dX5_init_17 (by decide) ?_
    refine lv_icmp_ge (tgt := 52) G.1 G.2.1 dX5_init_20 (by decide) (fun _ => kk ad H locs ls hw hl) (fun h => absurd (show (200 : Int32) ≤ nI 200 from by decide) h)
  | succ d ih =>
    intro i ad H locs ls hi hw hl
    have ci : (nI i).toNatClampNeg = i := nI_clamp (by omega)
    have vin : vp_in (nI i) 200 := by
      unfold vp_in
      rw [ci]
      intro h
      rcases h with h | h
      · exact nI_pos (by omega) h
      · omega
    refine lv_iload_n G.1 G.2.1 dX5_init_16 rfl (lv_at hl 0 rfl) ?_
    refine lv_sipush (v := (200 : Int32)) G.1 G.2.1 dX5_init_17 (by decide) ?_
    refine lv_icmp_ge (tgt := 52) G.1 G.2.1 dX5_init_20 (by decide) (fun h => ?_) (fun _ => ?_)
    · have : (nI 200 ≤ nI i) = (200 ≤ i) := q_le (by decide) (by omega)
      have h' : nI 200 ≤ nI i := h
      rw [this] at h'
      omega
    refine lv_aload_n G.1 G.2.1 dX5_init_23 rfl (lv_at hl 1 rfl) ?_
    refine n_get 0 G hw C_4 (X.length + 0) (n_at (X := X) (j := 0) rfl) (by decide) fl_X5_11 rfl dX5_init_24 ?_
    refine lv_iload_n G.1 G.2.1 dX5_init_27 rfl (lv_at hl 0 rfl) ?_
    refine n_new (fs := .int 0 :: z14) G hw C_3 cl_X5_9 it_X4 in_X4 (by decide) (by omega) (by omega) dX5_init_28 (fun q H hw => ?_)
    refine lv_dup G.1 G.2.1 dX5_init_31 rfl ?_
    refine n_callN (As := []) (rest := [.ref q, .int (nI i), .ref q1]) G hw mn_X4 hw.2.2.2.2.2.2.2.1 (n_X4_init l D E (X ++ ((a, .inr (4, [.ref q1, .null, .int 0, .int 0])) :: qRow E q1 (rowF ad i) :: opsL ad i)) q) hl.1 rfl rfl (Nat.le_of_ble_eq_true rfl) hfr hlo ⟨by omega, by omega⟩ dX5_init_32 (fun W2 H locs hW2 hw => ?_)
    obtain rfl := hW2
    rw [List.append_assoc] at hw
    change NW D E _ s (X ++ ((a, .inr (4, [.ref q1, .null, .int 0, .int 0])) :: qRow E q1 (rowF ad i) :: (opsL ad i ++ [(q, .inr (3, .int 0 :: z14))]))) _ _ at hw
    have len2 : ∀ u v : Nat × va_E, (u :: v :: opsL ad i).length = 2 + i := fun u v => by rw [List.length_cons, List.length_cons, opsL_len]; omega
    refine n_qast (t0 := 2) (qk := X.length + (2 + i)) (r := (RX4, TX4, 15)) G hw (X.length + 1) (n_at (X := X) (j := 1) rfl) rfl (n_at (n_mid (A := (a, .inr (4, [.ref q1, .null, .int 0, .int 0])) :: qRow E q1 (rowF ad i) :: opsL ad i) (B := []) (len2 _ _))) rfl vin dX5_init_35 (fun H locs hw => ?_)
    rw [n_set, ci, rowF_s (q := q)] at hw
    change NW D E _ s (X ++ ((a, .inr (4, [.ref q1, .null, .int 0, .int 0])) :: qRow E q1 (rowF (upN ad i q) (i + 1)) :: (opsL ad i ++ [(q, .inr (3, .int 0 :: z14))]))) _ _ at hw
    refine lv_aload_n G.1 G.2.1 dX5_init_36 rfl (lv_at hl 1 rfl) ?_
    refine n_get 0 G hw C_4 (X.length + 0) (n_at (X := X) (j := 0) rfl) (by decide) fl_X5_11 rfl dX5_init_37 ?_
    refine lv_iload_n G.1 G.2.1 dX5_init_40 rfl (lv_at hl 0 rfl) ?_
    refine va_aldq G.1 G.2.1 hw.1 hw.2.1 (X.length + 1) 2 (n_at (X := X) (j := 1) rfl) rfl vin dX5_init_41 ?_
    rw [ci, show va_rf (rowF (upN ad i q) (i + 1) i) = .ref q from by unfold rowF; rw [if_pos (by omega), upN_s]; rfl]
    refine lv_iload_n G.1 G.2.1 dX5_init_42 rfl (lv_at hl 0 rfl) ?_
    refine n_put 0 G hw C_3 (X.length + (2 + i)) (n_at (n_mid (A := (a, .inr (4, [.ref q1, .null, .int 0, .int 0])) :: qRow E q1 (rowF (upN ad i q) (i + 1)) :: opsL ad i) (B := []) (len2 _ _))) (by decide) fl_X5_18 rfl rfl rfl (Nat.le_of_ble_eq_true rfl) dX5_init_43 (fun H locs hw => ?_)
    rw [n_set, show ((a, .inr (4, [.ref q1, .null, .int 0, .int 0])) :: qRow E q1 (rowF (upN ad i q) (i + 1)) :: (opsL ad i ++ [(q, .inr (3, .int 0 :: z14))]) : va_W) = ((a, .inr (4, [.ref q1, .null, .int 0, .int 0])) :: qRow E q1 (rowF (upN ad i q) (i + 1)) :: opsL ad i) ++ [(q, .inr (3, .int 0 :: z14))] from rfl, n_midS (len2 _ _)] at hw
    have hw : NW D E A s (X ++ ((a, .inr (4, [.ref q1, .null, .int 0, .int 0])) :: qRow E q1 (rowF (upN ad i q) (i + 1)) :: opsL (upN ad i q) (i + 1))) H locs := by
      rw [opsL_s]
      exact hw
    refine lv_iinc (v := nI i + 1) (lv' := [(1, .int (nI i + 1)), (0, .ref a)]) G.1 G.2.1 dX5_init_46 hl (k := 0) rfl rfl (by decide) rfl (fun ls hl => ?_)
    refine lv_goto (tgt := 16) G.1 G.2.1 dX5_init_49 (by decide) ?_
    rw [show nI i + 1 = nI (i + 1) from nI_1 _] at hl
    rw [show 1 + i + 1 + 0 = 1 + (i + 1) by omega, show 200 + 15 * i + 15 + 0 = 200 + 15 * (i + 1) by omega]
    exact ih (i + 1) (upN ad i q) H locs ls (by omega) hw hl
set_option maxHeartbeats 4000000 in
set_option maxRecDepth 100000 in
theorem p_loop2 {ad : Nat → Nat} (G : CallFix p m c cX5_init 2 s args gtbl RX5) (hRc : 377 ≤ R.cells) (hRs : 4600 ≤ R.slots) (hfr : 2 ≤ R.frames) (hlo : 32 ≤ R.locals)
    (kk : ∀ (bd : Nat → Nat) (H : Heap) (locs : List Loc) (ls : Array Slot), NW D E A s (X ++ (((a, .inr (4, [.ref q1, .ref q2, .int 0, .int 0])) :: qRow E q1 (rowF ad 200) :: opsL ad 200) ++ (bRow E q2 (rowF bd 175) :: blksL bd 175))) H locs → W p l en R s m args below meth c H locs 377 4600 Q (F0 m 90 ls [])) :
    ∀ (d i : Nat) (bd : Nat → Nat) (H : Heap) (locs : List Loc) (ls : Array Slot), i + d = 175 → NW D E A s (X ++ (((a, .inr (4, [.ref q1, .ref q2, .int 0, .int 0])) :: qRow E q1 (rowF ad 200) :: opsL ad 200) ++ (bRow E q2 (rowF bd i) :: blksL bd i))) H locs → lv_has ls 2 [(1, .int (nI i)), (0, .ref a)] → W p l en R s m args below meth c H locs (202 + i) (3375 + 7 * i) Q (F0 m 64 ls []) := by
  have len2 : ∀ u v : Nat × va_E, (u :: v :: opsL ad 200).length = 202 := fun u v => by rw [List.length_cons, List.length_cons, opsL_len]
  intro d
  induction d with
  | zero =>
    intro i bd H locs ls hi hw hl
    have : i = 175 := by omega
    subst this
    refine lv_iload_n G.1 G.2.1 dX5_init_64 rfl (lv_at hl 0 rfl) ?_
    refine lv_sipush (v := (175 : Int32)) G.1 G.2.1 dX5_init_65 (by decide) ?_
    refine lv_icmp_ge (tgt := 90) G.1 G.2.1 dX5_init_68 (by decide) (fun _ => kk bd H locs ls hw) (fun h => absurd (show (175 : Int32) ≤ nI 175 from by decide) h)
  | succ d ih =>
    intro i bd H locs ls hi hw hl
    have ci : (nI i).toNatClampNeg = i := nI_clamp (by omega)
    have vin : vp_in (nI i) 175 := by
      unfold vp_in
      rw [ci]
      intro h
      rcases h with h | h
      · exact nI_pos (by omega) h
      · omega
    refine lv_iload_n G.1 G.2.1 dX5_init_64 rfl (lv_at hl 0 rfl) ?_
    refine lv_sipush (v := (175 : Int32)) G.1 G.2.1 dX5_init_65 (by decide) ?_
    refine lv_icmp_ge (tgt := 90) G.1 G.2.1 dX5_init_68 (by decide) (fun h => ?_) (fun _ => ?_)
    · have : (nI 175 ≤ nI i) = (175 ≤ i) := q_le (by decide) (by omega)
      have h' : nI 175 ≤ nI i := h
      rw [this] at h'
      omega
    refine lv_aload_n G.1 G.2.1 dX5_init_71 rfl (lv_at hl 1 rfl) ?_
    refine n_get 1 G hw C_4 (X.length + 0) (n_at (X := X) (j := 0) rfl) (by decide) fl_X5_24 rfl dX5_init_72 ?_
    refine lv_iload_n G.1 G.2.1 dX5_init_75 rfl (lv_at hl 0 rfl) ?_
    refine n_new (fs := blkF) G hw C_0 cl_X5_22 it_X0 in_X0 (by decide) (by omega) (by omega) dX5_init_76 (fun q H hw => ?_)
    refine lv_dup G.1 G.2.1 dX5_init_79 rfl ?_
    refine n_callN (As := []) (rest := [.ref q, .int (nI i), .ref q2]) G hw mn_X0 hw.2.2.2.2.2.2.2.2 (n_X0_init l D E (X ++ (((a, .inr (4, [.ref q1, .ref q2, .int 0, .int 0])) :: qRow E q1 (rowF ad 200) :: opsL ad 200) ++ (bRow E q2 (rowF bd i) :: blksL bd i))) q) hl.1 rfl rfl (Nat.le_of_ble_eq_true rfl) hfr hlo ⟨by omega, by omega⟩ dX5_init_80 (fun W2 H locs hW2 hw => ?_)
    obtain rfl := hW2
    rw [List.append_assoc, List.append_assoc] at hw
    change NW D E _ s (X ++ (((a, .inr (4, [.ref q1, .ref q2, .int 0, .int 0])) :: qRow E q1 (rowF ad 200) :: opsL ad 200) ++ (bRow E q2 (rowF bd i) :: (blksL bd i ++ [(q, .inr (0, blkF))])))) _ _ at hw
    have last : ((((a, .inr (4, [.ref q1, .ref q2, .int 0, .int 0])) :: qRow E q1 (rowF ad 200) :: opsL ad 200) ++ (bRow E q2 (rowF bd i) :: (blksL bd i ++ [(q, .inr (0, blkF))])) : va_W))[203 + i]? = some (q, .inr (0, blkF)) := by
      rw [List.getElem?_append_right (by rw [len2]; omega), len2, show 203 + i - 202 = i + 1 by omega]
      exact n_mid (A := bRow E q2 (rowF bd i) :: blksL bd i) (B := []) (by rw [List.length_cons, blksL_len])
    refine n_qast (t0 := 3) (qk := X.length + (203 + i)) (r := (RX0, TX0, 7)) G hw (X.length + 202) (n_at (n_mid (len2 _ _))) rfl (n_at last) rfl vin dX5_init_83 (fun H locs hw => ?_)
    rw [n_set, ci, rowF_s (q := q)] at hw
    have hw : NW D E A s (X ++ (((a, .inr (4, [.ref q1, .ref q2, .int 0, .int 0])) :: qRow E q1 (rowF ad 200) :: opsL ad 200) ++ (bRow E q2 (rowF (upN bd i q) (i + 1)) :: blksL (upN bd i q) (i + 1)))) H locs := by
      rw [blksL_s]
      rw [n_midS (len2 _ _)] at hw
      exact hw
    refine lv_iinc (v := nI i + 1) (lv' := [(1, .int (nI i + 1)), (0, .ref a)]) G.1 G.2.1 dX5_init_84 hl (k := 0) rfl rfl (by decide) rfl (fun ls hl => ?_)
    refine lv_goto (tgt := 64) G.1 G.2.1 dX5_init_87 (by decide) ?_
    rw [show nI i + 1 = nI (i + 1) from nI_1 _] at hl
    rw [show 202 + i + 1 + 0 = 202 + (i + 1) by omega, show 3375 + 7 * i + 7 + 0 = 3375 + 7 * (i + 1) by omega]
    exact ih (i + 1) (upN bd i q) H locs ls (by omega) hw hl
end PLOOP
/-- what Program() makes, but the program itself -/
def progL (E : gE) (a q1 q2 : Nat) (ad bd : Nat → Nat) : va_W := ((a, .inr (4, [.ref q1, .ref q2, .int 0, .int 0])) :: qRow E q1 (rowF ad 200) :: opsL ad 200) ++ (bRow E q2 (rowF bd 175) :: blksL bd 175)
set_option maxHeartbeats 4000000 in
set_option maxRecDepth 100000 in
theorem n_X5_init (l : Launch) (D : va_G) (E : gE) (X : va_W) (a : Nat) : nMet l yX5_init cX5_init 2 2 32 377 4600 D E [.ref a] (X ++ [(a, .inr (4, [.null, .null, .int 0, .int 0]))]) (fun W2 => ∃ (q1 q2 : Nat) (ad bd : Nat → Nat), W2 = X ++ progL E a q1 q2 ad bd) := by
  refine nt_code (by decide) rfl (Nat.le_of_ble_eq_true rfl) (fun p en s m below meth c ls G hr hk hin hw hl => ?_)
  have hl : lv_has ls 2 [(0, .ref a)] := hl
  refine lv_aload_n G.1 G.2.1 dX5_init_0 rfl (lv_at hl 0 rfl) ?_
  refine W.objInit G.1 G.2.1 G.2.2.2.1 (G.2.2.2.2 _ oi_X5) (G.2.2.2.2 _ oi_i) (G.2.2.2.2 _ oi_c) rfl (by rw [G.2.2.1]; exact hl.1) rfl dX5_init_1 (Nat.le_of_ble_eq_true rfl) (Nat.le_of_ble_eq_true rfl) ?_
  refine W.eq (g2 := F0 m 4 ls []) rfl ?_
  refine lv_aload_n G.1 G.2.1 dX5_init_4 rfl (lv_at hl 0 rfl) ?_
  refine lv_sipush (v := (200 : Int32)) G.1 G.2.1 dX5_init_5 (by decide) ?_
  refine n_newq (N' := 200) (C := "CycleSynthesis$Operation") 2 rfl (by decide) G hw cl_X5_9 hw.2.2.2.2.2.1 (by decide) rfl (by decide) (by decide) (by decide) dX5_init_8 (fun q1 H hw => ?_)
  rw [List.append_assoc] at hw
  change NW D E _ s (X ++ [(a, .inr (4, [.null, .null, .int 0, .int 0])), qRow E q1 (fun _ => none)]) _ _ at hw
  refine n_putF 0 G hin hw C_4 (X.length + 0) (n_at (X := X) (j := 0) rfl) (by decide) fl_X5_11 rfl rfl rfl rfl (Nat.le_of_ble_eq_true rfl) dX5_init_11 (fun H locs hw => ?_)
  rw [n_set] at hw
  refine lv_iconst (v := (0 : Int32)) G.1 G.2.1 dX5_init_14 (by decide) ?_
  refine lv_istore_n (lv' := [(1, .int (0 : Int32)), (0, .ref a)]) G.1 G.2.1 dX5_init_15 rfl hl (by decide) rfl (fun ls hl => ?_)
  refine p_loop1 (X := X) (D := D) (E := E) (A := va_A (X ++ [(a, .inr (4, [.null, .null, .int 0, .int 0]))]) s.heap.size) (a := a) (q1 := q1) G (Nat.le_refl _) (Nat.le_refl _) (Nat.le_refl _) (Nat.le_refl _) (fun ad H locs ls hw hl => ?_) 200 0 (fun _ => 0) _ _ ls rfl hw hl
  refine lv_aload_n G.1 G.2.1 dX5_init_52 rfl (lv_at hl 1 rfl) ?_
  refine lv_sipush (v := (175 : Int32)) G.1 G.2.1 dX5_init_53 (by decide) ?_
  refine n_newq (N' := 175) (C := "CycleSynthesis$Block") 3 rfl (by decide) G hw cl_X5_22 hw.2.2.2.2.2.2.1 (by decide) rfl (by decide) (by decide) (by decide) dX5_init_56 (fun q2 H hw => ?_)
  rw [List.append_assoc] at hw
  change NW D E _ s (X ++ ((a, .inr (4, [.ref q1, .null, .int 0, .int 0])) :: qRow E q1 (rowF ad 200) :: (opsL ad 200 ++ [bRow E q2 (fun _ => none)]))) _ _ at hw
  refine n_putF 1 G hin hw C_4 (X.length + 0) (n_at (X := X) (j := 0) rfl) (by decide) fl_X5_24 rfl rfl rfl rfl (Nat.le_of_ble_eq_true rfl) dX5_init_59 (fun H locs hw => ?_)
  rw [n_set] at hw
  refine lv_iconst (v := (0 : Int32)) G.1 G.2.1 dX5_init_62 (by decide) ?_
  refine lv_istore_n (lv' := [(1, .int (0 : Int32)), (0, .ref a)]) G.1 G.2.1 dX5_init_63 rfl hl (by decide) rfl (fun ls hl => ?_)
  refine p_loop2 (X := X) (D := D) (E := E) (A := va_A (X ++ [(a, .inr (4, [.null, .null, .int 0, .int 0]))]) s.heap.size) (a := a) (q1 := q1) (q2 := q2) (ad := ad) G (Nat.le_refl _) (Nat.le_refl _) (Nat.le_refl _) (Nat.le_refl _) (fun bd H locs ls hw => ?_) 175 0 (fun _ => 0) _ _ ls rfl hw hl
  exact n_vret G hr hk hw ⟨q1, q2, ad, bd, rfl⟩ (Nat.le_refl _) (Nat.le_refl _) dX5_init_90
