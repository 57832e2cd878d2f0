/-! the class's constructor (its walk printed by program) -/
theorem cl_X10_16 : Cond.classLink RX10 16 RX8 ∈ gtbl := gt_in 136 (by decide +kernel) (by decide +kernel)
theorem cl_X10_25 : Cond.classLink RX10 25 RX1 ∈ gtbl := gt_in 205 (by decide +kernel) (by decide +kernel)
theorem cl_X10_32 : Cond.classLink RX10 32 RX2 ∈ gtbl := gt_in 232 (by decide +kernel) (by decide +kernel)
theorem cl_X10_39 : Cond.classLink RX10 39 RX5 ∈ gtbl := gt_in 261 (by decide +kernel) (by decide +kernel)
theorem cl_X10_9 : Cond.classLink RX10 9 RX7 ∈ gtbl := gt_in 119 (by decide +kernel) (by decide +kernel)
theorem in_X1 : Cond.initialized RX1 ∈ gtbl := gt_in 94 (by decide +kernel) (by decide +kernel)
theorem in_X2 : Cond.initialized RX2 ∈ gtbl := gt_in 95 (by decide +kernel) (by decide +kernel)
theorem in_X5 : Cond.initialized RX5 ∈ gtbl := gt_in 96 (by decide +kernel) (by decide +kernel)
theorem in_X7 : Cond.initialized RX7 ∈ gtbl := gt_in 90 (by decide +kernel) (by decide +kernel)
theorem in_X8 : Cond.initialized RX8 ∈ gtbl := gt_in 91 (by decide +kernel) (by decide +kernel)
theorem it_X1 : Cond.instantiable RX1 6 ∈ gtbl := gt_in 206 (by decide +kernel) (by decide +kernel)
theorem it_X2 : Cond.instantiable RX2 6 ∈ gtbl := gt_in 233 (by decide +kernel) (by decide +kernel)
theorem it_X5 : Cond.instantiable RX5 4 ∈ gtbl := gt_in 262 (by decide +kernel) (by decide +kernel)
theorem it_X7 : Cond.instantiable RX7 2 ∈ gtbl := gt_in 120 (by decide +kernel) (by decide +kernel)
theorem it_X8 : Cond.instantiable RX8 7 ∈ gtbl := gt_in 137 (by decide +kernel) (by decide +kernel)
theorem mi_X10_11 : gN RX10 11 yX7_init cX7_init 1 0 := ⟨gt_in 121 (by decide +kernel) (by decide +kernel), gt_in 122 (by decide +kernel) (by decide +kernel), gt_in 90 (by decide +kernel) (by decide +kernel), gt_in 123 (by decide +kernel) (by decide +kernel), rfl, by decide +kernel, by decide +kernel, by decide +kernel⟩
theorem mi_X10_18 : gN RX10 18 yX8_init cX8_init 2 1 := ⟨gt_in 138 (by decide +kernel) (by decide +kernel), gt_in 139 (by decide +kernel) (by decide +kernel), gt_in 91 (by decide +kernel) (by decide +kernel), gt_in 140 (by decide +kernel) (by decide +kernel), rfl, by decide +kernel, by decide +kernel, by decide +kernel⟩
theorem mi_X10_27 : gN RX10 27 yX1_init cX1_init 1 0 := ⟨gt_in 207 (by decide +kernel) (by decide +kernel), gt_in 208 (by decide +kernel) (by decide +kernel), gt_in 94 (by decide +kernel) (by decide +kernel), gt_in 209 (by decide +kernel) (by decide +kernel), rfl, by decide +kernel, by decide +kernel, by decide +kernel⟩
theorem mi_X10_34 : gN RX10 34 yX2_init cX2_init 1 0 := ⟨gt_in 234 (by decide +kernel) (by decide +kernel), gt_in 235 (by decide +kernel) (by decide +kernel), gt_in 95 (by decide +kernel) (by decide +kernel), gt_in 236 (by decide +kernel) (by decide +kernel), rfl, by decide +kernel, by decide +kernel, by decide +kernel⟩
theorem mi_X10_41 : gN RX10 41 yX5_init cX5_init 2 0 := ⟨gt_in 263 (by decide +kernel) (by decide +kernel), gt_in 264 (by decide +kernel) (by decide +kernel), gt_in 96 (by decide +kernel) (by decide +kernel), gt_in 265 (by decide +kernel) (by decide +kernel), rfl, by decide +kernel, by decide +kernel, by decide +kernel⟩
theorem oi_X10 : Cond.methodLink RX10 3 objectInit ∈ gtbl := gt_in 116 (by decide +kernel) (by decide +kernel)
/-- the class's memory before its machine begins a program -/
def cI0 : Mem := (fun k i j => if k = 3 then (if j = 0 then nI (i % 200) else 0) else if k = 23 then (if j < 3 then 1 else 0) else if k = 24 then (if j < 4 then 1 else 0) else if k = 7 then (if j = 6 then -1 else 0) else 0, fun k _ j => if k = 9 then (if j = 4 then some 0 else if j = 5 then some 1 else none) else none, fun _ _ => 0)
def cE1 (E : gE) (a q1 q2 q3 q4 q5 q6 q7 q8 q9 q10 q11 q12 q13 q14 q15 q16 q17 q18 p18 r18 q23 p23 r23 : Nat) (ad18 bd18 ad23 bd23 : Nat → Nat) : Nat → Nat → Nat := fun k i => if k = 9 then a else if k = 6 then q1 else if k = 20 then q2 else if k = 7 then q3 else if k = 5 then q4 else if k = 8 then q5 else if k = 21 then q6 else if k = 22 then q7 else if k = 1 then q8 else if k = 23 then q9 else if k = 24 then q10 else if k = 25 then q11 else if k = 26 then q12 else if k = 27 then q13 else if k = 2 then q14 else if k = 28 then q15 else if k = 29 then q16 else if k = 30 then q17 else if k = 4 then (if i = 0 then q18 else q23) else if k = 31 then (if i = 0 then p18 else p23) else if k = 32 then (if i = 0 then r18 else r23) else if k = 3 then (if i < 200 then ad18 i else ad23 (i - 200)) else if k = 0 then (if i < 175 then bd18 i else bd23 (i - 175)) else E.1 k i
def fixD : List (Nat × Nat) := [(9, 0), (6, 0), (20, 0), (7, 0), (5, 0), (8, 0), (21, 0), (22, 0), (1, 0), (23, 0), (24, 0), (25, 0), (26, 0), (27, 0), (2, 0), (28, 0), (29, 0), (30, 0)]
set_option maxHeartbeats 4000000 in
set_option maxRecDepth 100000 in
theorem cI0_fix (E : gE) (a q1 q2 q3 q4 q5 q6 q7 q8 q9 q10 q11 q12 q13 q14 q15 q16 q17 q18 p18 r18 q23 p23 r23 : Nat) (ad18 bd18 ad23 bd23 : Nat → Nat) : gws fixD ((cE1 E a q1 q2 q3 q4 q5 q6 q7 q8 q9 q10 q11 q12 q13 q14 q15 q16 q17 q18 p18 r18 q23 p23 r23 ad18 bd18 ad23 bd23), E.2) cI0 = [(a, .inr (9, [.ref q1, .ref q3, .ref q8, .ref q14, .ref q18, .ref q23])), (q1, .inr (6, [.ref q2, .int 0])), (q2, .inl (E.2.1, 700, .inl (fun _ => 0))), (q3, .inr (7, [.ref q4, .ref q5, .null, .int 0, .int 0, .int 0, .int (-1)])), (q4, .inr (5, [.ref q1, .int 0])), (q5, .inr (8, [.ref q6, .ref q7, .int 0, .null, .null, .int 0])), (q6, .inl (E.2.1, 350, .inl (fun _ => 0))), (q7, .inl (E.2.1, 350, .inl (fun _ => 0))), (q8, .inr (1, [.ref q9, .ref q10, .ref q11, .ref q12, .ref q13, .int 0])), (q9, .inl (E.2.1, 3, .inl (fun j => if j < 3 then 1 else 0))), (q10, .inl (E.2.1, 4, .inl (fun j => if j < 4 then 1 else 0))), (q11, .inl (E.2.1, 12, .inl (fun _ => 0))), (q12, .inl (E.2.1, 200, .inl (fun _ => 0))), (q13, .inl (E.2.2.2.1, 200, .inr (.inr (.inr (.inr (fun _ => none)))))), (q14, .inr (2, [.ref q15, .ref q16, .ref q17, .null, .int 0, .long 0])), (q15, .inl (E.2.1, 8, .inl (fun _ => 0))), (q16, .inl (E.2.1, 16, .inl (fun _ => 0))), (q17, .inl (E.2.1, 200, .inl (fun _ => 0)))] := rfl
def rowG (ad : Nat → Nat) : Nat → Option Nat := fun j => some (ad j)
set_option maxHeartbeats 4000000 in
theorem cI0_pr (E : gE) (a q1 q2 q3 q4 q5 q6 q7 q8 q9 q10 q11 q12 q13 q14 q15 q16 q17 q18 p18 r18 q23 p23 r23 : Nat) (ad18 bd18 ad23 bd23 : Nat → Nat) : gws [(4, 0), (4, 1), (31, 0), (31, 1), (32, 0), (32, 1)] ((cE1 E a q1 q2 q3 q4 q5 q6 q7 q8 q9 q10 q11 q12 q13 q14 q15 q16 q17 q18 p18 r18 q23 p23 r23 ad18 bd18 ad23 bd23), E.2) cI0 = [(q18, .inr (4, [.ref p18, .ref r18, .int 0, .int 0])), (q23, .inr (4, [.ref p23, .ref r23, .int 0, .int 0])), qRow E p18 (fun j => some ((cE1 E a q1 q2 q3 q4 q5 q6 q7 q8 q9 q10 q11 q12 q13 q14 q15 q16 q17 q18 p18 r18 q23 p23 r23 ad18 bd18 ad23 bd23) 3 (200 * 0 + j))), qRow E p23 (fun j => some ((cE1 E a q1 q2 q3 q4 q5 q6 q7 q8 q9 q10 q11 q12 q13 q14 q15 q16 q17 q18 p18 r18 q23 p23 r23 ad18 bd18 ad23 bd23) 3 (200 * 1 + j))), bRow E r18 (fun j => some ((cE1 E a q1 q2 q3 q4 q5 q6 q7 q8 q9 q10 q11 q12 q13 q14 q15 q16 q17 q18 p18 r18 q23 p23 r23 ad18 bd18 ad23 bd23) 0 (175 * 0 + j))), bRow E r23 (fun j => some ((cE1 E a q1 q2 q3 q4 q5 q6 q7 q8 q9 q10 q11 q12 q13 q14 q15 q16 q17 q18 p18 r18 q23 p23 r23 ad18 bd18 ad23 bd23) 0 (175 * 1 + j)))] := rfl
theorem cE1_3 (E : gE) (a q1 q2 q3 q4 q5 q6 q7 q8 q9 q10 q11 q12 q13 q14 q15 q16 q17 q18 p18 r18 q23 p23 r23 : Nat) (ad18 bd18 ad23 bd23 : Nat → Nat) (j : Nat) : (cE1 E a q1 q2 q3 q4 q5 q6 q7 q8 q9 q10 q11 q12 q13 q14 q15 q16 q17 q18 p18 r18 q23 p23 r23 ad18 bd18 ad23 bd23) 3 j = if j < 200 then ad18 j else ad23 (j - 200) := rfl
theorem cE1_0 (E : gE) (a q1 q2 q3 q4 q5 q6 q7 q8 q9 q10 q11 q12 q13 q14 q15 q16 q17 q18 p18 r18 q23 p23 r23 : Nat) (ad18 bd18 ad23 bd23 : Nat → Nat) (j : Nat) : (cE1 E a q1 q2 q3 q4 q5 q6 q7 q8 q9 q10 q11 q12 q13 q14 q15 q16 q17 q18 p18 r18 q23 p23 r23 ad18 bd18 ad23 bd23) 0 j = if j < 175 then bd18 j else bd23 (j - 175) := rfl
theorem cI0_ops (E : gE) (a q1 q2 q3 q4 q5 q6 q7 q8 q9 q10 q11 q12 q13 q14 q15 q16 q17 q18 p18 r18 q23 p23 r23 : Nat) (ad18 bd18 ad23 bd23 : Nat → Nat) : gws ((List.range 400).map (fun o => (3, o))) ((cE1 E a q1 q2 q3 q4 q5 q6 q7 q8 q9 q10 q11 q12 q13 q14 q15 q16 q17 q18 p18 r18 q23 p23 r23 ad18 bd18 ad23 bd23), E.2) cI0 = opsL ad18 200 ++ opsL ad23 200 := by
  unfold gws opsL
  rw [List.map_map, show (400 : Nat) = 200 + 200 from rfl, List.range_add, List.map_append, List.map_map]
  congr 1
theorem cI0_blks (E : gE) (a q1 q2 q3 q4 q5 q6 q7 q8 q9 q10 q11 q12 q13 q14 q15 q16 q17 q18 p18 r18 q23 p23 r23 : Nat) (ad18 bd18 ad23 bd23 : Nat → Nat) : gws ((List.range 350).map (fun b => (0, b))) ((cE1 E a q1 q2 q3 q4 q5 q6 q7 q8 q9 q10 q11 q12 q13 q14 q15 q16 q17 q18 p18 r18 q23 p23 r23 ad18 bd18 ad23 bd23), E.2) cI0 = blksL bd18 175 ++ blksL bd23 175 := by
  unfold gws blksL
  rw [List.map_map, show (350 : Nat) = 175 + 175 from rfl, List.range_add, List.map_append, List.map_map]
  congr 1
theorem gws_app (is1 is2 : List (Nat × Nat)) (e : gE) (m : Mem) : gws (is1 ++ is2) e m = gws is1 e m ++ gws is2 e m := by
  unfold gws
  rw [List.map_append]
theorem idsC_eq : idsC = fixD ++ ([(4, 0), (4, 1), (31, 0), (31, 1), (32, 0), (32, 1)] ++ ((List.range 400).map (fun o => (3, o)) ++ (List.range 350).map (fun b => (0, b)))) := rfl
/-- lists of the same things in another order -/
theorem va_nodup {A : Nat → Prop} {ws : va_W} : va_D A ws ↔ (ws.map Prod.fst).Nodup ∧ ∀ q ∈ ws, A q.1 := by
  constructor
  · intro h
    refine ⟨?_, fun q hq => ?_⟩
    · unfold List.Nodup
      rw [List.pairwise_iff_getElem]
      intro i j hi hj hij e
      rw [List.length_map] at hi hj
      rw [List.getElem_map, List.getElem_map] at e
      have := h.1 i j _ _ (List.getElem?_eq_getElem hi) (List.getElem?_eq_getElem hj) e
      omega
    · obtain ⟨k, hk⟩ := List.getElem?_of_mem hq
      exact h.2 k q hk
  · intro h
    obtain ⟨h1, h2⟩ := h
    unfold List.Nodup at h1
    rw [List.pairwise_iff_getElem] at h1
    refine ⟨fun i j p q hp hq e => ?_, fun k q hk => h2 q (List.mem_of_getElem? hk)⟩
    obtain ⟨hi, ei⟩ := List.getElem?_eq_some_iff.mp hp
    obtain ⟨hj, ej⟩ := List.getElem?_eq_some_iff.mp hq
    have hi' : i < (ws.map Prod.fst).length := by rw [List.length_map]; exact hi
    have hj' : j < (ws.map Prod.fst).length := by rw [List.length_map]; exact hj
    have e2 : (ws.map Prod.fst)[i] = (ws.map Prod.fst)[j] := by
      rw [List.getElem_map, List.getElem_map, ei, ej]
      exact e
    by_cases h3 : i < j
    · exact absurd e2 (h1 i j hi' hj' h3)
    · by_cases h4 : j < i
      · exact absurd e2.symm (h1 j i hj' hi' h4)
      · omega
theorem va_P.perm {D : va_G} {cl : List vw_C} {ws ws' : va_W} {H : Heap} (hp : ws.Perm ws') (h : va_P D cl ws H) : va_P D cl ws' H := by
  intro k q hk
  obtain ⟨j, hj⟩ := List.getElem?_of_mem (hp.mem_iff.mpr (List.mem_of_getElem? hk))
  exact h j q hj
theorem va_D.perm {A : Nat → Prop} {ws ws' : va_W} (hp : ws.Perm ws') (h : va_D A ws) : va_D A ws' := by
  rw [va_nodup] at h ⊢
  exact ⟨(hp.map Prod.fst).nodup_iff.mp h.1, fun q hq => h.2 q (hp.mem_iff.mpr hq)⟩
theorem NW.perm {D : va_G} {E : gE} {A : Nat → Prop} {s : State} {ws ws' : va_W} {H : Heap} {locs : List Loc} (hp : ws.Perm ws') (h : NW D E A s ws H locs) : NW D E A s ws' H locs := ⟨h.1, h.2.1.perm hp, h.2.2.1.perm hp, h.2.2.2⟩
theorem arrV_cg {c : ClassId} {n : Nat} {f g : Nat → Value} (h : ∀ j, j < n → f j = g j) : arrV c n f = arrV c n g := by
  unfold arrV
  congr 2
  funext j
  exact h j.1 j.2
theorem va_at_row {D : va_G} {cl : List vw_C} {H : Heap} {c : ClassId} {a n : Nat} {f g : Nat → Option Nat} (h : ∀ j, j < n → f j = g j) (w : va_at D cl (a, .inl (c, n, .inr (.inr (.inr (.inr f))))) H) : va_at D cl (a, .inl (c, n, .inr (.inr (.inr (.inr g))))) H := by
  have e : vp_cell c (n, .inr (.inr (.inr (.inr f)))) = vp_cell c (n, .inr (.inr (.inr (.inr g)))) := by
    rw [vp_cell_q, vp_cell_q]
    exact arrV_cg (fun j hj => by rw [h j hj])
  have w' : H[a]? = some (vp_cell c (n, .inr (.inr (.inr (.inr f))))) := w
  show H[a]? = some (vp_cell c (n, .inr (.inr (.inr (.inr g)))))
  rw [← e]
  exact w'
/-- the place of a list's head of another cell with the same address and the same heap -/
theorem NW.head {D : va_G} {E : gE} {A : Nat → Prop} {s : State} {X L : va_W} {a : Nat} {c c' : va_E} {H : Heap} {locs : List Loc} (h : NW D E A s (X ++ (a, c) :: L) H locs) (w : va_at D vwCl (a, c) H → va_at D vwCl (a, c') H) : NW D E A s (X ++ (a, c') :: L) H locs := by
  refine ⟨h.1, fun k q hk => ?_, ?_, h.2.2.2⟩
  · rcases List.mem_append.mp (List.mem_of_getElem? hk) with g | g
    · obtain ⟨j, hj⟩ := List.getElem?_of_mem (List.mem_append_left ((a, c) :: L) g)
      exact h.2.1 j q hj
    · rcases List.mem_cons.mp g with rfl | g
      · obtain ⟨j, hj⟩ := List.getElem?_of_mem (List.mem_append_right X (List.mem_cons_self (a := (a, c)) (l := L)))
        exact w (h.2.1 j _ hj)
      · obtain ⟨j, hj⟩ := List.getElem?_of_mem (List.mem_append_right X (List.mem_cons_of_mem (a, c) g))
        exact h.2.1 j q hj
  · have h3 := va_nodup.mp h.2.2.1
    refine va_nodup.mpr ⟨?_, fun q hq => ?_⟩
    · have e : (X ++ (a, c') :: L).map Prod.fst = (X ++ (a, c) :: L).map Prod.fst := by
        rw [List.map_append, List.map_append, List.map_cons, List.map_cons]
      rw [e]
      exact h3.1
    · rcases List.mem_append.mp hq with g | g
      · exact h3.2 q (List.mem_append_left _ g)
      · rcases List.mem_cons.mp g with rfl | g
        · exact h3.2 (a, c) (List.mem_append_right X (List.mem_cons_self))
        · exact h3.2 q (List.mem_append_right X (List.mem_cons_of_mem _ g))
theorem perm1 {α : Type} (X F : List α) (P0 P1 x0 x1 y0 y1 : α) (O0 O1 B0 B1 : List α) : (X ++ (F ++ (((P0 :: x0 :: O0) ++ (y0 :: B0)) ++ ((P1 :: x1 :: O1) ++ (y1 :: B1))))).Perm (X ++ x0 :: (x1 :: (y0 :: (y1 :: (F ++ (P0 :: P1 :: ((O0 ++ O1) ++ (B0 ++ B1)))))))) := by
  classical
  rw [List.perm_iff_count]
  intro z
  simp only [List.count_append, List.count_cons]
  omega
theorem perm2 {α : Type} (X F : List α) (P0 P1 x0 x1 y0 y1 : α) (O0 O1 B0 B1 : List α) : (X ++ y1 :: (F ++ (P0 :: P1 :: x0 :: x1 :: y0 :: ((O0 ++ O1) ++ (B0 ++ B1))))).Perm (X ++ (F ++ ([P0, P1, x0, x1, y0, y1] ++ ((O0 ++ O1) ++ (B0 ++ B1))))) := by
  classical
  rw [List.perm_iff_count]
  intro z
  simp only [List.count_append, List.count_cons, List.count_nil]
  omega
theorem perm3 {α : Type} (X F : List α) (P0 P1 x0 x1 y0 y1 : α) (O0 O1 B0 B1 : List α) : (X ++ x0 :: (x1 :: (y0 :: (y1 :: (F ++ (P0 :: P1 :: ((O0 ++ O1) ++ (B0 ++ B1)))))))).Perm (X ++ x1 :: (x0 :: (y0 :: (y1 :: (F ++ (P0 :: P1 :: ((O0 ++ O1) ++ (B0 ++ B1)))))))) ∧ (X ++ x1 :: (x0 :: (y0 :: (y1 :: (F ++ (P0 :: P1 :: ((O0 ++ O1) ++ (B0 ++ B1)))))))).Perm (X ++ y0 :: (x0 :: (x1 :: (y1 :: (F ++ (P0 :: P1 :: ((O0 ++ O1) ++ (B0 ++ B1)))))))) ∧ (X ++ y0 :: (x0 :: (x1 :: (y1 :: (F ++ (P0 :: P1 :: ((O0 ++ O1) ++ (B0 ++ B1)))))))).Perm (X ++ y1 :: (F ++ (P0 :: P1 :: x0 :: x1 :: y0 :: ((O0 ++ O1) ++ (B0 ++ B1))))) := by
  refine ⟨?_, ?_, ?_⟩ <;>
  · classical
    rw [List.perm_iff_count]
    intro z
    simp only [List.count_append, List.count_cons]
    omega
set_option maxHeartbeats 4000000 in
theorem cI0_made {D : va_G} {E : gE} {A : Nat → Prop} {s : State} {H : Heap} {locs : List Loc} {X : va_W} {a q1 q2 q3 q4 q5 q6 q7 q8 q9 q10 q11 q12 q13 q14 q15 q16 q17 q18 p18 r18 q23 p23 r23 : Nat} {ad18 bd18 ad23 bd23 : Nat → Nat} (h : NW D E A s (X ++ ([(a, .inr (9, [.ref q1, .ref q3, .ref q8, .ref q14, .ref q18, .ref q23])), (q1, .inr (6, [.ref q2, .int 0])), (q2, .inl (E.2.1, 700, .inl (fun _ => 0))), (q3, .inr (7, [.ref q4, .ref q5, .null, .int 0, .int 0, .int 0, .int (-1)])), (q4, .inr (5, [.ref q1, .int 0])), (q5, .inr (8, [.ref q6, .ref q7, .int 0, .null, .null, .int 0])), (q6, .inl (E.2.1, 350, .inl (fun _ => 0))), (q7, .inl (E.2.1, 350, .inl (fun _ => 0))), (q8, .inr (1, [.ref q9, .ref q10, .ref q11, .ref q12, .ref q13, .int 0])), (q9, .inl (E.2.1, 3, .inl (fun j => if j < 3 then 1 else 0))), (q10, .inl (E.2.1, 4, .inl (fun j => if j < 4 then 1 else 0))), (q11, .inl (E.2.1, 12, .inl (fun _ => 0))), (q12, .inl (E.2.1, 200, .inl (fun _ => 0))), (q13, .inl (E.2.2.2.1, 200, .inr (.inr (.inr (.inr (fun _ => none)))))), (q14, .inr (2, [.ref q15, .ref q16, .ref q17, .null, .int 0, .long 0])), (q15, .inl (E.2.1, 8, .inl (fun _ => 0))), (q16, .inl (E.2.1, 16, .inl (fun _ => 0))), (q17, .inl (E.2.1, 200, .inl (fun _ => 0)))] ++ (progL E q18 p18 r18 ad18 bd18 ++ progL E q23 p23 r23 ad23 bd23))) H locs) : NW D E A s (X ++ gws idsC ((cE1 E a q1 q2 q3 q4 q5 q6 q7 q8 q9 q10 q11 q12 q13 q14 q15 q16 q17 q18 p18 r18 q23 p23 r23 ad18 bd18 ad23 bd23), E.2) cI0) H locs := by
  have w1 := NW.perm (perm1 X _ _ _ _ _ _ _ _ _ _ _) h
  have w2 := NW.head (c' := (qRow E p18 (fun j => some ((cE1 E a q1 q2 q3 q4 q5 q6 q7 q8 q9 q10 q11 q12 q13 q14 q15 q16 q17 q18 p18 r18 q23 p23 r23 ad18 bd18 ad23 bd23) 3 (200 * 0 + j)))).2) w1 (va_at_row (fun j hj => by rw [cE1_3, Nat.mul_zero, Nat.zero_add, if_pos hj]; unfold rowF; rw [if_pos hj]))
  have w3 := NW.perm (perm3 X _ _ _ _ _ _ _ _ _ _ _).1 w2
  have w4 := NW.head (c' := (qRow E p23 (fun j => some ((cE1 E a q1 q2 q3 q4 q5 q6 q7 q8 q9 q10 q11 q12 q13 q14 q15 q16 q17 q18 p18 r18 q23 p23 r23 ad18 bd18 ad23 bd23) 3 (200 * 1 + j)))).2) w3 (va_at_row (fun j hj => by rw [cE1_3, if_neg (by omega), show 200 * 1 + j - 200 = j by omega]; unfold rowF; rw [if_pos hj]))
  have w5 := NW.perm (perm3 X _ _ _ _ _ _ _ _ _ _ _).2.1 w4
  have w6 := NW.head (c' := (bRow E r18 (fun j => some ((cE1 E a q1 q2 q3 q4 q5 q6 q7 q8 q9 q10 q11 q12 q13 q14 q15 q16 q17 q18 p18 r18 q23 p23 r23 ad18 bd18 ad23 bd23) 0 (175 * 0 + j)))).2) w5 (va_at_row (fun j hj => by rw [cE1_0, Nat.mul_zero, Nat.zero_add, if_pos hj]; unfold rowF; rw [if_pos hj]))
  have w7 := NW.perm (perm3 X _ _ _ _ _ _ _ _ _ _ _).2.2 w6
  have w8 := NW.head (c' := (bRow E r23 (fun j => some ((cE1 E a q1 q2 q3 q4 q5 q6 q7 q8 q9 q10 q11 q12 q13 q14 q15 q16 q17 q18 p18 r18 q23 p23 r23 ad18 bd18 ad23 bd23) 0 (175 * 1 + j)))).2) w7 (va_at_row (fun j hj => by rw [cE1_0, if_neg (by omega), show 175 * 1 + j - 175 = j by omega]; unfold rowF; rw [if_pos hj]))
  have w9 := NW.perm (perm2 X _ _ _ _ _ _ _ _ _ _ _) w8
  rw [idsC_eq, gws_app, gws_app, gws_app, cI0_fix, cI0_pr, cI0_ops, cI0_blks]
  exact w9
set_option maxHeartbeats 4000000 in
set_option maxRecDepth 100000 in
theorem n_X10_init (l : Launch) (D : va_G) (E : gE) (X : va_W) (a n : Nat) (c3 : Mem) (hf : Mc_begin n 0 cI0 = some c3) : nMetG l yX10_init cX10_init 1 3 54 773 11280 D E [.ref a] (X ++ [(a, .inr (9, [.null, .null, .null, .null, .null, .null]))]) (fun W2 => ∃ e1 : Nat → Nat → Nat, W2 = X ++ gws idsC (e1, E.2) c3 ∧ e1 9 0 = a ∧ ∀ k i, k ≠ 9 → 10 ≤ k → (k < 20 ∨ 33 ≤ k) → e1 k i = E.1 k i) := by
  refine nt_codeG (by decide) rfl (Nat.le_of_ble_eq_true rfl) (fun p en s m below meth c ls G hr hk hin hw hE hl => ?_)
  have hl : lv_has ls 1 [(0, .ref a)] := hl
  refine lv_aload_n G.1 G.2.1 dX10_init_0 rfl (lv_at hl 0 rfl) ?_
  refine W.objInit G.1 G.2.1 G.2.2.2.1 (G.2.2.2.2 _ oi_X10) (G.2.2.2.2 _ oi_i) (G.2.2.2.2 _ oi_c) rfl (by rw [G.2.2.1]; exact hl.1) rfl dX10_init_1 (Nat.le_of_ble_eq_true rfl) (Nat.le_of_ble_eq_true rfl) ?_
  refine W.eq (g2 := F0 m 4 ls []) rfl ?_
  refine lv_aload_n G.1 G.2.1 dX10_init_4 rfl (lv_at hl 0 rfl) ?_
  refine n_new (fs := [.null, .int 0]) G hw C_6 cl_X10_9 it_X7 in_X7 (by decide) (by decide) (by decide) dX10_init_5 (fun q1 H hw => ?_)
  refine lv_dup G.1 G.2.1 dX10_init_8 rfl ?_
  refine n_call (As := []) (rest := [.ref q1, .ref a]) G hw mi_X10_11 (n_X7_init l D E (X ++ [(a, .inr (9, [.null, .null, .null, .null, .null, .null]))]) q1) hl.1 rfl rfl (Nat.le_of_ble_eq_true rfl) (Nat.le_of_ble_eq_true rfl) (Nat.le_of_ble_eq_true rfl) ⟨by decide, by decide⟩ dX10_init_9 (fun W2 H locs hW2 hw => ?_)
  obtain ⟨q2, rfl⟩ := hW2
  rw [List.append_assoc] at hw
  change NW D E _ s (X ++ [(a, .inr (9, [.null, .null, .null, .null, .null, .null])), (q1, .inr (6, [.ref q2, .int 0])), (q2, .inl (E.2.1, 700, .inl (fun _ => 0)))]) _ _ at hw
  refine n_putF 0 G hin hw C_9 (X.length + 0) (n_at (X := X) (j := 0) rfl) (by decide) fl_X10_12 rfl rfl rfl rfl (Nat.le_of_ble_eq_true rfl) dX10_init_12 (fun H locs hw => ?_)
  rw [n_set] at hw
  change NW D E _ s (X ++ [(a, .inr (9, [.ref q1, .null, .null, .null, .null, .null])), (q1, .inr (6, [.ref q2, .int 0])), (q2, .inl (E.2.1, 700, .inl (fun _ => 0)))]) _ _ at hw
  refine lv_aload_n G.1 G.2.1 dX10_init_15 rfl (lv_at hl 0 rfl) ?_
  refine n_new (fs := [.null, .null, .null, .int 0, .int 0, .int 0, .int 0]) G hw C_7 cl_X10_16 it_X8 in_X8 (by decide) (by decide) (by decide) dX10_init_16 (fun q3 H hw => ?_)
  refine lv_dup G.1 G.2.1 dX10_init_19 rfl ?_
  refine lv_aload_n G.1 G.2.1 dX10_init_20 rfl (lv_at hl 0 rfl) ?_
  refine n_get (fs := [.ref q1, .null, .null, .null, .null, .null]) 0 G hw C_9 (X.length + 0) (by rw [List.append_assoc]; exact n_at (X := X) (j := 0) rfl) (by decide) fl_X10_12 rfl dX10_init_21 ?_
  refine n_call (As := [.ref q1]) (rest := [.ref q3, .ref a]) G hw mi_X10_18 (n_X8_init l D E (X ++ [(a, .inr (9, [.ref q1, .null, .null, .null, .null, .null])), (q1, .inr (6, [.ref q2, .int 0])), (q2, .inl (E.2.1, 700, .inl (fun _ => 0)))]) q3 q1) hl.1 rfl rfl (Nat.le_of_ble_eq_true rfl) (Nat.le_of_ble_eq_true rfl) (Nat.le_of_ble_eq_true rfl) ⟨by decide, by decide⟩ dX10_init_24 (fun W2 H locs hW2 hw => ?_)
  obtain ⟨q4, q5, q6, q7, rfl⟩ := hW2
  rw [List.append_assoc] at hw
  change NW D E _ s (X ++ [(a, .inr (9, [.ref q1, .null, .null, .null, .null, .null])), (q1, .inr (6, [.ref q2, .int 0])), (q2, .inl (E.2.1, 700, .inl (fun _ => 0))), (q3, .inr (7, [.ref q4, .ref q5, .null, .int 0, .int 0, .int 0, .int (-1)])), (q4, .inr (5, [.ref q1, .int 0])), (q5, .inr (8, [.ref q6, .ref q7, .int 0, .null, .null, .int 0])), (q6, .inl (E.2.1, 350, .inl (fun _ => 0))), (q7, .inl (E.2.1, 350, .inl (fun _ => 0)))]) _ _ at hw
  refine n_putF 1 G hin hw C_9 (X.length + 0) (n_at (X := X) (j := 0) rfl) (by decide) fl_X10_21 rfl rfl rfl rfl (Nat.le_of_ble_eq_true rfl) dX10_init_27 (fun H locs hw => ?_)
  rw [n_set] at hw
  change NW D E _ s (X ++ [(a, .inr (9, [.ref q1, .ref q3, .null, .null, .null, .null])), (q1, .inr (6, [.ref q2, .int 0])), (q2, .inl (E.2.1, 700, .inl (fun _ => 0))), (q3, .inr (7, [.ref q4, .ref q5, .null, .int 0, .int 0, .int 0, .int (-1)])), (q4, .inr (5, [.ref q1, .int 0])), (q5, .inr (8, [.ref q6, .ref q7, .int 0, .null, .null, .int 0])), (q6, .inl (E.2.1, 350, .inl (fun _ => 0))), (q7, .inl (E.2.1, 350, .inl (fun _ => 0)))]) _ _ at hw
  refine lv_aload_n G.1 G.2.1 dX10_init_30 rfl (lv_at hl 0 rfl) ?_
  refine n_new (fs := [.null, .null, .null, .null, .null, .int 0]) G hw C_1 cl_X10_25 it_X1 in_X1 (by decide) (by decide) (by decide) dX10_init_31 (fun q8 H hw => ?_)
  refine lv_dup G.1 G.2.1 dX10_init_34 rfl ?_
  refine n_call (As := []) (rest := [.ref q8, .ref a]) G hw mi_X10_27 (n_X1_init l D E (X ++ [(a, .inr (9, [.ref q1, .ref q3, .null, .null, .null, .null])), (q1, .inr (6, [.ref q2, .int 0])), (q2, .inl (E.2.1, 700, .inl (fun _ => 0))), (q3, .inr (7, [.ref q4, .ref q5, .null, .int 0, .int 0, .int 0, .int (-1)])), (q4, .inr (5, [.ref q1, .int 0])), (q5, .inr (8, [.ref q6, .ref q7, .int 0, .null, .null, .int 0])), (q6, .inl (E.2.1, 350, .inl (fun _ => 0))), (q7, .inl (E.2.1, 350, .inl (fun _ => 0)))]) q8) hl.1 rfl rfl (Nat.le_of_ble_eq_true rfl) (Nat.le_of_ble_eq_true rfl) (Nat.le_of_ble_eq_true rfl) ⟨by decide, by decide⟩ dX10_init_35 (fun W2 H locs hW2 hw => ?_)
  obtain ⟨q9, q10, q11, q12, q13, rfl⟩ := hW2
  rw [List.append_assoc] at hw
  change NW D E _ s (X ++ [(a, .inr (9, [.ref q1, .ref q3, .null, .null, .null, .null])), (q1, .inr (6, [.ref q2, .int 0])), (q2, .inl (E.2.1, 700, .inl (fun _ => 0))), (q3, .inr (7, [.ref q4, .ref q5, .null, .int 0, .int 0, .int 0, .int (-1)])), (q4, .inr (5, [.ref q1, .int 0])), (q5, .inr (8, [.ref q6, .ref q7, .int 0, .null, .null, .int 0])), (q6, .inl (E.2.1, 350, .inl (fun _ => 0))), (q7, .inl (E.2.1, 350, .inl (fun _ => 0))), (q8, .inr (1, [.ref q9, .ref q10, .ref q11, .ref q12, .ref q13, .int 0])), (q9, .inl (E.2.1, 3, .inl (upd (upd (upd (fun _ => 0) (0 : Int32).toNatClampNeg 1) (1 : Int32).toNatClampNeg 1) (2 : Int32).toNatClampNeg 1))), (q10, .inl (E.2.1, 4, .inl (upd (upd (upd (upd (fun _ => 0) (0 : Int32).toNatClampNeg 1) (1 : Int32).toNatClampNeg 1) (2 : Int32).toNatClampNeg 1) (3 : Int32).toNatClampNeg 1))), (q11, .inl (E.2.1, 12, .inl (fun _ => 0))), (q12, .inl (E.2.1, 200, .inl (fun _ => 0))), (q13, .inl (E.2.2.2.1, 200, .inr (.inr (.inr (.inr (fun _ => none))))))]) _ _ at hw
  refine n_putF 2 G hin hw C_9 (X.length + 0) (n_at (X := X) (j := 0) rfl) (by decide) fl_X10_28 rfl rfl rfl rfl (Nat.le_of_ble_eq_true rfl) dX10_init_38 (fun H locs hw => ?_)
  rw [n_set] at hw
  change NW D E _ s (X ++ [(a, .inr (9, [.ref q1, .ref q3, .ref q8, .null, .null, .null])), (q1, .inr (6, [.ref q2, .int 0])), (q2, .inl (E.2.1, 700, .inl (fun _ => 0))), (q3, .inr (7, [.ref q4, .ref q5, .null, .int 0, .int 0, .int 0, .int (-1)])), (q4, .inr (5, [.ref q1, .int 0])), (q5, .inr (8, [.ref q6, .ref q7, .int 0, .null, .null, .int 0])), (q6, .inl (E.2.1, 350, .inl (fun _ => 0))), (q7, .inl (E.2.1, 350, .inl (fun _ => 0))), (q8, .inr (1, [.ref q9, .ref q10, .ref q11, .ref q12, .ref q13, .int 0])), (q9, .inl (E.2.1, 3, .inl (upd (upd (upd (fun _ => 0) (0 : Int32).toNatClampNeg 1) (1 : Int32).toNatClampNeg 1) (2 : Int32).toNatClampNeg 1))), (q10, .inl (E.2.1, 4, .inl (upd (upd (upd (upd (fun _ => 0) (0 : Int32).toNatClampNeg 1) (1 : Int32).toNatClampNeg 1) (2 : Int32).toNatClampNeg 1) (3 : Int32).toNatClampNeg 1))), (q11, .inl (E.2.1, 12, .inl (fun _ => 0))), (q12, .inl (E.2.1, 200, .inl (fun _ => 0))), (q13, .inl (E.2.2.2.1, 200, .inr (.inr (.inr (.inr (fun _ => none))))))]) _ _ at hw
  refine lv_aload_n G.1 G.2.1 dX10_init_41 rfl (lv_at hl 0 rfl) ?_
  refine n_new (fs := [.null, .null, .null, .null, .int 0, .long 0]) G hw C_2 cl_X10_32 it_X2 in_X2 (by decide) (by decide) (by decide) dX10_init_42 (fun q14 H hw => ?_)
  refine lv_dup G.1 G.2.1 dX10_init_45 rfl ?_
  refine n_call (As := []) (rest := [.ref q14, .ref a]) G hw mi_X10_34 (n_X2_init l D E (X ++ [(a, .inr (9, [.ref q1, .ref q3, .ref q8, .null, .null, .null])), (q1, .inr (6, [.ref q2, .int 0])), (q2, .inl (E.2.1, 700, .inl (fun _ => 0))), (q3, .inr (7, [.ref q4, .ref q5, .null, .int 0, .int 0, .int 0, .int (-1)])), (q4, .inr (5, [.ref q1, .int 0])), (q5, .inr (8, [.ref q6, .ref q7, .int 0, .null, .null, .int 0])), (q6, .inl (E.2.1, 350, .inl (fun _ => 0))), (q7, .inl (E.2.1, 350, .inl (fun _ => 0))), (q8, .inr (1, [.ref q9, .ref q10, .ref q11, .ref q12, .ref q13, .int 0])), (q9, .inl (E.2.1, 3, .inl (upd (upd (upd (fun _ => 0) (0 : Int32).toNatClampNeg 1) (1 : Int32).toNatClampNeg 1) (2 : Int32).toNatClampNeg 1))), (q10, .inl (E.2.1, 4, .inl (upd (upd (upd (upd (fun _ => 0) (0 : Int32).toNatClampNeg 1) (1 : Int32).toNatClampNeg 1) (2 : Int32).toNatClampNeg 1) (3 : Int32).toNatClampNeg 1))), (q11, .inl (E.2.1, 12, .inl (fun _ => 0))), (q12, .inl (E.2.1, 200, .inl (fun _ => 0))), (q13, .inl (E.2.2.2.1, 200, .inr (.inr (.inr (.inr (fun _ => none))))))]) q14) hl.1 rfl rfl (Nat.le_of_ble_eq_true rfl) (Nat.le_of_ble_eq_true rfl) (Nat.le_of_ble_eq_true rfl) ⟨by decide, by decide⟩ dX10_init_46 (fun W2 H locs hW2 hw => ?_)
  obtain ⟨q15, q16, q17, rfl⟩ := hW2
  rw [List.append_assoc] at hw
  change NW D E _ s (X ++ [(a, .inr (9, [.ref q1, .ref q3, .ref q8, .null, .null, .null])), (q1, .inr (6, [.ref q2, .int 0])), (q2, .inl (E.2.1, 700, .inl (fun _ => 0))), (q3, .inr (7, [.ref q4, .ref q5, .null, .int 0, .int 0, .int 0, .int (-1)])), (q4, .inr (5, [.ref q1, .int 0])), (q5, .inr (8, [.ref q6, .ref q7, .int 0, .null, .null, .int 0])), (q6, .inl (E.2.1, 350, .inl (fun _ => 0))), (q7, .inl (E.2.1, 350, .inl (fun _ => 0))), (q8, .inr (1, [.ref q9, .ref q10, .ref q11, .ref q12, .ref q13, .int 0])), (q9, .inl (E.2.1, 3, .inl (upd (upd (upd (fun _ => 0) (0 : Int32).toNatClampNeg 1) (1 : Int32).toNatClampNeg 1) (2 : Int32).toNatClampNeg 1))), (q10, .inl (E.2.1, 4, .inl (upd (upd (upd (upd (fun _ => 0) (0 : Int32).toNatClampNeg 1) (1 : Int32).toNatClampNeg 1) (2 : Int32).toNatClampNeg 1) (3 : Int32).toNatClampNeg 1))), (q11, .inl (E.2.1, 12, .inl (fun _ => 0))), (q12, .inl (E.2.1, 200, .inl (fun _ => 0))), (q13, .inl (E.2.2.2.1, 200, .inr (.inr (.inr (.inr (fun _ => none)))))), (q14, .inr (2, [.ref q15, .ref q16, .ref q17, .null, .int 0, .long 0])), (q15, .inl (E.2.1, 8, .inl (fun _ => 0))), (q16, .inl (E.2.1, 16, .inl (fun _ => 0))), (q17, .inl (E.2.1, 200, .inl (fun _ => 0)))]) _ _ at hw
  refine n_putF 3 G hin hw C_9 (X.length + 0) (n_at (X := X) (j := 0) rfl) (by decide) fl_X10_35 rfl rfl rfl rfl (Nat.le_of_ble_eq_true rfl) dX10_init_49 (fun H locs hw => ?_)
  rw [n_set] at hw
  change NW D E _ s (X ++ [(a, .inr (9, [.ref q1, .ref q3, .ref q8, .ref q14, .null, .null])), (q1, .inr (6, [.ref q2, .int 0])), (q2, .inl (E.2.1, 700, .inl (fun _ => 0))), (q3, .inr (7, [.ref q4, .ref q5, .null, .int 0, .int 0, .int 0, .int (-1)])), (q4, .inr (5, [.ref q1, .int 0])), (q5, .inr (8, [.ref q6, .ref q7, .int 0, .null, .null, .int 0])), (q6, .inl (E.2.1, 350, .inl (fun _ => 0))), (q7, .inl (E.2.1, 350, .inl (fun _ => 0))), (q8, .inr (1, [.ref q9, .ref q10, .ref q11, .ref q12, .ref q13, .int 0])), (q9, .inl (E.2.1, 3, .inl (upd (upd (upd (fun _ => 0) (0 : Int32).toNatClampNeg 1) (1 : Int32).toNatClampNeg 1) (2 : Int32).toNatClampNeg 1))), (q10, .inl (E.2.1, 4, .inl (upd (upd (upd (upd (fun _ => 0) (0 : Int32).toNatClampNeg 1) (1 : Int32).toNatClampNeg 1) (2 : Int32).toNatClampNeg 1) (3 : Int32).toNatClampNeg 1))), (q11, .inl (E.2.1, 12, .inl (fun _ => 0))), (q12, .inl (E.2.1, 200, .inl (fun _ => 0))), (q13, .inl (E.2.2.2.1, 200, .inr (.inr (.inr (.inr (fun _ => none)))))), (q14, .inr (2, [.ref q15, .ref q16, .ref q17, .null, .int 0, .long 0])), (q15, .inl (E.2.1, 8, .inl (fun _ => 0))), (q16, .inl (E.2.1, 16, .inl (fun _ => 0))), (q17, .inl (E.2.1, 200, .inl (fun _ => 0)))]) _ _ at hw
  refine lv_aload_n G.1 G.2.1 dX10_init_52 rfl (lv_at hl 0 rfl) ?_
  refine n_new (fs := [.null, .null, .int 0, .int 0]) G hw C_4 cl_X10_39 it_X5 in_X5 (by decide) (by decide) (by decide) dX10_init_53 (fun q18 H hw => ?_)
  refine lv_dup G.1 G.2.1 dX10_init_56 rfl ?_
  refine n_call (As := []) (rest := [.ref q18, .ref a]) G hw mi_X10_41 (n_X5_init l D E (X ++ [(a, .inr (9, [.ref q1, .ref q3, .ref q8, .ref q14, .null, .null])), (q1, .inr (6, [.ref q2, .int 0])), (q2, .inl (E.2.1, 700, .inl (fun _ => 0))), (q3, .inr (7, [.ref q4, .ref q5, .null, .int 0, .int 0, .int 0, .int (-1)])), (q4, .inr (5, [.ref q1, .int 0])), (q5, .inr (8, [.ref q6, .ref q7, .int 0, .null, .null, .int 0])), (q6, .inl (E.2.1, 350, .inl (fun _ => 0))), (q7, .inl (E.2.1, 350, .inl (fun _ => 0))), (q8, .inr (1, [.ref q9, .ref q10, .ref q11, .ref q12, .ref q13, .int 0])), (q9, .inl (E.2.1, 3, .inl (upd (upd (upd (fun _ => 0) (0 : Int32).toNatClampNeg 1) (1 : Int32).toNatClampNeg 1) (2 : Int32).toNatClampNeg 1))), (q10, .inl (E.2.1, 4, .inl (upd (upd (upd (upd (fun _ => 0) (0 : Int32).toNatClampNeg 1) (1 : Int32).toNatClampNeg 1) (2 : Int32).toNatClampNeg 1) (3 : Int32).toNatClampNeg 1))), (q11, .inl (E.2.1, 12, .inl (fun _ => 0))), (q12, .inl (E.2.1, 200, .inl (fun _ => 0))), (q13, .inl (E.2.2.2.1, 200, .inr (.inr (.inr (.inr (fun _ => none)))))), (q14, .inr (2, [.ref q15, .ref q16, .ref q17, .null, .int 0, .long 0])), (q15, .inl (E.2.1, 8, .inl (fun _ => 0))), (q16, .inl (E.2.1, 16, .inl (fun _ => 0))), (q17, .inl (E.2.1, 200, .inl (fun _ => 0)))]) q18) hl.1 rfl rfl (Nat.le_of_ble_eq_true rfl) (Nat.le_of_ble_eq_true rfl) (Nat.le_of_ble_eq_true rfl) ⟨by decide, by decide⟩ dX10_init_57 (fun W2 H locs hW2 hw => ?_)
  obtain ⟨p18, r18, ad18, bd18, rfl⟩ := hW2
  rw [List.append_assoc] at hw
  change NW D E _ s (X ++ ([(a, .inr (9, [.ref q1, .ref q3, .ref q8, .ref q14, .null, .null])), (q1, .inr (6, [.ref q2, .int 0])), (q2, .inl (E.2.1, 700, .inl (fun _ => 0))), (q3, .inr (7, [.ref q4, .ref q5, .null, .int 0, .int 0, .int 0, .int (-1)])), (q4, .inr (5, [.ref q1, .int 0])), (q5, .inr (8, [.ref q6, .ref q7, .int 0, .null, .null, .int 0])), (q6, .inl (E.2.1, 350, .inl (fun _ => 0))), (q7, .inl (E.2.1, 350, .inl (fun _ => 0))), (q8, .inr (1, [.ref q9, .ref q10, .ref q11, .ref q12, .ref q13, .int 0])), (q9, .inl (E.2.1, 3, .inl (upd (upd (upd (fun _ => 0) (0 : Int32).toNatClampNeg 1) (1 : Int32).toNatClampNeg 1) (2 : Int32).toNatClampNeg 1))), (q10, .inl (E.2.1, 4, .inl (upd (upd (upd (upd (fun _ => 0) (0 : Int32).toNatClampNeg 1) (1 : Int32).toNatClampNeg 1) (2 : Int32).toNatClampNeg 1) (3 : Int32).toNatClampNeg 1))), (q11, .inl (E.2.1, 12, .inl (fun _ => 0))), (q12, .inl (E.2.1, 200, .inl (fun _ => 0))), (q13, .inl (E.2.2.2.1, 200, .inr (.inr (.inr (.inr (fun _ => none)))))), (q14, .inr (2, [.ref q15, .ref q16, .ref q17, .null, .int 0, .long 0])), (q15, .inl (E.2.1, 8, .inl (fun _ => 0))), (q16, .inl (E.2.1, 16, .inl (fun _ => 0))), (q17, .inl (E.2.1, 200, .inl (fun _ => 0)))] ++ progL E q18 p18 r18 ad18 bd18)) _ _ at hw
  refine n_put 4 G hw C_9 (X.length + 0) (n_at (X := X) (j := 0) rfl) (by decide) fl_X10_42 rfl rfl rfl (Nat.le_of_ble_eq_true rfl) dX10_init_60 (fun H locs hw => ?_)
  rw [n_set] at hw
  change NW D E _ s (X ++ ([(a, .inr (9, [.ref q1, .ref q3, .ref q8, .ref q14, .ref q18, .null])), (q1, .inr (6, [.ref q2, .int 0])), (q2, .inl (E.2.1, 700, .inl (fun _ => 0))), (q3, .inr (7, [.ref q4, .ref q5, .null, .int 0, .int 0, .int 0, .int (-1)])), (q4, .inr (5, [.ref q1, .int 0])), (q5, .inr (8, [.ref q6, .ref q7, .int 0, .null, .null, .int 0])), (q6, .inl (E.2.1, 350, .inl (fun _ => 0))), (q7, .inl (E.2.1, 350, .inl (fun _ => 0))), (q8, .inr (1, [.ref q9, .ref q10, .ref q11, .ref q12, .ref q13, .int 0])), (q9, .inl (E.2.1, 3, .inl (upd (upd (upd (fun _ => 0) (0 : Int32).toNatClampNeg 1) (1 : Int32).toNatClampNeg 1) (2 : Int32).toNatClampNeg 1))), (q10, .inl (E.2.1, 4, .inl (upd (upd (upd (upd (fun _ => 0) (0 : Int32).toNatClampNeg 1) (1 : Int32).toNatClampNeg 1) (2 : Int32).toNatClampNeg 1) (3 : Int32).toNatClampNeg 1))), (q11, .inl (E.2.1, 12, .inl (fun _ => 0))), (q12, .inl (E.2.1, 200, .inl (fun _ => 0))), (q13, .inl (E.2.2.2.1, 200, .inr (.inr (.inr (.inr (fun _ => none)))))), (q14, .inr (2, [.ref q15, .ref q16, .ref q17, .null, .int 0, .long 0])), (q15, .inl (E.2.1, 8, .inl (fun _ => 0))), (q16, .inl (E.2.1, 16, .inl (fun _ => 0))), (q17, .inl (E.2.1, 200, .inl (fun _ => 0)))] ++ progL E q18 p18 r18 ad18 bd18)) _ _ at hw
  refine lv_aload_n G.1 G.2.1 dX10_init_63 rfl (lv_at hl 0 rfl) ?_
  refine n_new (fs := [.null, .null, .int 0, .int 0]) G hw C_4 cl_X10_39 it_X5 in_X5 (by decide) (by decide) (by decide) dX10_init_64 (fun q23 H hw => ?_)
  refine lv_dup G.1 G.2.1 dX10_init_67 rfl ?_
  refine n_call (As := []) (rest := [.ref q23, .ref a]) G hw mi_X10_41 (n_X5_init l D E (X ++ ([(a, .inr (9, [.ref q1, .ref q3, .ref q8, .ref q14, .ref q18, .null])), (q1, .inr (6, [.ref q2, .int 0])), (q2, .inl (E.2.1, 700, .inl (fun _ => 0))), (q3, .inr (7, [.ref q4, .ref q5, .null, .int 0, .int 0, .int 0, .int (-1)])), (q4, .inr (5, [.ref q1, .int 0])), (q5, .inr (8, [.ref q6, .ref q7, .int 0, .null, .null, .int 0])), (q6, .inl (E.2.1, 350, .inl (fun _ => 0))), (q7, .inl (E.2.1, 350, .inl (fun _ => 0))), (q8, .inr (1, [.ref q9, .ref q10, .ref q11, .ref q12, .ref q13, .int 0])), (q9, .inl (E.2.1, 3, .inl (upd (upd (upd (fun _ => 0) (0 : Int32).toNatClampNeg 1) (1 : Int32).toNatClampNeg 1) (2 : Int32).toNatClampNeg 1))), (q10, .inl (E.2.1, 4, .inl (upd (upd (upd (upd (fun _ => 0) (0 : Int32).toNatClampNeg 1) (1 : Int32).toNatClampNeg 1) (2 : Int32).toNatClampNeg 1) (3 : Int32).toNatClampNeg 1))), (q11, .inl (E.2.1, 12, .inl (fun _ => 0))), (q12, .inl (E.2.1, 200, .inl (fun _ => 0))), (q13, .inl (E.2.2.2.1, 200, .inr (.inr (.inr (.inr (fun _ => none)))))), (q14, .inr (2, [.ref q15, .ref q16, .ref q17, .null, .int 0, .long 0])), (q15, .inl (E.2.1, 8, .inl (fun _ => 0))), (q16, .inl (E.2.1, 16, .inl (fun _ => 0))), (q17, .inl (E.2.1, 200, .inl (fun _ => 0)))] ++ progL E q18 p18 r18 ad18 bd18)) q23) hl.1 rfl rfl (Nat.le_of_ble_eq_true rfl) (Nat.le_of_ble_eq_true rfl) (Nat.le_of_ble_eq_true rfl) ⟨by decide, by decide⟩ dX10_init_68 (fun W2 H locs hW2 hw => ?_)
  obtain ⟨p23, r23, ad23, bd23, rfl⟩ := hW2
  rw [List.append_assoc, List.append_assoc] at hw
  change NW D E _ s (X ++ ([(a, .inr (9, [.ref q1, .ref q3, .ref q8, .ref q14, .ref q18, .null])), (q1, .inr (6, [.ref q2, .int 0])), (q2, .inl (E.2.1, 700, .inl (fun _ => 0))), (q3, .inr (7, [.ref q4, .ref q5, .null, .int 0, .int 0, .int 0, .int (-1)])), (q4, .inr (5, [.ref q1, .int 0])), (q5, .inr (8, [.ref q6, .ref q7, .int 0, .null, .null, .int 0])), (q6, .inl (E.2.1, 350, .inl (fun _ => 0))), (q7, .inl (E.2.1, 350, .inl (fun _ => 0))), (q8, .inr (1, [.ref q9, .ref q10, .ref q11, .ref q12, .ref q13, .int 0])), (q9, .inl (E.2.1, 3, .inl (upd (upd (upd (fun _ => 0) (0 : Int32).toNatClampNeg 1) (1 : Int32).toNatClampNeg 1) (2 : Int32).toNatClampNeg 1))), (q10, .inl (E.2.1, 4, .inl (upd (upd (upd (upd (fun _ => 0) (0 : Int32).toNatClampNeg 1) (1 : Int32).toNatClampNeg 1) (2 : Int32).toNatClampNeg 1) (3 : Int32).toNatClampNeg 1))), (q11, .inl (E.2.1, 12, .inl (fun _ => 0))), (q12, .inl (E.2.1, 200, .inl (fun _ => 0))), (q13, .inl (E.2.2.2.1, 200, .inr (.inr (.inr (.inr (fun _ => none)))))), (q14, .inr (2, [.ref q15, .ref q16, .ref q17, .null, .int 0, .long 0])), (q15, .inl (E.2.1, 8, .inl (fun _ => 0))), (q16, .inl (E.2.1, 16, .inl (fun _ => 0))), (q17, .inl (E.2.1, 200, .inl (fun _ => 0)))] ++ (progL E q18 p18 r18 ad18 bd18 ++ progL E q23 p23 r23 ad23 bd23))) _ _ at hw
  refine n_put 5 G hw C_9 (X.length + 0) (n_at (X := X) (j := 0) rfl) (by decide) fl_X10_46 rfl rfl rfl (Nat.le_of_ble_eq_true rfl) dX10_init_71 (fun H locs hw => ?_)
  rw [n_set] at hw
  change NW D E _ s (X ++ ([(a, .inr (9, [.ref q1, .ref q3, .ref q8, .ref q14, .ref q18, .ref q23])), (q1, .inr (6, [.ref q2, .int 0])), (q2, .inl (E.2.1, 700, .inl (fun _ => 0))), (q3, .inr (7, [.ref q4, .ref q5, .null, .int 0, .int 0, .int 0, .int (-1)])), (q4, .inr (5, [.ref q1, .int 0])), (q5, .inr (8, [.ref q6, .ref q7, .int 0, .null, .null, .int 0])), (q6, .inl (E.2.1, 350, .inl (fun _ => 0))), (q7, .inl (E.2.1, 350, .inl (fun _ => 0))), (q8, .inr (1, [.ref q9, .ref q10, .ref q11, .ref q12, .ref q13, .int 0])), (q9, .inl (E.2.1, 3, .inl (upd (upd (upd (fun _ => 0) (0 : Int32).toNatClampNeg 1) (1 : Int32).toNatClampNeg 1) (2 : Int32).toNatClampNeg 1))), (q10, .inl (E.2.1, 4, .inl (upd (upd (upd (upd (fun _ => 0) (0 : Int32).toNatClampNeg 1) (1 : Int32).toNatClampNeg 1) (2 : Int32).toNatClampNeg 1) (3 : Int32).toNatClampNeg 1))), (q11, .inl (E.2.1, 12, .inl (fun _ => 0))), (q12, .inl (E.2.1, 200, .inl (fun _ => 0))), (q13, .inl (E.2.2.2.1, 200, .inr (.inr (.inr (.inr (fun _ => none)))))), (q14, .inr (2, [.ref q15, .ref q16, .ref q17, .null, .int 0, .long 0])), (q15, .inl (E.2.1, 8, .inl (fun _ => 0))), (q16, .inl (E.2.1, 16, .inl (fun _ => 0))), (q17, .inl (E.2.1, 200, .inl (fun _ => 0)))] ++ (progL E q18 p18 r18 ad18 bd18 ++ progL E q23 p23 r23 ad23 bd23))) _ _ at hw
  refine lv_aload_n G.1 G.2.1 dX10_init_74 rfl (lv_at hl 0 rfl) ?_
  refine n_get (fs := [.ref q1, .ref q3, .ref q8, .ref q14, .ref q18, .ref q23]) 3 G hw C_9 (X.length + 0) (n_at (X := X) (j := 0) rfl) (by decide) fl_X10_35 rfl dX10_init_75 ?_
  refine lv_aload_n G.1 G.2.1 dX10_init_78 rfl (lv_at hl 0 rfl) ?_
  refine n_get (fs := [.ref q1, .ref q3, .ref q8, .ref q14, .ref q18, .ref q23]) 4 G hw C_9 (X.length + 0) (n_at (X := X) (j := 0) rfl) (by decide) fl_X10_42 rfl dX10_init_79 ?_
  rw [u4_eq, u3_eq] at hw
  have hw := cI0_made hw
  have hg := NW_GW hw hE
  refine g_callV0 (E := ((cE1 E a q1 q2 q3 q4 q5 q6 q7 q8 q9 q10 q11 q12 q13 q14 q15 q16 q17 q18 p18 r18 q23 p23 r23 ad18 bd18 ad23 bd23), E.2)) (As := [.ref q18]) (rest := []) G hg (NW_gA hw) C_2 (iC_2) mv_X10_49 (c_Mc_begin l D X ((cE1 E a q1 q2 q3 q4 q5 q6 q7 q8 q9 q10 q11 q12 q13 q14 q15 q16 q17 q18 p18 r18 q23 p23 r23 ad18 bd18 ad23 bd23), E.2) n 0 (by decide) cI0 c3 hf) hl.1 rfl rfl (Nat.le_of_ble_eq_true rfl) (by decide) (by decide) ⟨by decide, by decide⟩ dX10_init_82 (fun H locs hg => ?_)
  refine n_vret G hr hk (GW_NW hg hw) ⟨(cE1 E a q1 q2 q3 q4 q5 q6 q7 q8 q9 q10 q11 q12 q13 q14 q15 q16 q17 q18 p18 r18 q23 p23 r23 ad18 bd18 ad23 bd23), rfl, rfl, fun k i h1 h2 h3 => ?_⟩ (by decide) (by decide) dX10_init_85
  unfold cE1
  rw [if_neg (by omega), if_neg (by omega), if_neg (by omega), if_neg (by omega), if_neg (by omega), if_neg (by omega), if_neg (by omega), if_neg (by omega), if_neg (by omega), if_neg (by omega), if_neg (by omega), if_neg (by omega), if_neg (by omega), if_neg (by omega), if_neg (by omega), if_neg (by omega), if_neg (by omega), if_neg (by omega), if_neg (by omega), if_neg (by omega), if_neg (by omega), if_neg (by omega), if_neg (by omega)]
