/-! ===== ROWS over the memory world ===== -/
theorem gA_mono {X : va_W} {ids : List (Nat × Nat)} {E : gE} {a b : Nat} (h : a ≤ b) : ∀ q, gA X ids E b q → gA X ids E a q := fun q hq => hq.elim Or.inl fun h2 => Or.inr (Nat.le_trans h h2)
theorem GP.moved {D : va_G} {X : va_W} {ids : List (Nat × Nat)} {E : gE} {g : Mem} {u U : State} (hh : U.heap = u.heap) (hvm : u.vm.Alike U.vm) (h : GP D X ids E g u) : GP D X ids E g U := ⟨by rw [hh]; exact h.1, va_K.moved hvm h.2.1, h.2.2⟩
/-- a class: its name, fields and types, by its kind -/
def gCls (k : Nat) (C : String) (T : u_T) (N : Nat) (ty : Nat → FieldType) : Prop := k < 20 ∧ vwCl[k]? = some (C, T, N) ∧ (∀ w ∈ u_ws C T N, w ∈ gtbl) ∧ (∀ j, j < N → parseFieldDescriptor (T j).2.2.1 = some (ty j)) ∧ (∀ a, a < N → ∀ b, b < N → a ≠ b → (T a).2.1 ≠ (T b).2.1) ∧ (gly k).length = N
section GROW
variable {p : Program} {l : Launch} {en : Env} {R : Room} {s : State} {m : MethodId} {args : Array Value} {below : List Frame} {meth : Method} {c : Code} {H : Heap} {locs : List Loc} {cells slots : Nat} {Q : State → Prop}
variable {cc : ByteArray} {nL pc : Nat} {ls : Array Slot} {rest : List Value} {own : String} {D : va_G} {X : va_W} {ids : List (Nat × Nat)} {E : gE} {A : Nat → Prop} {g : Mem} {k i : Nat} {C : String} {T : u_T} {N : Nat} {ty : Nat → FieldType} {index : Nat}
theorem gcell_obj (hC : gCls k C T N ty) : gcell E g k i = .inr (k, fvals E g k i 0 (gly k)) := by
  unfold gcell
  rw [if_pos hC.1]
/-- getfield: a field of code t, at place j -/
theorem g_get (G : CallFix p m c cc nL s args gtbl own) (hw : GW D X ids E A s g H locs) (hC : gCls k C T N ty) (hid : (k, i) ∈ ids) (j : Nat) {t : Nat} (hj : (gly k)[j]? = some t) (hl : Cond.fieldLink own index (T j).1 (T j).2.1 (T j).2.2.1 ∈ gtbl) (hdg : decode cc pc = .ok (.getfield index, 3))
    (kk : W p l en R s m args below meth c H locs cells slots Q (F0 m (pc + 3) ls (fval E g k i j t :: rest))) : W p l en R s m args below meth c H locs cells slots Q (F0 m pc ls (.ref (E.1 k i) :: rest)) := by
  obtain ⟨q, hq, he⟩ := gws_get (X := X) (e := E) (m := g) hid
  rw [gcell_obj hC] at he
  have hN : j < N := by rw [← hC.2.2.2.2.2]; exact (List.getElem?_eq_some_iff.mp hj).1
  refine va_get (D := D) (ci := k) (v := fval E g k i j t) (C := C) (T := T) (N := N) G.1 G.2.1 G.2.2.2.2 hC.2.2.1 G.2.2.2.1 hw.1 hw.2.1 (X.length + q) he hC.2.1 j hN (G.2.2.2.2 _ hl) (fun _ h9 => h9) ?_ hdg kk
  have := fvals_get (e := E) (m := g) (k := k) (i := i) (gly k) 0 j t hj
  rw [Nat.zero_add] at this
  exact this
theorem g_getI (G : CallFix p m c cc nL s args gtbl own) (hw : GW D X ids E A s g H locs) (hC : gCls k C T N ty) (hid : (k, i) ∈ ids) (j : Nat) (hj : (gly k)[j]? = some 0) (hl : Cond.fieldLink own index (T j).1 (T j).2.1 (T j).2.2.1 ∈ gtbl) (hdg : decode cc pc = .ok (.getfield index, 3))
    (kk : W p l en R s m args below meth c H locs cells slots Q (F0 m (pc + 3) ls (.int (gI g k i j) :: rest))) : W p l en R s m args below meth c H locs cells slots Q (F0 m pc ls (.ref (E.1 k i) :: rest)) := g_get G hw hC hid j hj hl hdg kk
theorem g_getL (G : CallFix p m c cc nL s args gtbl own) (hw : GW D X ids E A s g H locs) (hC : gCls k C T N ty) (hid : (k, i) ∈ ids) (j : Nat) (hj : (gly k)[j]? = some 1) (hl : Cond.fieldLink own index (T j).1 (T j).2.1 (T j).2.2.1 ∈ gtbl) (hdg : decode cc pc = .ok (.getfield index, 3))
    (kk : W p l en R s m args below meth c H locs cells slots Q (F0 m (pc + 3) ls (.long (gL g k i) :: rest))) : W p l en R s m args below meth c H locs cells slots Q (F0 m pc ls (.ref (E.1 k i) :: rest)) := g_get G hw hC hid j hj hl hdg kk
/-- a reference that is always there -/
theorem g_getC (G : CallFix p m c cc nL s args gtbl own) (hw : GW D X ids E A s g H locs) (hC : gCls k C T N ty) (hid : (k, i) ∈ ids) (j : Nat) {t : Nat} (kd : Nat) (ht : t = 1000 + kd) (hk : kd < 1000) (hj : (gly k)[j]? = some t) (hl : Cond.fieldLink own index (T j).1 (T j).2.1 (T j).2.2.1 ∈ gtbl) (hdg : decode cc pc = .ok (.getfield index, 3))
    (kk : W p l en R s m args below meth c H locs cells slots Q (F0 m (pc + 3) ls (.ref (E.1 kd i) :: rest))) : W p l en R s m args below meth c H locs cells slots Q (F0 m pc ls (.ref (E.1 k i) :: rest)) := by
  refine g_get G hw hC hid j hj hl hdg ?_
  have e1 : fval E g k i j t = .ref (E.1 kd i) := by
    unfold fval
    rw [if_neg (by omega), if_neg (by omega), if_pos (by omega), show t - 1000 = kd by omega]
  rw [e1]
  exact kk
/-- a reference that may be null, as it is -/
theorem g_getN (G : CallFix p m c cc nL s args gtbl own) (hw : GW D X ids E A s g H locs) (hC : gCls k C T N ty) (hid : (k, i) ∈ ids) (j : Nat) {t : Nat} (kd : Nat) (ht : t = 2000 + kd) (hj : (gly k)[j]? = some t) (hl : Cond.fieldLink own index (T j).1 (T j).2.1 (T j).2.2.1 ∈ gtbl) (hdg : decode cc pc = .ok (.getfield index, 3))
    (kk : W p l en R s m args below meth c H locs cells slots Q (F0 m (pc + 3) ls (va_rf ((gR g k i j).map (E.1 kd)) :: rest))) : W p l en R s m args below meth c H locs cells slots Q (F0 m pc ls (.ref (E.1 k i) :: rest)) := by
  refine g_get G hw hC hid j hj hl hdg ?_
  have e1 : fval E g k i j t = va_rf ((gR g k i j).map (E.1 kd)) := by
    unfold fval
    rw [if_neg (by omega), if_neg (by omega), if_neg (by omega), show t - 2000 = kd by omega]
  rw [e1]
  exact kk
/-- a reference that may be null, known not to be -/
theorem g_getR (G : CallFix p m c cc nL s args gtbl own) (hw : GW D X ids E A s g H locs) (hC : gCls k C T N ty) (hid : (k, i) ∈ ids) (j : Nat) {t : Nat} (kd : Nat) (ht : t = 2000 + kd) (hj : (gly k)[j]? = some t) (hl : Cond.fieldLink own index (T j).1 (T j).2.1 (T j).2.2.1 ∈ gtbl) {b : Nat} (hb : gR g k i j = some b) (hdg : decode cc pc = .ok (.getfield index, 3))
    (kk : W p l en R s m args below meth c H locs cells slots Q (F0 m (pc + 3) ls (.ref (E.1 kd b) :: rest))) : W p l en R s m args below meth c H locs cells slots Q (F0 m pc ls (.ref (E.1 k i) :: rest)) := by
  refine g_getN G hw hC hid j kd ht hj hl hdg ?_
  rw [hb]
  exact kk
/-- putfield, of any kind: the memory g' holds v at that place, and all else is the same -/
theorem g_put (G : CallFix p m c cc nL s args gtbl own) (hw : GW D X ids E A s g H locs) (hC : gCls k C T N ty) (hid : (k, i) ∈ ids) (j : Nat) {t : Nat} (hj : (gly k)[j]? = some t) (hl : Cond.fieldLink own index (T j).1 (T j).2.1 (T j).2.2.1 ∈ gtbl) (hfin : (T j).2.2.2 = false) {v : Value} (hn : narrow (ty j) v = v) (hfit : fits (ty j) v = true) (hdg : decode cc pc = .ok (.putfield index, 3))
    {g' : Mem} (hv : fval E g' k i j t = v) (ho : ∀ j2 t2 : Nat, (gly k)[j2]? = some t2 → j2 ≠ j → fval E g' k i j2 t2 = fval E g k i j2 t2) (ho2 : ∀ a b : Nat, ¬ (a = k ∧ b = i) → gcell E g' a b = gcell E g a b)
    (kk : ∀ (H1 : Heap) (locs1 : List Loc), GW D X ids E A s g' H1 locs1 → W p l en R s m args below meth c H1 locs1 cells slots Q (F0 m (pc + 3) ls rest)) : W p l en R s m args below meth c H locs cells slots Q (F0 m pc ls (v :: .ref (E.1 k i) :: rest)) := by
  obtain ⟨q, hq, he⟩ := gws_get (X := X) (e := E) (m := g) hid
  rw [gcell_obj hC] at he
  have hN : j < N := by rw [← hC.2.2.2.2.2]; exact (List.getElem?_eq_some_iff.mp hj).1
  refine va_put (D := D) (ci := k) (v := v) (ty := ty j) (C := C) (T := T) (N := N) G.1 G.2.1 G.2.2.2.2 hC.2.2.1 ty hC.2.2.2.1 hC.2.2.2.2.1 G.2.2.2.1 hw.1 hw.2.1 hw.2.2.1 hw.2.2.2.1 (X.length + q) he hC.2.1 j hN (G.2.2.2.2 _ hl) (fun _ h9 => h9) hfin (hC.2.2.2.1 j hN) hn hfit (by rw [fvals_len, hC.2.2.2.2.2]; exact hN) hdg (fun H1 locs1 hP hD hS => ?_)
  have e2 : (fvals E g k i 0 (gly k)).set j v = fvals E g' k i 0 (gly k) := fvals_set (gly k) 0 j t hj (by rw [Nat.zero_add]; exact hv) (fun j2 t2 h2 hne => by rw [Nat.zero_add]; exact ho j2 t2 h2 hne)
  rw [e2, gws_set (m' := g') hw.2.2.1 hq (gcell_obj hC) ho2] at hP hD
  exact kk H1 locs1 ⟨hw.1, hP, hD, hS, hw.2.2.2.2⟩
theorem gcell_sI {v : Int32} {j : Nat} (a b : Nat) (h : ¬ (a = k ∧ b = i)) : gcell E (sI g k i j v) a b = gcell E g a b := gcell_congr (fun z => by rw [gI_sI, if_neg (fun q => h ⟨q.1, q.2.1⟩)]) (fun z => rfl) rfl
theorem gcell_sR {v : Option Nat} {j : Nat} (a b : Nat) (h : ¬ (a = k ∧ b = i)) : gcell E (sR g k i j v) a b = gcell E g a b := gcell_congr (fun z => rfl) (fun z => by rw [gR_sR, if_neg (fun q => h ⟨q.1, q.2.1⟩)]) rfl
theorem gcell_sL {v : Int64} (a b : Nat) (h : ¬ (a = k ∧ b = i)) : gcell E (sL g k i v) a b = gcell E g a b := gcell_congr (fun z => rfl) (fun z => rfl) (by rw [gL_sL, if_neg h])
theorem g_putI (G : CallFix p m c cc nL s args gtbl own) (hw : GW D X ids E A s g H locs) (hC : gCls k C T N ty) (hid : (k, i) ∈ ids) (j : Nat) (hj : (gly k)[j]? = some 0) (hl : Cond.fieldLink own index (T j).1 (T j).2.1 (T j).2.2.1 ∈ gtbl) (hfin : (T j).2.2.2 = false) {v : Int32} (hn : narrow (ty j) (.int v) = .int v) (hfit : fits (ty j) (.int v) = true) (hdg : decode cc pc = .ok (.putfield index, 3))
    (kk : ∀ (H1 : Heap) (locs1 : List Loc), GW D X ids E A s (sI g k i j v) H1 locs1 → W p l en R s m args below meth c H1 locs1 cells slots Q (F0 m (pc + 3) ls rest)) : W p l en R s m args below meth c H locs cells slots Q (F0 m pc ls (.int v :: .ref (E.1 k i) :: rest)) := by
  refine g_put G hw hC hid j hj hl hfin hn hfit hdg (g' := sI g k i j v) ?_ ?_ (fun a b h => gcell_sI a b h) kk
  · show Value.int (gI (sI g k i j v) k i j) = _
    rw [gI_sI, if_pos ⟨rfl, rfl, rfl⟩]
  · intro j2 t2 h2 hne
    have e1 : ¬ (k = k ∧ i = i ∧ j2 = j) := fun q => hne q.2.2
    unfold fval
    rw [gI_sI, if_neg e1, gL_sI, gR_sI]
theorem g_putL (G : CallFix p m c cc nL s args gtbl own) (hw : GW D X ids E A s g H locs) (hC : gCls k C T N ty) (hid : (k, i) ∈ ids) (j : Nat) (hj : (gly k)[j]? = some 1) (hone : ∀ j2, (gly k)[j2]? = some 1 → j2 = j) (hl : Cond.fieldLink own index (T j).1 (T j).2.1 (T j).2.2.1 ∈ gtbl) (hfin : (T j).2.2.2 = false) {v : Int64} (hn : narrow (ty j) (.long v) = .long v) (hfit : fits (ty j) (.long v) = true) (hdg : decode cc pc = .ok (.putfield index, 3))
    (kk : ∀ (H1 : Heap) (locs1 : List Loc), GW D X ids E A s (sL g k i v) H1 locs1 → W p l en R s m args below meth c H1 locs1 cells slots Q (F0 m (pc + 3) ls rest)) : W p l en R s m args below meth c H locs cells slots Q (F0 m pc ls (.long v :: .ref (E.1 k i) :: rest)) := by
  refine g_put G hw hC hid j hj hl hfin hn hfit hdg (g' := sL g k i v) ?_ ?_ (fun a b h => gcell_sL a b h) kk
  · show Value.long (gL (sL g k i v) k i) = _
    rw [gL_sL, if_pos ⟨rfl, rfl⟩]
  · intro j2 t2 h2 hne
    have : t2 ≠ 1 := fun q => hne (hone j2 (by rw [h2, q]))
    unfold fval
    rw [gI_sL, gR_sL, if_neg this, if_neg this]
/-- a reference, or null -/
theorem g_putN (G : CallFix p m c cc nL s args gtbl own) (hw : GW D X ids E A s g H locs) (hC : gCls k C T N ty) (hid : (k, i) ∈ ids) (j : Nat) {t : Nat} (kd : Nat) (ht : t = 2000 + kd) (hj : (gly k)[j]? = some t) (hl : Cond.fieldLink own index (T j).1 (T j).2.1 (T j).2.2.1 ∈ gtbl) (hfin : (T j).2.2.2 = false) {o : Option Nat} (hn : narrow (ty j) (va_rf (o.map (E.1 kd))) = va_rf (o.map (E.1 kd))) (hfit : fits (ty j) (va_rf (o.map (E.1 kd))) = true) (hdg : decode cc pc = .ok (.putfield index, 3))
    (kk : ∀ (H1 : Heap) (locs1 : List Loc), GW D X ids E A s (sR g k i j o) H1 locs1 → W p l en R s m args below meth c H1 locs1 cells slots Q (F0 m (pc + 3) ls rest)) : W p l en R s m args below meth c H locs cells slots Q (F0 m pc ls (va_rf (o.map (E.1 kd)) :: .ref (E.1 k i) :: rest)) := by
  refine g_put G hw hC hid j hj hl hfin hn hfit hdg (g' := sR g k i j o) ?_ ?_ (fun a b h => gcell_sR a b h) kk
  · unfold fval
    rw [if_neg (by omega), if_neg (by omega), if_neg (by omega), gR_sR, if_pos ⟨rfl, rfl, rfl⟩, show t - 2000 = kd by omega]
  · intro j2 t2 h2 hne
    have e1 : ¬ (k = k ∧ i = i ∧ j2 = j) := fun q => hne q.2.2
    unfold fval
    rw [gR_sR, if_neg e1, gL_sR, gI_sR]
theorem g_putR (G : CallFix p m c cc nL s args gtbl own) (hw : GW D X ids E A s g H locs) (hC : gCls k C T N ty) (hid : (k, i) ∈ ids) (j : Nat) {t : Nat} (kd : Nat) (ht : t = 2000 + kd) (hj : (gly k)[j]? = some t) (hl : Cond.fieldLink own index (T j).1 (T j).2.1 (T j).2.2.1 ∈ gtbl) (hfin : (T j).2.2.2 = false) {b : Nat} (hn : narrow (ty j) (.ref (E.1 kd b)) = .ref (E.1 kd b)) (hfit : fits (ty j) (.ref (E.1 kd b)) = true) (hdg : decode cc pc = .ok (.putfield index, 3))
    (kk : ∀ (H1 : Heap) (locs1 : List Loc), GW D X ids E A s (sR g k i j (some b)) H1 locs1 → W p l en R s m args below meth c H1 locs1 cells slots Q (F0 m (pc + 3) ls rest)) : W p l en R s m args below meth c H locs cells slots Q (F0 m pc ls (.ref (E.1 kd b) :: .ref (E.1 k i) :: rest)) := g_putN G hw hC hid j kd ht hj hl hfin (o := some b) hn hfit hdg kk
theorem g_put0 (G : CallFix p m c cc nL s args gtbl own) (hw : GW D X ids E A s g H locs) (hC : gCls k C T N ty) (hid : (k, i) ∈ ids) (j : Nat) {t : Nat} (kd : Nat) (ht : t = 2000 + kd) (hj : (gly k)[j]? = some t) (hl : Cond.fieldLink own index (T j).1 (T j).2.1 (T j).2.2.1 ∈ gtbl) (hfin : (T j).2.2.2 = false) (hn : narrow (ty j) .null = .null) (hfit : fits (ty j) .null = true) (hdg : decode cc pc = .ok (.putfield index, 3))
    (kk : ∀ (H1 : Heap) (locs1 : List Loc), GW D X ids E A s (sR g k i j none) H1 locs1 → W p l en R s m args below meth c H1 locs1 cells slots Q (F0 m (pc + 3) ls rest)) : W p l en R s m args below meth c H locs cells slots Q (F0 m pc ls (.null :: .ref (E.1 k i) :: rest)) := g_putN G hw hC hid j kd ht hj hl hfin (o := none) hn hfit hdg kk
/-! rows of numbers -/
theorem gcell_i (hk : 20 ≤ k) {n : Nat} (ha : garr k = (0, n)) : gcell E g k i = .inl (E.2.1, n, .inl (gI g k i)) := by
  unfold gcell
  simp [ha, Nat.not_lt.mpr hk]
theorem gcell_z (hk : 20 ≤ k) {n : Nat} (ha : garr k = (1, n)) : gcell E g k i = .inl (E.2.2.1, n, .inl (gI g k i)) := by
  unfold gcell
  simp [ha, Nat.not_lt.mpr hk]
theorem gcell_q (hk : 20 ≤ k) {n : Nat} (ha : garr k = (2, n)) : gcell E g k i = .inl (E.2.2.2.1, n, .inr (.inr (.inr (.inr (fun j => (gR g k i j).map (E.1 3)))))) := by
  unfold gcell
  simp [ha, Nat.not_lt.mpr hk]
theorem gcell_o (hk : 20 ≤ k) {n : Nat} (ha : garr k = (3, n)) : gcell E g k i = .inl (E.2.2.2.1, n, .inr (.inr (.inr (.inr (fun j => some (E.1 3 (200 * i + j))))))) := by
  unfold gcell
  simp [ha, Nat.not_lt.mpr hk]
theorem gcell_b (hk : 20 ≤ k) {n : Nat} (ha : garr k = (4, n)) : gcell E g k i = .inl (E.2.2.2.2.1, n, .inr (.inr (.inr (.inr (fun j => some (E.1 0 (175 * i + j))))))) := by
  unfold gcell
  simp [ha, Nat.not_lt.mpr hk]
theorem g_iald (G : CallFix p m c cc nL s args gtbl own) (hw : GW D X ids E A s g H locs) (hid : (k, i) ∈ ids) {n : Nat} (hk : 20 ≤ k) (ha : garr k = (0, n)) {x : Int32} {j : Nat} (hx : ix x n = some j) (hdg : decode cc pc = .ok (.iaload, 1))
    (kk : W p l en R s m args below meth c H locs cells slots Q (F0 m (pc + 1) ls (.int (gI g k i j) :: rest))) : W p l en R s m args below meth c H locs cells slots Q (F0 m pc ls (.int x :: .ref (E.1 k i) :: rest)) := by
  obtain ⟨q, hq, he⟩ := gws_get (X := X) (e := E) (m := g) hid
  rw [gcell_i hk ha] at he
  refine va_iald G.1 G.2.1 hw.1 hw.2.1 (X.length + q) 0 he rfl (ix_in hx) hdg ?_
  rw [ix_eq hx]
  exact kk
theorem g_zald (G : CallFix p m c cc nL s args gtbl own) (hw : GW D X ids E A s g H locs) (hid : (k, i) ∈ ids) {n : Nat} (hk : 20 ≤ k) (ha : garr k = (1, n)) {x : Int32} {j : Nat} (hx : ix x n = some j) (hdg : decode cc pc = .ok (.baload, 1))
    (kk : W p l en R s m args below meth c H locs cells slots Q (F0 m (pc + 1) ls (.int (gI g k i j) :: rest))) : W p l en R s m args below meth c H locs cells slots Q (F0 m pc ls (.int x :: .ref (E.1 k i) :: rest)) := by
  obtain ⟨q, hq, he⟩ := gws_get (X := X) (e := E) (m := g) hid
  rw [gcell_z hk ha] at he
  refine va_zald G.1 G.2.1 hw.1 hw.2.1 (X.length + q) 1 he rfl (ix_in hx) hdg ?_
  rw [ix_eq hx]
  exact kk
theorem g_iast (G : CallFix p m c cc nL s args gtbl own) (hw : GW D X ids E A s g H locs) (hid : (k, i) ∈ ids) {n : Nat} (hk : 20 ≤ k) (ha : garr k = (0, n)) {x v : Int32} {j : Nat} (hx : ix x n = some j) (hdg : decode cc pc = .ok (.iastore, 1))
    (kk : ∀ (H1 : Heap) (locs1 : List Loc), GW D X ids E A s (sI g k i j v) H1 locs1 → W p l en R s m args below meth c H1 locs1 cells slots Q (F0 m (pc + 1) ls rest)) : W p l en R s m args below meth c H locs cells slots Q (F0 m pc ls (.int v :: .int x :: .ref (E.1 k i) :: rest)) := by
  obtain ⟨q, hq, he⟩ := gws_get (X := X) (e := E) (m := g) hid
  rw [gcell_i hk ha] at he
  refine va_iast G.1 G.2.1 hw.1 hw.2.1 hw.2.2.1 hw.2.2.2.1 (X.length + q) 0 he rfl (ix_in hx) hdg (fun H1 locs1 hP hD hS => ?_)
  have e1 : upd (gI g k i) x.toNatClampNeg v = gI (sI g k i j v) k i := by
    funext z
    rw [ix_eq hx, gI_sI]
    unfold upd
    by_cases hz : z = j
    · rw [if_pos hz, if_pos ⟨rfl, rfl, hz⟩]
    · rw [if_neg hz, if_neg (fun q => hz q.2.2)]
  rw [e1, gws_set (m' := sI g k i j v) hw.2.2.1 hq (gcell_i hk ha) (fun a b h => gcell_sI a b h)] at hP hD
  exact kk H1 locs1 ⟨hw.1, hP, hD, hS, hw.2.2.2.2⟩
theorem g_zast (G : CallFix p m c cc nL s args gtbl own) (hw : GW D X ids E A s g H locs) (hid : (k, i) ∈ ids) {n : Nat} (hk : 20 ≤ k) (ha : garr k = (1, n)) {x v : Int32} {j : Nat} (hx : ix x n = some j) (hv : vp_nar .boolean v = v) (hdg : decode cc pc = .ok (.bastore, 1))
    (kk : ∀ (H1 : Heap) (locs1 : List Loc), GW D X ids E A s (sI g k i j v) H1 locs1 → W p l en R s m args below meth c H1 locs1 cells slots Q (F0 m (pc + 1) ls rest)) : W p l en R s m args below meth c H locs cells slots Q (F0 m pc ls (.int v :: .int x :: .ref (E.1 k i) :: rest)) := by
  obtain ⟨q, hq, he⟩ := gws_get (X := X) (e := E) (m := g) hid
  rw [gcell_z hk ha] at he
  refine va_zast G.1 G.2.1 hw.1 hw.2.1 hw.2.2.1 hw.2.2.2.1 (X.length + q) 1 he rfl (ix_in hx) hdg (fun H1 locs1 hP hD hS => ?_)
  have e1 : upd (gI g k i) x.toNatClampNeg (vp_nar .boolean v) = gI (sI g k i j v) k i := by
    funext z
    rw [ix_eq hx, gI_sI, hv]
    unfold upd
    by_cases hz : z = j
    · rw [if_pos hz, if_pos ⟨rfl, rfl, hz⟩]
    · rw [if_neg hz, if_neg (fun q => hz q.2.2)]
  rw [e1, gws_set (m' := sI g k i j v) hw.2.2.1 hq (gcell_z hk ha) (fun a b h => gcell_sI a b h)] at hP hD
  exact kk H1 locs1 ⟨hw.1, hP, hD, hS, hw.2.2.2.2⟩
/-! rows of references -/
theorem g_qald (G : CallFix p m c cc nL s args gtbl own) (hw : GW D X ids E A s g H locs) (hid : (k, i) ∈ ids) {n : Nat} (hk : 20 ≤ k) (ha : garr k = (2, n)) {x : Int32} {j b : Nat} (hx : ix x n = some j) (hb : gR g k i j = some b) (hdg : decode cc pc = .ok (.aaload, 1))
    (kk : W p l en R s m args below meth c H locs cells slots Q (F0 m (pc + 1) ls (.ref (E.1 3 b) :: rest))) : W p l en R s m args below meth c H locs cells slots Q (F0 m pc ls (.int x :: .ref (E.1 k i) :: rest)) := by
  obtain ⟨q, hq, he⟩ := gws_get (X := X) (e := E) (m := g) hid
  rw [gcell_q hk ha] at he
  refine va_aldq G.1 G.2.1 hw.1 hw.2.1 (X.length + q) 2 he rfl (ix_in hx) hdg ?_
  rw [ix_eq hx, hb]
  exact kk
theorem g_oald (G : CallFix p m c cc nL s args gtbl own) (hw : GW D X ids E A s g H locs) (hid : (k, i) ∈ ids) {n : Nat} (hk : 20 ≤ k) (ha : garr k = (3, n)) {x : Int32} {j : Nat} (hx : ix x n = some j) (hdg : decode cc pc = .ok (.aaload, 1))
    (kk : W p l en R s m args below meth c H locs cells slots Q (F0 m (pc + 1) ls (.ref (E.1 3 (200 * i + j)) :: rest))) : W p l en R s m args below meth c H locs cells slots Q (F0 m pc ls (.int x :: .ref (E.1 k i) :: rest)) := by
  obtain ⟨q, hq, he⟩ := gws_get (X := X) (e := E) (m := g) hid
  rw [gcell_o hk ha] at he
  refine va_aldq G.1 G.2.1 hw.1 hw.2.1 (X.length + q) 2 he rfl (ix_in hx) hdg ?_
  rw [ix_eq hx]
  exact kk
theorem g_bald (G : CallFix p m c cc nL s args gtbl own) (hw : GW D X ids E A s g H locs) (hid : (k, i) ∈ ids) {n : Nat} (hk : 20 ≤ k) (ha : garr k = (4, n)) {x : Int32} {j : Nat} (hx : ix x n = some j) (hdg : decode cc pc = .ok (.aaload, 1))
    (kk : W p l en R s m args below meth c H locs cells slots Q (F0 m (pc + 1) ls (.ref (E.1 0 (175 * i + j)) :: rest))) : W p l en R s m args below meth c H locs cells slots Q (F0 m pc ls (.int x :: .ref (E.1 k i) :: rest)) := by
  obtain ⟨q, hq, he⟩ := gws_get (X := X) (e := E) (m := g) hid
  rw [gcell_b hk ha] at he
  refine va_aldq G.1 G.2.1 hw.1 hw.2.1 (X.length + q) 3 he rfl (ix_in hx) hdg ?_
  rw [ix_eq hx]
  exact kk
theorem g_qast (G : CallFix p m c cc nL s args gtbl own) (hw : GW D X ids E A s g H locs) (hid : (k, i) ∈ ids) {n : Nat} (hk : 20 ≤ k) (ha : garr k = (2, n)) {x : Int32} {j b : Nat} (hb : (3, b) ∈ ids) (hx : ix x n = some j) (hdg : decode cc pc = .ok (.aastore, 1))
    (kk : ∀ (H1 : Heap) (locs1 : List Loc), GW D X ids E A s (sR g k i j (some b)) H1 locs1 → W p l en R s m args below meth c H1 locs1 cells slots Q (F0 m (pc + 1) ls rest)) : W p l en R s m args below meth c H locs cells slots Q (F0 m pc ls (.ref (E.1 3 b) :: .int x :: .ref (E.1 k i) :: rest)) := by
  obtain ⟨q, hq, he⟩ := gws_get (X := X) (e := E) (m := g) hid
  obtain ⟨q2, hq2, he2⟩ := gws_get (X := X) (e := E) (m := g) hb
  rw [gcell_q hk ha] at he
  have e0 : gcell E g 3 b = .inr (3, fvals E g 3 b 0 (gly 3)) := rfl
  rw [e0] at he2
  refine va_astq G.1 G.2.1 hw.1 hw.2.1 hw.2.2.1 hw.2.2.2.1 (X.length + q) 2 (X.length + q2) 3 (r := (RX4, TX4, 15)) he rfl he2 rfl (ix_in hx) hdg (fun H1 locs1 hP hD hS => ?_)
  have e1 : va_up (fun j => (gR g k i j).map (E.1 3)) x.toNatClampNeg (some (E.1 3 b)) = fun z => (gR (sR g k i j (some b)) k i z).map (E.1 3) := by
    funext z
    rw [ix_eq hx, gR_sR]
    unfold va_up
    by_cases hz : z = j
    · rw [if_pos hz, if_pos ⟨rfl, rfl, hz⟩]
      rfl
    · rw [if_neg hz, if_neg (fun q => hz q.2.2)]
  rw [e1, gws_set (m' := sR g k i j (some b)) hw.2.2.1 hq (gcell_q hk ha) (fun a b h => gcell_sR a b h)] at hP hD
  exact kk H1 locs1 ⟨hw.1, hP, hD, hS, hw.2.2.2.2⟩
theorem g_ifnull {o : Option Nat} {f : Nat → Nat} {off : Int} {tgt : Nat} (G : CallFix p m c cc nL s args gtbl own) (hdg : decode cc pc = .ok (.ifnull off, 3)) (ht : (pc : Int) + off = (tgt : Int))
    (kt : o = none → W p l en R s m args below meth c H locs cells slots Q (F0 m tgt ls rest)) (kf : ¬ o = none → W p l en R s m args below meth c H locs cells slots Q (F0 m (pc + 3) ls rest)) : W p l en R s m args below meth c H locs cells slots Q (F0 m pc ls (va_rf (o.map f) :: rest)) := by
  cases o with
  | none => exact lv_ifnullN G.1 G.2.1 hdg ht (kt rfl)
  | some a => exact lv_ifnull G.1 G.2.1 hdg (kf (fun h => by cases h))
theorem g_ifnonnull {o : Option Nat} {f : Nat → Nat} {off : Int} {tgt : Nat} (G : CallFix p m c cc nL s args gtbl own) (hdg : decode cc pc = .ok (.ifnonnull off, 3)) (ht : (pc : Int) + off = (tgt : Int))
    (kt : ¬ o = none → W p l en R s m args below meth c H locs cells slots Q (F0 m tgt ls rest)) (kf : o = none → W p l en R s m args below meth c H locs cells slots Q (F0 m (pc + 3) ls rest)) : W p l en R s m args below meth c H locs cells slots Q (F0 m pc ls (va_rf (o.map f) :: rest)) := by
  cases o with
  | none => exact lv_ifnonnullN G.1 G.2.1 hdg (kf rfl)
  | some a => exact lv_ifnonnull G.1 G.2.1 hdg ht (kt (fun h => by cases h))
end GROW
