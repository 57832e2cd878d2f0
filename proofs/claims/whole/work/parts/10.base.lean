/-! ===== THE WORDS: the good words of the tables, as one list that every method's contract has ===== -/
def gtbl : List Cond := lw_tbl.filter goodWord
theorem gt_in {w : Cond} (i : Nat) (h : lw_tbl[i]? = some w) (hg : goodWord w = true) : w ∈ gtbl := List.mem_filter.mpr ⟨List.mem_of_getElem? h, hg⟩
theorem gt_tbl {w : Cond} (h : w ∈ gtbl) : w ∈ lw_tbl := (List.mem_filter.mp h).1
theorem gt_good {c1 : Cond} {ws : List Cond} (hs : ∀ w ∈ gtbl, w ∈ ws) (h1 : c1 ∈ gtbl) : GoodIn ws (c1 :: gtbl) := by
  intro w hw
  have h : w ∈ gtbl := (List.mem_cons.mp hw).elim (fun e => by rw [e]; exact h1) id
  exact ⟨hs w h, good_of_word (List.mem_filter.mp h).2⟩
/-! ===== THE MEMORY: ints, references (to things of a known kind) and longs, by kind, index and place ===== -/
abbrev Mem : Type := (Nat → Nat → Nat → Int32) × (Nat → Nat → Nat → Option Nat) × (Nat → Nat → Int64)
def gI (m : Mem) (k i j : Nat) : Int32 := m.1 k i j
def gR (m : Mem) (k i j : Nat) : Option Nat := m.2.1 k i j
def gL (m : Mem) (k i : Nat) : Int64 := m.2.2 k i
def sI (m : Mem) (k i j : Nat) (v : Int32) : Mem := (fun a b c => if a = k ∧ b = i ∧ c = j then v else m.1 a b c, m.2.1, m.2.2)
def sR (m : Mem) (k i j : Nat) (v : Option Nat) : Mem := (m.1, fun a b c => if a = k ∧ b = i ∧ c = j then v else m.2.1 a b c, m.2.2)
def sL (m : Mem) (k i : Nat) (v : Int64) : Mem := (m.1, m.2.1, fun a b => if a = k ∧ b = i then v else m.2.2 a b)
theorem gI_sI (m : Mem) (k i j : Nat) (v : Int32) (a b c : Nat) : gI (sI m k i j v) a b c = if a = k ∧ b = i ∧ c = j then v else gI m a b c := rfl
theorem gI_sR (m : Mem) (k i j : Nat) (v : Option Nat) (a b c : Nat) : gI (sR m k i j v) a b c = gI m a b c := rfl
theorem gI_sL (m : Mem) (k i : Nat) (v : Int64) (a b c : Nat) : gI (sL m k i v) a b c = gI m a b c := rfl
theorem gR_sI (m : Mem) (k i j : Nat) (v : Int32) (a b c : Nat) : gR (sI m k i j v) a b c = gR m a b c := rfl
theorem gR_sR (m : Mem) (k i j : Nat) (v : Option Nat) (a b c : Nat) : gR (sR m k i j v) a b c = if a = k ∧ b = i ∧ c = j then v else gR m a b c := rfl
theorem gR_sL (m : Mem) (k i : Nat) (v : Int64) (a b c : Nat) : gR (sL m k i v) a b c = gR m a b c := rfl
theorem gL_sI (m : Mem) (k i j : Nat) (v : Int32) (a b : Nat) : gL (sI m k i j v) a b = gL m a b := rfl
theorem gL_sR (m : Mem) (k i j : Nat) (v : Option Nat) (a b : Nat) : gL (sR m k i j v) a b = gL m a b := rfl
theorem gL_sL (m : Mem) (k i : Nat) (v : Int64) (a b : Nat) : gL (sL m k i v) a b = if a = k ∧ b = i then v else gL m a b := rfl
/-- an index within a row -/
def ix (i : Int32) (n : Nat) : Option Nat := if i < 0 ∨ n ≤ i.toNatClampNeg then none else some i.toNatClampNeg
theorem ix_in {i : Int32} {n k : Nat} (h : ix i n = some k) : vp_in i n := by
  unfold ix at h
  split at h
  · cases h
  · assumption
theorem ix_eq {i : Int32} {n k : Nat} (h : ix i n = some k) : i.toNatClampNeg = k := by
  unfold ix at h
  split at h
  · cases h
  · exact Option.some.inj h
theorem ix_lt {i : Int32} {n k : Nat} (h : ix i n = some k) : k < n := by
  have h1 := ix_in h
  have h2 := ix_eq h
  unfold vp_in at h1
  omega
theorem ix_nI {n N : Nat} (h : n < N) (hN : N < 2 ^ 31) : ix (nI n) N = some n := by
  unfold ix
  rw [if_neg (nI_in h hN), nI_clamp (by omega)]
def lt9 {α β : Type} (a : α) (f : α → Option β) : Option β := f a
theorem lt9_some {α β : Type} {a : α} {f : α → Option β} {r : β} (h : lt9 a f = some r) : ∃ x, x = a ∧ f x = some r := ⟨a, rfl, h⟩
theorem bd_some {α β : Type} {a : Option α} {f : α → Option β} {r : β} (h : a.bind f = some r) : ∃ x, a = some x ∧ f x = some r := Option.bind_eq_some_iff.mp h
theorem ck_some {β : Type} {c : Prop} [Decidable c] {a : Option β} {r : β} (h : (if c then a else none) = some r) : c ∧ a = some r := by
  by_cases hc : c
  · rw [if_pos hc] at h
    exact ⟨hc, h⟩
  · rw [if_neg hc] at h
    cases h
/-! ===== THE WORLD: which cell holds what of the memory ===== -/
/-- the addresses of the things, the classes of the rows (ints, booleans, operations, blocks, longs), the addresses of the written texts and of their bytes -/
abbrev gE : Type := (Nat → Nat → Nat) × ClassId × ClassId × ClassId × ClassId × ClassId × (Nat → Nat) × (Nat → Nat)
/-- a field's value: 0 an int, 1 a long, 1000 + k the one thing of kind k with the same index, 2000 + k null or a thing of kind k -/
def fval (e : gE) (m : Mem) (k i j t : Nat) : Value :=
  if t = 0 then .int (gI m k i j) else if t = 1 then .long (gL m k i) else if t < 2000 then .ref (e.1 (t - 1000) i) else va_rf ((gR m k i j).map (e.1 (t - 2000)))
def fvals (e : gE) (m : Mem) (k i : Nat) : Nat → List Nat → List Value
  | _, [] => []
  | j, t :: ts => fval e m k i j t :: fvals e m k i (j + 1) ts
/-- the fields of a kind of objects -/
def gly : Nat → List Nat
  | 0 => [0, 0, 0, 0, 0, 0, 0]
  | 1 => [1023, 1024, 1025, 1026, 1027, 0]
  | 2 => [1028, 1029, 1030, 2004, 0, 1]
  | 3 => [0, 0, 0, 0, 0, 0, 0, 0, 0, 0, 0, 0, 0, 0, 0]
  | 4 => [1031, 1032, 0, 0]
  | 5 => [1006, 0]
  | 6 => [1020, 0]
  | 7 => [1005, 1008, 2004, 0, 0, 0, 0]
  | 8 => [1021, 1022, 0, 2004, 2000, 0]
  | 9 => [1006, 1007, 1001, 1002, 2004, 2004]
  | _ => [0, 1101, 0, 0, 0, 0, 0, 0, 0, 0, 0, 1111, 1112, 1113, 1114, 1115, 0, 1117, 1118, 1119, 1120, 1121, 0, 1123, 0, 0, 1126, 1127, 1128, 1129, 1130, 0, 1132, 1133, 1134, 1135, 1136, 1137, 1138, 1139, 1140, 1141, 1142, 1143, 1144, 1145, 1146, 0, 1, 0, 1150]
/-- the rows: what they hold (0 ints, 1 booleans, 2 operations or null, 3 all operations of a program, 4 all its blocks), and their length -/
def garr : Nat → Nat × Nat
  | 20 => (0, 700)
  | 21 => (0, 350)
  | 22 => (0, 350)
  | 23 => (0, 3)
  | 24 => (0, 4)
  | 25 => (0, 12)
  | 26 => (0, 200)
  | 27 => (2, 200)
  | 28 => (0, 8)
  | 29 => (0, 16)
  | 30 => (0, 200)
  | 31 => (3, 200)
  | 32 => (4, 175)
  | 101 => (0, 700)
  | 111 => (0, 200)
  | 112 => (0, 400)
  | 113 => (0, 400)
  | 114 => (0, 200)
  | 115 => (0, 200)
  | 117 => (0, 800)
  | 118 => (0, 800)
  | 119 => (0, 800)
  | 120 => (0, 800)
  | 121 => (1, 800)
  | 123 => (0, 1600)
  | 126 => (0, 200)
  | 127 => (0, 400)
  | 128 => (0, 400)
  | 129 => (0, 200)
  | 130 => (0, 200)
  | 132 => (0, 800)
  | 133 => (0, 800)
  | 134 => (0, 800)
  | 135 => (0, 800)
  | 136 => (1, 800)
  | 137 => (0, 3)
  | 138 => (0, 4)
  | 139 => (0, 200)
  | 140 => (0, 200)
  | 141 => (0, 200)
  | 142 => (0, 200)
  | 143 => (0, 800)
  | 144 => (0, 8)
  | 145 => (0, 16)
  | 146 => (0, 200)
  | 150 => (0, 200)
  | _ => (9, 0)
def gcell (e : gE) (m : Mem) (k i : Nat) : va_E :=
  if k < 20 then .inr (k, fvals e m k i 0 (gly k))
  else if (garr k).1 = 0 then .inl (e.2.1, (garr k).2, .inl (gI m k i))
  else if (garr k).1 = 1 then .inl (e.2.2.1, (garr k).2, .inl (gI m k i))
  else if (garr k).1 = 2 then .inl (e.2.2.2.1, (garr k).2, .inr (.inr (.inr (.inr (fun j => (gR m k i j).map (e.1 3))))))
  else if (garr k).1 = 3 then .inl (e.2.2.2.1, (garr k).2, .inr (.inr (.inr (.inr (fun j => some (e.1 3 (200 * i + j)))))))
  else .inl (e.2.2.2.2.1, (garr k).2, .inr (.inr (.inr (.inr (fun j => some (e.1 0 (175 * i + j)))))))
theorem fvals_congr {e : gE} {m m' : Mem} {k i : Nat} (h1 : ∀ j, gI m' k i j = gI m k i j) (h2 : ∀ j, gR m' k i j = gR m k i j) (h3 : gL m' k i = gL m k i) : ∀ (ts : List Nat) (j : Nat), fvals e m' k i j ts = fvals e m k i j ts
  | [], _ => rfl
  | t :: ts, j => by
    rw [fvals, fvals, fvals_congr h1 h2 h3 ts (j + 1)]
    congr 1
    unfold fval
    rw [h1, h2, h3]
theorem gcell_congr {e : gE} {m m' : Mem} {k i : Nat} (h1 : ∀ j, gI m' k i j = gI m k i j) (h2 : ∀ j, gR m' k i j = gR m k i j) (h3 : gL m' k i = gL m k i) : gcell e m' k i = gcell e m k i := by
  have g1 : gI m' k i = gI m k i := funext h1
  have g2 : (fun j => (gR m' k i j).map (e.1 3)) = fun j => (gR m k i j).map (e.1 3) := funext fun j => by rw [h2]
  unfold gcell
  rw [fvals_congr h1 h2 h3, g1, g2]
theorem fvals_get {e : gE} {m : Mem} {k i : Nat} : ∀ (ts : List Nat) (j0 j t : Nat), ts[j]? = some t → (fvals e m k i j0 ts)[j]? = some (fval e m k i (j0 + j) t)
  | [], _, _, _, h => by simp at h
  | t0 :: ts, j0, 0, t, h => by
    rw [List.getElem?_cons_zero] at h
    cases h
    rfl
  | t0 :: ts, j0, j + 1, t, h => by
    rw [List.getElem?_cons_succ] at h
    rw [fvals, List.getElem?_cons_succ, fvals_get ts (j0 + 1) j t h, show j0 + 1 + j = j0 + (j + 1) by omega]
theorem fvals_len {e : gE} {m : Mem} {k i : Nat} : ∀ (ts : List Nat) (j0 : Nat), (fvals e m k i j0 ts).length = ts.length
  | [], _ => rfl
  | t0 :: ts, j0 => by rw [fvals, List.length_cons, fvals_len ts, List.length_cons]
theorem fvals_set {e : gE} {m m' : Mem} {k i : Nat} {v : Value} : ∀ (ts : List Nat) (j0 j t : Nat), ts[j]? = some t → fval e m' k i (j0 + j) t = v → (∀ (j2 t2 : Nat), ts[j2]? = some t2 → j2 ≠ j → fval e m' k i (j0 + j2) t2 = fval e m k i (j0 + j2) t2) → (fvals e m k i j0 ts).set j v = fvals e m' k i j0 ts
  | [], _, _, _, h, _, _ => by simp at h
  | t0 :: ts, j0, 0, t, h, hv, ho => by
    rw [List.getElem?_cons_zero] at h
    cases h
    rw [fvals, fvals, List.set_cons_zero, ← hv]
    congr 1
    have key : ∀ (us : List Nat) (d : Nat), (∀ (j2 t2 : Nat), us[j2]? = some t2 → fval e m' k i (d + j2) t2 = fval e m k i (d + j2) t2) → fvals e m k i d us = fvals e m' k i d us := by
      intro us
      induction us with
      | nil => intro d _; rfl
      | cons u us ih =>
        intro d hd
        rw [fvals, fvals, ih (d + 1) (fun j2 t2 h2 => by have := hd (j2 + 1) t2 (by rw [List.getElem?_cons_succ]; exact h2); rw [show d + 1 + j2 = d + (j2 + 1) by omega]; exact this)]
        congr 1
        exact (hd 0 u rfl).symm
    exact key ts (j0 + 1) (fun j2 t2 h2 => by have := ho (j2 + 1) t2 (by rw [List.getElem?_cons_succ]; exact h2) (by omega); rw [show j0 + 1 + j2 = j0 + (j2 + 1) by omega]; exact this)
  | t0 :: ts, j0, j + 1, t, h, hv, ho => by
    rw [List.getElem?_cons_succ] at h
    rw [fvals, fvals, List.set_cons_succ]
    congr 1
    · exact (ho 0 t0 rfl (by omega)).symm
    · exact fvals_set ts (j0 + 1) j t h (by rw [show j0 + 1 + j = j0 + (j + 1) by omega]; exact hv) (fun j2 t2 h2 hne => by have := ho (j2 + 1) t2 (by rw [List.getElem?_cons_succ]; exact h2) (by omega); rw [show j0 + 1 + j2 = j0 + (j2 + 1) by omega]; exact this)
def gws (ids : List (Nat × Nat)) (e : gE) (m : Mem) : va_W := ids.map (fun z => (e.1 z.1 z.2, gcell e m z.1 z.2))
theorem gws_get {X : va_W} {ids : List (Nat × Nat)} {e : gE} {m : Mem} {k i : Nat} (h : (k, i) ∈ ids) : ∃ q : Nat, ids[q]? = some (k, i) ∧ (X ++ gws ids e m)[X.length + q]? = some (e.1 k i, gcell e m k i) := by
  obtain ⟨q, hq⟩ := List.getElem?_of_mem h
  refine ⟨q, hq, ?_⟩
  rw [List.getElem?_append_right (by omega), show X.length + q - X.length = q by omega]
  unfold gws
  rw [List.getElem?_map, hq]
  rfl
theorem gws_set {A : Nat → Prop} {X : va_W} {ids : List (Nat × Nat)} {e : gE} {m m' : Mem} {k i q : Nat} {c : va_E} (hD : va_D A (X ++ gws ids e m)) (hq : ids[q]? = some (k, i)) (h1 : gcell e m' k i = c) (h2 : ∀ a b : Nat, ¬ (a = k ∧ b = i) → gcell e m' a b = gcell e m a b) :
    (X ++ gws ids e m).set (X.length + q) (e.1 k i, c) = X ++ gws ids e m' := by
  have hlen : (gws ids e m).length = ids.length := by unfold gws; rw [List.length_map]
  have hql : q < ids.length := (List.getElem?_eq_some_iff.mp hq).1
  have uniq : ∀ r : Nat, ids[r]? = some (k, i) → r = q := by
    intro r hr
    have e1 : (X ++ gws ids e m)[X.length + r]? = some (e.1 k i, gcell e m k i) := by
      rw [List.getElem?_append_right (by omega), show X.length + r - X.length = r by omega]
      unfold gws
      rw [List.getElem?_map, hr]
      rfl
    have e2 : (X ++ gws ids e m)[X.length + q]? = some (e.1 k i, gcell e m k i) := by
      rw [List.getElem?_append_right (by omega), show X.length + q - X.length = q by omega]
      unfold gws
      rw [List.getElem?_map, hq]
      rfl
    have := hD.1 _ _ _ _ e1 e2 rfl
    omega
  rw [List.set_append, if_neg (by omega), show X.length + q - X.length = q by omega]
  congr 1
  refine List.ext_getElem? (fun r => ?_)
  rw [List.getElem?_set]
  by_cases hr : q = r
  · subst hr
    rw [if_pos rfl, if_pos (by omega)]
    unfold gws
    rw [List.getElem?_map, hq]
    show _ = some (e.1 k i, gcell e m' k i)
    rw [h1]
  · rw [if_neg hr]
    unfold gws
    rw [List.getElem?_map, List.getElem?_map]
    cases hz : ids[r]? with
    | none => rfl
    | some z =>
      show some (e.1 z.1 z.2, gcell e m z.1 z.2) = some (e.1 z.1 z.2, gcell e m' z.1 z.2)
      rw [h2 z.1 z.2 (fun hz2 => hr (by
        have : z = (k, i) := Prod.ext hz2.1 hz2.2
        rw [this] at hz
        exact (uniq r hz).symm))]
def gtys (e : gE) : List (ClassId × FieldType) := [(e.2.1, .int), (e.2.2.1, .boolean), (e.2.2.2.1, .object "CycleSynthesis$Operation"), (e.2.2.2.2.1, .object "CycleSynthesis$Block"), (e.2.2.2.2.2.1, .long)]
/-- what a method may change: its world's cells, and those that it makes -/
def gA (X : va_W) (ids : List (Nat × Nat)) (e : gE) (sz : Nat) : Nat → Prop := fun q => ((∃ (k : Nat) (c : va_E), X[k]? = some (q, c)) ∨ ∃ z ∈ ids, q = e.1 z.1 z.2) ∨ sz ≤ q
theorem gA_in {X : va_W} {ids : List (Nat × Nat)} {e : gE} {m : Mem} {sz k : Nat} {q : Nat × va_E} (h : (X ++ gws ids e m)[k]? = some q) : gA X ids e sz q.1 := by
  left
  rcases List.mem_append.mp (List.mem_of_getElem? h) with h1 | h1
  · obtain ⟨j, hj⟩ := List.getElem?_of_mem h1
    exact Or.inl ⟨j, q.2, hj⟩
  · obtain ⟨z, hz, he⟩ := List.mem_map.mp h1
    exact Or.inr ⟨z, hz, by rw [← he]⟩
/-- the written texts: if, while, m, else -/
def lenS : List Nat := [2, 5, 1, 4]
def bytS : List (List Int32) := [[105, 102], [119, 104, 105, 108, 101], [109], [101, 108, 115, 101]]
/-- the written texts lie in the heap, outside of what A may change, and the translator's constants are resolved to them -/
def GSA (e : gE) (A : Nat → Prop) (U : State) : Prop :=
  vk_S 4 lenS bytS e.2.2.2.2.2.2.1 e.2.2.2.2.2.2.2 A U U.heap ∧ (vk_R RX8 73 "if" (e.2.2.2.2.2.2.1 0) U ∧ vk_R RX8 82 "while" (e.2.2.2.2.2.2.1 1) U ∧ vk_R RX8 87 "m" (e.2.2.2.2.2.2.1 2) U ∧ vk_R RX8 152 "else" (e.2.2.2.2.2.2.1 3) U) ∧ va_Z "java/lang/String" "COMPACT_STRINGS" "Z" (.int 1) A U U.heap ∧ va_Zq "jdk/internal/util/Preconditions" "SIOOBE_FORMATTER" "Ljava/util/function/BiFunction;" A U U.heap
/-- a state that holds the memory -/
def GP (D : va_G) (X : va_W) (ids : List (Nat × Nat)) (e : gE) (m : Mem) (U : State) : Prop := va_P D vwCl (X ++ gws ids e m) U.heap ∧ va_K D vwCl (gtys e) U ∧ va_D (fun _ => True) (X ++ gws ids e m)
/-- within a method: the heap holds the memory, and nothing else of the start has changed -/
def GW (D : va_G) (X : va_W) (ids : List (Nat × Nat)) (e : gE) (A : Nat → Prop) (s : State) (m : Mem) (H : Heap) (locs : List Loc) : Prop := va_K D vwCl (gtys e) s ∧ va_P D vwCl (X ++ gws ids e m) H ∧ va_D A (X ++ gws ids e m) ∧ va_S A s.heap H locs ∧ GSA e A s
/-- what a method leaves: its answer, a world, and the frame -/
def gQ (rv : Option Value) (B : State → Prop) (A : Nat → Prop) : Array Value → State → Outcome → State → Prop := fun _ st oc t => (oc = .returned rv ∧ B t) ∧ va_F A st t
/-- a method's contract: from the memory m with these arguments it answers rv and leaves the memory m' -/
def gMet (l : Launch) (y : MethodName) (cc : ByteArray) (maxL : Nat) (ret : Option FieldType) (fr lo : Nat) (D : va_G) (X : va_W) (ids : List (Nat × Nat)) (e : gE) (av : List Value) (m : Mem) (rv : Option Value) (m' : Mem) : Prop :=
  ∀ sz : Nat, Met l y (.code y cc maxL ret :: gtbl) { frames := fr, cells := 0, slots := 0, locals := lo } (va_Pc av (fun U => U.heap.size = sz ∧ GP D X ids e m U ∧ GSA e (gA X ids e sz) U)) (gQ rv (GP D X ids e m') (gA X ids e sz)) 0 0 (gA X ids e sz)
