/-! ===== THE LAW: its start ===== -/
theorem kn_of {s : State} {args : Array Value} (hts : ∀ w ∈ gtbl, w.before args s = true) {k : Nat} {C : String} {T : u_T} {N : Nat} {ty : Nat → FieldType} (hC : gCls k C T N ty) (hit : Cond.instantiable C N ∈ gtbl) : ∃ q : ClassId × (Nat → Nat), ∀ r : vw_C, vwCl[k]? = some r → u_Kn s r.1 r.2.1 r.2.2 q.1 q.2 := by
  obtain ⟨cC, iS, h⟩ := u_known hts hC.2.2.1 (hts _ hit)
  refine ⟨(cC, iS), fun r hr => ?_⟩
  rw [hC.2.1] at hr
  cases hr
  exact h
theorem kn_all {s : State} {args : Array Value} (hts : ∀ w ∈ gtbl, w.before args s = true) : ∃ D : va_G, ∀ (k : Nat) (r : vw_C), vwCl[k]? = some r → u_Kn s r.1 r.2.1 r.2.2 (D.1 k) (D.2 k) := by
  have h : ∀ k : Nat, ∃ q : ClassId × (Nat → Nat), ∀ r : vw_C, vwCl[k]? = some r → u_Kn s r.1 r.2.1 r.2.2 q.1 q.2 := by
    intro k
    match k with
    | 0 => exact kn_of hts C_0 it_X0
    | 1 => exact kn_of hts C_1 it_X1
    | 2 => exact kn_of hts C_2 it_X2
    | 3 => exact kn_of hts C_3 it_X4
    | 4 => exact kn_of hts C_4 it_X5
    | 5 => exact kn_of hts C_5 it_X6
    | 6 => exact kn_of hts C_6 it_X7
    | 7 => exact kn_of hts C_7 it_X8
    | 8 => exact kn_of hts C_8 it_X9
    | 9 => exact kn_of hts C_9 it_X10
    | 10 => exact kn_of hts C_10 it_X11
    | k + 11 =>
      refine ⟨((show ClassId from 0), fun _ => 0), fun r hr => ?_⟩
      have h1 : k + 11 < vwCl.length := (List.getElem?_eq_some_iff.mp hr).1
      have h2 : vwCl.length = 11 := rfl
      omega
  obtain ⟨g, hg⟩ := Classical.axiomOfChoice h
  exact ⟨(fun k => (g k).1, fun k => (g k).2), hg⟩
theorem arr_of {s : State} {args : Array Value} {ty : FieldType} (h : (Cond.arrayClass ty).before args s = true) : ∃ (cA : ClassId) (kA : Class) (comp : ClassId), s.vm.findClass ("[" ++ ty.toString) = some cA ∧ s.vm.classes[cA]? = some kA ∧ kA.kind = .array comp ty := Cond.arrayClass_spec h
theorem arr_in {s : State} {cA : ClassId} {kA : Class} {comp : ClassId} {ty : FieldType} (h2 : s.vm.classes[cA]? = some kA) (h3 : kA.kind = .array comp ty) : ArrOfT s cA ty := fun _ _ => ⟨fun k h => (by cases h), kA, h2, comp, h3⟩
theorem over_of {s : State} {args : Array Value} {C : String} (h : (Cond.arrayOver (.object C)).before args s = true) : ∃ cA : ClassId, ArrOfT s cA (.object C) ∧ va_RA s cA (.object C) := by
  obtain ⟨comp, cA, kA, f1, -, f2, f3, f4⟩ := Cond.arrayOver_spec (va_AO.use (va_AO.of h) (A := args))
  exact ⟨cA, arr_in f2 f3, kA, comp, f2, f3, f1, f4⟩
theorem perm4 {α : Type} (A B : List α) (w : α) : ((A ++ B) ++ [w]).Perm (w :: (B ++ A)) := by
  classical
  rw [List.perm_iff_count]
  intro z
  simp only [List.count_append, List.count_cons, List.count_nil]
  omega
def strT (i : Nat) : Term := .string RX8 (match i with
  | 0 => 73
  | 1 => 82
  | 2 => 87
  | _ => 152)
theorem str_all {s : State} {b : Nat} (hgv : (Jvm.Cond.and given_1 narrow_1).before #[Value.ref b] s = true) {A : Nat → Prop} (hA : ∀ a : Nat, a < s.heap.size → ¬ A a) : ∃ adK adV : Nat → Nat, vk_S 4 lenS bytS adK adV A s s.heap ∧ ∀ i : Nat, i < 4 → (strT i).eval #[Value.ref b] s none [] s = some (.ref (adK i)) := by
  have hq := flat_of_before _ hgv
  refine vk_Sof (tm := strT) ?_ ?_ ?_ ?_ ?_ ?_ ?_ hA
  · intro i hi
    rcases (show i = 0 ∨ i = 1 ∨ i = 2 ∨ i = 3 by omega) with rfl | rfl | rfl | rfl <;> decide
  · intro i hi
    rcases (show i = 0 ∨ i = 1 ∨ i = 2 ∨ i = 3 by omega) with rfl | rfl | rfl | rfl <;> exact hq _ (by decide +kernel)
  · intro i hi
    rcases (show i = 0 ∨ i = 1 ∨ i = 2 ∨ i = 3 by omega) with rfl | rfl | rfl | rfl <;> exact hq _ (by decide +kernel)
  · intro i hi
    rcases (show i = 0 ∨ i = 1 ∨ i = 2 ∨ i = 3 by omega) with rfl | rfl | rfl | rfl <;> exact hq _ (by decide +kernel)
  · intro i hi
    rcases (show i = 0 ∨ i = 1 ∨ i = 2 ∨ i = 3 by omega) with rfl | rfl | rfl | rfl <;> exact hq _ (by decide +kernel)
  · intro i hi j hj
    rcases (show i = 0 ∨ i = 1 ∨ i = 2 ∨ i = 3 by omega) with rfl | rfl | rfl | rfl
    · have hj : j < 2 := hj
      rcases (show j = 0 ∨ j = 1 by omega) with rfl | rfl <;> exact hq _ (by decide +kernel)
    · have hj : j < 5 := hj
      rcases (show j = 0 ∨ j = 1 ∨ j = 2 ∨ j = 3 ∨ j = 4 by omega) with rfl | rfl | rfl | rfl | rfl <;> exact hq _ (by decide +kernel)
    · have hj : j < 1 := hj
      rcases (show j = 0 by omega) with rfl
      exact hq _ (by decide +kernel)
    · have hj : j < 4 := hj
      rcases (show j = 0 ∨ j = 1 ∨ j = 2 ∨ j = 3 by omega) with rfl | rfl | rfl | rfl <;> exact hq _ (by decide +kernel)
  · intro i j hi hj hij
    rcases (show i = 0 ∨ i = 1 ∨ i = 2 ∨ i = 3 by omega) with rfl | rfl | rfl | rfl <;> rcases (show j = 0 ∨ j = 1 ∨ j = 2 ∨ j = 3 by omega) with rfl | rfl | rfl | rfl <;> first | exact absurd rfl hij | exact Or.inl (hq _ (by decide +kernel)) | exact Or.inr (hq _ (by decide +kernel))
set_option maxHeartbeats 4000000 in
set_option maxRecDepth 100000 in
/-- both are made, and the row for the answers -/
theorem law_made {p : Program} {l : Launch} {en : Env} {s : State} {m : MethodId} {below : List Frame} {meth : Method} {c : Code} {b : Nat} {D : va_G} {E : gE} {ls : Array Slot} {Q : State → Prop} (G : CallFix p m c cL_law 7 s #[Value.ref b] gtbl RL) (hK : va_K D vwCl (gtys E) s) (hE : GSA E (fr9 s) s) (hO : AOs s) (hl : lv_has ls 7 [(0, .ref b)])
    (kk : ∀ (F : gE) (o : Nat) (c3 m3 : Mem) (H : Heap) (locs : List Loc) (ls1 : Array Slot), F.2 = E.2 → INVL c3 m3 → va_K D vwCl (gtys F) s → va_P D vwCl (lwW F o (fun _ => 0) m3 c3) H → va_D (fr9 s) (lwW F o (fun _ => 0) m3 c3) → va_S (fr9 s) s.heap H locs → lv_has ls1 7 [(4, .int 0), (3, .ref o), (2, .ref (F.1 10 0)), (1, .ref (F.1 9 0)), (0, .ref b)] → W p l en room_1 s m #[Value.ref b] below meth c H locs 5000 100000 Q (F0 m 23 ls1 [])) : W p l en room_1 s m #[Value.ref b] below meth c s.heap [] 0 0 Q (F0 m 0 ls []) := by
  obtain ⟨c3, m3, e1, e2, hI⟩ := i_init (n := 6000) (by decide)
  have hw : NW D E (fr9 s) s [] s.heap [] := ⟨hK, fun k q hk => by simp at hk, ⟨fun i j p q hi => by simp at hi, fun k q hk => by simp at hk⟩, va_S.rf, fun q h => h, hO⟩
  refine n_new (fs := [.null, .null, .null, .null, .null, .null]) G hw C_9 cl_L_8 it_X10 in_X10 (by decide) (Nat.le_of_ble_eq_true rfl) (Nat.le_of_ble_eq_true rfl) dL_law_0 (fun qK H hw => ?_)
  refine lv_dup G.1 G.2.1 dL_law_3 rfl ?_
  refine n_callG (As := []) (rest := [.ref qK]) G hw hE mi_L_47 (n_X10_init l D E [] qK 6000 c3 e1) hl.1 rfl rfl (Nat.le_of_ble_eq_true rfl) (Nat.le_of_ble_eq_true rfl) (Nat.le_of_ble_eq_true rfl) ⟨(Nat.le_of_ble_eq_true rfl), (Nat.le_of_ble_eq_true rfl)⟩ dL_law_4 (fun W2 H locs hW2 hw => ?_)
  obtain ⟨a1, rfl, hqK, hag⟩ := hW2
  have hw : NW D (a1, E.2) (fr9 s) s (gws idsC (a1, E.2) c3) H locs := hw
  have hE : GSA (a1, E.2) (fr9 s) s := hE
  refine lv_astore_n (lv' := [(1, .ref qK), (0, .ref b)]) G.1 G.2.1 dL_law_7 rfl hl (by decide) rfl (fun ls hl => ?_)
  refine n_new (fs := [.int 0, .null, .int 0, .int 0, .int 0, .int 0, .int 0, .int 0, .int 0, .int 0, .int 0, .null, .null, .null, .null, .null, .int 0, .null, .null, .null, .null, .null, .int 0, .null, .int 0, .int 0, .null, .null, .null, .null, .null, .int 0, .null, .null, .null, .null, .null, .null, .null, .null, .null, .null, .null, .null, .null, .null, .null, .int 0, .long 0, .int 0, .null]) G hw C_10 cl_L_48 it_X11 in_X11 (by decide) (Nat.le_of_ble_eq_true rfl) (Nat.le_of_ble_eq_true rfl) dL_law_8 (fun qM H hw => ?_)
  refine lv_dup G.1 G.2.1 dL_law_11 rfl ?_
  refine n_callG (As := []) (rest := [.ref qM]) G hw hE mi_L_50 (n_X11_init l D (a1, E.2) (gws idsC (a1, E.2) c3) qM 6000 m3 e2) hl.1 rfl rfl (Nat.le_of_ble_eq_true rfl) (Nat.le_of_ble_eq_true rfl) (Nat.le_of_ble_eq_true rfl) ⟨(Nat.le_of_ble_eq_true rfl), (Nat.le_of_ble_eq_true rfl)⟩ dL_law_12 (fun W2 H locs hW2 hw => ?_)
  obtain ⟨a2, rfl, hqM, hag2⟩ := hW2
  refine lv_astore_n (lv' := [(2, .ref qM), (1, .ref qK), (0, .ref b)]) G.1 G.2.1 dL_law_15 rfl hl (by decide) rfl (fun ls hl => ?_)
  refine lv_iconst (v := (1 : Int32)) G.1 G.2.1 dL_law_16 (by decide) ?_
  refine n_newl (N' := 1) G hw ac_long (by decide) rfl (by decide) (Nat.le_of_ble_eq_true rfl) (Nat.le_of_ble_eq_true rfl) dL_law_17 (fun o H hw => ?_)
  refine lv_astore_n (lv' := [(3, .ref o), (2, .ref qM), (1, .ref qK), (0, .ref b)]) G.1 G.2.1 dL_law_19 rfl hl (by decide) rfl (fun ls hl => ?_)
  refine lv_iconst (v := (0 : Int32)) G.1 G.2.1 dL_law_20 (by decide) ?_
  refine lv_istore (lv' := [(4, .int 0), (3, .ref o), (2, .ref qM), (1, .ref qK), (0, .ref b)]) G.1 G.2.1 dL_law_21 hl (by decide) rfl (fun ls hl => ?_)
  have hpm : ((gws idsC (a1, E.2) c3 ++ gws idsM (a2, (a1, E.2).2) m3) ++ [outC (a2, E.2) o (fun _ => 0)]).Perm (lwW (a2, E.2) o (fun _ => 0) m3 c3) := by
    rw [gwsC_e (e := E.2) hag2]
    exact perm4 _ _ _
  have hq1 : a2 9 0 = qK := (hag2 9 0 (by decide) (by decide)).trans hqK
  rw [← hqM, ← hq1] at hl
  refine W.widen (k := 5000) (n := 100000) (Nat.le_of_ble_eq_true rfl) (Nat.le_of_ble_eq_true rfl) ?_
  exact kk (a2, E.2) o c3 m3 H _ ls rfl hI hw.1 (hw.2.1.perm hpm) (hw.2.2.1.perm hpm) hw.2.2.2.1 hl
set_option maxHeartbeats 4000000 in
set_option maxRecDepth 100000 in
theorem whole_start {p : Program} {e : Env} {s : State} {m : MethodId} {below : List Frame} {meth : Method} {c : Code} (l : Launch) (hflags : l.flags = flags0) {b L : Nat} {xs : Nat → Int32} (hL : L ≤ 256) (C0 : lw_At p s m meth c b L xs) : W p l e room_1 s m #[Value.ref b] below meth c s.heap [] 0 0 (lw_Z below #[Value.ref b] s) (entryFrame m ([Value.ref b] : List Value).toArray 7) := by
  obtain ⟨hx, hb, hr, hml, hown, hts, hX, hbl, hlocks, hgv⟩ := C0
  have hlf : l.stackTraces = false := by
    unfold Launch.stackTraces
    rw [hflags]
    decide
  have hq := flat_of_before _ hgv
  have G : CallFix p m c cL_law 7 s #[Value.ref b] gtbl RL := ⟨hx, hb, hml, hown, fun w h => hts w (gt_tbl h)⟩
  have nA : ∀ a : Nat, a < s.heap.size → ¬ fr9 s a := fun a h => Nat.not_le.mpr h
  obtain ⟨D, hD⟩ := kn_all (args := #[Value.ref b]) G.2.2.2.2
  obtain ⟨cI, kI, pI, i1, i2, i3⟩ := arr_of (G.2.2.2.2 _ ac_int)
  obtain ⟨cZ, kZ, pZ, z1, z2, z3⟩ := arr_of (G.2.2.2.2 _ ac_boolean)
  obtain ⟨cL, kL, pL, l1, l2, l3⟩ := arr_of (G.2.2.2.2 _ ac_long)
  obtain ⟨cO, o1, o2⟩ := over_of (C := "CycleSynthesis$Operation") (hts _ (by decide +kernel))
  obtain ⟨cB, b1', b2⟩ := over_of (C := "CycleSynthesis$Block") (hts _ (by decide +kernel))
  obtain ⟨adK, adV, hS, hSe⟩ := str_all hgv nA
  have hK : va_K D vwCl (gtys ((fun _ _ => 0, cI, cZ, cO, cB, cL, adK, adV) : gE)) s := by
    refine ⟨hD, fun k q hk => ?_⟩
    match k with
    | 0 => cases hk; exact ⟨arr_in i2 i3, i1⟩
    | 1 => cases hk; exact ⟨arr_in z2 z3, z1⟩
    | 2 => cases hk; exact ⟨o1, o2⟩
    | 3 => cases hk; exact ⟨b1', b2⟩
    | 4 => cases hk; exact ⟨arr_in l2 l3, l1⟩
    | k + 5 => cases hk
  have hE : GSA ((fun _ _ => 0, cI, cZ, cO, cB, cL, adK, adV) : gE) (fr9 s) s := by
    refine ⟨hS, ⟨vk_R.of (A := #[Value.ref b]) (hts _ (by decide +kernel)) (hSe 0 (by decide)), vk_R.of (A := #[Value.ref b]) (hts _ (by decide +kernel)) (hSe 1 (by decide)), vk_R.of (A := #[Value.ref b]) (hts _ (by decide +kernel)) (hSe 2 (by decide)), vk_R.of (A := #[Value.ref b]) (hts _ (by decide +kernel)) (hSe 3 (by decide))⟩, ?_, ?_⟩
    · exact va_Zof (args := #[Value.ref b]) (hts _ (by decide +kernel)) (hts _ (by decide +kernel)) (va_eqt (hq _ (by decide +kernel))) nA
    · exact va_Zqof (args := #[Value.ref b]) (hts _ (by decide +kernel)) (hts _ (by decide +kernel)) (hq _ (by decide +kernel)) nA
  have hT : STK (fr9 s) s := by
    refine ⟨?_, ?_, ?_, ?_, ?_, ?_, ?_, ?_⟩
    · exact vx_Zqof (args := #[Value.ref b]) (hts _ (by decide +kernel)) (hts _ (by decide +kernel)) (hq _ (by decide +kernel)) nA
    · exact vx_Zqof (args := #[Value.ref b]) (hts _ (by decide +kernel)) (hts _ (by decide +kernel)) (hq _ (by decide +kernel)) nA
    · exact va_Nw.of (A := #[Value.ref b]) rfl (hts _ (by decide +kernel))
    · exact va_Nw.of (A := #[Value.ref b]) rfl (hts _ (by decide +kernel))
    · exact va_Nw.of (A := #[Value.ref b]) rfl (hts _ (by decide +kernel))
    · exact va_Nw.of (A := #[Value.ref b]) rfl (hts _ (by decide +kernel))
    · exact va_Nw.of (A := #[Value.ref b]) rfl (hts _ (by decide +kernel))
    · exact va_Nc.of (args := #[Value.ref b]) (hq _ (by decide +kernel))
  have hO : AOs s := ⟨va_AO.of (A := #[Value.ref b]) (hts _ (by decide +kernel)), va_AO.of (A := #[Value.ref b]) (hts _ (by decide +kernel)), va_Nw.of (A := #[Value.ref b]) rfl (hts _ (by decide +kernel)), va_Nw.of (A := #[Value.ref b]) rfl (hts _ (by decide +kernel))⟩
  have hl := lv_entry ([.ref b]) (n := 7) (Nat.le_of_ble_eq_true rfl)
  rw [lg_entry_eq]
  generalize (lg_sl ([.ref b]) ++ List.replicate (7 - (lg_sl ([.ref b])).length) Slot.unset).toArray = ls at hl ⊢
  have hl : lv_has ls 7 [(0, .ref b)] := hl
  refine law_made G hK hE hO hl (fun F o c3 m3 H locs ls hF hI hK hP hDd hS2 hl => ?_)
  have hE' : GSA F (fr9 s) s := by
    unfold GSA at hE ⊢
    rw [hF]
    exact hE
  exact law_loop (E := F) hlf G hr hlocks hX hbl hL 65 0 (fun _ => 0) m3 c3 H locs ls rfl (Nat.zero_le _) ⟨hK, hP, hDd, hS2, hE', hT, fun q h => h⟩ hI hl
