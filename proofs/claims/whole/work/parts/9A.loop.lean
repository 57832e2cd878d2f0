/-! ===== THE LAW ===== -/
theorem ac_long : Cond.arrayClass .long ∈ gtbl := gt_in 1458 (by decide +kernel) (by decide +kernel)
theorem cl_L_48 : Cond.classLink RL 48 RX11 ∈ gtbl := gt_in 1015 (by decide +kernel) (by decide +kernel)
theorem cl_L_8 : Cond.classLink RL 8 RX10 ∈ gtbl := gt_in 111 (by decide +kernel) (by decide +kernel)
theorem in_X10 : Cond.initialized RX10 ∈ gtbl := gt_in 89 (by decide +kernel) (by decide +kernel)
theorem in_X11 : Cond.initialized RX11 ∈ gtbl := gt_in 99 (by decide +kernel) (by decide +kernel)
theorem it_X10 : Cond.instantiable RX10 6 ∈ gtbl := gt_in 112 (by decide +kernel) (by decide +kernel)
theorem it_X11 : Cond.instantiable RX11 51 ∈ gtbl := gt_in 1016 (by decide +kernel) (by decide +kernel)
theorem mi_L_47 : gN RL 47 yX10_init cX10_init 1 0 := ⟨gt_in 113 (by decide +kernel) (by decide +kernel), gt_in 114 (by decide +kernel) (by decide +kernel), gt_in 89 (by decide +kernel) (by decide +kernel), gt_in 115 (by decide +kernel) (by decide +kernel), rfl, by decide +kernel, by decide +kernel, by decide +kernel⟩
theorem mi_L_50 : gN RL 50 yX11_init cX11_init 1 0 := ⟨gt_in 1017 (by decide +kernel) (by decide +kernel), gt_in 1018 (by decide +kernel) (by decide +kernel), gt_in 99 (by decide +kernel) (by decide +kernel), gt_in 1019 (by decide +kernel) (by decide +kernel), rfl, by decide +kernel, by decide +kernel, by decide +kernel⟩
/-! THE CLAIM OUT OF ONE WALK OF THE LAW'S BODY. Your part is whole_start (and what it stands on); all else here is the same for every law, but numbers. -/
def R_law : String := "CycleSynthesisLaw"
def lw_P (b : Addr) (xs : List Int32) (args : Array Value) (s : State) : Prop := args = #[.ref b] ∧ s.IntsAt b xs ∧ xs.length ≤ 256 ∧ (Jvm.Cond.and given_1 narrow_1).before args s = true
def lw_Q (_ : Array Value) (s : State) (o : Outcome) (t : State) : Prop := o = .returned (some (.int 1)) ∧ Framed s o t [] 600128 7301098
def lw_Z (below : List Frame) (a : Array Value) (s : State) : State → Prop := fun t => ∃ o, t.status = .running ∧ Ended t below o ∧ lw_Q a s o t
/-- the law's own end, with 1 on the stack, nothing written that was there before, its room as the claim has it -/
theorem lw_ret {p : Program} {l : Launch} {e : Env} {s : State} {m : MethodId} {below : List Frame} {meth : Method} {c : Code} {b : Nat} (hx : p.tables.exec = Jvm.exec) (hb : c.code = code) (hr : meth.sig.returnType = ret) (hlocks : meth.locks = false) {pc : Nat} {H : Heap} {ls : Array Slot} (hdg : decode code pc = .ok (.ireturn, 1)) : W p l e room_1 s m #[Value.ref b] below meth c H [] 600128 7301098 (lw_Z below #[Value.ref b] s) (F0 m pc ls [.int 1]) := by
  intro T hT X
  obtain ⟨fs, hret, hrun, hended, hW, hframe⟩ := X.leave (v := some (.int 1)) (hlocks := hlocks) (fun h => by rw [hr] at h; cases h)
  have hmeth' : T.vm.method? m = some meth := X.method'
  refine ⟨T.setFrames fs, ?_, .returned (some (.int 1)), hrun, hended, rfl, ⟨_, rfl⟩, hW, hframe⟩
  jvm_step X.here [X.here.top, hx, hb, hdg, hmeth', hr, ret, narrow_b1]
  (try refine ⟨rfl, ?_⟩); (try refine ⟨rfl, ?_⟩)
  first | (intro acts; rw [hret _ acts rfl rfl rfl]) | rw [hret _ _ rfl rfl rfl]
  exact Steps.refl _
/-- what holds at the law's entry: the machine, the code, the tables' words (any of lw_tbl by 'hts w (by decide +kernel)'), the script of L ints xs at the cell b, what the Statement gives of the start (any of its parts by flat_of_before) -/
def lw_At (p : Program) (s : State) (m : MethodId) (meth : Method) (c : Code) (b L : Nat) (xs : Nat → Int32) : Prop :=
  p.tables.exec = Jvm.exec ∧ c.code = code ∧ meth.sig.returnType = ret ∧ c.maxLocals = 7 ∧ s.vm.findClass R_law = some m.cls ∧ (∀ w ∈ lw_tbl, w.before #[Value.ref b] s = true) ∧ va_X b L xs s s.heap ∧ b < s.heap.size ∧ meth.locks = false ∧ (Jvm.Cond.and given_1 narrow_1).before #[Value.ref b] s = true
/-- the class's addresses alone -/
theorem fvals_e {e1 e2 : Nat → Nat → Nat} {e : ClassId × ClassId × ClassId × ClassId × ClassId × (Nat → Nat) × (Nat → Nat)} {g : Mem} {k i : Nat} (h : ∀ a b : Nat, a < 100 → a ≠ 10 → e2 a b = e1 a b) : ∀ (ts : List Nat) (j : Nat), (∀ t ∈ ts, t < 2 ∨ (1000 ≤ t ∧ t < 1100 ∧ t ≠ 1010) ∨ (2000 ≤ t ∧ t < 2100 ∧ t ≠ 2010)) → fvals (e2, e) g k i j ts = fvals (e1, e) g k i j ts
  | [], _, _ => rfl
  | t :: ts, j, ht => by
    rw [fvals, fvals, fvals_e h ts (j + 1) (fun t h1 => ht t (List.mem_cons_of_mem _ h1))]
    congr 1
    unfold fval
    rcases ht t List.mem_cons_self with h1 | ⟨h1, h2, h3⟩ | ⟨h1, h2, h3⟩
    · by_cases h2 : t = 0
      · rw [if_pos h2, if_pos h2]
      · rw [if_neg h2, if_neg h2, if_pos (show t = 1 by omega), if_pos (show t = 1 by omega)]
    · rw [if_neg (show ¬ t = 0 by omega), if_neg (show ¬ t = 0 by omega), if_neg (show ¬ t = 1 by omega), if_neg (show ¬ t = 1 by omega), if_pos (show t < 2000 by omega), if_pos (show t < 2000 by omega)]
      show Value.ref (e2 (t - 1000) i) = .ref (e1 (t - 1000) i)
      rw [h _ _ (by omega) (by omega)]
    · rw [if_neg (show ¬ t = 0 by omega), if_neg (show ¬ t = 0 by omega), if_neg (show ¬ t = 1 by omega), if_neg (show ¬ t = 1 by omega), if_neg (show ¬ t < 2000 by omega), if_neg (show ¬ t < 2000 by omega)]
      show va_rf ((gR g k i j).map (e2 (t - 2000))) = va_rf ((gR g k i j).map (e1 (t - 2000)))
      rw [show e2 (t - 2000) = e1 (t - 2000) from funext fun z => h _ _ (by omega) (by omega)]
theorem gly_e : ∀ k, k < 10 → ∀ t ∈ gly k, t < 2 ∨ (1000 ≤ t ∧ t < 1100 ∧ t ≠ 1010) ∨ (2000 ≤ t ∧ t < 2100 ∧ t ≠ 2010) := by decide
theorem fixC_e : ∀ z ∈ fixC, z.1 < 33 ∧ z.1 ≠ 10 ∧ (z.1 < 10 ∨ 20 ≤ z.1) := by decide
theorem idsC_e {z : Nat × Nat} (h : z ∈ idsC) : z.1 < 33 ∧ z.1 ≠ 10 ∧ (z.1 < 10 ∨ 20 ≤ z.1) := by
  unfold idsC at h
  rcases List.mem_append.mp h with h | h
  · exact fixC_e z h
  rcases List.mem_append.mp h with h | h
  · obtain ⟨o, -, rfl⟩ := List.mem_map.mp h
    exact ⟨show 3 < 33 by decide, show (3 : Nat) ≠ 10 by decide, Or.inl (show 3 < 10 by decide)⟩
  · obtain ⟨o, -, rfl⟩ := List.mem_map.mp h
    exact ⟨show 0 < 33 by decide, show (0 : Nat) ≠ 10 by decide, Or.inl (show 0 < 10 by decide)⟩
theorem gwsC_e {e1 e2 : Nat → Nat → Nat} {e : ClassId × ClassId × ClassId × ClassId × ClassId × (Nat → Nat) × (Nat → Nat)} {g : Mem} (h : ∀ a b : Nat, a < 100 → a ≠ 10 → e2 a b = e1 a b) : gws idsC (e1, e) g = gws idsC (e2, e) g := by
  unfold gws
  refine List.map_congr_left (fun z hz => ?_)
  obtain ⟨h1, h2, h3⟩ := idsC_e hz
  have a1 : e2 z.1 z.2 = e1 z.1 z.2 := h _ _ (by omega) h2
  have a2 : gcell (e1, e) g z.1 z.2 = gcell (e2, e) g z.1 z.2 := by
    unfold gcell
    have o3 : ∀ j, e2 3 j = e1 3 j := fun j => h 3 j (by decide) (by decide)
    have o0 : ∀ j, e2 0 j = e1 0 j := fun j => h 0 j (by decide) (by decide)
    by_cases hk : z.1 < 20
    · rw [if_pos hk, if_pos hk, fvals_e h _ _ (gly_e z.1 (by omega))]
    · rw [if_neg hk, if_neg hk]
      dsimp only
      rw [show e2 3 = e1 3 from funext o3]
      simp only [o0]
  show (e1 z.1 z.2, gcell (e1, e) g z.1 z.2) = (e2 z.1 z.2, gcell (e2, e) g z.1 z.2)
  rw [a1, a2]
theorem and31 (y : Int32) : ∃ k, k < 32 ∧ y &&& 31 = nI k := by
  refine ⟨y.toBitVec.toNat &&& 31, Nat.lt_of_le_of_lt Nat.and_le_right (by decide), ?_⟩
  apply Int32.toBitVec.inj
  rw [Int32.toBitVec_and]
  apply BitVec.eq_of_toNat_eq
  rw [BitVec.toNat_and, nI, Int32.toBitVec_ofNat', BitVec.toNat_ofNat]
  have : y.toBitVec.toNat &&& 31 ≤ 31 := Nat.and_le_right
  have e15 : ((31 : Int32).toBitVec).toNat = 31 := by decide
  rw [e15]
  omega
theorem len4 {L t : Nat} (hL : L ≤ 256) (ht : 4 * t ≤ L) (h : ¬ nI L - 4 < nI (4 * t)) : 4 * t + 4 ≤ L := by
  by_cases h4 : 4 ≤ L
  · have e : nI L - 4 = nI (L - 4) := by
      have := nI_add (L - 4) 4
      rw [show L - 4 + 4 = L by omega] at this
      rw [← this]
      show nI (L - 4) + nI 4 - nI 4 = nI (L - 4)
      exact Int32.add_sub_cancel _ _
    rw [e, q_lt (by omega) (by omega)] at h
    omega
  · have t0 : t = 0 := by omega
    subst t0
    exfalso
    apply h
    rcases (show L = 0 ∨ L = 1 ∨ L = 2 ∨ L = 3 by omega) with rfl | rfl | rfl | rfl <;> decide
section LLOOP
variable {p : Program} {l : Launch} {en : Env} {s : State} {m : MethodId} {below : List Frame} {meth : Method} {c : Code}
variable {D : va_G} {E : gE} {o b L : Nat} {xs : Nat → Int32}
set_option maxHeartbeats 4000000 in
set_option maxRecDepth 100000 in
theorem law_loop (hlf : l.stackTraces = false) (G : CallFix p m c cL_law 7 s #[.ref b] gtbl RL) (hr : meth.sig.returnType = ret) (hlocks : meth.locks = false) (hX : va_X b L xs s s.heap) (hbl : b < s.heap.size) (hL : L ≤ 256) : ∀ (d t : Nat) (f : Nat → Int64) (mm cm : Mem) (H : Heap) (locs : List Loc) (ls : Array Slot), t + d = 65 → 4 * t ≤ L → LWs D E (fr9 s) s o f mm cm H locs → INVL cm mm → lv_has ls 7 [(4, .int (nI (4 * t))), (3, .ref o), (2, .ref (E.1 10 0)), (1, .ref (E.1 9 0)), (0, .ref b)] → W p l en room_1 s m #[.ref b] below meth c H locs (5000 + t) (100000 + 6 * t) (lw_Z below #[.ref b] s) (F0 m 23 ls []) := by
  intro d
  induction d with
  | zero => intro t f mm cm H locs ls h1 h2; omega
  | succ d ih =>
    intro t f mm cm H locs ls htd htL hw hI hl
    have hbA : ¬ fr9 s b := Nat.not_le.mpr hbl
    refine lv_iload G.1 G.2.1 dL_law_23 (lv_at hl 0 rfl) ?_
    refine lv_aload_n G.1 G.2.1 dL_law_25 rfl (lv_at hl 4 rfl) ?_
    refine va_slen G.1 G.2.1 hX hbl hbA hw.2.2.2.1 dL_law_26 ?_
    refine lv_iconst (v := (4 : Int32)) G.1 G.2.1 dL_law_27 (by decide) ?_
    refine lv_isub G.1 G.2.1 dL_law_28 ?_
    refine lv_icmp_gt (tgt := 872) G.1 G.2.1 dL_law_29 (by decide) (fun _ => ?_) (fun h => ?_)
    · refine lv_iconst (v := (1 : Int32)) G.1 G.2.1 dL_law_872 (by decide) ?_
      refine va_forget hw.2.2.2.1.2.2 ?_
      refine W.widen (k := 600128) (n := 7301098) (by omega) (by omega) ?_
      exact lw_ret G.1 G.2.1 hr hlocks dL_law_873
    have h4 : 4 * t + 4 ≤ L := len4 hL htL h
    have hin : ∀ k, k < 4 → vp_in (nI (4 * t) + nI k) L := fun k hk => by
      rw [nI_add]
      exact nI_in (by omega) (by omega)
    have h0 : vp_in (nI (4 * t)) L := nI_in (by omega) (by omega)
    have h1 : vp_in (nI (4 * t) + 1) L := hin 1 (by decide)
    have h2 : vp_in (nI (4 * t) + 2) L := hin 2 (by decide)
    have h3 : vp_in (nI (4 * t) + 3) L := hin 3 (by decide)
    have hcs : 5000 + t + 1 ≤ room_1.cells ∧ 100000 + 6 * t + 6 ≤ room_1.slots := ⟨show 5000 + t + 1 ≤ 600128 by omega, show 100000 + 6 * t + 6 ≤ 7301098 by omega⟩
    have kk : ∀ (f2 : Nat → Int64) (m2 c2 : Mem) (H1 : Heap) (locs1 : List Loc) (ls1 : Array Slot), LWs D E (fr9 s) s o f2 m2 c2 H1 locs1 → INVL c2 m2 → lv_has ls1 7 [(4, .int (nI (4 * t))), (3, .ref o), (2, .ref (E.1 10 0)), (1, .ref (E.1 9 0)), (0, .ref b)] → W p l en room_1 s m #[.ref b] below meth c H1 locs1 (5000 + t + 1) (100000 + 6 * t + 6) (lw_Z below #[.ref b] s) (F0 m 866 ls1 []) := by
      intro f2 m2 c2 H1 locs1 ls1 hw hI hl
      refine lv_iinc (k := 0) (v := nI (4 * (t + 1))) (lv' := [(4, .int (nI (4 * (t + 1)))), (3, .ref o), (2, .ref (E.1 10 0)), (1, .ref (E.1 9 0)), (0, .ref b)]) G.1 G.2.1 dL_law_866 hl rfl (show nI (4 * t) + nI 4 = nI (4 * (t + 1)) from nI_add (4 * t) 4) (by decide) rfl (fun ls hl => ?_)
      exact lv_goto (tgt := 23) G.1 G.2.1 dL_law_869 (by decide) (ih (t + 1) f2 m2 c2 H1 locs1 ls (by omega) (by omega) hw hI hl)
    refine lv_aload_n G.1 G.2.1 dL_law_32 rfl (lv_at hl 4 rfl) ?_
    refine lv_iload G.1 G.2.1 dL_law_33 (lv_at hl 0 rfl) ?_
    refine va_sld G.1 G.2.1 hX hbl hbA hw.2.2.2.1 h0 dL_law_35 ?_
    refine lv_bipush (v := (31 : Int32)) G.1 G.2.1 dL_law_36 (by decide) ?_
    refine lv_iand G.1 G.2.1 dL_law_38 ?_
    obtain ⟨k, hk, e⟩ := and31 (xs (nI (4 * t)).toNatClampNeg)
    rw [e]
    by_cases k0 : k = 0
    · rw [k0]
      exact lv_tableIn (x := nI 0) (off := 81) (tgt := 120) G.1 G.2.1 dL_law_39 (by decide) (by decide) (by decide) (by decide) (lc_0 hlf G hX hbl hw hI hl h1 h2 h3 hcs kk)
    by_cases k1 : k = 1
    · rw [k1]
      exact lv_tableIn (x := nI 1) (off := 181) (tgt := 220) G.1 G.2.1 dL_law_39 (by decide) (by decide) (by decide) (by decide) (lc_1 hlf G hX hbl hw hI hl h1 h2 h3 hcs kk)
    by_cases k2 : k = 2
    · rw [k2]
      exact lv_tableIn (x := nI 2) (off := 194) (tgt := 233) G.1 G.2.1 dL_law_39 (by decide) (by decide) (by decide) (by decide) (lc_2 hlf G hX hbl hw hI hl h1 h2 h3 hcs kk)
    by_cases k3 : k = 3
    · rw [k3]
      exact lv_tableIn (x := nI 3) (off := 254) (tgt := 293) G.1 G.2.1 dL_law_39 (by decide) (by decide) (by decide) (by decide) (lc_3 hlf G hX hbl hw hI hl h1 h2 h3 hcs kk)
    by_cases k4 : k = 4
    · rw [k4]
      exact lv_tableIn (x := nI 4) (off := 267) (tgt := 306) G.1 G.2.1 dL_law_39 (by decide) (by decide) (by decide) (by decide) (lc_4 hlf G hX hbl hw hI hl h1 h2 h3 hcs kk)
    by_cases k5 : k = 5
    · rw [k5]
      exact lv_tableIn (x := nI 5) (off := 280) (tgt := 319) G.1 G.2.1 dL_law_39 (by decide) (by decide) (by decide) (by decide) (lc_5 hlf G hX hbl hw hI hl h1 h2 h3 hcs kk)
    by_cases k6 : k = 6
    · rw [k6]
      exact lv_tableIn (x := nI 6) (off := 293) (tgt := 332) G.1 G.2.1 dL_law_39 (by decide) (by decide) (by decide) (by decide) (lc_6 hlf G hX hbl hw hI hl h1 h2 h3 hcs kk)
    by_cases k7 : k = 7
    · rw [k7]
      exact lv_tableIn (x := nI 7) (off := 349) (tgt := 388) G.1 G.2.1 dL_law_39 (by decide) (by decide) (by decide) (by decide) (lc_7 hlf G hX hbl hw hI hl h1 h2 h3 hcs kk)
    by_cases k8 : k = 8
    · rw [k8]
      exact lv_tableIn (x := nI 8) (off := 417) (tgt := 456) G.1 G.2.1 dL_law_39 (by decide) (by decide) (by decide) (by decide) (lc_8 hlf G hX hbl hw hI hl h1 h2 h3 hcs kk)
    by_cases k9 : k = 9
    · rw [k9]
      exact lv_tableIn (x := nI 9) (off := 485) (tgt := 524) G.1 G.2.1 dL_law_39 (by decide) (by decide) (by decide) (by decide) (lc_9 hlf G hX hbl hw hI hl h1 h2 h3 hcs kk)
    by_cases k10 : k = 10
    · rw [k10]
      exact lv_tableIn (x := nI 10) (off := 553) (tgt := 592) G.1 G.2.1 dL_law_39 (by decide) (by decide) (by decide) (by decide) (lc_10 hlf G hX hbl hw hI hl h1 h2 h3 hcs kk)
    by_cases k11 : k = 11
    · rw [k11]
      exact lv_tableIn (x := nI 11) (off := 609) (tgt := 648) G.1 G.2.1 dL_law_39 (by decide) (by decide) (by decide) (by decide) (lc_11 hlf G hX hbl hw hI hl h1 h2 h3 hcs kk)
    by_cases k12 : k = 12
    · rw [k12]
      exact lv_tableIn (x := nI 12) (off := 677) (tgt := 716) G.1 G.2.1 dL_law_39 (by decide) (by decide) (by decide) (by decide) (lc_12 hlf G hX hbl hw hI hl h1 h2 h3 hcs kk)
    by_cases k13 : k = 13
    · rw [k13]
      exact lv_tableIn (x := nI 13) (off := 733) (tgt := 772) G.1 G.2.1 dL_law_39 (by decide) (by decide) (by decide) (by decide) (lc_13 hlf G hX hbl hw hI hl h1 h2 h3 hcs kk)
    by_cases k14 : k = 14
    · rw [k14]
      exact lv_tableIn (x := nI 14) (off := 744) (tgt := 783) G.1 G.2.1 dL_law_39 (by decide) (by decide) (by decide) (by decide) (lc_14 hlf G hX hbl hw hI hl h1 h2 h3 hcs kk)
    by_cases k15 : k = 15
    · rw [k15]
      exact lv_tableIn (x := nI 15) (off := 800) (tgt := 839) G.1 G.2.1 dL_law_39 (by decide) (by decide) (by decide) (by decide) (lc_15 hlf G hX hbl hw hI hl h1 h2 h3 hcs kk)
    by_cases k16 : k = 16
    · rw [k16]
      exact lv_tableIn (x := nI 16) (off := 813) (tgt := 852) G.1 G.2.1 dL_law_39 (by decide) (by decide) (by decide) (by decide) (lc_16 hlf G hX hbl hw hI hl h1 h2 h3 hcs kk)
    refine lv_tableOut (x := nI k) (tgt := 866) G.1 G.2.1 dL_law_39 (Or.inr (by rw [nI_toInt (by omega)]; omega)) (by decide) ?_
    refine W.widen (k := 5000 + t + 1) (n := 100000 + 6 * t + 6) (Nat.le_add_right _ _) (Nat.le_add_right _ _) ?_
    exact kk f mm cm H locs ls hw hI hl
end LLOOP
