/-! ===== PURE: both sides, new ===== -/
theorem i_init {n : Nat} (hn : 2000 ≤ n) : ∃ c3 m3, Mc_begin n 0 cI0 = some c3 ∧ M_keepProgram n mI0 = some m3 ∧ INVL c3 m3 := by
  have hN : NumC cI0 := fun o ho => rfl
  have no : ∀ {P : Prop} {k : Nat}, k < 0 → P := fun h => absurd h (Nat.not_lt_zero _)
  have hPn : PRn cI0 mI0 0 0 0 := ⟨⟨rfl, rfl, rfl, rfl, by decide, by decide⟩, fun i hi => no hi, fun b hb => no hb, hN⟩
  obtain ⟨m2, a1, a2, a3, a4⟩ := m_keep (n := n) hn hPn
  have hL : LatR cI0 m2 (fun _ => 1) (fun _ => 1) := by
    refine ⟨fun k hk => ⟨?_, (a3 138 0 k (by omega) (by omega)).trans ?_, Nat.le_refl 1, Nat.le_of_ble_eq_true rfl⟩, fun k hk => ⟨?_, (a3 137 0 k (by omega) (by omega)).trans ?_, Nat.le_refl 1, Nat.le_of_ble_eq_true rfl⟩, rfl⟩
    · show (if k < 4 then (1 : Int32) else 0) = nI 1
      rw [if_pos hk]
      rfl
    · show (if k < 4 then (1 : Int32) else 0) = nI 1
      rw [if_pos hk]
      rfl
    · show (if k < 3 then (1 : Int32) else 0) = nI 1
      rw [if_pos hk]
      rfl
    · show (if k < 3 then (1 : Int32) else 0) = nI 1
      rw [if_pos hk]
      rfl
  obtain ⟨c1, m1, b1', b2, b3, b4, b5⟩ := lay_all (n := n) hn (by decide) a2 hL
  have hP1 : PROG cI0 m1 0 0 0 (fun _ => 1) (fun _ => 1) := ⟨a2.ag FrL.rf b4, hL.ag FrL.rf b4, fun b hb => no hb, fun o ho => no ho⟩
  obtain ⟨c3, m3, d1, d2, d3, d4, d5, d6, d7⟩ := begin_ (n := n) (by decide) hP1
  have mm : ∀ k i j, ¬ (k = 10 ∧ j = 47) → ¬ (139 ≤ k ∧ k ≤ 143) → k ≠ 150 → ¬ (126 ≤ k ∧ k ≤ 136) → ¬ (k = 10 ∧ (j = 25 ∨ j = 31)) → gI m3 k i j = gI mI0 k i j := fun k i j h1 h2 h3 h4 h5 => (d7 k i j h1).trans ((b4.1 k i j h2 h3).trans (a3 k i j h4 h5))
  refine ⟨c3, m3, d1, ?_, fun _ => 0, 0, 0, 0, 0, fun _ => 1, fun _ => 1, ⟨⟨by decide, fun j hj => no hj⟩, ⟨(d5 6 0 1 (by omega)).trans rfl, fun j hj => no hj⟩, ⟨(mm 10 0 2 (by omega) (by omega) (by decide) (by omega) (by omega)).trans rfl, fun j hj => no hj⟩⟩, ⟨by decide, (d6 9 0 4 (by decide)).trans rfl, (d6 9 0 5 (by decide)).trans rfl⟩, d3, ⟨?_, ?_⟩, d4, fun v hv => ?_, fun i hi => ?_⟩
  · rw [a1, M_lay]
    obtain ⟨r5, e1, e2⟩ := bd_some b2
    rw [e1, bd_s, e2, bd_s, d2, bd_s, bd_s]
  · exact ((d5 7 0 5 (by omega)).trans (show gI cI0 7 0 5 = gI mI0 10 0 3 from rfl)).trans (mm 10 0 3 (by omega) (by omega) (by decide) (by omega) (by omega)).symm
  · exact ((d5 7 0 6 (by omega)).trans (show gI cI0 7 0 6 = gI mI0 10 0 4 from rfl)).trans (mm 10 0 4 (by omega) (by omega) (by decide) (by omega) (by omega)).symm
  · exact ((d5 28 0 v (by omega)).trans (show gI cI0 28 0 v = gI mI0 144 0 v from rfl)).trans (mm 144 0 v (by omega) (by omega) (by decide) (by omega) (by omega)).symm
  · exact ((d5 29 0 i (by omega)).trans (show gI cI0 29 0 i = gI mI0 145 0 i from rfl)).trans (mm 145 0 i (by omega) (by omega) (by decide) (by omega) (by omega)).symm
