theorem bc_ok {m : Nat} (hm : m < 2 ^ 14) : bcI (nI m) = nI (cnt (fun j => m.testBit j) 14) := by
  have h1 := List.all_eq_true.mp nc_all (m / 128) (List.mem_range.mpr (by omega))
  have h2 := List.all_eq_true.mp h1 (m % 128) (List.mem_range.mpr (by omega))
  have h3 := eq_of_beq h2
  rw [show 128 * (m / 128) + m % 128 = m by omega] at h3
  obtain ⟨a1, a2⟩ := bc_A (m := m) (by omega)
  obtain ⟨b1, b2⟩ := bc_B (m := ncA m) (by omega)
  obtain ⟨c1, c2⟩ := bc_C (m := ncB (ncA m)) (by omega)
  obtain ⟨d1, d2⟩ := bc_D (m := ncC (ncB (ncA m))) (by omega)
  unfold bcI
  rw [a1, b1, c1, d1, bc_E (by omega), h3]
/-- a number whose bits from the 14th on are 0 -/
theorem bc_bt {x : Int32} (h : ∀ j, 14 ≤ j → j < 32 → bt x j = false) : bcI x = nI (cnt (bt x) 14) := by
  have hx : x = nI x.toBitVec.toNat := Int32.toBitVec_inj.mp (by show _ = BitVec.ofNat 32 _; simp)
  have hm : x.toBitVec.toNat < 2 ^ 14 := by
    refine Nat.lt_pow_two_of_testBit _ (fun j hj => ?_)
    by_cases q : j < 32
    · exact h j hj q
    · exact Nat.testBit_lt_two_pow (Nat.lt_of_lt_of_le x.toBitVec.isLt (Nat.pow_le_pow_right (by decide) (by omega)))
  have := bc_ok hm
  rw [← hx] at this
  exact this
