section MINIT
variable {μ : Nat} {r : Nat → Nat} {S : bS}
theorem mW_zero (h8 : ∀ j, gV S 8 μ j = 0) (h9 : ∀ i j, 1 ≤ i → i ≤ 7 → gV S 9 (r i) j = 0) : mW μ r S (fun _ _ => 0) = S := by
  refine bS_V rfl rfl ?_ rfl
  funext κ a j
  show (mW μ r S (fun _ _ => 0)).2.2.1 κ a j = gV S κ a j
  unfold mW
  show (if κ = 8 ∧ a = μ then (0 : Int32) else if κ = 9 ∧ a = r 1 then 0 else if κ = 9 ∧ a = r 2 then 0 else if κ = 9 ∧ a = r 3 then 0 else if κ = 9 ∧ a = r 4 then 0 else if κ = 9 ∧ a = r 5 then 0 else if κ = 9 ∧ a = r 6 then 0 else if κ = 9 ∧ a = r 7 then 0 else gV S κ a j) = gV S κ a j
  by_cases h : κ = 8 ∧ a = μ
  · rw [if_pos h, h.1, h.2, h8]
  · rw [if_neg h]
    by_cases h1 : κ = 9 ∧ a = r 1
    · rw [if_pos h1, h1.1, h1.2, h9 1 j (by decide) (by decide)]
    · rw [if_neg h1]
      by_cases h2 : κ = 9 ∧ a = r 2
      · rw [if_pos h2, h2.1, h2.2, h9 2 j (by decide) (by decide)]
      · rw [if_neg h2]
        by_cases h3 : κ = 9 ∧ a = r 3
        · rw [if_pos h3, h3.1, h3.2, h9 3 j (by decide) (by decide)]
        · rw [if_neg h3]
          by_cases h4 : κ = 9 ∧ a = r 4
          · rw [if_pos h4, h4.1, h4.2, h9 4 j (by decide) (by decide)]
          · rw [if_neg h4]
            by_cases h5 : κ = 9 ∧ a = r 5
            · rw [if_pos h5, h5.1, h5.2, h9 5 j (by decide) (by decide)]
            · rw [if_neg h5]
              by_cases h6 : κ = 9 ∧ a = r 6
              · rw [if_pos h6, h6.1, h6.2, h9 6 j (by decide) (by decide)]
              · rw [if_neg h6]
                by_cases h7 : κ = 9 ∧ a = r 7
                · rw [if_pos h7, h7.1, h7.2, h9 7 j (by decide) (by decide)]
                · rw [if_neg h7]
/-- all that lived, but one cell, is as it was -/
def sExB (b : Nat) (S S' : bS) : Prop := (∀ a, gK S a ≠ 0 → a ≠ b → gK S' a = gK S a ∧ gN S' a = gN S a ∧ (∀ κ j, gV S' κ a j = gV S κ a j) ∧ (∀ κ j, gQ S' κ a j = gQ S κ a j) ∧ ∀ j, gL S' a j = gL S a j) ∧ ∀ a, gK S' a = 14 → gK S a = 14
def mR7 (q1 q2 q3 q4 q5 q6 q7 : Nat) : Nat → Nat := fun i => match i with
  | 1 => q1
  | 2 => q2
  | 3 => q3
  | 4 => q4
  | 5 => q5
  | 6 => q6
  | _ => q7
set_option maxRecDepth 4000 in
theorem M_init {MC MS : Nat} (hμ : gK S μ = 8) (hz : ∀ j, gV S 8 μ j = 0) (hMC : 7 ≤ MC) (hMS : 5020 ≤ MS) {post : bS → Prop} (hp : ∀ S' r, mOK μ r S' → mW μ r S' (fun _ _ => 0) = S' → sExB μ S S' → (∀ i, 1 ≤ i → i ≤ 7 → gK S (r i) = 0) → post S') : wp_X6_init post MC MS μ S := by
  have c1 : Int32.toNatClampNeg (126 : Int32) = 126 := by decide
  have c2 : Int32.toNatClampNeg (240 : Int32) = 240 := by decide
  have c3 : Int32.toNatClampNeg (60 : Int32) = 60 := by decide
  have c4 : Int32.toNatClampNeg (4500 : Int32) = 4500 := by decide
  have c5 : Int32.toNatClampNeg (40 : Int32) = 40 := by decide
  have c6 : Int32.toNatClampNeg (14 : Int32) = 14 := by decide
  unfold wp_X6_init
  rw [c1, c2, c3, c4, c5, c6]
  refine ⟨by decide, by decide, by omega, by omega, fun q1 h1 => ⟨?_, by decide, by decide, by omega, by omega, fun q2 h2 => ⟨by decide, by decide, by omega, by omega, fun q3 h3 => ⟨by decide, by decide, by omega, by omega, fun q4 h4 => ⟨by decide, by decide, by omega, by omega, fun q5 h5 => ⟨by decide, by decide, by omega, by omega, fun q6 h6 => ⟨by decide, by decide, by omega, by omega, fun q7 h7 => ?_⟩⟩⟩⟩⟩⟩⟩
  · rw [gK_sNew, if_neg (fun e => by rw [← e, hμ] at h1; cases h1)]
    exact hμ
  · have n1 : μ ≠ q1 := fun e => by rw [← e, hμ] at h1; cases h1
    simp only [gK_sQ, gK_sNew] at h2 h3 h4 h5 h6 h7
    have s2 : q2 ≠ q1 ∧ gK S q2 = 0 := by
      by_cases e : q2 = q1
      · rw [if_pos e] at h2; cases h2
      · rw [if_neg e] at h2; exact ⟨e, h2⟩
    have s3 : q3 ≠ q2 ∧ q3 ≠ q1 ∧ gK S q3 = 0 := by
      by_cases e : q3 = q2
      · rw [if_pos e] at h3; cases h3
      · by_cases e1 : q3 = q1
        · rw [if_neg e, if_pos e1] at h3; cases h3
        · rw [if_neg e, if_neg e1] at h3; exact ⟨e, e1, h3⟩
    have s4 : q4 ≠ q3 ∧ q4 ≠ q2 ∧ q4 ≠ q1 ∧ gK S q4 = 0 := by
      refine ⟨fun e => ?_, fun e => ?_, fun e => ?_, ?_⟩ <;> revert h4 <;> (repeat' split) <;> simp_all
    have s5 : q5 ≠ q4 ∧ q5 ≠ q3 ∧ q5 ≠ q2 ∧ q5 ≠ q1 ∧ gK S q5 = 0 := by
      refine ⟨fun e => ?_, fun e => ?_, fun e => ?_, fun e => ?_, ?_⟩ <;> revert h5 <;> (repeat' split) <;> simp_all
    have s6 : q6 ≠ q5 ∧ q6 ≠ q4 ∧ q6 ≠ q3 ∧ q6 ≠ q2 ∧ q6 ≠ q1 ∧ gK S q6 = 0 := by
      refine ⟨fun e => ?_, fun e => ?_, fun e => ?_, fun e => ?_, fun e => ?_, ?_⟩ <;> revert h6 <;> (repeat' split) <;> simp_all
    have s7 : q7 ≠ q6 ∧ q7 ≠ q5 ∧ q7 ≠ q4 ∧ q7 ≠ q3 ∧ q7 ≠ q2 ∧ q7 ≠ q1 ∧ gK S q7 = 0 := by
      refine ⟨fun e => ?_, fun e => ?_, fun e => ?_, fun e => ?_, fun e => ?_, fun e => ?_, ?_⟩ <;> revert h7 <;> (repeat' split) <;> simp_all
    have n2 : μ ≠ q2 := fun e => by rw [← e, hμ] at s2; exact absurd s2.2 (by decide)
    have n3 : μ ≠ q3 := fun e => by rw [← e, hμ] at s3; exact absurd s3.2.2 (by decide)
    have n4 : μ ≠ q4 := fun e => by rw [← e, hμ] at s4; exact absurd s4.2.2.2 (by decide)
    have n5 : μ ≠ q5 := fun e => by rw [← e, hμ] at s5; exact absurd s5.2.2.2.2 (by decide)
    have n6 : μ ≠ q6 := fun e => by rw [← e, hμ] at s6; exact absurd s6.2.2.2.2.2 (by decide)
    have n7 : μ ≠ q7 := fun e => by rw [← e, hμ] at s7; exact absurd s7.2.2.2.2.2.2 (by decide)
    refine hp _ (mR7 q1 q2 q3 q4 q5 q6 q7) ⟨?_, ?_, ?_, ?_⟩ (mW_zero ?_ ?_) ?_ ?_
    · simp only [gK_sQ, gK_sNew, if_neg n1, if_neg n2, if_neg n3, if_neg n4, if_neg n5, if_neg n6, if_neg n7]
      exact hμ
    · simp [gQ_sQ, gQ_sNew, mR7, n1, n2, n3, n4, n5, n6, n7]
    · intro i hi hi7
      rcases (show i = 1 ∨ i = 2 ∨ i = 3 ∨ i = 4 ∨ i = 5 ∨ i = 6 ∨ i = 7 by omega) with e | e | e | e | e | e | e <;> subst e <;> simp [gK_sQ, gK_sNew, gN_sQ, gN_sNew, mR7, mDim, s2.1.symm, s3.1.symm, s3.2.1.symm, s4.1.symm, s4.2.1.symm, s4.2.2.1.symm, s5.1.symm, s5.2.1.symm, s5.2.2.1.symm, s5.2.2.2.1.symm, s6.1.symm, s6.2.1.symm, s6.2.2.1.symm, s6.2.2.2.1.symm, s6.2.2.2.2.1.symm, s7.1.symm, s7.2.1.symm, s7.2.2.1.symm, s7.2.2.2.1.symm, s7.2.2.2.2.1.symm, s7.2.2.2.2.2.1.symm]
    · intro i j hi hi7 hj hj7 hij
      rcases (show i = 1 ∨ i = 2 ∨ i = 3 ∨ i = 4 ∨ i = 5 ∨ i = 6 ∨ i = 7 by omega) with e | e | e | e | e | e | e <;> subst e <;> rcases (show j = 1 ∨ j = 2 ∨ j = 3 ∨ j = 4 ∨ j = 5 ∨ j = 6 ∨ j = 7 by omega) with e | e | e | e | e | e | e <;> subst e <;> simp only [mR7] at hij <;> first | rfl | (exfalso; revert hij; first | exact s2.1 | exact s2.1.symm | exact s3.1 | exact s3.1.symm | exact s3.2.1 | exact s3.2.1.symm | exact s4.1 | exact s4.1.symm | exact s4.2.1 | exact s4.2.1.symm | exact s4.2.2.1 | exact s4.2.2.1.symm | exact s5.1 | exact s5.1.symm | exact s5.2.1 | exact s5.2.1.symm | exact s5.2.2.1 | exact s5.2.2.1.symm | exact s5.2.2.2.1 | exact s5.2.2.2.1.symm | exact s6.1 | exact s6.1.symm | exact s6.2.1 | exact s6.2.1.symm | exact s6.2.2.1 | exact s6.2.2.1.symm | exact s6.2.2.2.1 | exact s6.2.2.2.1.symm | exact s6.2.2.2.2.1 | exact s6.2.2.2.2.1.symm | exact s7.1 | exact s7.1.symm | exact s7.2.1 | exact s7.2.1.symm | exact s7.2.2.1 | exact s7.2.2.1.symm | exact s7.2.2.2.1 | exact s7.2.2.2.1.symm | exact s7.2.2.2.2.1 | exact s7.2.2.2.2.1.symm | exact s7.2.2.2.2.2.1 | exact s7.2.2.2.2.2.1.symm)
    · intro j
      simp only [gV_sQ, gV_sNew, if_neg n1, if_neg n2, if_neg n3, if_neg n4, if_neg n5, if_neg n6, if_neg n7]
      exact hz j
    · intro i j hi hi7
      rcases (show i = 1 ∨ i = 2 ∨ i = 3 ∨ i = 4 ∨ i = 5 ∨ i = 6 ∨ i = 7 by omega) with e | e | e | e | e | e | e <;> subst e <;> simp [gV_sQ, gV_sNew, mR7]
    · refine ⟨fun a ha hb => ?_, fun a ha => ?_⟩
      · have m1 : a ≠ q1 := fun e => ha (e ▸ h1)
        have m2 : a ≠ q2 := fun e => ha (e ▸ s2.2)
        have m3 : a ≠ q3 := fun e => ha (e ▸ s3.2.2)
        have m4 : a ≠ q4 := fun e => ha (e ▸ s4.2.2.2)
        have m5 : a ≠ q5 := fun e => ha (e ▸ s5.2.2.2.2)
        have m6 : a ≠ q6 := fun e => ha (e ▸ s6.2.2.2.2.2)
        have m7 : a ≠ q7 := fun e => ha (e ▸ s7.2.2.2.2.2.2)
        refine ⟨?_, ?_, fun κ j => ?_, fun κ j => ?_, fun j => ?_⟩
        · simp only [gK_sQ, gK_sNew, if_neg m1, if_neg m2, if_neg m3, if_neg m4, if_neg m5, if_neg m6, if_neg m7]
        · simp only [gN_sQ, gN_sNew, if_neg m1, if_neg m2, if_neg m3, if_neg m4, if_neg m5, if_neg m6, if_neg m7]
        · simp only [gV_sQ, gV_sNew, if_neg m1, if_neg m2, if_neg m3, if_neg m4, if_neg m5, if_neg m6, if_neg m7]
        · simp [gQ_sQ, gQ_sNew, hb, m1, m2, m3, m4, m5, m6, m7]
        · simp only [gL_sQ, gL_sNew, if_neg m1, if_neg m2, if_neg m3, if_neg m4, if_neg m5, if_neg m6, if_neg m7]
      · simp only [gK_sQ, gK_sNew] at ha
        revert ha
        repeat' split
        all_goals first | (intro x; exact x) | (intro x; cases x)
    · intro i hi hi7
      rcases (show i = 1 ∨ i = 2 ∨ i = 3 ∨ i = 4 ∨ i = 5 ∨ i = 6 ∨ i = 7 by omega) with e | e | e | e | e | e | e <;> subst e
      · exact h1
      · exact s2.2
      · exact s3.2.2
      · exact s4.2.2.2
      · exact s5.2.2.2.2
      · exact s6.2.2.2.2.2
      · exact s7.2.2.2.2.2.2
end MINIT
