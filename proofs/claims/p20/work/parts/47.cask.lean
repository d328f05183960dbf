section CASK
variable {S : bS} {A : Nat → Nat → Nat} {cp : Nat → Nat} {P : pP} {B K : Nat}
theorem C_count (h : cR S A cp P) (hw : wI B K P.1 P.2) {w : Int32} {MC MS : Nat} {post : Int32 → bS → Prop} {xp : String → bS → Prop} (ok : ∀ k, ixO w 9 = some k → post (cntR P k) S) (bad : ixO w 9 = none → False) : wp_X5_count post xp MC MS (A 0 0) w S := by
  obtain ⟨p0, p1, p2, p3, p4, p5, p6⟩ := h.1.1
  obtain ⟨n0, n1, n2, -⟩ := h.1.2.1
  obtain ⟨e0, hL0⟩ := cl_at h (i := 0) (Or.inl (by decide))
  obtain ⟨e1, hL1⟩ := cl_at h (i := 1) (Or.inl (by decide))
  obtain ⟨e2, hL2⟩ := cl_at h (i := 2) (Or.inl (by decide))
  obtain ⟨e3, hL3⟩ := cl_at h (i := 3) (Or.inl (by decide))
  have yes : ∀ k : Nat, k < 9 → w = nI k → post (cntR P k) S := fun k hk e => ok k (by rw [e]; exact ixO_nI (by decide) hk)
  refine ⟨fun q => ⟨p0, ?_⟩, fun q => ⟨p0, _, p1, n0, _, n1, hL0.1, C_size hL0 ?_⟩, fun q => ⟨p0, _, p1, n0, _, n2, hL1.1, C_size hL1 ?_⟩, fun q => ⟨p0, _, p2, hL2.1, C_size hL2 ?_⟩, fun q => ⟨p0, _, p3, hL3.1, C_size hL3 ?_⟩, fun q => ⟨p0, C_underWay h hw ?_⟩, fun q => ⟨p0, ?_⟩, fun q => ⟨p0, C_jammed h hw ?_⟩, fun q => ⟨p0, ?_⟩, fun q0 q1 q2 q3 q4 q5 q6 q7 q8 => bad ?_⟩
  · rw [p4]; exact yes 0 (by decide) q
  · rw [ls_0, List.length_map, List.length_range, ← hw.1.1.1]; exact yes 1 (by decide) q
  · rw [ls_1, List.length_map, List.length_range, ← hw.1.2.1.1]; exact yes 2 (by decide) q
  · rw [ls_2, List.length_map, List.length_range, ← hw.1.2.2.1.1]; exact yes 3 (by decide) q
  · rw [ls_3, List.length_map, List.length_range, ← hw.1.2.2.2.1]; exact yes 4 (by decide) q
  · exact yes 5 (by decide) q
  · rw [p5]; exact yes 6 (by decide) q
  · exact yes 7 (by decide) q
  · rw [p6]; exact yes 8 (by decide) q
  · cases hx : ixO w 9 with
    | none => rfl
    | some k =>
      obtain ⟨e, hk⟩ := ixO_some (by decide) hx
      rcases (show k = 0 ∨ k = 1 ∨ k = 2 ∨ k = 3 ∨ k = 4 ∨ k = 5 ∨ k = 6 ∨ k = 7 ∨ k = 8 by omega) with x | x | x | x | x | x | x | x | x <;> subst x
      · exact absurd e q0
      · exact absurd e q1
      · exact absurd e q2
      · exact absurd e q3
      · exact absurd e q4
      · exact absurd e q5
      · exact absurd e q6
      · exact absurd e q7
      · exact absurd e q8
theorem C_station (h : cR S A cp P) (hw : wI B K P.1 P.2) {s w : Int32} {MC MS : Nat} {post : Int32 → bS → Prop} {xp : String → bS → Prop} (ok : ∀ i k, ixO s (nS P.1) = some i → ixO w 6 = some k → post (staR P i k) S) (bad : (ixO s (nS P.1) = none ∨ ixO w 6 = none) → False) : wp_X5_station post xp MC MS (A 0 0) s w S := by
  have h14 := hw.1.1.2
  obtain ⟨p0, -⟩ := h.1.1
  cases hx : ixO s (nS P.1) with
  | none =>
    refine ⟨p0, MC, MS, Nat.le_refl _, Nat.le_refl _, C_knownSt h hw (fun _ => bad (Or.inl hx)) (fun i hi => ?_)⟩
    rw [hx] at hi
    cases hi
  | some i =>
    obtain ⟨-, hi⟩ := ixO_some (by omega) hx
    refine ⟨p0, 0, 0, Nat.zero_le _, Nat.zero_le _, C_knownSt h hw (fun q => by rw [hx] at q; cases q) (fun i' hi' => ?_)⟩
    rw [hx] at hi'
    cases hi'
    obtain ⟨s0, -, s1, s2, s3, s4, s5, s6⟩ := h.1.2.2.2.1 i hi
    obtain ⟨e1, hL1⟩ := cl_at h (i := 4 + i) (Or.inr (Or.inl ⟨by omega, by omega⟩))
    obtain ⟨e2, hL2⟩ := cl_at h (i := 18 + i) (Or.inr (Or.inr (Or.inl ⟨by omega, by omega⟩)))
    have hm := (hw.2.2.1 i hi).2.2.1.1
    have yes : ∀ k : Nat, k < 6 → w = nI k → post (staR P i k) S := fun k hk e => ok i k hx (by rw [e]; exact ixO_nI (by decide) hk)
    refine ⟨_, rfl, fun q => ⟨s0, ?_⟩, fun q => ⟨s0, ?_⟩, fun q => ⟨s0, _, s3, hL1.1, C_size hL1 ?_⟩, fun q => ⟨s0, ?_⟩, fun q => ⟨s0, _, s4, hL2.1, C_size hL2 ?_⟩, fun q => ⟨s0, ?_⟩, fun q0 q1 q2 q3 q4 q5 => bad (Or.inr ?_)⟩
    · rw [s1]; exact yes 0 (by decide) q
    · rw [s2]; exact yes 1 (by decide) q
    · rw [ls_w (by omega), List.length_map, List.length_range, ← hm]; exact yes 2 (by decide) q
    · rw [s5]; exact yes 3 (by decide) q
    · rw [ls_l (by omega), List.length_map]; exact yes 4 (by decide) q
    · rw [s6]; exact yes 5 (by decide) q
    · cases hy : ixO w 6 with
      | none => rfl
      | some k =>
        obtain ⟨e, hk⟩ := ixO_some (by decide) hy
        rcases (show k = 0 ∨ k = 1 ∨ k = 2 ∨ k = 3 ∨ k = 4 ∨ k = 5 by omega) with x | x | x | x | x | x <;> subst x
        · exact absurd e q0
        · exact absurd e q1
        · exact absurd e q2
        · exact absurd e q3
        · exact absurd e q4
        · exact absurd e q5
end CASK
