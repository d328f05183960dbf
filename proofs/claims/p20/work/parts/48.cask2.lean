section CASK2
variable {S : bS} {A : Nat → Nat → Nat} {cp : Nat → Nat} {P : pP} {B K : Nat}
theorem C_tube (h : cR S A cp P) (hw : wI B K P.1 P.2) {s w : Int32} {MC MS : Nat} {post : Int32 → bS → Prop} {xp : String → bS → Prop} (ok : ∀ i k, ixO s (nT P.1) = some i → ixO w 9 = some k → post (tubR P i k) S) (bad : (ixO s (nT P.1) = none ∨ ixO w 9 = none) → False) : wp_X5_tube post xp MC MS (A 0 0) s w S := by
  have h30 := hw.1.2.1.2
  obtain ⟨p0, -, -, -, p4, -⟩ := h.1.1
  cases hx : ixO s (nT P.1) with
  | none =>
    refine ⟨p0, MC, MS, Nat.le_refl _, Nat.le_refl _, C_knownTu h hw (fun _ => bad (Or.inl hx)) (fun i hi => ?_)⟩
    rw [hx] at hi
    cases hi
  | some i =>
    obtain ⟨-, hi⟩ := ixO_some (by omega) hx
    refine ⟨p0, 0, 0, Nat.zero_le _, Nat.zero_le _, C_knownTu h hw (fun q => by rw [hx] at q; cases q) (fun i' hi' => ?_)⟩
    rw [hx] at hi'
    cases hi'
    obtain ⟨t0, -, t1, t2, t3, t4, t5, t6, -, t8, t9, -⟩ := h.1.2.2.2.2.1 i hi
    obtain ⟨x1, x2, -, -, -, -, x7⟩ := hw.2.1 i hi
    obtain ⟨y0, y1, -⟩ := h.1.2.2.2.1 _ x1.2
    obtain ⟨z0, z1, -⟩ := h.1.2.2.2.1 _ x2.2
    obtain ⟨e1, hL1⟩ := cl_at h (i := 32 + i) (Or.inr (Or.inr (Or.inr ⟨by omega, by omega⟩)))
    have yes : ∀ k : Nat, k < 9 → w = nI k → post (tubR P i k) S := fun k hk e => ok i k hx (by rw [e]; exact ixO_nI (by decide) hk)
    refine ⟨_, rfl, fun q => ⟨t0, _, t1, y0, ?_⟩, fun q => ⟨t0, _, t2, z0, ?_⟩, fun q => ⟨t0, ?_⟩, fun q => ⟨t0, ?_⟩, fun q => ⟨t0, ?_⟩, fun q => ⟨t0, ?_⟩, fun q => ⟨t0, _, t5, hL1.1, C_size hL1 ?_⟩, fun q => ⟨p0, t0, ?_⟩, fun q => ⟨t0, ?_⟩, fun q0 q1 q2 q3 q4 q5 q6 q7 q8 => bad (Or.inr ?_)⟩
    · rw [y1, ← x1.1]; exact yes 0 (by decide) q
    · rw [z1, ← x2.1]; exact yes 1 (by decide) q
    · rw [t3]; exact yes 2 (by decide) q
    · rw [t6]; exact yes 3 (by decide) q
    · rw [t4]; exact yes 4 (by decide) q
    · have y5 : post (P.1 2 (8 * i + 5)) S := yes 5 (by decide) q
      rw [t8]
      rcases x7 with e | e
      · rw [e] at y5 ⊢
        exact ⟨fun _ => y5, fun q => absurd rfl q⟩
      · rw [e] at y5 ⊢
        exact ⟨fun q => absurd q (by decide), fun _ => y5⟩
    · rw [ls_i, List.length_map]; exact yes 6 (by decide) q
    · rw [p4]
      refine C_atEnd h hw hi ?_
      have y7 : post (if jamB P i then 1 else 0) S := yes 7 (by decide) q
      by_cases hj : jamB P i = true
      · rw [if_pos hj] at y7 ⊢
        exact ⟨fun q => absurd q (by decide), fun _ => y7⟩
      · rw [if_neg hj] at y7 ⊢
        exact ⟨fun _ => y7, fun q => absurd rfl q⟩
    · rw [t9]; exact yes 8 (by decide) q
    · cases hy : ixO w 9 with
      | none => rfl
      | some k =>
        obtain ⟨e, hk⟩ := ixO_some (by decide) hy
        rcases (show k = 0 ∨ k = 1 ∨ k = 2 ∨ k = 3 ∨ k = 4 ∨ k = 5 ∨ k = 6 ∨ k = 7 ∨ k = 8 by omega) with x | x | x | x | x | x | x | x | x <;> subst x
        · exact absurd e q0
        · exact absurd e q1
        · exact absurd e q2
        · exact absurd e q3
        · exact absurd e q4
        · exact absurd e q5
        · exact absurd e q6
        · exact absurd e q7
        · exact absurd e q8
theorem C_ixC {v c : Int32} {n : Nat} (hc : c = nI n - 1) (hn : n < 2 ^ 31) {post : Int32 → bS → Prop} (hp : post (if (ixO v n).isSome then 0 else 1) S) : wp_X5_isOutside post v 0 c S := by
  subst hc
  refine C_isOut ?_
  by_cases q : (0 : Int32) ≤ v ∧ v ≤ nI n - 1
  · obtain ⟨s, hs⟩ := (in_iff hn).mp q
    rw [if_pos q]
    rw [hs] at hp
    exact hp
  · rw [if_neg q]
    have : ixO v n = none := by
      cases hs : ixO v n with
      | none => rfl
      | some s => exact absurd ((in_iff hn).mpr ⟨s, hs⟩) q
    rw [this] at hp
    exact hp
theorem C_there (h : cR S A cp P) (hw : wI B K P.1 P.2) {s i : Int32} {MC MS : Nat} {post : Int32 → bS → Prop} {xp : String → bS → Prop} (ok : ∀ a k, ixO s (nS P.1) = some a → ixO i (P.2 (1 + a)).length = some k → post (nI ((P.2 (1 + a)).getD k 0)) S) (bad : (∀ a, ixO s (nS P.1) = some a → ixO i (P.2 (1 + a)).length = none) → False) : wp_X5_there post xp MC MS (A 0 0) s i S := by
  have h14 := hw.1.1.2
  obtain ⟨p0, -⟩ := h.1.1
  cases hx : ixO s (nS P.1) with
  | none =>
    refine ⟨p0, MC, MS, Nat.le_refl _, Nat.le_refl _, C_knownSt h hw (fun _ => bad (fun a ha => ?_)) (fun a ha => ?_)⟩
    · rw [hx] at ha
      cases ha
    · rw [hx] at ha
      cases ha
  | some a =>
    obtain ⟨-, ha⟩ := ixO_some (by omega) hx
    refine ⟨p0, 0, 0, Nat.zero_le _, Nat.zero_le _, C_knownSt h hw (fun q => by rw [hx] at q; cases q) (fun a' ha' => ?_)⟩
    rw [hx] at ha'
    cases ha'
    obtain ⟨s0, -, -, -, -, s4, -⟩ := h.1.2.2.2.1 a ha
    obtain ⟨e2, hL2⟩ := cl_at h (i := 18 + a) (Or.inr (Or.inr (Or.inl ⟨by omega, by omega⟩)))
    rw [ls_l (by omega)] at hL2
    have hlen := len_at hw (t := a) (by omega)
    refine ⟨_, rfl, s0, _, s4, hL2.1, C_size hL2 ?_⟩
    rw [List.length_map]
    refine C_ixC rfl (by omega) ?_
    cases hy : ixO i (P.2 (1 + a)).length with
    | none =>
      refine ⟨fun q => absurd (show (1 : Int32) = 0 from q) (by decide), fun _ => bad (fun a' ha' => ?_)⟩
      rw [hx] at ha'
      cases ha'
      exact hy
    | some k =>
      obtain ⟨e3, e4⟩ := ixO_some (by omega) hy
      have hk : (P.2 (1 + a))[k]? = some ((P.2 (1 + a)).getD k 0) := by
        rw [List.getD_eq_getElem?_getD, List.getElem?_eq_getElem e4]
        rfl
      have hc := (w_at hw (s := a) (by omega) (List.mem_of_getElem? hk)).2.2.2.1
      obtain ⟨k0, k1, -⟩ := h.1.2.2.2.2.2.1 _ hc
      have hok := ok a k hx hy
      subst e3
      refine ⟨fun _ => ⟨hL2.1, C_get (a := A 3 ((P.2 (1 + a)).getD k 0)) hL2 (by rw [List.getElem?_map, hk]; rfl) ⟨_, rfl, k0, ?_⟩⟩, fun q => absurd rfl q⟩
      rw [k1]
      exact hok
theorem C_carrier (h : cR S A cp P) (hw : wI B K P.1 P.2) {c w : Int32} {MC MS : Nat} {post : Int32 → bS → Prop} {xp : String → bS → Prop} (ok : ∀ i k, ixO c (nC P.1) = some i → ixO w 7 = some k → post (P.1 4 (9 * i + k)) S) (bad : (ixO c (nC P.1) = none ∨ ixO w 7 = none) → False) : wp_X5_carrier post xp MC MS (A 0 0) c w S := by
  have h500 := hw.1.2.2.2.2
  obtain ⟨p0, -, -, p3, -⟩ := h.1.1
  obtain ⟨e3, hL3⟩ := cl_at h (i := 3) (Or.inl (by decide))
  refine ⟨p0, _, p3, hL3.1, C_size hL3 ?_⟩
  rw [ls_3, List.length_map, List.length_range]
  refine C_ixC rfl (by omega) ?_
  cases hx : ixO c (nC P.1) with
  | none => exact ⟨fun q => absurd (show (1 : Int32) = 0 from q) (by decide), fun _ => bad (Or.inl hx)⟩
  | some i =>
    obtain ⟨e1, e2⟩ := ixO_some (by omega) hx
    obtain ⟨k0, k1, k2, k3, k4, k5, k6, k7, -, k9⟩ := h.1.2.2.2.2.2.1 i e2
    obtain ⟨⟨z1, z2⟩, -⟩ := hw.2.2.2.2.2.1 i e2
    obtain ⟨y0, y1, -⟩ := h.1.2.2.2.1 _ z2
    have yes : ∀ k : Nat, k < 7 → w = nI k → post (P.1 4 (9 * i + k)) S := fun k hk e => ok i k hx (by rw [e]; exact ixO_nI (by decide) hk)
    subst e1
    refine ⟨fun _ => ⟨p0, _, p3, hL3.1, C_get (a := A 3 i) hL3 (by rw [ls_3]; exact rng_at e2) ⟨_, rfl, k0, fun q => ?_, fun q => ?_, fun q => ⟨_, k2, y0, ?_⟩, fun q => ?_, fun q => ?_, fun q => ?_, fun q => ?_, fun q0 q1 q2 q3 q4 q5 q6 => bad (Or.inr ?_)⟩⟩, fun q => absurd rfl q⟩
    · rw [k5]; exact yes 0 (by decide) q
    · rw [k6]; exact yes 1 (by decide) q
    · rw [y1, ← z1]; exact yes 2 (by decide) q
    · rw [k3]; exact yes 3 (by decide) q
    · rw [k4]; exact yes 4 (by decide) q
    · rw [k7]; exact yes 5 (by decide) q
    · rw [k9]; exact yes 6 (by decide) q
    · cases hy : ixO w 7 with
      | none => rfl
      | some k =>
        obtain ⟨e, hk⟩ := ixO_some (by decide) hy
        rcases (show k = 0 ∨ k = 1 ∨ k = 2 ∨ k = 3 ∨ k = 4 ∨ k = 5 ∨ k = 6 by omega) with x | x | x | x | x | x | x <;> subst x
        · exact absurd e q0
        · exact absurd e q1
        · exact absurd e q2
        · exact absurd e q3
        · exact absurd e q4
        · exact absurd e q5
        · exact absurd e q6
end CASK2
