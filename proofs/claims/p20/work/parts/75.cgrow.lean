/-! ===== the class's stores that grow ===== -/
theorem sEx_Q {S S' : bS} {q κ j : Nat} {v : Option Nat} (hq : gK S q = 0) (h : sEx S S') : sEx S (sQ S' κ q j v) := ⟨fun a ha => by
  have hne : a ≠ q := fun e => ha (e ▸ hq)
  obtain ⟨h1, h2, h3, h4, h5⟩ := h.1 a ha
  refine ⟨h1, h2, h3, fun κ' j' => ?_, h5⟩
  rw [gQ_sQ, if_neg (fun x => hne x.2.1), h4], fun a ha => h.2 a ha⟩
theorem sEx_lF {S S' : bS} (h : sEx S S') : lF S S' := ⟨⟨fun a ha => ⟨(h.1 a ha).1, (h.1 a ha).2.1⟩, h.2⟩, fun κ a j _ ha => (h.1 a ha).2.2.1 κ j, fun κ a j _ _ ha => (h.1 a ha).2.2.2.1 κ j, fun a j ha => (h.1 a ha).2.2.2.2 j⟩
theorem LSr_ex {S S' : bS} {lv : Nat → Prop} {la ea : Nat → Nat} {ls : Nat → List Nat} {cp : Nat → Nat} (h : LSr S lv la ea ls cp) (hx : sEx S S') : LSr S' lv la ea ls cp := LSr_fr h (fun a ha => ⟨(hx.1 a ha).1, (hx.1 a ha).2.1⟩) hx.2 (fun a j ha => (hx.1 a ha).2.2.1 1 j) (fun a j ha => (hx.1 a ha).2.2.2.1 1 j) (fun a j ha => (hx.1 a ha).2.2.2.1 11 j)
/-- one list more, empty -/
theorem LSr_addl {S : bS} {lv : Nat → Prop} {la ea : Nat → Nat} {ls : Nat → List Nat} {cp : Nat → Nat} (h : LSr S lv la ea ls cp) {i0 l z : Nat} (hl : gK S l = 1) (h2 : gV S 1 l 2 = 0) (hq : gQ S 1 l 1 = some z) (hz : gK S z = 14) (hzn : gN S z = 0) (hc : cp i0 = 0) (hne : ∀ i, lv i → la i ≠ l) (hi0 : ¬ lv i0) : LSr S (fun i => lv i ∨ i = i0) (up la i0 l) (up ea i0 z) (up ls i0 []) cp := by
  obtain ⟨h1, h3, h4, h5⟩ := h
  have old : ∀ i, lv i → i ≠ i0 := fun i hi x => hi0 (x ▸ hi)
  refine ⟨fun i hi => ?_, fun i j hi hj hij => ?_, fun i j hi hj hcp hij => ?_, h5⟩
  · rcases hi with hi | hi
    · rw [up_n (old i hi), up_n (old i hi), up_n (old i hi)]
      exact h1 i hi
    · subst hi
      rw [up_s, up_s, up_s, hc]
      exact ⟨hl, h2, hq, Or.inl ⟨rfl, hz, hzn⟩, Nat.le_refl _, by decide, fun k a hk => by cases hk⟩
  · rcases hi with hi | hi <;> rcases hj with hj | hj
    · rw [up_n (old i hi), up_n (old j hj)] at hij
      exact h3 i j hi hj hij
    · subst hj
      rw [up_n (old i hi), up_s] at hij
      exact absurd hij (hne i hi)
    · subst hi
      rw [up_n (old j hj), up_s] at hij
      exact absurd hij.symm (hne j hj)
    · rw [hi, hj]
  · rcases hi with hi | hi
    · rcases hj with hj | hj
      · rw [up_n (old i hi), up_n (old j hj)] at hij
        exact h4 i j hi hj hcp hij
      · subst hj
        rw [up_n (old i hi), up_s] at hij
        obtain ⟨-, -, -, x4, -⟩ := h1 i hi
        rcases x4 with ⟨x, -⟩ | ⟨-, x, -⟩
        · omega
        · rw [hij, hz] at x
          cases x
    · subst hi
      omega
/-- a new list object's start -/
theorem C_linit {S : bS} {q : Nat} (hq : gK S q = 0) {post : bS → Prop} (hp : ∀ z, gK S z = 14 → post (sQ (sV (sNew S q 1 0) 1 q 0 0) 1 q 1 (some z))) : wp_Jx4a65c_init_da8c8 post q (sNew S q 1 0) := by
  have k1 : gK (sNew S q 1 0) q = 1 := by rw [gK_sNew, if_pos rfl]
  refine ⟨k1, fun z hz => ⟨k1, hp z ?_⟩⟩
  have hz : gK (sNew S q 1 0) z = 14 := hz
  rw [gK_sNew] at hz
  by_cases e : z = q
  · rw [if_pos e] at hz
    cases hz
  · rw [if_neg e] at hz
    exact hz
