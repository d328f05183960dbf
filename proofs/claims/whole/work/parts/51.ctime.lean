/-! ===== the class's times ===== -/
theorem oV_some {x : Option Nat} (hx : ∀ y, x = some y → y ≤ 48080) : oV x = 1000000 ↔ x = none := by
  cases x with
  | none => exact ⟨fun _ => rfl, fun _ => rfl⟩
  | some y =>
    refine ⟨fun h => ?_, fun h => by cases h⟩
    have := hx y rfl
    have h2 : y = 1000000 := (nI_eq (b := 1000000) (by omega) (by omega)).mp h
    omega
section CTIME
variable {S : bS} {A : Nat → Nat → Nat} {M : Nat → Nat → Int32}
theorem C_timeBy (hSt : oSt S A M) (hTb : oTb S A M) (hIn : oIn A M) (hN : iN M) (hT : iT M) (hS : iS M) {D : Nat → Option Nat} {aim t row : Nat} (hr : gK S row = 9) (hrn : gN S row = 14) (hE : ∀ v, v < nS M → gV S 9 row v = oV (D v)) (hB : ∀ v x, D v = some x → x ≤ 48000) (ht : t < nT M) (haim : aim < nS M) {nt : Nat} {post : Int32 → bS → Prop} (hp : post (oV (tmO M D aim t)) S) : wp_X2_timeBy post nt (A 2 t) (A 1 aim) row S := by
  have h14 := hN.1.2
  obtain ⟨t0, -, -, t2, -, -, -, -, t7, t8, -⟩ := hTb t ht
  obtain ⟨-, x2, -, x4, x5, -, x7⟩ := hT t ht
  obtain ⟨s0, s1, -, s3, -⟩ := hSt _ x2.2
  have hh := (hS _ x2.2).2.1
  have hthr := thr_le x5.2.1 x4.2.2
  refine ⟨t0, _, t2, s0, hr, ?_, ?_⟩
  · rw [s1, hrn]
    exact vp_in_nI (by omega) (by omega)
  · rw [s1, nI_clamp (by omega), hE _ x2.2, t8]
    unfold tmO at hp
    refine ⟨fun h0 => ?_, fun h0 => ⟨fun hne => ⟨_, t2, fun hn => ⟨_, t2, s0, t0, ?_⟩, fun he => ⟨t0, ?_⟩⟩, fun he => ?_⟩⟩
    · rw [if_neg (by unfold tOp; simp; exact h0)] at hp
      exact hp
    · have ho : tOp M t = true := by unfold tOp; simp; exact h0
      rw [if_pos ho] at hp
      cases hD : D (tTo M t) with
      | none => rw [hD] at hne; exact absurd rfl hne
      | some y =>
        have hy := hB _ _ hD
        rw [hD] at hp
        have hne' : ¬ tTo M t = aim := fun q => hn (by rw [q])
        rw [t7, s3, show M 1 (9 * tTo M t + 1) = nI (hnd M (tTo M t)) from hh.1]
        show post (nI (thr M t) + nI (hnd M (tTo M t)) + nI y) S
        rw [nI_add, nI_add, show thr M t + hnd M (tTo M t) + y = cst M aim t + y by unfold cst; rw [if_neg hne']]
        exact hp
    · have ho : tOp M t = true := by unfold tOp; simp; exact h0
      rw [if_pos ho] at hp
      cases hD : D (tTo M t) with
      | none => rw [hD] at hne; exact absurd rfl hne
      | some y =>
        have hy := hB _ _ hD
        rw [hD] at hp
        have he' : tTo M t = aim := hIn.1 _ _ x2.2 haim (by injection he)
        rw [t7]
        show post (nI (thr M t) + nI 0 + nI y) S
        rw [nI_add, nI_add, show thr M t + 0 + y = cst M aim t + y by unfold cst; rw [if_pos he']]
        exact hp
    · have ho : tOp M t = true := by unfold tOp; simp; exact h0
      rw [if_pos ho] at hp
      have hD : D (tTo M t) = none := (oV_some (fun y hy => by have := hB _ _ hy; omega)).mp he
      rw [hD] at hp
      exact hp
end CTIME
