/-! ===== the class's times ===== -/
theorem oV_some {x : Option Nat} (hx : ∀ y, x = some y → y ≤ 48080) : oV x = 1000000 ↔ x = none := by
  cases x with
  | none => exact ⟨fun _ => rfl, fun _ => rfl⟩
  | some y =>
    refine ⟨fun h => ?_, fun h => by cases h⟩
    have := hx y rfl
    have h2 : y = 1000000 := (nI_eq (b := 1000000) (by omega) (by omega)).mp h
    omega
section CTIME
variable {S : bS} {A : Nat → Nat → Nat} {M : Nat → Nat → Int32}
theorem C_timeBy (hSt : oSt S A M) (hTb : oTb S A M) (hIn : oIn A M) (hN : iN M) (hT : iT M) (hS : iS M) {D : Nat → Option Nat} {aim t : Nat} {rest : Int32} (hr : rest = oV (D (tTo M t))) (hB : ∀ v x, D v = some x → x ≤ 48000) (ht : t < nT M) (haim : aim < nS M) {post : Int32 → bS → Prop} (hp : post (oV (tmO M D aim t)) S) : wp_X2_timeBy post (A 2 t) (A 1 aim) rest S := by
  have h14 := hN.1.2
  obtain ⟨t0, -, -, t2, -, -, -, -, t7, t8, -⟩ := hTb t ht
  obtain ⟨-, x2, -, x4, x5, -, x7⟩ := hT t ht
  obtain ⟨s0, s1, -, s3, -⟩ := hSt _ x2.2
  have hh := (hS _ x2.2).2.1
  have hthr := thr_le x5.2.1 x4.2.2
  subst hr
  refine ⟨t0, ?_⟩
  rw [t8]
  unfold tmO at hp
  refine ⟨fun h0 => ?_, fun h0 => ⟨fun hne => ⟨_, t2, fun hn => ⟨_, t2, s0, t0, ?_⟩, fun he => ⟨t0, ?_⟩⟩, fun he => ?_⟩⟩
  · rw [if_neg (by unfold tOp; simp; exact h0)] at hp
    exact hp
  · have ho : tOp M t = true := by unfold tOp; simp; exact h0
    rw [if_pos ho] at hp
    cases hD : D (tTo M t) with
    | none => rw [hD] at hne; exact absurd rfl hne
    | some y =>
      have hy := hB _ _ hD
      rw [hD] at hp
      have hne' : ¬ tTo M t = aim := fun q => hn (by rw [q])
      rw [t7, s3, show M 1 (9 * tTo M t + 1) = nI (hnd M (tTo M t)) from hh.1]
      show post (nI (thr M t) + nI (hnd M (tTo M t)) + nI y) S
      rw [nI_add, nI_add, show thr M t + hnd M (tTo M t) + y = cst M aim t + y by unfold cst; rw [if_neg hne']]
      exact hp
  · have ho : tOp M t = true := by unfold tOp; simp; exact h0
    rw [if_pos ho] at hp
    cases hD : D (tTo M t) with
    | none => rw [hD] at hne; exact absurd rfl hne
    | some y =>
      have hy := hB _ _ hD
      rw [hD] at hp
      have he' : tTo M t = aim := hIn.1 _ _ x2.2 haim (by injection he)
      rw [t7]
      show post (nI (thr M t) + nI 0 + nI y) S
      rw [nI_add, nI_add, show thr M t + 0 + y = cst M aim t + y by unfold cst; rw [if_pos he']]
      exact hp
  · have ho : tOp M t = true := by unfold tOp; simp; exact h0
    rw [if_pos ho] at hp
    have hD : D (tTo M t) = none := (oV_some (fun y hy => by have := hB _ _ hy; omega)).mp he
    rw [hD] at hp
    exact hp
/-- the row of an aim is read -/
theorem C_timeFrom {a s row n : Nat} {X : bS} (hs : gK X s = 5) (hn : gV X 5 s 0 = nI n) (h14 : n < 14) (ha : gK X a = 5) (hq : gQ X 5 a 5 = some row) (hr : gK X row = 9) (hrn : gN X row = 14) {post : Int32 → bS → Prop} (hp : post (gV X 9 row n) X) : wp_X3_timeFrom post a s X := by
  refine ⟨hs, ?_⟩
  rw [hn]
  refine ⟨fun q => absurd q (nI_pos (by omega)), fun _ => ⟨ha, row, hq, hr, ?_⟩⟩
  rw [hrn]
  refine ⟨fun q => absurd q (nI_ge (a := n) (b := 14) h14 (by decide)), fun _ => ⟨row, hq, hr, vp_in_nI (by omega) (by omega), ?_⟩⟩
  rw [nI_clamp (by omega)]
  exact hp
/-- the row of an aim is written -/
theorem C_keepFrom {a s row n : Nat} {X : bS} {v : Int32} (hs : gK X s = 5) (hn : gV X 5 s 0 = nI n) (h14 : n < 14) (ha : gK X a = 5) (hq : gQ X 5 a 5 = some row) (hr : gK X row = 9) (hrn : gN X row = 14) {post : bS → Prop} (hp : post (sV X 9 row n v)) : wp_X3_keepTimeFrom post a s v X := by
  refine ⟨hs, ?_⟩
  rw [hn]
  refine ⟨fun q => absurd q (nI_pos (by omega)), fun _ => ⟨ha, row, hq, hr, ?_⟩⟩
  rw [hrn]
  refine ⟨fun q => absurd q (nI_ge (a := n) (b := 14) h14 (by decide)), fun _ => ⟨row, hq, hr, vp_in_nI (by omega) (by omega), ?_⟩⟩
  rw [nI_clamp (by omega)]
  exact hp
end CTIME
