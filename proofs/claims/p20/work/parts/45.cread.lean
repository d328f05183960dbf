/-! ===== the class's methods that only read ===== -/
section CREAD
variable {S : bS} {A : Nat → Nat → Nat} {cp : Nat → Nat} {P : pP} {B K : Nat}
theorem cl_at (h : cR S A cp P) {i : Nat} (hi : lvC P.1 i) : ∃ e, isLe S (A 5 i) e (lsC A P.1 P.2 i) (cp i) := by
  obtain ⟨ea, hL⟩ := h.2
  exact ⟨ea i, hL.1 i hi⟩
theorem ls_0 : lsC A P.1 P.2 0 = (List.range (nS P.1)).map (A 1) := rfl
theorem ls_1 : lsC A P.1 P.2 1 = (List.range (nT P.1)).map (A 2) := rfl
theorem ls_2 : lsC A P.1 P.2 2 = (List.range (nE P.1)).map (A 4) := rfl
theorem ls_3 : lsC A P.1 P.2 3 = (List.range (nC P.1)).map (A 3) := rfl
theorem ls_w {s : Nat} (hs : s < 14) : lsC A P.1 P.2 (4 + s) = (List.range (mny P.1 s)).map (fun k => A 2 (way P.1 s k)) := by
  unfold lsC
  rw [if_neg (by omega), if_neg (by omega), if_neg (by omega), if_neg (by omega), if_pos (by omega), show 4 + s - 4 = s by omega]
theorem ls_l {s : Nat} (hs : s < 14) : lsC A P.1 P.2 (18 + s) = (P.2 (1 + s)).map (A 3) := by
  unfold lsC
  rw [if_neg (by omega), if_neg (by omega), if_neg (by omega), if_neg (by omega), if_neg (by omega), if_pos (by omega), show 18 + s - 18 = s by omega]
theorem ls_i {t : Nat} : lsC A P.1 P.2 (32 + t) = (P.2 (15 + t)).map (A 3) := by
  unfold lsC
  rw [if_neg (by omega), if_neg (by omega), if_neg (by omega), if_neg (by omega), if_neg (by omega), if_neg (by omega), show 32 + t - 32 = t by omega]
theorem rng_at {f : Nat → Nat} {n k : Nat} (h : k < n) : ((List.range n).map f)[k]? = some (f k) := by
  rw [List.getElem?_map, List.getElem?_range h]
  rfl
theorem C_isOut {v a b : Int32} {post : Int32 → bS → Prop} (hp : post (if a ≤ v ∧ v ≤ b then 0 else 1) S) : wp_X5_isOutside post v a b S := by
  refine ⟨fun h1 => ?_, fun h1 => ⟨fun h2 => ?_, fun h2 => ?_⟩⟩
  · rw [if_neg (fun q => absurd h1 (Int32.not_lt.mpr q.1))] at hp
    exact ⟨Or.inr rfl, hp⟩
  · rw [if_pos ⟨Int32.not_lt.mp h1, h2⟩] at hp
    exact ⟨Or.inl rfl, hp⟩
  · rw [if_neg (fun q => h2 q.2)] at hp
    exact ⟨Or.inr rfl, hp⟩
theorem ixO_none_of {v : Int32} {n : Nat} (h : ¬ ((0 : Int32) ≤ v ∧ v < nI n)) : ixO v n = none := if_neg h
theorem C_hasSt (h : cR S A cp P) (hw : wI B K P.1 P.2) {v : Int32} {post : Int32 → bS → Prop} (hp : post (if (ixO v (nS P.1)).isSome then 1 else 0) S) : wp_X2_hasStation post (A 0 1) v S := by
  obtain ⟨e, hL⟩ := cl_at h (i := 0) (Or.inl (by decide))
  obtain ⟨n0, n1, -⟩ := h.1.2.1
  refine ⟨fun hlt => ?_, fun hge => ⟨n0, _, n1, hL.1, C_size hL ?_⟩⟩
  · rw [ixO_none_of (fun q => absurd hlt (Int32.not_lt.mpr q.1))] at hp
    exact ⟨Or.inl rfl, hp⟩
  · rw [ls_0, List.length_map, List.length_range]
    refine ⟨fun hle => ?_, fun hgt => ?_⟩
    · rw [ixO_none_of (fun q => absurd hle (Int32.not_le.mpr q.2))] at hp
      exact ⟨Or.inl rfl, hp⟩
    · rw [show ixO v (nS P.1) = some (u v) from if_pos ⟨Int32.not_lt.mp hge, Int32.not_le.mp hgt⟩] at hp
      exact ⟨Or.inr rfl, hp⟩
theorem C_hasTu (h : cR S A cp P) (hw : wI B K P.1 P.2) {v : Int32} {post : Int32 → bS → Prop} (hp : post (if (ixO v (nT P.1)).isSome then 1 else 0) S) : wp_X2_hasTube post (A 0 1) v S := by
  obtain ⟨e, hL⟩ := cl_at h (i := 1) (Or.inl (by decide))
  obtain ⟨n0, -, n1, -⟩ := h.1.2.1
  refine ⟨fun hlt => ?_, fun hge => ⟨n0, _, n1, hL.1, C_size hL ?_⟩⟩
  · rw [ixO_none_of (fun q => absurd hlt (Int32.not_lt.mpr q.1))] at hp
    exact ⟨Or.inl rfl, hp⟩
  · rw [ls_1, List.length_map, List.length_range]
    refine ⟨fun hle => ?_, fun hgt => ?_⟩
    · rw [ixO_none_of (fun q => absurd hle (Int32.not_le.mpr q.2))] at hp
      exact ⟨Or.inl rfl, hp⟩
    · rw [show ixO v (nT P.1) = some (u v) from if_pos ⟨Int32.not_lt.mp hge, Int32.not_le.mp hgt⟩] at hp
      exact ⟨Or.inr rfl, hp⟩
theorem C_getSt (h : cR S A cp P) {s : Nat} (hs : s < nS P.1) {post : Option Nat → bS → Prop} (hp : post (some (A 1 s)) S) : wp_Jx4a65c_get_915e3 post (A 5 0) (nI s) S := by
  obtain ⟨e, hL⟩ := cl_at h (i := 0) (Or.inl (by decide))
  exact C_get hL (by rw [ls_0]; exact rng_at hs) hp
theorem C_getTu (h : cR S A cp P) {s : Nat} (hs : s < nT P.1) {post : Option Nat → bS → Prop} (hp : post (some (A 2 s)) S) : wp_Jx4a65c_get_915e3 post (A 5 1) (nI s) S := by
  obtain ⟨e, hL⟩ := cl_at h (i := 1) (Or.inl (by decide))
  exact C_get hL (by rw [ls_1]; exact rng_at hs) hp
theorem C_knownSt (h : cR S A cp P) (hw : wI B K P.1 P.2) {v : Int32} {MC MS : Nat} {post : Option Nat → bS → Prop} {xp : String → bS → Prop} (hn : ixO v (nS P.1) = none → False) (hs : ∀ s, ixO v (nS P.1) = some s → post (some (A 1 s)) S) : wp_X5_knownStation post xp MC MS (A 0 0) v S := by
  have h14 := hw.1.1.2
  obtain ⟨p0, p1, -⟩ := h.1.1
  obtain ⟨n0, n1, -⟩ := h.1.2.1
  obtain ⟨e, hL⟩ := cl_at h (i := 0) (Or.inl (by decide))
  refine ⟨p0, _, p1, n0, C_hasSt h hw ?_⟩
  cases hx : ixO v (nS P.1) with
  | none => exact ⟨fun q => absurd rfl q, fun _ => hn hx⟩
  | some s =>
    obtain ⟨e1, e2⟩ := ixO_some (by omega) hx
    refine ⟨fun _ => ⟨p0, _, p1, n0, _, n1, hL.1, ?_⟩, fun q => absurd (show (1 : Int32) = 0 from q) (by decide)⟩
    have := hs s hx
    subst e1
    exact C_getSt h e2 ⟨_, rfl, (h.1.2.2.2.1 s e2).1, this⟩
theorem C_knownTu (h : cR S A cp P) (hw : wI B K P.1 P.2) {v : Int32} {MC MS : Nat} {post : Option Nat → bS → Prop} {xp : String → bS → Prop} (hn : ixO v (nT P.1) = none → False) (hs : ∀ s, ixO v (nT P.1) = some s → post (some (A 2 s)) S) : wp_X5_knownTube post xp MC MS (A 0 0) v S := by
  have h30 := hw.1.2.1.2
  obtain ⟨p0, p1, -⟩ := h.1.1
  obtain ⟨n0, -, n1, -⟩ := h.1.2.1
  obtain ⟨e, hL⟩ := cl_at h (i := 1) (Or.inl (by decide))
  refine ⟨p0, _, p1, n0, C_hasTu h hw ?_⟩
  cases hx : ixO v (nT P.1) with
  | none => exact ⟨fun q => absurd rfl q, fun _ => hn hx⟩
  | some s =>
    obtain ⟨e1, e2⟩ := ixO_some (by omega) hx
    refine ⟨fun _ => ⟨p0, _, p1, n0, _, n1, hL.1, ?_⟩, fun q => absurd (show (1 : Int32) = 0 from q) (by decide)⟩
    have := hs s hx
    subst e1
    exact C_getTu h e2 ⟨_, rfl, (h.1.2.2.2.2.1 s e2).1, this⟩
theorem C_underWay (h : cR S A cp P) (hw : wI B K P.1 P.2) {post : Int32 → bS → Prop} (hp : post (P.1 0 14) S) : wp_X5_underWay post (A 0 0) S := by
  obtain ⟨p0, -, -, p3, -, p5, -⟩ := h.1.1
  obtain ⟨e, hL⟩ := cl_at h (i := 3) (Or.inl (by decide))
  obtain ⟨-, -, a3, a4, a5, a6, -⟩ := hw.2.2.2.2.1
  have hle := nodup_le _ _ a4 a5
  refine ⟨p0, _, p3, hL.1, C_size hL ⟨p0, ?_⟩⟩
  rw [ls_3, List.length_map, List.length_range, p5, a6, pk_sub (by omega), show nC P.1 - (nC P.1 - (P.2 0).length) = (P.2 0).length by omega, ← a3.1]
  exact hp
theorem C_hasRoom (h : cR S A cp P) (hw : wI B K P.1 P.2) {s : Nat} (hs : s < nS P.1) {post : Int32 → bS → Prop} (hp : post (if nI (P.2 (1 + s)).length < P.1 1 (9 * s + 0) then 1 else 0) S) : wp_X3_hasRoom post (A 1 s) S := by
  have h14 := hw.1.1.2
  obtain ⟨s0, -, s1, -, -, s4, -⟩ := h.1.2.2.2.1 s hs
  obtain ⟨e, hL⟩ := cl_at h (i := 18 + s) (Or.inr (Or.inr (Or.inl ⟨by omega, by omega⟩)))
  refine ⟨s0, _, s4, hL.1, C_size hL ⟨s0, ?_⟩⟩
  rw [ls_l (by omega), List.length_map, s1]
  refine ⟨fun hle => ?_, fun hgt => ?_⟩
  · rw [if_neg (Int32.not_lt.mpr hle)] at hp
    exact ⟨Or.inl rfl, hp⟩
  · rw [if_pos (Int32.not_le.mp hgt)] at hp
    exact ⟨Or.inr rfl, hp⟩
theorem C_canTake (h : cR S A cp P) (hw : wI B K P.1 P.2) {s : Nat} (hs : s < nS P.1) {post : Int32 → bS → Prop} (hp : post (if canS P.1 (P.2 (1 + s)).length s then 1 else 0) S) : wp_X5_canTakeLetterAt post (A 0 0) (A 1 s) S := by
  obtain ⟨p0, -, -, p3, -⟩ := h.1.1
  obtain ⟨e, hL⟩ := cl_at h (i := 3) (Or.inl (by decide))
  have h5 := hw.1.2.2.2.1
  refine ⟨(h.1.2.2.2.1 s hs).1, C_hasRoom h hw hs ?_⟩
  by_cases c1 : nI (P.2 (1 + s)).length < P.1 1 (9 * s + 0)
  · rw [if_pos c1]
    refine ⟨fun q => absurd q (by decide), fun _ => ⟨p0, C_underWay h hw ⟨fun hle => ?_, fun hgt => ⟨p0, _, p3, hL.1, C_size hL ?_⟩⟩⟩⟩
    · rw [if_neg (fun q => absurd hle (Int32.not_le.mpr q.2.1))] at hp
      exact ⟨Or.inl rfl, hp⟩
    · rw [ls_3, List.length_map, List.length_range, ← h5]
      refine ⟨fun hle => ?_, fun hgt2 => ?_⟩
      · rw [if_neg (fun q => absurd hle (Int32.not_le.mpr q.2.2))] at hp
        exact ⟨Or.inl rfl, hp⟩
      · rw [if_pos ⟨c1, Int32.not_le.mp hgt, Int32.not_le.mp hgt2⟩] at hp
        exact ⟨Or.inr rfl, hp⟩
  · rw [if_neg c1]
    rw [if_neg (fun q => c1 q.1)] at hp
    exact ⟨fun _ => ⟨Or.inl rfl, hp⟩, fun q => absurd rfl q⟩
end CREAD
