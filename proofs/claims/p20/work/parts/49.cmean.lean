section CDIG
variable {S : bS} {A : Nat → Nat → Nat} {cp : Nat → Nat} {P : pP} {B K : Nat}
theorem C_mean (h : cR S A cp P) {post : UInt64 → bS → Prop} (hp : ∀ v, meanOK P.1 v → post v S) : wp_X5_mean post (A 0 0) S := by
  obtain ⟨p0, -, -, -, -, p5, p6⟩ := h.1.1
  unfold wp_X5_mean
  rw [p5, p6]
  refine ⟨p0, fun hne v hv => hp v ?_, fun he => hp _ ?_⟩
  · unfold meanOK
    rw [if_neg hne]
    exact hv
  · unfold meanOK
    rw [if_pos he]
end CDIG
