section CTIMES3
variable {S : bS} {A : Nat → Nat → Nat} {cp : Nat → Nat} {P : pP} {B K : Nat}
theorem C_fill {row : Nat} (hr : gK S row = 9) (hrn : gN S row = 14) {v : Int32} {post : bS → Prop} (hp : ∀ f, (∀ j, j < 14 → f j = v) → post (sF S 9 row f)) : wp_J7_fill_53178 post row v S := by
  have loop : ∀ (n k : Nat) (f : Nat → Int32), k + n = 14 → (∀ j, j < k → f j = v) → wb_J7_fill_53178_5 post (n + 1) row v (nI k) (nI 14) (sF S 9 row f) := by
    intro n
    induction n with
    | zero =>
      intro k f hk hf
      have : k = 14 := by omega
      subst this
      unfold wb_J7_fill_53178_5
      exact ⟨fun _ => hp f hf, fun q => absurd (Int32.le_refl _) q⟩
    | succ n ih =>
      intro k f hk hf
      unfold wb_J7_fill_53178_5
      refine ⟨fun q => absurd q (nI_ge (by omega) (by omega)), fun _ => ⟨hr, ?_, ?_⟩⟩
      · rw [gN_sF, hrn]
        exact vp_in_nI (by omega) (by omega)
      · rw [nI_clamp (by omega), sV_sF, nI_1]
        refine ih (k + 1) _ (by omega) (fun j hj => ?_)
        by_cases q : j = k
        · subst q
          rw [pk_us]
        · rw [pk_un q]
          exact hf j (by omega)
  refine ⟨hr, 15, ?_⟩
  have := loop 14 0 (gV S 9 row) rfl (fun j hj => absurd hj (Nat.not_lt_zero j))
  rw [sF_self] at this
  rw [hrn]
  exact this
/-- what a station keeps of times and reach says nothing of the station -/
theorem oSt_6 {M : Nat → Nat → Int32} (hSt : oSt S A M) (a : Nat) (v : Int32) : oSt (sV S 5 a 6 v) A M := by
  intro s hs
  obtain ⟨k0, k1, k2, k3, k4, k5, k6, k7⟩ := hSt s hs
  refine ⟨k0, ?_, ?_, ?_, k4, k5, ?_, ?_⟩
  · rw [gV_sV, if_neg (fun x => by omega)]; exact k1
  · rw [gV_sV, if_neg (fun x => by omega)]; exact k2
  · rw [gV_sV, if_neg (fun x => by omega)]; exact k3
  · rw [gV_sV, if_neg (fun x => by omega)]; exact k6
  · rw [gV_sV, if_neg (fun x => by omega)]; exact k7
/-- the times of an aim, found or kept -/
theorem C_reckonTimes (h : cR S A cp P) (hw : wI B K P.1 P.2) {aim : Nat} (haim : aim < nS P.1) {post : bS → Prop} (hp : ∀ S', cR S' A cp P → cF A S S' → (∀ v, v < nS P.1 → gV S' 9 (A 6 aim) v = oV (dD P.1 aim v)) → post S') : wp_X2_reckonTimesTo post (A 0 1) (A 1 aim) S := by
  have h14 := hw.1.1.2
  obtain ⟨hP, hNt, hAr, hSt, hTb, hCa, hEn, hIn, hTm⟩ := h.1
  obtain ⟨b1, b2, b3⟩ := hAr.1 aim haim
  obtain ⟨s0, s1, -⟩ := hSt aim haim
  refine ⟨s0, fun hz => ⟨_, b1, C_fill b2 b3 (fun f hf => ⟨s0, C_keepFrom (X := sF S 9 (A 6 aim) f) (row := A 6 aim) (n := aim) s0 s1 (by omega) s0 b1 b2 b3 ⟨nS P.1 + 2, ?_⟩⟩)⟩, fun hz => ?_⟩
  · rw [sV_sF]
    refine C_rounds h hw b1 b2 b3 haim (fun f' hE => ?_) (nS P.1) 0 true _ (by omega) (fun v hv => ?_) (fun q => by cases q)
    · refine ⟨s0, hp _ ⟨⟨hP, hNt, hAr, ?_, hTb, hCa, hEn, hIn, fun k hk => ?_⟩, ?_⟩ ⟨fun _ _ => ⟨rfl, rfl⟩, fun _ _ _ => ⟨rfl, rfl⟩, fun a j ha h3 => ?_, fun _ _ => ⟨fun _ => rfl, fun _ => rfl⟩⟩ (fun v hv => ?_)⟩
      · exact oSt_6 (S := sF S 9 (A 6 aim) f') hSt _ _
      · by_cases q : k = aim
        · subst q
          refine Or.inr ⟨?_, fun v hv => ?_⟩
          · rw [gV_sV, if_pos ⟨rfl, rfl, rfl⟩]
          · show gV (sF S 9 (A 6 k) f') 9 (A 6 k) v = _
            rw [gV_sFs]
            exact hE v hv
        · have q6 : A 6 k ≠ A 6 aim := fun x => q (hAr.2 k aim hk haim x)
          have q1 : A 1 k ≠ A 1 aim := fun x => q (hIn.1 k aim hk haim x)
          rw [gV_sV, if_neg (fun x => q1 x.2.1)]
          rcases hTm k hk with x | ⟨x1, x3⟩
          · exact Or.inl x
          · refine Or.inr ⟨x1, fun v hv => ?_⟩
            show gV (sF S 9 (A 6 aim) f') 9 (A 6 k) v = _
            rw [gV_sF, if_neg (fun x => q6 x.2)]
            exact x3 v hv
      · obtain ⟨ea, hL⟩ := h.2
        exact ⟨ea, hL⟩
      · show gV (sF S 9 (A 6 aim) f') 9 a j = gV S 9 a j
        rw [gV_sF, if_neg (fun x => h3 aim x.2)]
      · show gV (sF S 9 (A 6 aim) f') 9 (A 6 aim) v = _
        rw [gV_sFs]
        exact hE v hv
    · show upd f aim 0 v = oV (if v = aim then some 0 else none)
      by_cases q : v = aim
      · subst q
        rw [pk_us, if_pos rfl]
        rfl
      · rw [pk_un q, if_neg q]
        exact hf v (by omega)
  · refine hp S h (cF_rf A S) ?_
    rcases hTm aim haim with x | ⟨-, x⟩
    · exact absurd x hz
    · exact x
end CTIMES3
