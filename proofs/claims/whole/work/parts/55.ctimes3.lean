section CTIMES3
variable {S : bS} {A : Nat → Nat → Nat} {cp : Nat → Nat} {P : pP} {B K : Nat}
theorem C_fill {row : Nat} (hr : gK S row = 9) (hrn : gN S row = 14) {v : Int32} {post : bS → Prop} (hp : ∀ f, (∀ j, j < 14 → f j = v) → post (sF S 9 row f)) : wp_J7_fill_53178 post row v S := by
  have loop : ∀ (n k : Nat) (f : Nat → Int32), k + n = 14 → (∀ j, j < k → f j = v) → wb_J7_fill_53178_5 post (n + 1) row v (nI k) (nI 14) (sF S 9 row f) := by
    intro n
    induction n with
    | zero =>
      intro k f hk hf
      have : k = 14 := by omega
      subst this
      unfold wb_J7_fill_53178_5
      exact ⟨fun _ => hp f hf, fun q => absurd (Int32.le_refl _) q⟩
    | succ n ih =>
      intro k f hk hf
      unfold wb_J7_fill_53178_5
      refine ⟨fun q => absurd q (nI_ge (by omega) (by omega)), fun _ => ⟨hr, ?_, ?_⟩⟩
      · rw [gN_sF, hrn]
        exact vp_in_nI (by omega) (by omega)
      · rw [nI_clamp (by omega), sV_sF, nI_1]
        refine ih (k + 1) _ (by omega) (fun j hj => ?_)
        by_cases q : j = k
        · subst q
          rw [pk_us]
        · rw [pk_un q]
          exact hf j (by omega)
  refine ⟨hr, 15, ?_⟩
  have := loop 14 0 (gV S 9 row) rfl (fun j hj => absurd hj (Nat.not_lt_zero j))
  rw [sF_self] at this
  rw [hrn]
  exact this
/-- the times of an aim, found or kept -/
theorem C_timesTo (h : cR S A cp P) (hw : wI B K P.1 P.2) {aim : Nat} (haim : aim < nS P.1) {post : Option Nat → bS → Prop} (hp : ∀ S', cR S' A cp P → cF A S S' → (∀ v, v < nS P.1 → gV S' 9 (A 6 aim) v = oV (dD P.1 aim v)) → post (some (A 6 aim)) S') : wp_X2_timesTo post (A 0 1) (A 1 aim) S := by
  have h14 := hw.1.1.2
  obtain ⟨hP, hNt, hAr, hSt, hTb, hCa, hEn, hIn, hTm⟩ := h.1
  obtain ⟨n0, -, -, n2, n3, -⟩ := hNt
  obtain ⟨⟨a1, a2⟩, ⟨a3, a4⟩, ⟨a5, -⟩, ⟨a6, -⟩, -, a7, a8⟩ := hAr
  obtain ⟨b1, b2, b3, b4, b5⟩ := a7 aim (by omega)
  obtain ⟨s0, s1, -⟩ := hSt aim haim
  have hin : vp_in (nI aim) 14 := vp_in_nI (by omega) (by decide)
  refine ⟨n0, _, n2, s0, a1, ?_, A 6 aim, ?_, _, n3, a3, ?_, ?_⟩
  · rw [s1, a2]; exact hin
  · rw [s1, nI_clamp (by omega)]; exact b1
  · rw [s1, a4]; exact hin
  · rw [s1, nI_clamp (by omega)]
    refine ⟨fun hz => C_fill b2 b3 (fun f hf => ⟨s0, b2, ?_, nS P.1 + 2, ?_⟩), fun hz => ?_⟩
    · show vp_in (gV S 5 (A 1 aim) 0) (gN S (A 6 aim))
      rw [s1, b3]; exact hin
    · have g0 : gV (sF S 9 (A 6 aim) f) 5 (A 1 aim) 0 = nI aim := s1
      rw [g0, nI_clamp (by omega), sV_sF]
      refine C_rounds h hw b2 b3 haim (fun f' hE => ?_) (nS P.1) 0 true _ (by omega) (fun v hv => ?_) (fun q => by cases q)
      · have g1 : gV (sF S 9 (A 6 aim) f') 5 (A 1 aim) 0 = nI aim := s1
        refine ⟨n0, _, n3, s0, a3, ?_, ?_⟩
        · rw [g1, gN_sF, a4]; exact hin
        · rw [g1, nI_clamp (by omega), show vp_nar .boolean (1 : Int32) = 1 by decide]
          refine hp _ ⟨⟨hP, ⟨n0, ?_⟩, ⟨⟨a1, a2⟩, ⟨a3, a4⟩, ?_⟩, hSt, hTb, hCa, hEn, hIn, fun k hk => ?_⟩, ?_⟩ ⟨fun _ _ => ⟨rfl, rfl⟩, fun _ _ _ => ⟨rfl, rfl⟩, fun a j ha h1 h2 h3 => ?_, fun _ _ _ => rfl⟩ (fun v hv => ?_)
          · exact h.1.2.1.2
          · exact h.1.2.2.1.2.2
          · by_cases q : k = aim
            · subst q
              refine Or.inr ⟨?_, haim, fun v hv => ?_⟩
              · rw [gV_sV, if_pos ⟨rfl, rfl, rfl⟩]
              · show gV (sF S 9 (A 6 k) f') 9 (A 6 k) v = _
                rw [gV_sFs]
                exact hE v hv
            · have q6 : A 6 k ≠ A 6 aim := fun x => q (a8 k aim hk (by omega) x)
              rw [gV_sV, if_neg (fun x => q x.2.2)]
              rcases hTm k hk with x | ⟨x1, x2, x3⟩
              · exact Or.inl x
              · refine Or.inr ⟨x1, x2, fun v hv => ?_⟩
                show gV (sF S 9 (A 6 aim) f') 9 (A 6 k) v = _
                rw [gV_sF, if_neg (fun x => q6 x.2)]
                exact x3 v hv
          · obtain ⟨ea, hL⟩ := h.2
            exact ⟨ea, hL⟩
          · show gV (sF S 9 (A 6 aim) f') 9 a j = gV S 9 a j
            rw [gV_sF, if_neg (fun x => h3 aim (by omega) x.2)]
          · show gV (sF S 9 (A 6 aim) f') 9 (A 6 aim) v = _
            rw [gV_sFs]
            exact hE v hv
      · show upd f aim 0 v = oV (if v = aim then some 0 else none)
        by_cases q : v = aim
        · subst q
          rw [pk_us, if_pos rfl]
          rfl
        · rw [pk_un q, if_neg q]
          exact hf v (by omega)
    · refine hp S h (cF_rf A S) ?_
      rcases hTm aim (by omega) with x | ⟨-, -, x⟩
      · exact absurd x hz
      · exact x
end CTIMES3
