section CWAY
variable {S : bS} {A : Nat → Nat → Nat} {cp : Nat → Nat} {P : pP} {B K : Nat}
def blV : Option (Nat × Nat) → Int32
  | none => 1000000
  | some q => nI q.2
theorem C_wayFor (h : cR S A cp P) (hw : wI B K P.1 P.2) {s aim : Nat} (hs : s < nS P.1) (haim : aim < nS P.1) {post : Int32 → bS → Prop} (hp : s ≠ aim → ∀ S', cR S' A cp P → cF A S S' → post (chM P.1 s aim) S') (he : s = aim → post (-1) S) : wp_X2_wayFor post (A 0 1) (A 1 s) (A 1 aim) S := by
  have h14 := hw.1.1.2
  have hN := hw.1
  have hT := hw.2.1
  have hS := hw.2.2.1
  obtain ⟨s0, -, -, -, -, -, s5, -⟩ := h.1.2.2.2.1 s hs
  have n0 := h.1.2.1.1
  refine ⟨fun hne => ⟨s0, ?_⟩, fun hee => he (h.1.2.2.2.2.2.2.2.1.1 _ _ hs haim (by injection hee))⟩
  have hsa : s ≠ aim := fun q => hne (by rw [q])
  rw [s5]
  refine ⟨fun hf => ⟨n0, C_reckonTimes h hw haim (fun S' hR hF hE => ⟨mny P.1 s + 1, ?_⟩)⟩, fun hf => ?_⟩
  · have hB : ∀ v x, dD P.1 aim v = some x → x ≤ 48000 := dR_bound hN hT hS (by decide)
    obtain ⟨t0, -, -, -, t3, -⟩ := hR.1.2.2.2.1 s hs
    obtain ⟨-, -, hm, -, hwy⟩ := hS s hs
    obtain ⟨e, hL⟩ := cl_at hR (i := 4 + s) (Or.inr (Or.inl ⟨by omega, by omega⟩))
    rw [ls_w (by omega)] at hL
    obtain ⟨b1, b2, b3⟩ := hR.1.2.2.1.1 aim haim
    obtain ⟨a0, -⟩ := hR.1.2.2.2.1 aim haim
    have loop : ∀ (n k : Nat), k + n = mny P.1 s → wb_X2_wayFor_34 post (n + 1) (A 1 s) (A 1 aim) (bw (bst P.1 (dD P.1 aim) s aim k)) (blV (bst P.1 (dD P.1 aim) s aim k)) (nI k) S' := by
      intro n
      induction n with
      | zero =>
        intro k hk
        have hk' : k = mny P.1 s := by omega
        subst hk'
        unfold wb_X2_wayFor_34
        refine ⟨t0, _, t3, hL.1, C_size hL ?_⟩
        rw [List.length_map, List.length_range]
        refine ⟨fun _ => ?_, fun q => absurd (nI_le (Nat.le_refl _) (by omega)) q⟩
        have := hp hsa S' hR hF
        unfold chM at this
        rw [if_pos hf] at this
        exact this
      | succ n ih =>
        intro k hk
        obtain ⟨hwk, hwt⟩ := hwy k (by omega)
        have hbl := bst_lt hT hS (aim := aim) hB hs k (by omega)
        have next := ih (k + 1) (by omega)
        unfold wb_X2_wayFor_34
        refine ⟨t0, _, t3, hL.1, C_size hL ?_⟩
        rw [List.length_map, List.length_range]
        refine ⟨fun q => absurd q (nI_ge (by omega) (by omega)), fun _ => ⟨t0, _, t3, hL.1, C_get (a := A 2 (way P.1 s k)) hL (rng_at (f := fun k => A 2 (way P.1 s k)) (by omega)) ⟨_, rfl, (hR.1.2.2.2.2.1 _ hwt).1, _, (hR.1.2.2.2.2.1 _ hwt).2.2.2.1, a0, C_timeFrom (X := S') (row := A 6 aim) (n := tTo P.1 (way P.1 s k)) (hR.1.2.2.2.1 _ (hT _ hwt).2.1.2).1 (hR.1.2.2.2.1 _ (hT _ hwt).2.1.2).2.1 (by have := (hT _ hwt).2.1.2; omega) a0 b1 b2 b3 ?_⟩⟩⟩
        refine C_timeBy (M := P.1) (D := dD P.1 aim) hR.1.2.2.2.1 hR.1.2.2.2.2.1 hR.1.2.2.2.2.2.2.2.1 hN hT hS (hE _ (hT _ hwt).2.1.2) hB hwt haim ?_
        have e1 : bst P.1 (dD P.1 aim) s aim (k + 1) = bStep P.1 (dD P.1 aim) s aim (bst P.1 (dD P.1 aim) s aim k) k := rfl
        have same : bst P.1 (dD P.1 aim) s aim (k + 1) = bst P.1 (dD P.1 aim) s aim k → wb_X2_wayFor_91 post (wb_X2_wayFor_34 post (n + 1)) (A 1 s) (A 1 aim) (bw (bst P.1 (dD P.1 aim) s aim k)) (blV (bst P.1 (dD P.1 aim) s aim k)) (nI k) S' := fun e2 => by
          rw [e2] at next
          show wb_X2_wayFor_34 post (n + 1) _ _ _ _ (nI k + 1) _
          rw [nI_1]
          exact next
        have new : ∀ x, bst P.1 (dD P.1 aim) s aim (k + 1) = some (k, x) → wb_X2_wayFor_91 post (wb_X2_wayFor_34 post (n + 1)) (A 1 s) (A 1 aim) (nI k) (nI x) (nI k) S' := fun x e2 => by
          rw [e2] at next
          show wb_X2_wayFor_34 post (n + 1) _ _ _ _ (nI k + 1) _
          rw [nI_1]
          exact next
        cases hx : tmO P.1 (dD P.1 aim) aim (way P.1 s k) with
        | none =>
          refine ⟨fun _ => same (by rw [e1]; unfold bStep; rw [hx]), fun q => ?_⟩
          exfalso
          apply q
          cases ho : bst P.1 (dD P.1 aim) s aim k with
          | none => exact Int32.le_refl _
          | some q' =>
            have := (hbl q' ho).2
            exact nI_le (b := 1000000) (by omega) (by omega)
        | some x =>
          have hxb := tmO_lt hT hS hB hwt hx
          cases ho : bst P.1 (dD P.1 aim) s aim k with
          | none =>
            refine ⟨fun q => absurd q (nI_ge (b := 1000000) (by omega) (by omega)), fun _ => new x ?_⟩
            rw [e1]
            unfold bStep
            rw [hx, ho]
          | some q' =>
            have hq2 := (hbl q' ho).2
            rw [ho] at same
            refine ⟨fun hle => same ?_, fun hgt => new x ?_⟩
            · have hl : ¬ x < q'.2 := fun y => absurd hle (nI_ge y (by omega))
              rw [e1]
              unfold bStep
              rw [hx, ho]
              exact if_neg hl
            · have hl : x < q'.2 := by
                rcases Nat.lt_or_ge x q'.2 with y | y
                · exact y
                · exact absurd (nI_le y (by omega)) hgt
              rw [e1]
              unfold bStep
              rw [hx, ho]
              exact if_pos hl
    exact loop (mny P.1 s) 0 (by omega)
  · have := hp hsa S h (cF_rf A S)
    unfold chM at this
    rw [if_neg hf] at this
    exact this
theorem C_leastTime (h : cR S A cp P) (hw : wI B K P.1 P.2) {s aim : Nat} (hs : s < nS P.1) (haim : aim < nS P.1) {post : Int32 → bS → Prop} (hp : ∀ S', cR S' A cp P → cF A S S' → post (oV (dD P.1 aim s)) S') : wp_X2_leastTime post (A 0 1) (A 1 s) (A 1 aim) S := by
  have h14 := hw.1.1.2
  refine ⟨h.1.2.1.1, C_reckonTimes h hw haim (fun S' hR hF hE => ?_)⟩
  obtain ⟨t0, t1, -⟩ := hR.1.2.2.2.1 s hs
  obtain ⟨a0, -⟩ := hR.1.2.2.2.1 aim haim
  obtain ⟨b1, b2, b3⟩ := hR.1.2.2.1.1 aim haim
  refine ⟨a0, C_timeFrom (X := S') (row := A 6 aim) (n := s) t0 t1 (by omega) a0 b1 b2 b3 ?_⟩
  rw [hE s hs]
  exact hp S' hR hF
end CWAY
