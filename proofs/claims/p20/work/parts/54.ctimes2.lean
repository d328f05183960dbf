section CTIMES2
variable {S : bS} {A : Nat → Nat → Nat} {cp : Nat → Nat} {P : pP} {B K : Nat}
theorem C_rounds (h : cR S A cp P) (hw : wI B K P.1 P.2) {row aim : Nat} (hq : gQ S 5 (A 1 aim) 5 = some row) (hr : gK S row = 9) (hrn : gN S row = 14) (haim : aim < nS P.1) {post : bS → Prop} (hfin : ∀ f, encV (nS P.1) f (dD P.1 aim) → wb_X2_reckonTimesTo_129 post (A 1 aim) (sF S 9 row f)) : ∀ (n k : Nat) (b : Bool) (f : Nat → Int32), k + n = nS P.1 → encV (nS P.1) f (dR P.1 aim k) → (b = false → dSt (nT P.1) (tFr P.1) (tTo P.1) (tOp P.1) (cst P.1 aim) (dR P.1 aim k)) → wb_X2_reckonTimesTo_27 post (n + 2) (A 0 1) (A 1 aim) (if b then 1 else 0) (nI k) (sF S 9 row f) := by
  have h14 := hw.1.1.2
  obtain ⟨n0, n1, -⟩ := h.1.2.1
  obtain ⟨e, hL⟩ := cl_at h (i := 0) (Or.inl (by decide))
  have hLf : ∀ f, isLe (sF S 9 row f) (A 5 0) e (lsC A P.1 P.2 0) (cp 0) := fun f => hL
  intro n
  induction n with
  | zero =>
    intro k b f hk hE hb
    have hk' : k = nS P.1 := by omega
    have hD : dR P.1 aim k = dD P.1 aim := dD_fix hw.1 hw.2.1 (dR_stable hw.1 hw.2.1 (by omega))
    rw [hD] at hE
    unfold wb_X2_reckonTimesTo_27
    refine ⟨fun _ => hfin f hE, fun _ => ⟨n0, _, n1, hL.1, C_size (hLf f) ?_⟩⟩
    rw [ls_0, List.length_map, List.length_range]
    exact ⟨fun _ => hfin f hE, fun q => absurd (nI_le (by omega) (by omega)) q⟩
  | succ n ih =>
    intro k b f hk hE hb
    unfold wb_X2_reckonTimesTo_27
    refine ⟨fun hz => ?_, fun _ => ⟨n0, _, n1, hL.1, C_size (hLf f) ?_⟩⟩
    · have hb' : b = false := by
        cases b with
        | false => rfl
        | true => exact absurd hz (by decide)
      rw [dD_fix hw.1 hw.2.1 (hb hb')] at hE
      exact hfin f hE
    · rw [ls_0, List.length_map, List.length_range]
      refine ⟨fun q => absurd q (nI_ge (by omega) (by omega)), fun _ => ⟨nT P.1 + 1, ?_⟩⟩
      have hBd : ∀ v x, dR P.1 aim k v = some x → x ≤ 45000 := fun v x hx => by
        have h1 := dIt_bound (C := 80) (fun t ht => cst_le hw.2.1 hw.2.2.1 ht) k v x hx
        have h2 : k * (nT P.1 * 80) ≤ 14 * (30 * 80) := Nat.mul_le_mul (by omega) (Nat.mul_le_mul_right _ hw.1.2.1.2)
        omega
      refine C_round h hw hq hr hrn haim hBd (fun b' f' hE' hf' => ?_) (nT P.1) 0 false f (by omega) hE (fun _ j hj => absurd hj (Nat.not_lt_zero j))
      rw [nI_1]
      refine ih (k + 1) b' f' (by omega) hE' (fun q => ?_)
      have hs := hf' q
      have e1 : dR P.1 aim (k + 1) = dR P.1 aim k := rps_same hs _ (Nat.le_refl _)
      rw [e1]
      exact hs
end CTIMES2
