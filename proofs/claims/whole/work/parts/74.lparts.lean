section CPART
variable {S : bS} {A : Nat → Nat → Nat} {cp : Nat → Nat} {P : pP} {B K : Nat}
theorem cR_row (h : cR S A cp P) {row : Nat} (hr : row = A 0 4 ∨ row = A 0 5) (f : Nat → Int32) : cR (sF S 9 row f) A cp P ∧ cF A S (sF S 9 row f) := by
  obtain ⟨hP, hNt, hAr, hSt, hTb, hCa, hEn, hIn, hTm⟩ := h.1
  have hne : ∀ k, k < 14 → A 6 k ≠ row := fun k hk => by
    obtain ⟨-, -, -, y4, y5⟩ := hAr.2.2.2.2.2.1 k hk
    rcases hr with q | q
    · rw [q]; exact y4
    · rw [q]; exact y5
  refine ⟨⟨⟨hP, hNt, hAr, hSt, hTb, hCa, hEn, hIn, fun k hk => ?_⟩, h.2⟩, fun _ _ => ⟨rfl, rfl⟩, fun _ _ _ => ⟨rfl, rfl⟩, fun a j _ h1 h2 _ => ?_, fun _ _ _ => rfl⟩
  · rcases hTm k hk with x | ⟨x1, x2, x3⟩
    · exact Or.inl x
    · refine Or.inr ⟨x1, x2, fun v hv => ?_⟩
      rw [gV_sF, if_neg (fun q => hne k hk q.2)]
      exact x3 v hv
  · rw [gV_sF, if_neg (fun q => ?_)]
    rcases hr with x | x
    · exact h1 (q.2.trans x)
    · exact h2 (q.2.trans x)
/-- shutting a tube makes no new way -/
theorem shut_sub (hw : wI B K P.1 P.2) {t : Nat} {M' : Nat → Nat → Int32} (hM' : M' = mU P.1 2 (8 * t + 5) 0) (hw' : wI B K M' P.2) (i j : Nat) (h : (dD M' j i).isSome = true) : (dD P.1 j i).isSome = true := by
  rw [dD_can hw.1 hw.2.1]
  rw [dD_can hw'.1 hw'.2.1] at h
  have e2 : ∀ x w, w < 8 → w ≠ 5 → M' 2 (8 * x + w) = P.1 2 (8 * x + w) := fun x w _ _ => by rw [hM', mU_c (by omega)]
  have ef : tFr M' = tFr P.1 := by funext x; unfold tFr; rw [e2 x 0 (by decide) (by decide)]
  have eg : tTo M' = tTo P.1 := by funext x; unfold tTo; rw [e2 x 1 (by decide) (by decide)]
  have en : nT M' = nT P.1 := by rw [hM']; rfl
  have eo : ∀ x, tOp M' x = true → tOp P.1 x = true := fun x hx => by
    unfold tOp at *
    by_cases q : x = t
    · subst q
      rw [hM', mU_s] at hx
      exact absurd hx (by decide)
    · rw [hM', mU_c (by omega)] at hx
      exact hx
  obtain ⟨k, y, hk⟩ := h
  rw [ef, eg, en] at hk
  obtain ⟨y', hk'⟩ := dwk_c (c' := cst P.1 j) k i y hk
  have mono : ∀ (k v z : Nat), dwk (nT P.1) (tFr P.1) (tTo P.1) (tOp M') (cst P.1 j) j k v z → dwk (nT P.1) (tFr P.1) (tTo P.1) (tOp P.1) (cst P.1 j) j k v z := by
    intro k
    induction k with
    | zero => exact fun v z hz => hz
    | succ k ih =>
      intro v z hz
      obtain ⟨x, hx, ho, hf, z', hz', e⟩ := hz
      exact ⟨x, hx, eo x ho, hf, z', ih _ _ hz', e⟩
  exact ⟨k, y', mono k i y' hk'⟩
theorem C_parted (h : cR S A cp P) (hw : wI B K P.1 P.2) {t : Nat} (ht : t < nT P.1) {post : Int32 → bS → Prop} (hp : ∀ S', cR S' A cp P → cF A S S' → post (nI (prO P.1 (nS P.1)) - nI (prO (mU P.1 2 (8 * t + 5) 0) (nS P.1))) S') : wp_X2_pairsPartedWithout post (A 0 1) (A 2 t) S := by
  have h14 := hw.1.1.2
  have h30 := hw.1.2.1.2
  obtain ⟨n0, n1, n2, n3, n4, n5, n6⟩ := h.1.2.1
  obtain ⟨-, -, ⟨a1, a2⟩, ⟨a3, a4⟩, a5, -⟩ := h.1.2.2.1
  obtain ⟨e, hL⟩ := cl_at h (i := 0) (Or.inl (by decide))
  rw [ls_0] at hL
  obtain ⟨t0, t1, -⟩ := h.1.2.2.2.2.1 t ht
  obtain ⟨M', hM'⟩ : ∃ M', M' = mU P.1 2 (8 * t + 5) 0 := ⟨_, rfl⟩
  have hw' : wI B K M' P.2 := by rw [hM']; exact wI_op hw (Or.inl rfl)
  have hsub := fun i j => shut_sub hw hM' hw' i j
  have hpe := parted_eq hw.1 hw.2.1 hM' hw'.1 hw'.2.1 (by rw [hM']; rfl) (fun i j _ _ q => hsub i j q)
  have ef : tFr M' = tFr P.1 := by funext x; unfold tFr; rw [hM', mU_c (by omega)]
  have eg : tTo M' = tTo P.1 := by funext x; unfold tTo; rw [hM', mU_c (by omega)]
  have en : nT M' = nT P.1 := by rw [hM']; rfl
  have eS : nS M' = nS P.1 := by rw [hM']; rfl
  have eo : ∀ x, x < nT P.1 → tOp M' x = (tOp P.1 x && decide (¬ nI x = nI t)) := fun x hx => by
    by_cases q : x = t
    · subst q
      rw [decide_eq_false (p := ¬ nI x = nI x) (fun q => q rfl)]
      unfold tOp
      rw [hM', mU_s]
      simp
    · rw [decide_eq_true (p := ¬ nI x = nI t) (fun y => q ((nI_eq (by omega) (by omega)).mp y))]
      unfold tOp
      rw [hM', mU_c (by omega)]
      simp
  refine ⟨n0, _, n5, C_reckon h hw a1 a2 (o := tOp P.1) (fun x hx => ?_) (fun f hf => ?_)⟩
  · rw [decide_eq_true (p := ¬ nI x = -1) (nI_neN1 (by omega))]
    simp
  obtain ⟨hR1, hF1⟩ := cR_row h (Or.inl rfl) f
  have g1 : gV (sF S 9 (A 0 4) f) 6 (A 2 t) 0 = nI t := t1
  refine ⟨n0, _, n6, t0, ?_⟩
  rw [g1]
  refine C_reckon hR1 hw a3 a4 (o := tOp M') eo (fun g hg => ?_)
  obtain ⟨hR2, hF2⟩ := cR_row hR1 (Or.inr rfl) g
  have hbM : ∀ i j, i < nS P.1 → j < nS P.1 → rW (rA (tFr P.1) (tTo P.1) (tOp P.1) (nT P.1)) (nS P.1) i j = (dD P.1 j i).isSome := fun i j hi hj => rW_dD hw.1 hw.2.1 hi hj
  have hbM' : ∀ i j, i < nS P.1 → j < nS P.1 → rW (rA (tFr P.1) (tTo P.1) (tOp M') (nT P.1)) (nS P.1) i j = (dD M' j i).isSome := fun i j hi hj => by
    have := rW_dD hw'.1 hw'.2.1 (i := i) (j := j) (by rw [eS]; exact hi) (by rw [eS]; exact hj)
    rw [ef, eg, en, eS] at this
    exact this
  have hoff : ∀ (o : Nat → Bool) i j, i < nS P.1 → nS P.1 ≤ j → rW (rA (tFr P.1) (tTo P.1) o (nT P.1)) (nS P.1) i j = false := fun o i j hi hj => rW_off (rA_off (nT P.1) (fun x hx => (hw.2.1 x hx).2.1.2)) (nS P.1) (Nat.le_refl _) i j hi hj
  generalize hbb : rW (rA (tFr P.1) (tTo P.1) (tOp P.1) (nT P.1)) (nS P.1) = b at *
  generalize hbb' : rW (rA (tFr P.1) (tTo P.1) (tOp M') (nT P.1)) (nS P.1) = b' at *
  have loop : ∀ (n i : Nat), i + n = nS P.1 → wb_X2_pairsPartedWithout_25 post (n + 1) (A 0 1) (nI (cn2 (fun i j => (dD P.1 j i).isSome && !(dD M' j i).isSome) (nS P.1) i)) (nI i) (sF (sF S 9 (A 0 4) f) 9 (A 0 5) g) := by
    intro n
    induction n with
    | zero =>
      intro i hi
      have hi' : i = nS P.1 := by omega
      subst hi'
      unfold wb_X2_pairsPartedWithout_25
      refine ⟨n0, _, n1, hL.1, C_size (S := sF (sF S 9 (A 0 4) f) 9 (A 0 5) g) (l := A 5 0) hL ⟨fun _ => ?_, fun q => ?_⟩⟩
      · have := hp _ hR2 (cF_tr hF1 hF2)
        rw [← hM', pk_sub (by omega), show prO P.1 (nS P.1) - prO M' (nS P.1) = cn2 (fun i j => (dD P.1 j i).isSome && !(dD M' j i).isSome) (nS P.1) (nS P.1) by omega] at this
        exact this
      · rw [List.length_map, List.length_range] at q
        exact absurd (nI_le (Nat.le_refl _) (by omega)) q
    | succ n ih =>
      intro i hi
      have hiS : i < nS P.1 := by omega
      have v4 : gV (sF (sF S 9 (A 0 4) f) 9 (A 0 5) g) 9 (A 0 4) i = f i := by
        rw [gV_sF, if_neg (fun q => a5 q.2), gV_sFs]
      have v5 : gV (sF (sF S 9 (A 0 4) f) 9 (A 0 5) g) 9 (A 0 5) i = g i := gV_sFs
      unfold wb_X2_pairsPartedWithout_25
      refine ⟨n0, _, n1, hL.1, C_size (S := sF (sF S 9 (A 0 4) f) 9 (A 0 5) g) (l := A 5 0) hL ⟨fun q => ?_, fun _ => ⟨n0, _, n5, a1, ?_, _, n6, a3, ?_, C_bitCount ?_⟩⟩⟩
      · rw [List.length_map, List.length_range] at q
        exact absurd q (nI_ge (by omega) (by omega))
      · rw [gN_sF, gN_sF, a2]
        exact vp_in_nI (by omega) (by omega)
      · rw [gN_sF, gN_sF, a4]
        exact vp_in_nI (by omega) (by omega)
      · rw [nI_clamp (n := i) (by omega), v4, v5]
        have hbits : ∀ j, j < 32 → bt (f i &&& (g i ^^^ (-1))) j = (b i j && !b' i j) := fun j hj => by
          rw [b_and, b_xor, b_m1 j hj, hf i hiS j hj, hg i hiS j hj]
          cases b i j <;> cases b' i j <;> rfl
        have hc : bcI (f i &&& (g i ^^^ (-1))) = nI (cnt (fun j => (dD P.1 j i).isSome && !(dD M' j i).isSome) (nS P.1)) := by
          rw [bc_bt (fun j hj hj2 => by
            rw [hbits j hj2, ← hbb, hoff _ i j hiS (by omega)]
            rfl)]
          congr 1
          rw [cnt_ext 14 (q := fun j => b i j && !b' i j) (fun j hj => hbits j (by omega)), show 14 = nS P.1 + (14 - nS P.1) by omega, cnt_more _ (fun j hj => by
            rw [← hbb, hoff _ i j hiS hj]
            rfl)]
          exact cnt_ext _ (fun j hj => by rw [hbM i j hiS hj, hbM' i j hiS hj])
        rw [hc, nI_add, nI_1 i]
        exact ih (i + 1) (by omega)
  exact ⟨nS P.1 + 1, loop (nS P.1) 0 (by omega)⟩
theorem L_parts (hw : wI B K P.1 P.2) (t : Int32) : ∃ cp', cQ P cp cp' (qParts P t) (fun post MC MS out A S => wp_L_parts post MC MS (A 0 0) t out S) := by
  refine ⟨cp, ?_⟩
  unfold qParts
  have h30 := hw.1.2.1.2
  cases hx : ixO t (nT P.1) with
  | none => exact cQ_fl (by decide) (fun S A MC MS out post h h1 h6 hp => ⟨h.1.1.1, MC, MS, Nat.le_refl _, Nat.le_refl _, h.1.1.1, _, h.1.1.2.1, MC, MS, Nat.le_refl _, Nat.le_refl _, C_knownTu h hw (fun _ => ⟨h1, h6, ioo post S (hp S h (cF_rf A S))⟩) (fun s hs => (by rw [hx] at hs; cases hs))⟩)
  | some i =>
    obtain ⟨-, hi⟩ := ixO_some (by omega) hx
    refine cQ_T0 (fun S A MC MS out post h ho hn hp => ⟨h.1.1.1, MC, MS, Nat.le_refl _, Nat.le_refl _, h.1.1.1, _, h.1.1.2.1, 0, 0, Nat.zero_le _, Nat.zero_le _, C_knownTu h hw (fun q => (by rw [hx] at q; cases q)) (fun s hs => ⟨_, rfl, h.1.2.1.1, ?_⟩)⟩)
    rw [hx] at hs
    cases hs
    exact C_parted (P := T0 P) (cR_T0 h) (wI_T0 hw) hi (fun S' hR hF => hp S' hR hF)
end CPART
