section CPART
variable {S : bS} {A : Nat → Nat → Nat} {cp : Nat → Nat} {P : pP} {B K : Nat}
theorem cR_J7 (h : cR S A cp P) (f : Nat → Int32) : cR (sJ S 7 f) A cp P := by
  obtain ⟨ea, hL⟩ := h.2
  exact ⟨cO_J7 h.1 f, ea, hL⟩
/-- shutting a tube makes no new way -/
theorem shut_sub (hw : wI B K P.1 P.2) {t : Nat} {M' : Nat → Nat → Int32} (hM' : M' = mU P.1 2 (8 * t + 5) 0) (hw' : wI B K M' P.2) (i j : Nat) (h : (dD M' j i).isSome = true) : (dD P.1 j i).isSome = true := by
  rw [dD_can hw.1 hw.2.1]
  rw [dD_can hw'.1 hw'.2.1] at h
  have e2 : ∀ x w, w < 8 → w ≠ 5 → M' 2 (8 * x + w) = P.1 2 (8 * x + w) := fun x w _ _ => by rw [hM', mU_c (by omega)]
  have ef : tFr M' = tFr P.1 := by funext x; unfold tFr; rw [e2 x 0 (by decide) (by decide)]
  have eg : tTo M' = tTo P.1 := by funext x; unfold tTo; rw [e2 x 1 (by decide) (by decide)]
  have en : nT M' = nT P.1 := by rw [hM']; rfl
  have eo : ∀ x, tOp M' x = true → tOp P.1 x = true := fun x hx => by
    unfold tOp at *
    by_cases q : x = t
    · subst q
      rw [hM', mU_s] at hx
      exact absurd hx (by decide)
    · rw [hM', mU_c (by omega)] at hx
      exact hx
  obtain ⟨k, y, hk⟩ := h
  rw [ef, eg, en] at hk
  obtain ⟨y', hk'⟩ := dwk_c (c' := cst P.1 j) k i y hk
  have mono : ∀ (k v z : Nat), dwk (nT P.1) (tFr P.1) (tTo P.1) (tOp M') (cst P.1 j) j k v z → dwk (nT P.1) (tFr P.1) (tTo P.1) (tOp P.1) (cst P.1 j) j k v z := by
    intro k
    induction k with
    | zero => exact fun v z hz => hz
    | succ k ih =>
      intro v z hz
      obtain ⟨x, hx, ho, hf, z', hz', e⟩ := hz
      exact ⟨x, hx, eo x ho, hf, z', ih _ _ hz', e⟩
  exact ⟨k, y', mono k i y' hk'⟩
theorem C_parted (h : cR S A cp P) (hw : wI B K P.1 P.2) {t : Nat} (ht : t < nT P.1) {post : Int32 → bS → Prop} (hp : ∀ S', cR S' A cp P → cF A S S' → post (nI (prO P.1 (nS P.1)) - nI (prO (mU P.1 2 (8 * t + 5) 0) (nS P.1))) S') : wp_X2_pairsPartedWithout post (A 0 1) (A 2 t) S := by
  have h14 := hw.1.1.2
  have h30 := hw.1.2.1.2
  obtain ⟨n0, -⟩ := h.1.2.1
  obtain ⟨t0, t1, -⟩ := h.1.2.2.2.2.1 t ht
  obtain ⟨M', hM'⟩ : ∃ M', M' = mU P.1 2 (8 * t + 5) 0 := ⟨_, rfl⟩
  have hw' : wI B K M' P.2 := by rw [hM']; exact wI_op hw (Or.inl rfl)
  have hsub := fun i j => shut_sub hw hM' hw' i j
  have hpe := parted_eq hw.1 hw.2.1 hM' hw'.1 hw'.2.1 (by rw [hM']; rfl) (fun i j _ _ q => hsub i j q)
  have ef : tFr M' = tFr P.1 := by funext x; unfold tFr; rw [hM', mU_c (by omega)]
  have eg : tTo M' = tTo P.1 := by funext x; unfold tTo; rw [hM', mU_c (by omega)]
  have en : nT M' = nT P.1 := by rw [hM']; rfl
  have eS : nS M' = nS P.1 := by rw [hM']; rfl
  have eo : ∀ x, x < nT P.1 → tOp M' x = (tOp P.1 x && decide (¬ nI x = nI t)) := fun x hx => by
    by_cases q : x = t
    · subst q
      rw [decide_eq_false (p := ¬ nI x = nI x) (fun q => q rfl)]
      unfold tOp
      rw [hM', mU_s]
      simp
    · rw [decide_eq_true (p := ¬ nI x = nI t) (fun y => q ((nI_eq (by omega) (by omega)).mp y))]
      unfold tOp
      rw [hM', mU_c (by omega)]
      simp
  refine ⟨n0, C_pairs h hw (o := tOp P.1) (fun x hx => ?_) (fun f => ⟨t0, n0, ?_⟩)⟩
  · rw [decide_eq_true (p := ¬ nI x = -1) (nI_neN1 (by omega))]
    simp
  have g1 : gV (sJ S 7 f) 6 (A 2 t) 0 = nI t := t1
  rw [g1]
  refine C_pairs (cR_J7 h f) hw (o := tOp M') eo (fun g => ?_)
  have hbM : cn2 (rW (rA (tFr P.1) (tTo P.1) (tOp P.1) (nT P.1)) (nS P.1)) (nS P.1) (nS P.1) = cn2 (fun i j => (dD P.1 j i).isSome) (nS P.1) (nS P.1) := cn2_ext _ (fun i j hi hj => rW_dD hw.1 hw.2.1 hi hj)
  have hbM' : cn2 (rW (rA (tFr P.1) (tTo P.1) (tOp M') (nT P.1)) (nS P.1)) (nS P.1) (nS P.1) = cn2 (fun i j => (dD M' j i).isSome) (nS P.1) (nS P.1) := cn2_ext _ (fun i j hi hj => by
    have := rW_dD hw'.1 hw'.2.1 (i := i) (j := j) (by rw [eS]; exact hi) (by rw [eS]; exact hj)
    rw [ef, eg, en, eS] at this
    exact this)
  rw [hbM, hbM']
  have hs := cn2_sub (p := fun i j => (dD P.1 j i).isSome) (q := fun i j => (dD M' j i).isSome) (n := nS P.1) (nS P.1) (fun i j _ _ q => hsub i j q)
  have := hp _ (cR_J7 (cR_J7 h f) g) (cF_tr (cF_J A S 7 f) (cF_J A _ 7 g))
  rw [← hM', pk_sub (by omega), show prO P.1 (nS P.1) - prO M' (nS P.1) = cn2 (fun i j => (dD P.1 j i).isSome) (nS P.1) (nS P.1) - cn2 (fun i j => (dD M' j i).isSome) (nS P.1) (nS P.1) by omega] at this
  rw [pk_sub (by omega)]
  exact this
theorem L_parts (hw : wI B K P.1 P.2) (t : Int32) : ∃ cp', cQ P cp cp' (qParts P t) (fun post MC MS out A S => wp_L_parts post MC MS (A 0 0) t out S) := by
  refine ⟨cp, ?_⟩
  unfold qParts
  have h30 := hw.1.2.1.2
  cases hx : ixO t (nT P.1) with
  | none => exact cQ_fl (by decide) (fun S A MC MS out post h h1 h6 hp => ⟨h.1.1.1, MC, MS, Nat.le_refl _, Nat.le_refl _, h.1.1.1, _, h.1.1.2.1, MC, MS, Nat.le_refl _, Nat.le_refl _, C_knownTu h hw (fun _ => ⟨h1, h6, ioo post S (hp S h (cF_rf A S))⟩) (fun s hs => (by rw [hx] at hs; cases hs))⟩)
  | some i =>
    obtain ⟨-, hi⟩ := ixO_some (by omega) hx
    refine cQ_T0 (fun S A MC MS out post h ho hn hp => ⟨h.1.1.1, MC, MS, Nat.le_refl _, Nat.le_refl _, h.1.1.1, _, h.1.1.2.1, 0, 0, Nat.zero_le _, Nat.zero_le _, C_knownTu h hw (fun q => (by rw [hx] at q; cases q)) (fun s hs => ⟨_, rfl, h.1.2.1.1, ?_⟩)⟩)
    rw [hx] at hs
    cases hs
    exact C_parted (P := T0 P) (cR_T0 h) (wI_T0 hw) hi (fun S' hR hF => hp S' hR hF)
end CPART
