/-! ===== a net that is built, before anything is sent: pure ===== -/
def bI (M : Nat → Nat → Int32) : Prop := (∀ t, t < nT M → M 2 (8 * t + 7) = -1) ∧ (∀ s, s < nS M → M 1 (9 * s + 4) = 0 ∧ M 1 (9 * s + 3) = -1) ∧ (∀ s k, s < nS M → k < mny M s → tFr M (way M s k) = s ∧ way M s k < nT M) ∧ M 0 1 = 0 ∧ nC M = 0 ∧ M 0 6 = 0 ∧ M 0 7 = 0 ∧ nE M = 0
theorem bI_jI {M : Nat → Nat → Int32} (h : bI M) : jI M (fun _ => []) (fun _ => 0) := by
  obtain ⟨h1, h2, h3, h4, h5, h6, h7, h8⟩ := h
  refine ⟨fun c hc => absurd hc (by omega), fun a b ha => absurd ha (by simp), fun t ht => ⟨Or.inl ⟨h1 t ht, rfl⟩, List.Pairwise.nil⟩, fun s hs => ?_, ?_, fun s k hs hk => (h3 s k hs hk).1, h8, fun s hs => (h2 s hs).2⟩
  · rw [h5, (h2 s hs).1]
    rfl
  · unfold jT
    rw [h5, h7]
    rfl
theorem bI_X (M : Nat → Nat → Int32) : iX M (fun _ => []) := fun s c _ hc => absurd hc (by simp)
section BSTART
variable {M : Nat → Nat → Int32} {B K : Nat}
theorem bI_0 : bI (fun _ _ => 0) := by
  have u00 : u (0 : Int32) = 0 := by decide
  refine ⟨fun t ht => absurd ht (by unfold nT; rw [u00]; omega), fun s hs => absurd hs (by unfold nS; rw [u00]; omega), fun s k hs => absurd hs (by unfold nS; rw [u00]; omega), rfl, u00, rfl, rfl, u00⟩
theorem bI_aSt {L : Nat → List Nat} (hw : wI B K M L) (h : bI M) (hf : nS M < 14) {room handling : Int32} : bI (aStM M room handling) := by
  obtain ⟨h1, h2, h3, h4, h5, h6, h7, h8⟩ := h
  have nS1 := aSt_S (M := M) hw.1 hf (room := room) (handling := handling)
  have e2 : ∀ j, aStM M room handling 2 j = M 2 j := fun j => by simp (disch := omega) only [aStM, mU_r]
  have e0 : ∀ j, j ≠ 2 → aStM M room handling 0 j = M 0 j := fun j hj => by simp (disch := omega) only [aStM, mU_r, mU_c]
  have e1 : ∀ s w, s ≠ nS M → w < 9 → aStM M room handling 1 (9 * s + w) = M 1 (9 * s + w) := fun s w hs hw9 => aSt_1 hs hw9
  have eT : nT (aStM M room handling) = nT M := by unfold nT; rw [e0 3 (by decide)]
  have n2 : aStM M room handling 1 (9 * nS M + 2) = 0 := by simp (disch := omega) only [aStM, mU_s, mU_r, mU_c]
  have n3 : aStM M room handling 1 (9 * nS M + 3) = -1 := by simp (disch := omega) only [aStM, mU_s, mU_r, mU_c]
  have n4 : aStM M room handling 1 (9 * nS M + 4) = 0 := by simp (disch := omega) only [aStM, mU_s, mU_r, mU_c]
  refine ⟨fun t ht => ?_, fun s hs => ?_, fun s k hs hk => ?_, by rw [e0 1 (by decide)]; exact h4, by unfold nC at *; rw [e0 5 (by decide)]; exact h5, by rw [e0 6 (by decide)]; exact h6, by rw [e0 7 (by decide)]; exact h7, by unfold nE at *; rw [e0 4 (by decide)]; exact h8⟩
  · rw [e2]
    exact h1 t (by rw [← eT]; exact ht)
  · by_cases q : s = nS M
    · rw [q]
      exact ⟨n4, n3⟩
    · rw [e1 s 4 q (by decide), e1 s 3 q (by decide)]
      exact h2 s (by omega)
  · by_cases q : s = nS M
    · unfold mny at hk
      rw [q, n2] at hk
      exact absurd hk (by rw [show u (0 : Int32) = 0 by decide]; omega)
    · have hsS : s < nS M := by omega
      have hk' : k < mny M s := by
        unfold mny at hk ⊢
        rw [e1 s 2 q (by decide)] at hk
        exact hk
      have h4' := (hw.2.2.1 s hsS).2.2.1.2
      have ew : way (aStM M room handling) s k = way M s k := by
        unfold way
        rw [e1 s (5 + k) q (by omega)]
      rw [ew, eT]
      unfold tFr
      rw [e2]
      exact h3 s k hsS hk'
theorem bI_aTu {L : Nat → List Nat} (hw : wI B K M L) (h : bI M) (hf : nT M < 30) {a : Nat} {to len sp bo : Int32} (ha : a < nS M) (hm : mny M a < 4) : bI (aTuM M a (nI a) to len sp bo) := by
  obtain ⟨h1, h2, h3, h4, h5, h6, h7, h8⟩ := h
  have h14 := hw.1.1.2
  have nT1 := aTu_T (M := M) hw.1 hf (a := a) (fr := nI a) (to := to) (len := len) (sp := sp) (bo := bo)
  have e0 : ∀ j, j ≠ 3 → aTuM M a (nI a) to len sp bo 0 j = M 0 j := fun j hj => by simp (disch := omega) only [aTuM, aT8, mU_r, mU_c]
  have e2 : ∀ t w, t ≠ nT M → w < 8 → aTuM M a (nI a) to len sp bo 2 (8 * t + w) = M 2 (8 * t + w) := fun t w ht hw8 => aTu_2 ht hw8
  have e1 : ∀ s w, w < 9 → (s ≠ a ∨ (w ≠ 2 ∧ w ≠ 5 + mny M a)) → aTuM M a (nI a) to len sp bo 1 (9 * s + w) = M 1 (9 * s + w) := fun s w hw9 hs => aTu_1 hm hw9 hs
  have eS : nS (aTuM M a (nI a) to len sp bo) = nS M := by unfold nS; rw [e0 2 (by decide)]
  have n7 : aTuM M a (nI a) to len sp bo 2 (8 * nT M + 7) = -1 := by simp (disch := omega) only [aTuM, aT8, mU_s, mU_r, mU_c]
  have n0 : aTuM M a (nI a) to len sp bo 2 (8 * nT M + 0) = nI a := by simp (disch := omega) only [aTuM, aT8, mU_s, mU_r, mU_c]
  have m2 : aTuM M a (nI a) to len sp bo 1 (9 * a + 2) = M 1 (9 * a + 2) + 1 := by simp (disch := omega) only [aTuM, aT8, mU_s, mU_r, mU_c]
  have m5 : aTuM M a (nI a) to len sp bo 1 (9 * a + (5 + mny M a)) = M 0 3 := by simp (disch := omega) only [aTuM, aT8, mU_s, mU_r, mU_c]
  have hma := (hw.2.2.1 a ha).2.2.1
  have mny1 : mny (aTuM M a (nI a) to len sp bo) a = mny M a + 1 := by
    show u (aTuM M a (nI a) to len sp bo 1 (9 * a + 2)) = _
    rw [m2, hma.1, nI_1, u_nI (by omega)]
  have nTe : M 0 3 = nI (nT M) := hw.1.2.1.1
  refine ⟨fun t ht => ?_, fun s hs => ?_, fun s k hs hk => ?_, by rw [e0 1 (by decide)]; exact h4, by unfold nC at *; rw [e0 5 (by decide)]; exact h5, by rw [e0 6 (by decide)]; exact h6, by rw [e0 7 (by decide)]; exact h7, by unfold nE at *; rw [e0 4 (by decide)]; exact h8⟩
  · by_cases q : t = nT M
    · rw [q]
      exact n7
    · rw [e2 t 7 q (by decide)]
      exact h1 t (by omega)
  · rw [eS] at hs
    rw [e1 s 4 (by decide) (by omega), e1 s 3 (by decide) (by omega)]
    exact h2 s hs
  · rw [eS] at hs
    have hms := (hw.2.2.1 s hs).2.2.1.2
    have old : k < mny M s → tFr (aTuM M a (nI a) to len sp bo) (way (aTuM M a (nI a) to len sp bo) s k) = s ∧ way (aTuM M a (nI a) to len sp bo) s k < nT (aTuM M a (nI a) to len sp bo) := fun hk' => by
      obtain ⟨o1, o2⟩ := h3 s k hs hk'
      have ew : way (aTuM M a (nI a) to len sp bo) s k = way M s k := by
        show u (aTuM M a (nI a) to len sp bo 1 (9 * s + (5 + k))) = _
        rw [e1 s (5 + k) (by omega) (by by_cases q : s = a; · subst q; omega
                                        · exact Or.inl q)]
      rw [ew, nT1]
      refine ⟨?_, by omega⟩
      show u (aTuM M a (nI a) to len sp bo 2 (8 * way M s k + 0)) = s
      rw [e2 _ 0 (by omega) (by decide)]
      exact o1
    by_cases q : s = a
    · subst q
      rw [mny1] at hk
      by_cases q2 : k = mny M s
      · have ew : way (aTuM M s (nI s) to len sp bo) s k = nT M := by
          show u (aTuM M s (nI s) to len sp bo 1 (9 * s + (5 + k))) = _
          rw [q2, m5]
        rw [ew, nT1]
        refine ⟨?_, by omega⟩
        show u (aTuM M s (nI s) to len sp bo 2 (8 * nT M + 0)) = s
        rw [n0, u_nI (by omega)]
      · exact old (by omega)
    · refine old ?_
      have hk : k < u (aTuM M a (nI a) to len sp bo 1 (9 * s + 2)) := hk
      rw [e1 s 2 (by decide) (Or.inl q)] at hk
      exact hk
end BSTART
