/-! ===== additions keep the invariant ===== -/
theorem u0 : u (0 : Int32) = 0 := by decide
theorem wI_start : wI 0 0 (fun _ _ => 0) (fun _ => []) := by
  have e0 : (0 : Int32) = nI (u (0 : Int32)) := by decide
  refine ⟨⟨⟨e0, by decide⟩, ⟨e0, by decide⟩, ⟨e0, by decide⟩, ⟨e0, by decide⟩⟩, fun t ht => ?_, fun s hs => ?_, fun e he => ?_, ⟨⟨e0, by decide⟩, ⟨e0, by decide⟩, ⟨rfl, by decide, fun k c hk => by cases hk⟩, List.nodup_nil, fun c hc => absurd hc List.not_mem_nil, by decide, fun a b ha => absurd ha List.not_mem_nil, fun a ha => absurd ha List.not_mem_nil⟩, fun c hc => ?_, ⟨fun s _ => ⟨List.Perm.refl _, List.Pairwise.nil⟩, fun t _ => ⟨List.Perm.refl _, List.Pairwise.nil⟩⟩, ⟨fun s _ => Nat.zero_le _, fun _ _ _ => rfl, fun t _ => Nat.zero_le _, fun _ _ _ => rfl⟩⟩
  · exact absurd ht (by show ¬ t < u (0 : Int32); rw [u0]; omega)
  · exact absurd hs (by show ¬ s < u (0 : Int32); rw [u0]; omega)
  · exact absurd he (by show ¬ e < u (0 : Int32); rw [u0]; omega)
  · exact absurd hc (by show ¬ c < u (0 : Int32); rw [u0]; omega)
/-- rows 4 and 5 and most of row 0 as before: those under way, the carriers, the lists as before -/
theorem iACL {B K : Nat} {M M' : Nat → Nat → Int32} {L : Nat → List Nat} (hA : iA B K M (L 0)) (hC : iC M) (hL : iL M L) (h1 : M' 0 1 = M 0 1) (h2 : nS M ≤ nS M') (h5 : M' 0 5 = M 0 5) (h6 : M' 0 6 = M 0 6) (h8 : M' 0 8 = M 0 8) (h14 : M' 0 14 = M 0 14) (r4 : ∀ j, M' 4 j = M 4 j) (r5 : ∀ j, M' 5 j = M 5 j) : iA B K M' (L 0) ∧ iC M' ∧ iL M' L := by
  have e4 : M' 4 = M 4 := funext r4
  obtain ⟨a1, a2, a3, a4, a5, a6, a7, a8⟩ := hA
  refine ⟨⟨?_, ?_, ⟨?_, a3.2.1, ?_⟩, a4, ?_, ?_, ?_, ?_⟩, ?_, ?_⟩
  · rw [h1]; exact a1
  · rw [h8]; exact a2
  · rw [h14]; exact a3.1
  · intro k c hk
    rw [r5]
    exact a3.2.2 k c hk
  · unfold nC at *
    rw [h5]; exact a5
  · unfold nC at *
    rw [h5, h6]; exact a6
  · rw [e4]; exact a7
  · rw [e4, h8]; exact a8
  · intro c hc
    have := hC c (by unfold nC at *; rw [← h5]; exact hc)
    rw [e4, h1]
    exact ⟨⟨this.1.1, Nat.lt_of_lt_of_le this.1.2 h2⟩, this.2⟩
  · unfold iL atS inT ahd at *
    rw [e4]; exact hL
theorem ne_full {x : Int32} {n k : Nat} (hx : x = nI n) (hn : n ≤ k) (h : ¬ x = nI k) : n < k := by
  rcases Nat.lt_or_ge n k with q | q
  · exact q
  · exact absurd (by rw [hx, show n = k by omega]) h
theorem wI_aSt {B K : Nat} {M : Nat → Nat → Int32} {L : Nat → List Nat} (h : wI B K M L) {room handling : Int32} (c1 : (1 : Int32) ≤ room ∧ room ≤ 9) (c2 : (0 : Int32) ≤ handling ∧ handling ≤ 20) (hf : ¬ M 0 2 = 14) : wI B K (aStM M room handling) L ∧ nS (aStM M room handling) = nS M + 1 := by
  obtain ⟨hN, hT, hS, hE, hA, hC, hL, hR⟩ := h
  have hn : nS M < 14 := ne_full hN.1.1 hN.1.2 hf
  obtain ⟨rm, rm1, rm9, rfl⟩ := rng_iff (a := 1) (b := 9) (by decide) (by decide) c1
  obtain ⟨hd, -, hd20, rfl⟩ := rng_iff (a := 0) (b := 20) (by decide) (by decide) c2
  have e02 : aStM M (nI rm) (nI hd) 0 2 = nI (nS M + 1) := by
    simp only [aStM, mU_s]
    rw [hN.1.1, nI_1]
  have eS : nS (aStM M (nI rm) (nI hd)) = nS M + 1 := by
    show u (aStM M (nI rm) (nI hd) 0 2) = _
    rw [e02, u_nI (by omega)]
  have e0 : ∀ j, j ≠ 2 → aStM M (nI rm) (nI hd) 0 j = M 0 j := fun j hj => by simp (disch := omega) only [aStM, mU_r, mU_c]
  have er : ∀ i j, i ≠ 0 → i ≠ 1 → aStM M (nI rm) (nI hd) i j = M i j := fun i j _ _ => by simp (disch := omega) only [aStM, mU_r]
  have e1 : ∀ s w, s ≠ nS M → w < 9 → aStM M (nI rm) (nI hd) 1 (9 * s + w) = M 1 (9 * s + w) := fun s w _ _ => by simp (disch := omega) only [aStM, mU_r, mU_c]
  have eT : nT (aStM M (nI rm) (nI hd)) = nT M := by unfold nT; rw [e0 3 (by decide)]
  have n0 : aStM M (nI rm) (nI hd) 1 (9 * nS M + 0) = nI rm := by simp (disch := omega) only [aStM, mU_s, mU_r, mU_c]
  have n1 : aStM M (nI rm) (nI hd) 1 (9 * nS M + 1) = nI hd := by simp (disch := omega) only [aStM, mU_s, mU_r, mU_c]
  have n2 : aStM M (nI rm) (nI hd) 1 (9 * nS M + 2) = 0 := by simp (disch := omega) only [aStM, mU_s, mU_r, mU_c]
  have n3 : aStM M (nI rm) (nI hd) 1 (9 * nS M + 3) = -1 := by simp (disch := omega) only [aStM, mU_s, mU_r, mU_c]
  obtain ⟨k1, k2, k3⟩ := iACL (M' := aStM M (nI rm) (nI hd)) hA hC hL (e0 1 (by decide)) (by rw [eS]; omega) (e0 5 (by decide)) (e0 6 (by decide)) (e0 8 (by decide)) (e0 14 (by decide)) (fun j => er 4 j (by decide) (by decide)) (fun j => er 5 j (by decide) (by decide))
  have eR : ∀ s, s ≠ nS M → rom (aStM M (nI rm) (nI hd)) s = rom M s := fun s hs => by unfold rom; rw [e1 s 0 hs (by decide)]
  have eM : ∀ s, s ≠ nS M → mny (aStM M (nI rm) (nI hd)) s = mny M s := fun s hs => by unfold mny; rw [e1 s 2 hs (by decide)]
  refine ⟨⟨⟨?_, ?_, ?_, ?_⟩, ?_, ?_, ?_, k1, k2, k3, ?_⟩, eS⟩
  · rw [eS]; exact ⟨e02, by omega⟩
  · rw [eT, e0 3 (by decide)]; exact hN.2.1
  · unfold nE at *; rw [e0 4 (by decide)]; exact hN.2.2.1
  · unfold nC at *; rw [e0 5 (by decide)]; exact hN.2.2.2
  · intro t ht
    rw [eT] at ht
    have h1 := hT t ht
    unfold tFr tTo tLn tSp tBo at *
    rw [eS]
    simp only [er 2 _ (by decide) (by decide)]
    exact ⟨⟨h1.1.1, Nat.lt_succ_of_lt h1.1.2⟩, ⟨h1.2.1.1, Nat.lt_succ_of_lt h1.2.1.2⟩, h1.2.2⟩
  · intro s hs
    rw [eS] at hs
    by_cases q : s = nS M
    · subst q
      unfold rom hnd mny
      rw [n0, n1, n2, n3, u_nI (by omega), u_nI (by omega)]
      refine ⟨⟨rfl, rm1, rm9⟩, ⟨rfl, hd20⟩, ⟨by decide, by decide⟩, Or.inl rfl, fun k hk => ?_⟩
      exact absurd hk (by rw [u0]; omega)
    · have h1 := hS s (by omega)
      have h4 := h1.2.2.1.2
      unfold rom hnd mny way at *
      rw [eT, e1 s 0 q (by decide), e1 s 1 q (by decide), e1 s 2 q (by decide), e1 s 3 q (by decide)]
      refine ⟨h1.1, h1.2.1, h1.2.2.1, h1.2.2.2.1, fun k hk => ?_⟩
      rw [e1 s (5 + k) q (by omega)]
      exact h1.2.2.2.2 k hk
  · intro e he
    have h1 := hE e (by unfold nE at *; rw [← e0 4 (by decide)]; exact he)
    simp only [er 3 _ (by decide) (by decide)]
    rw [eS, eT]
    refine ⟨h1.1, h1.2.1, h1.2.2.1, ?_⟩
    rcases h1.2.2.2 with ⟨q, q1, q2⟩ | ⟨q, q1, q2⟩ | ⟨q, q1, q2, q3⟩
    · left
      rw [eM _ (by omega)]
      exact ⟨q, by omega, q2⟩
    · exact Or.inr (Or.inl ⟨q, q1, q2⟩)
    · exact Or.inr (Or.inr ⟨q, by omega, q2, by omega⟩)
  · obtain ⟨r1, r2, r3, r4⟩ := hR
    refine ⟨fun s hs => ?_, fun s hs hs2 => ?_, fun t ht => ?_, fun t ht ht2 => ?_⟩
    · rw [eS] at hs
      by_cases q : s = nS M
      · rw [q, r2 _ (Nat.le_refl _) hn]
        exact Nat.zero_le _
      · rw [eR s q]
        exact r1 s (by omega)
    · rw [eS] at hs
      exact r2 s (by omega) hs2
    · rw [eT] at ht
      unfold tBo at *
      rw [er 2 _ (by decide) (by decide)]
      exact r3 t ht
    · rw [eT] at ht
      exact r4 t ht ht2
theorem wI_aTu {B K : Nat} {M : Nat → Nat → Int32} {L : Nat → List Nat} (h : wI B K M L) {a b : Nat} {len sp bo : Int32} (ha : a < nS M) (hb : b < nS M) (hab : ¬ nI a = nI b) (c1 : (1 : Int32) ≤ len ∧ len ≤ 60) (c2 : (1 : Int32) ≤ sp ∧ sp ≤ 6) (c3 : (1 : Int32) ≤ bo ∧ bo ≤ 8) (hf : ¬ M 0 3 = 30) (hf4 : ¬ M 1 (9 * a + 2) = 4) : wI B K (aTuM M a (nI a) (nI b) len sp bo) L ∧ nT (aTuM M a (nI a) (nI b) len sp bo) = nT M + 1 := by
  obtain ⟨hN, hT, hS, hE, hA, hC, hL, hR⟩ := h
  have h14 := hN.1.2
  have hm := (hS a ha).2.2.1
  have hn : nT M < 30 := ne_full hN.2.1.1 hN.2.1.2 hf
  have hm4 : mny M a < 4 := ne_full hm.1 hm.2 hf4
  obtain ⟨ln, ln1, ln60, rfl⟩ := rng_iff (a := 1) (b := 60) (by decide) (by decide) c1
  obtain ⟨s6, s61, s66, rfl⟩ := rng_iff (a := 1) (b := 6) (by decide) (by decide) c2
  obtain ⟨b8, b81, b88, rfl⟩ := rng_iff (a := 1) (b := 8) (by decide) (by decide) c3
  obtain ⟨M', hM'⟩ : ∃ M', M' = aTuM M a (nI a) (nI b) (nI ln) (nI s6) (nI b8) := ⟨_, rfl⟩
  rw [← hM']
  have e03 : M' 0 3 = nI (nT M + 1) := by
    rw [hM']
    simp only [aTuM, mU_s]
    rw [hN.2.1.1, nI_1]
  have eT : nT M' = nT M + 1 := by
    show u (M' 0 3) = _
    rw [e03, u_nI (by omega)]
  have e0 : ∀ j, j ≠ 3 → M' 0 j = M 0 j := fun j hj => by rw [hM']; simp (disch := omega) only [aTuM, aT8, mU_r, mU_c]
  have er : ∀ i j, i ≠ 0 → i ≠ 1 → i ≠ 2 → M' i j = M i j := fun i j _ _ _ => by rw [hM']; simp (disch := omega) only [aTuM, aT8, mU_r]
  have e2 : ∀ t w, t ≠ nT M → w < 8 → M' 2 (8 * t + w) = M 2 (8 * t + w) := fun t w _ _ => by rw [hM']; simp (disch := omega) only [aTuM, aT8, mU_r, mU_c]
  have eS : nS M' = nS M := by unfold nS; rw [e0 2 (by decide)]
  have e1 : ∀ s w, w < 9 → (s ≠ a ∨ (w ≠ 2 ∧ w ≠ 5 + mny M a)) → M' 1 (9 * s + w) = M 1 (9 * s + w) := fun s w _ _ => by rw [hM']; simp (disch := omega) only [aTuM, aT8, mU_r, mU_c]
  have ea2 : M' 1 (9 * a + 2) = nI (mny M a + 1) := by
    rw [hM']
    simp (disch := omega) only [aTuM, aT8, mU_s, mU_r, mU_c]
    rw [hm.1, nI_1]
  have ea5 : M' 1 (9 * a + (5 + mny M a)) = nI (nT M) := by
    rw [hM']
    simp (disch := omega) only [aTuM, aT8, mU_s, mU_r, mU_c]
    exact hN.2.1.1
  have t0 : M' 2 (8 * nT M + 0) = nI a := by rw [hM']; simp (disch := omega) only [aTuM, aT8, mU_s, mU_r, mU_c]
  have t1 : M' 2 (8 * nT M + 1) = nI b := by rw [hM']; simp (disch := omega) only [aTuM, aT8, mU_s, mU_r, mU_c]
  have t2 : M' 2 (8 * nT M + 2) = nI ln := by rw [hM']; simp (disch := omega) only [aTuM, aT8, mU_s, mU_r, mU_c]
  have t3 : M' 2 (8 * nT M + 3) = nI s6 := by rw [hM']; simp (disch := omega) only [aTuM, aT8, mU_s, mU_r, mU_c]
  have t4 : M' 2 (8 * nT M + 4) = nI b8 := by rw [hM']; simp (disch := omega) only [aTuM, aT8, mU_s, mU_r, mU_c]
  have t5 : M' 2 (8 * nT M + 5) = 1 := by rw [hM']; simp (disch := omega) only [aTuM, aT8, mU_s, mU_r, mU_c]
  have eMa : mny M' a = mny M a + 1 := by
    show u (M' 1 (9 * a + 2)) = _
    rw [ea2, u_nI (by omega)]
  have eMs : ∀ s, s ≠ a → mny M' s = mny M s := fun s hs => by unfold mny; rw [e1 s 2 (by decide) (Or.inl hs)]
  have eMle : ∀ s, mny M s ≤ mny M' s := fun s => by
    by_cases q : s = a
    · subst q; rw [eMa]; omega
    · rw [eMs s q]; exact Nat.le_refl _
  obtain ⟨k1, k2, k3⟩ := iACL (M' := M') hA hC hL (e0 1 (by decide)) (by rw [eS]; exact Nat.le_refl _) (e0 5 (by decide)) (e0 6 (by decide)) (e0 8 (by decide)) (e0 14 (by decide)) (fun j => er 4 j (by decide) (by decide) (by decide)) (fun j => er 5 j (by decide) (by decide) (by decide))
  refine ⟨⟨⟨?_, ?_, ?_, ?_⟩, ?_, ?_, ?_, k1, k2, k3, ?_⟩, eT⟩
  · rw [eS, e0 2 (by decide)]; exact hN.1
  · rw [eT]; exact ⟨e03, by omega⟩
  · unfold nE at *; rw [e0 4 (by decide)]; exact hN.2.2.1
  · unfold nC at *; rw [e0 5 (by decide)]; exact hN.2.2.2
  · intro t ht
    rw [eT] at ht
    by_cases q : t = nT M
    · subst q
      unfold tFr tTo tLn tSp tBo
      rw [eS, t0, t1, t2, t3, t4, t5, u_nI (by omega), u_nI (by omega), u_nI (by omega), u_nI (by omega), u_nI (by omega)]
      exact ⟨⟨rfl, ha⟩, ⟨rfl, hb⟩, fun e => hab (by rw [e]), ⟨rfl, ln1, ln60⟩, ⟨rfl, s61, s66⟩, ⟨rfl, b81, b88⟩, Or.inr rfl⟩
    · have h1 := hT t (by omega)
      unfold tFr tTo tLn tSp tBo at *
      rw [eS, e2 t 0 q (by decide), e2 t 1 q (by decide), e2 t 2 q (by decide), e2 t 3 q (by decide), e2 t 4 q (by decide), e2 t 5 q (by decide)]
      exact h1
  · intro s hs
    rw [eS] at hs
    have h1 := hS s hs
    have h4 := h1.2.2.1.2
    by_cases q : s = a
    · subst q
      rw [eMa]
      unfold rom hnd way at *
      rw [e1 s 0 (by decide) (Or.inr (by omega)), e1 s 1 (by decide) (Or.inr (by omega)), e1 s 3 (by decide) (Or.inr (by omega)), ea2, eT]
      refine ⟨h1.1, h1.2.1, ⟨rfl, by omega⟩, ?_, fun k hk => ?_⟩
      · rcases h1.2.2.2.1 with x | ⟨w, w1, w2⟩
        · exact Or.inl x
        · exact Or.inr ⟨w, by omega, w2⟩
      · by_cases hk2 : k = mny M s
        · rw [hk2, ea5, u_nI (by omega)]
          exact ⟨rfl, by omega⟩
        · rw [e1 s (5 + k) (by omega) (Or.inr (by omega))]
          have := h1.2.2.2.2 k (by omega)
          exact ⟨this.1, by omega⟩
    · rw [eMs s q]
      unfold rom hnd way at *
      rw [e1 s 0 (by decide) (Or.inl q), e1 s 1 (by decide) (Or.inl q), e1 s 2 (by decide) (Or.inl q), e1 s 3 (by decide) (Or.inl q), eT]
      refine ⟨h1.1, h1.2.1, h1.2.2.1, h1.2.2.2.1, fun k hk => ?_⟩
      rw [e1 s (5 + k) (by omega) (Or.inl q)]
      have := h1.2.2.2.2 k hk
      exact ⟨this.1, by omega⟩
  · intro e he
    have h1 := hE e (by unfold nE at *; rw [← e0 4 (by decide)]; exact he)
    simp only [er 3 _ (by decide) (by decide) (by decide)]
    rw [eS, eT]
    refine ⟨h1.1, h1.2.1, h1.2.2.1, ?_⟩
    rcases h1.2.2.2 with ⟨q, q1, q2⟩ | ⟨q, q1, q2⟩ | ⟨q, q1, q2, q3⟩
    · left
      refine ⟨q, q1, ?_⟩
      rcases q2 with x | ⟨w, w1, w2⟩
      · exact Or.inl x
      · exact Or.inr ⟨w, Nat.lt_of_lt_of_le w1 (eMle _), w2⟩
    · exact Or.inr (Or.inl ⟨q, by omega, q2⟩)
    · exact Or.inr (Or.inr ⟨q, q1, q2, q3⟩)
  · obtain ⟨r1, r2, r3, r4⟩ := hR
    refine ⟨fun s hs => ?_, fun s hs hs2 => ?_, fun t ht => ?_, fun t ht ht2 => ?_⟩
    · rw [eS] at hs
      unfold rom at *
      rw [e1 s 0 (by decide) (Or.inr (by omega))]
      exact r1 s hs
    · rw [eS] at hs
      exact r2 s hs hs2
    · rw [eT] at ht
      by_cases q : t = nT M
      · rw [q, r4 _ (Nat.le_refl _) hn]
        exact Nat.zero_le _
      · unfold tBo at *
        rw [e2 t 4 q (by decide)]
        exact r3 t (by omega)
    · rw [eT] at ht
      exact r4 t (by omega) ht2
theorem wI_aEn {B K : Nat} {M : Nat → Nat → Int32} {L : Nat → List Nat} (h : wI B K M L) {first period sort what how : Int32} (ht : ¬ first ≤ M 0 1) (h1 : ¬ (100000 : Int32) < first) (h2 : (0 : Int32) ≤ period ∧ period ≤ 500) (h3 : (0 : Int32) ≤ sort ∧ sort ≤ 2) (hd : deedOK (M, L) sort what how) (hf : ¬ M 0 4 = 12) : wI B K (aEnM M first period sort what how) L ∧ nE (aEnM M first period sort what how) = nE M + 1 := by
  obtain ⟨hN, hT, hS, hE, hA, hC, hL, hR⟩ := h
  have hn : nE M < 12 := ne_full hN.2.2.1.1 hN.2.2.1.2 hf
  have h14 := hN.1.2
  have h30 := hN.2.1.2
  have hfirst : ∃ k, k ≤ 100000 ∧ first = nI k := by
    have a1 : (0 : Int32) ≤ M 0 1 := by rw [hA.1.1]; exact nI_pos' (by have := Int32.toNatClampNeg_lt (M 0 1); omega)
    have a2 : (0 : Int32) ≤ first := Int32.le_trans a1 (Int32.le_of_lt (Int32.not_le.mp ht))
    obtain ⟨k, -, k2, e⟩ := rng_iff (a := 0) (b := 100000) (by decide) (by decide) ⟨a2, Int32.not_lt.mp h1⟩
    exact ⟨k, k2, e⟩
  obtain ⟨fi, fi1, rfl⟩ := hfirst
  obtain ⟨pe, -, pe5, rfl⟩ := rng_iff (a := 0) (b := 500) (by decide) (by decide) h2
  obtain ⟨so, -, so2, rfl⟩ := rng_iff (a := 0) (b := 2) (by decide) (by decide) h3
  obtain ⟨M', hM'⟩ : ∃ M', M' = aEnM M (nI fi) (nI pe) (nI so) what how := ⟨_, rfl⟩
  rw [← hM']
  have e04 : M' 0 4 = nI (nE M + 1) := by
    rw [hM']
    simp only [aEnM, mU_s]
    rw [hN.2.2.1.1, nI_1]
  have eE : nE M' = nE M + 1 := by
    show u (M' 0 4) = _
    rw [e04, u_nI (by omega)]
  have e0 : ∀ j, j ≠ 4 → M' 0 j = M 0 j := fun j hj => by rw [hM']; simp (disch := omega) only [aEnM, aE5, mU_r, mU_c]
  have er : ∀ i j, i ≠ 0 → i ≠ 3 → M' i j = M i j := fun i j _ _ => by rw [hM']; simp (disch := omega) only [aEnM, aE5, mU_r]
  have e3 : ∀ e w, e ≠ nE M → w < 5 → M' 3 (5 * e + w) = M 3 (5 * e + w) := fun t w _ _ => by rw [hM']; simp (disch := omega) only [aEnM, aE5, mU_r, mU_c]
  have x0 : M' 3 (5 * nE M + 0) = nI fi := by rw [hM']; simp (disch := omega) only [aEnM, aE5, mU_s, mU_r, mU_c]
  have x1 : M' 3 (5 * nE M + 1) = nI pe := by rw [hM']; simp (disch := omega) only [aEnM, aE5, mU_s, mU_r, mU_c]
  have x2 : M' 3 (5 * nE M + 2) = nI so := by rw [hM']; simp (disch := omega) only [aEnM, aE5, mU_s, mU_r, mU_c]
  have x3 : M' 3 (5 * nE M + 3) = what := by rw [hM']; simp (disch := omega) only [aEnM, aE5, mU_s, mU_r, mU_c]
  have x4 : M' 3 (5 * nE M + 4) = how := by rw [hM']; simp (disch := omega) only [aEnM, aE5, mU_s, mU_r, mU_c]
  have eS : nS M' = nS M := by unfold nS; rw [e0 2 (by decide)]
  have eT : nT M' = nT M := by unfold nT; rw [e0 3 (by decide)]
  have eM : ∀ s, mny M' s = mny M s := fun s => by unfold mny; rw [er 1 _ (by decide) (by decide)]
  obtain ⟨k1, k2, k3⟩ := iACL (M' := M') hA hC hL (e0 1 (by decide)) (by rw [eS]; exact Nat.le_refl _) (e0 5 (by decide)) (e0 6 (by decide)) (e0 8 (by decide)) (e0 14 (by decide)) (fun j => er 4 j (by decide) (by decide)) (fun j => er 5 j (by decide) (by decide))
  refine ⟨⟨⟨?_, ?_, ?_, ?_⟩, iT_fr hT (e0 2 (by decide)) (e0 3 (by decide)) (fun _ _ _ => er 2 _ (by decide) (by decide)), iS_fr hS (e0 2 (by decide)) (e0 3 (by decide)) (fun _ _ _ _ => er 1 _ (by decide) (by decide)), ?_, k1, k2, k3, ?_⟩, eE⟩
  · rw [eS, e0 2 (by decide)]; exact hN.1
  · rw [eT, e0 3 (by decide)]; exact hN.2.1
  · rw [eE]; exact ⟨e04, by omega⟩
  · unfold nC at *; rw [e0 5 (by decide)]; exact hN.2.2.2
  · intro e he
    rw [eE] at he
    rw [eS, eT]
    by_cases q : e = nE M
    · subst q
      rw [x0, x1, x2, x3, x4, u_nI (by omega), u_nI (by omega)]
      refine ⟨⟨rfl, fi1⟩, ⟨rfl, pe5⟩, ?_⟩
      unfold deedOK at hd
      by_cases q0 : nI so = 0
      · rw [if_pos q0] at hd
        obtain ⟨i, hi, hh⟩ := hd
        obtain ⟨e1, e2⟩ := ixO_some (by show nS M < 2 ^ 31; omega) hi
        have e2 : i < nS M := e2
        have hh2 := sw_iff (m := mny M i) (by have := (hS i e2).2.2.1.2; omega) hh
        subst e1
        rw [u_nI (by omega), eM]
        exact ⟨rfl, Or.inl ⟨q0, e2, hh2⟩⟩
      · rw [if_neg q0] at hd
        by_cases q1 : nI so = 1
        · rw [if_pos q1] at hd
          obtain ⟨⟨i, hi⟩, hh⟩ := hd
          obtain ⟨e1, e2⟩ := ixO_some (by show nT M < 2 ^ 31; omega) hi
          have e2 : i < nT M := e2
          obtain ⟨k, -, hk2, rfl⟩ := rng_iff (a := 0) (b := 1) (by decide) (by decide) hh
          subst e1
          rw [u_nI (by omega)]
          refine ⟨rfl, Or.inr (Or.inl ⟨q1, e2, ?_⟩)⟩
          rcases (show k = 0 ∨ k = 1 by omega) with x | x
          · subst x; exact Or.inl rfl
          · subst x; exact Or.inr rfl
        · rw [if_neg q1] at hd
          obtain ⟨⟨i, hi⟩, ⟨k, hk⟩⟩ := hd
          obtain ⟨e1, e2⟩ := ixO_some (by show nS M < 2 ^ 31; omega) hi
          obtain ⟨e3, e4⟩ := ixO_some (by show nS M < 2 ^ 31; omega) hk
          have e2 : i < nS M := e2
          have e4 : k < nS M := e4
          subst e1
          subst e3
          rw [u_nI (by omega), u_nI (by omega)]
          have so2' : so = 2 := by
            have y0 : so ≠ 0 := fun x => q0 (by rw [x]; rfl)
            have y1 : so ≠ 1 := fun x => q1 (by rw [x]; rfl)
            omega
          exact ⟨rfl, Or.inr (Or.inr ⟨by rw [so2']; rfl, e2, rfl, e4⟩)⟩
    · have h1 := hE e (by omega)
      rw [e3 e 0 q (by decide), e3 e 1 q (by decide), e3 e 2 q (by decide), e3 e 3 q (by decide), e3 e 4 q (by decide), eM]
      exact h1
  · unfold iR nS nT rom tBo at *
    simp only [e0 2 (by decide), e0 3 (by decide), er 1 _ (by decide : (1 : Nat) ≠ 0) (by decide : (1 : Nat) ≠ 3), er 2 _ (by decide : (2 : Nat) ≠ 0) (by decide : (2 : Nat) ≠ 3)]
    exact hR
