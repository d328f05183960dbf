section CDEL
variable {S : bS} {A : Nat → Nat → Nat} {M : Nat → Nat → Int32}
theorem oSt_set (hSt : oSt S A M) (hIn : oIn A M) {s : Nat} (hs : s < nS M) {S' : bS} {M' : Nat → Nat → Int32} (hn : nS M' = nS M) (hK : ∀ a, gK S' a = gK S a) (hQ : ∀ a j, gQ S' 5 a j = gQ S 5 a j) (hV : ∀ a j, a ≠ A 1 s → gV S' 5 a j = gV S 5 a j) (hE : ∀ d w, d ≠ s → w < 5 → M' 1 (9 * d + w) = M 1 (9 * d + w)) (hV0 : ∀ j, j < 3 → gV S' 5 (A 1 s) j = gV S 5 (A 1 s) j) (hE0 : ∀ w, w < 2 → M' 1 (9 * s + w) = M 1 (9 * s + w)) (h5 : gV S' 5 (A 1 s) 8 = M' 1 (9 * s + 3)) (h6 : gV S' 5 (A 1 s) 9 = M' 1 (9 * s + 4)) : oSt S' A M' := by
  intro d hd
  rw [hn] at hd
  obtain ⟨k0, k1, k2, k3, k4, k5, k6, k7⟩ := hSt d hd
  by_cases q : d = s
  · subst q
    exact ⟨by rw [hK]; exact k0, by rw [hV0 0 (by decide)]; exact k1, by rw [hV0 1 (by decide), hE0 0 (by decide)]; exact k2, by rw [hV0 2 (by decide), hE0 1 (by decide)]; exact k3, by rw [hQ]; exact k4, by rw [hQ]; exact k5, h5, h6⟩
  · have hne : A 1 d ≠ A 1 s := fun x => q (hIn.1 d s hd hs x)
    rw [hK, hQ, hQ, hV _ 0 hne, hV _ 1 hne, hV _ 2 hne, hV _ 8 hne, hV _ 9 hne, hE d 0 q (by decide), hE d 1 q (by decide), hE d 3 q (by decide), hE d 4 q (by decide)]
    exact ⟨k0, k1, k2, k3, k4, k5, k6, k7⟩
theorem C_deliver (hO : cO S A M) {c a : Nat} (al : List Nat) (hc : c < nC M) (hwa : nI a = M 4 (9 * c + 2)) (ha : u (M 4 (9 * c + 2)) = a) (haS : a < nS M) {post : bS → Prop} (hp : ∀ S', cO S' A (delM M al c) → (∀ lv ea ls cp, LSr S lv (A 5) ea ls cp → LSr S' lv (A 5) ea ls cp) → cF A S S' → post S') : wp_X5_deliver post (A 0 0) (A 3 c) S := by
  obtain ⟨hP, hNt, hAr, hSt, hTb, hCa, hEn, hIn, hTm⟩ := hO
  obtain ⟨p0, p1, p2, p3, p4, p5, p6⟩ := hP
  obtain ⟨c0, c1, c2, c3, c4, c5, c6, c7, c8, c9⟩ := hCa c hc
  rw [ha] at c2
  obtain ⟨s0, s1, s2, s3, s4, s5, s6, s7⟩ := hSt a haS
  have g1 : gV (sV S 2 (A 3 c) 4 3) 5 (A 1 a) 0 = nI a := s1
  have g2 : gV (sV (sV S 2 (A 3 c) 4 3) 2 (A 3 c) 5 (nI a)) 7 (A 0 0) 3 = M 0 1 := p4
  refine ⟨c0, _, c2, s0, p0, ?_⟩
  rw [g1, g2]
  refine ⟨_, c2, s0, ?_⟩
  have g3 : gV (sV (sV (sV S 2 (A 3 c) 4 3) 2 (A 3 c) 5 (nI a)) 2 (A 3 c) 6 (M 0 1)) 5 (A 1 a) 9 = M 1 (9 * a + 4) := s7
  rw [g3]
  have g4 : gV (sV (sV (sV (sV S 2 (A 3 c) 4 3) 2 (A 3 c) 5 (nI a)) 2 (A 3 c) 6 (M 0 1)) 5 (A 1 a) 9 (M 1 (9 * a + 4) + 1)) 7 (A 0 0) 4 = M 0 6 := p5
  rw [g4]
  obtain ⟨X, hX⟩ : ∃ X, X = sV (sV (sV (sV (sV S 2 (A 3 c) 4 3) 2 (A 3 c) 5 (nI a)) 2 (A 3 c) 6 (M 0 1)) 5 (A 1 a) 9 (M 1 (9 * a + 4) + 1)) 7 (A 0 0) 4 (M 0 6 + 1) := ⟨_, rfl⟩
  have g5 : gV X 7 (A 0 0) 5 = M 0 7 := by
    rw [hX, gV_sV, if_neg (fun x => by omega)]
    exact p6
  have g6 : gV X 7 (A 0 0) 3 = M 0 1 := by
    rw [hX, gV_sV, if_neg (fun x => by omega)]
    exact p4
  have g7 : gV X 2 (A 3 c) 3 = M 4 (9 * c + 4) := by
    rw [hX]
    show gV (sV (sV (sV S 2 (A 3 c) 4 3) 2 (A 3 c) 5 (nI a)) 2 (A 3 c) 6 (M 0 1)) 2 (A 3 c) 3 = _
    rw [gV_sV, if_neg (fun x => by omega), gV_sV, if_neg (fun x => by omega), gV_sV, if_neg (fun x => by omega)]
    exact c4
  rw [← hX, g5, g6, g7]
  have e1 : ∀ s w, w < 9 → w ≠ 4 → delM M al c 1 (9 * s + w) = M 1 (9 * s + w) := fun s w _ _ => by simp (disch := omega) only [delM, pM, mU_r, mU_c, mRow_r]
  have e14 : delM M al c 1 (9 * a + 4) = M 1 (9 * a + 4) + 1 := by
    unfold delM
    rw [ha]
    simp (disch := omega) only [pM, mU_s, mU_r, mU_c, mRow_r]
  have e2 : ∀ j, delM M al c 2 j = M 2 j := fun j => del_r2 M al c j
  have e2' : delM M al c 2 = M 2 := funext e2
  have e3 : ∀ j, delM M al c 3 j = M 3 j := fun j => by simp (disch := omega) only [delM, pM, mU_r, mRow_r]
  have e0 : ∀ j, j < 6 → delM M al c 0 j = M 0 j := fun j hj => del_r0 M al c j hj
  have nS' : nS (delM M al c) = nS M := by unfold nS; rw [e0 2 (by decide)]
  have nT' : nT (delM M al c) = nT M := by unfold nT; rw [e0 3 (by decide)]
  have nE' : nE (delM M al c) = nE M := by unfold nE; rw [e0 4 (by decide)]
  have nC' : nC (delM M al c) = nC M := by unfold nC; rw [e0 5 (by decide)]
  refine hp _ ⟨?_, by rw [hX]; exact hNt, by rw [hX]; exact oAr_n hAr nS', ?_, ?_, ?_, ?_, ?_, ?_⟩ (fun lv ea ls cp h => by rw [hX]; exact h) ?_
  · refine ⟨by rw [hX]; exact p0, by rw [hX]; exact p1, by rw [hX]; exact p2, by rw [hX]; exact p3, ?_, ?_, ?_⟩
    · rw [gV_sV, if_neg (fun x => by omega), g6, e0 1 (by decide)]
    · rw [gV_sV, if_neg (fun x => by omega), hX, gV_sV, if_pos ⟨rfl, rfl, rfl⟩]
      simp (disch := omega) only [delM, pM, mU_s, mU_r, mU_c, mRow_r]
    · rw [gV_sV, if_pos ⟨rfl, rfl, rfl⟩]
      simp (disch := omega) only [delM, pM, mU_s, mU_r, mU_c, mRow_r]
  · rw [hX]
    refine oSt_set hSt hIn haS nS' (fun _ => rfl) (fun _ _ => rfl) (fun b j hne => ?_) (fun d w hd hw => ?_) (fun j hj => ?_) (fun w hw => e1 a w (by omega) (by omega)) ?_ ?_
    · show gV (sV (sV (sV (sV S 2 (A 3 c) 4 3) 2 (A 3 c) 5 (nI a)) 2 (A 3 c) 6 (M 0 1)) 5 (A 1 a) 9 (M 1 (9 * a + 4) + 1)) 5 b j = _
      rw [gV_sV, if_neg (fun x => hne x.2.1)]
      rfl
    · by_cases q : w = 4
      · subst q
        unfold delM
        rw [ha]
        simp (disch := omega) only [pM, mU_s, mU_r, mU_c, mRow_r]
      · exact e1 d w (by omega) q
    · show gV (sV (sV (sV (sV S 2 (A 3 c) 4 3) 2 (A 3 c) 5 (nI a)) 2 (A 3 c) 6 (M 0 1)) 5 (A 1 a) 9 (M 1 (9 * a + 4) + 1)) 5 (A 1 a) j = _
      rw [gV_sV, if_neg (fun x => by omega)]
      rfl
    · show gV (sV (sV (sV (sV S 2 (A 3 c) 4 3) 2 (A 3 c) 5 (nI a)) 2 (A 3 c) 6 (M 0 1)) 5 (A 1 a) 9 (M 1 (9 * a + 4) + 1)) 5 (A 1 a) 8 = _
      rw [gV_sV, if_neg (fun x => by omega), e1 a 3 (by decide) (by decide)]
      exact s6
    · show gV (sV (sV (sV (sV S 2 (A 3 c) 4 3) 2 (A 3 c) 5 (nI a)) 2 (A 3 c) 6 (M 0 1)) 5 (A 1 a) 9 (M 1 (9 * a + 4) + 1)) 5 (A 1 a) 9 = _
      rw [gV_sV, if_pos ⟨rfl, rfl, rfl⟩, e14]
  · rw [hX]
    intro t ht
    rw [nT'] at ht
    unfold thr tLn tSp tFr tTo at *
    rw [e2']
    exact hTb t ht
  · rw [hX]
    refine oCa_set hCa hIn hc nC' (fun _ => rfl) (fun _ _ => rfl) (fun b j hne => ?_) (fun d w hd hw => ?_) (fun j hj => ?_) (fun w hw => ?_) ?_ ?_ ?_ (fun q => ?_) ?_
    · show gV (sV (sV (sV S 2 (A 3 c) 4 3) 2 (A 3 c) 5 (nI a)) 2 (A 3 c) 6 (M 0 1)) 2 b j = _
      rw [gV_sV, if_neg (fun x => hne x.2.1), gV_sV, if_neg (fun x => hne x.2.1), gV_sV, if_neg (fun x => hne x.2.1)]
    · simp (disch := omega) only [delM, pM, mU_r, mU_c, mRow_r]
    · show gV (sV (sV (sV S 2 (A 3 c) 4 3) 2 (A 3 c) 5 (nI a)) 2 (A 3 c) 6 (M 0 1)) 2 (A 3 c) j = _
      rw [gV_sV, if_neg (fun x => by omega), gV_sV, if_neg (fun x => by omega), gV_sV, if_neg (fun x => by omega)]
    · rcases hw with rfl | rfl | rfl <;> simp (disch := omega) only [delM, pM, mU_r, mU_c, mRow_r]
    · show gV (sV (sV (sV S 2 (A 3 c) 4 3) 2 (A 3 c) 5 (nI a)) 2 (A 3 c) 6 (M 0 1)) 2 (A 3 c) 4 = _
      simp (disch := omega) only [delM, pM, mU_s, mU_r, mU_c, mRow_r]
      simp [gV_sV]
    · show gV (sV (sV (sV S 2 (A 3 c) 4 3) 2 (A 3 c) 5 (nI a)) 2 (A 3 c) 6 (M 0 1)) 2 (A 3 c) 5 = _
      simp (disch := omega) only [delM, pM, mU_s, mU_r, mU_c, mRow_r]
      rw [gV_sV, if_neg (fun x => by omega), gV_sV, if_pos ⟨rfl, rfl, rfl⟩]
      exact hwa
    · show gV (sV (sV (sV S 2 (A 3 c) 4 3) 2 (A 3 c) 5 (nI a)) 2 (A 3 c) 6 (M 0 1)) 2 (A 3 c) 6 = _
      simp (disch := omega) only [delM, pM, mU_s, mU_r, mU_c, mRow_r]
      simp [gV_sV]
    · have e : delM M al c 4 (9 * c + 0) = 3 := by simp (disch := omega) only [delM, pM, mU_s, mU_r, mU_c, mRow_r]
      rw [e] at q
      exact absurd q (by decide)
    · have e : delM M al c 4 (9 * c + 6) = M 4 (9 * c + 6) := by simp (disch := omega) only [delM, pM, mU_s, mU_r, mU_c, mRow_r]
      rw [e]
      show gV (sV (sV (sV S 2 (A 3 c) 4 3) 2 (A 3 c) 5 (nI a)) 2 (A 3 c) 6 (M 0 1)) 2 (A 3 c) 8 = _
      rw [gV_sV, if_neg (fun x => by omega), gV_sV, if_neg (fun x => by omega), gV_sV, if_neg (fun x => by omega)]
      exact c9
  · rw [hX]
    intro e he
    rw [nE'] at he
    refine ⟨(hEn e he).1, fun w hw => ?_⟩
    rw [e3]
    exact (hEn e he).2 w hw
  · unfold oIn
    rw [nS', nT', nC']
    exact hIn
  · rw [hX]
    exact oTm_fr hTm (fun b => by
      show gV (sV (sV (sV (sV S 2 (A 3 c) 4 3) 2 (A 3 c) 5 (nI a)) 2 (A 3 c) 6 (M 0 1)) 5 (A 1 a) 9 (M 1 (9 * a + 4) + 1)) 5 b 6 = _
      rw [gV_sV, if_neg (fun x => by omega)]
      rfl) (fun _ _ => rfl) nS' (fun k => dD_fr (e0 3 (by decide)) (fun t w _ => e2 _) (fun s => e1 s 1 (by decide) (by decide)) k)
  · rw [hX]
    exact cF_tr (cF_2 _ _ _) (cF_tr (cF_2 _ _ _) (cF_tr (cF_2 _ _ _) (cF_tr (cF_5 _ _ _) (cF_tr (cF_7 _ _ _) (cF_7 _ _ _)))))
end CDEL
