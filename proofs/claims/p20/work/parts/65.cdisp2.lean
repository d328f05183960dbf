section CDISP2
theorem w_lt {B K : Nat} {M : Nat → Nat → Int32} {L : Nat → List Nat} (h : wI B K M L) {j d : Nat} (h0 : j ≠ 0) (h45 : j < 45) (hd : d ∈ L j) : d < nC M := by
  by_cases hj : j < 15
  · rw [show j = 1 + (j - 1) by omega] at hd
    exact (w_at h (by omega) hd).2.2.2.1
  · rw [show j = 15 + (j - 15) by omega] at hd
    exact (w_in h (by omega) hd).2.2.2.1
theorem snd_4 {M : Nat → Nat → Int32} (s : Nat) (aim rank : Int32) (j : Nat) : sndM M s aim rank 4 j = movM (newM M aim rank) (nC M) s 4 j := by
  by_cases j0 : j = 9 * nC M + 0
  · subst j0; simp (disch := omega) only [sndM, movM, newM, pM, mU_s, mU_r, mU_c]
  by_cases j1 : j = 9 * nC M + 1
  · subst j1; simp (disch := omega) only [sndM, movM, newM, pM, mU_s, mU_r, mU_c]
  by_cases j2 : j = 9 * nC M + 2
  · subst j2; simp (disch := omega) only [sndM, movM, newM, pM, mU_s, mU_r, mU_c]
  by_cases j3 : j = 9 * nC M + 3
  · subst j3; simp (disch := omega) only [sndM, movM, newM, pM, mU_s, mU_r, mU_c]
  by_cases j4 : j = 9 * nC M + 4
  · subst j4; simp (disch := omega) only [sndM, movM, newM, pM, mU_s, mU_r, mU_c]
  by_cases j5 : j = 9 * nC M + 5
  · subst j5; simp (disch := omega) only [sndM, movM, newM, pM, mU_s, mU_r, mU_c]
  by_cases j6 : j = 9 * nC M + 6
  · subst j6; simp (disch := omega) only [sndM, movM, newM, pM, mU_s, mU_r, mU_c]
  by_cases j7 : j = 9 * nC M + 7
  · subst j7; simp (disch := omega) only [sndM, movM, newM, pM, mU_s, mU_r, mU_c]
  simp (disch := omega) only [sndM, movM, newM, pM, mU_r, mU_c]
theorem snd_r123 (M : Nat → Nat → Int32) (s : Nat) (aim rank : Int32) (i j : Nat) (h : 1 ≤ i) (h2 : i ≤ 3) : sndM M s aim rank i j = movM (newM M aim rank) (nC M) s i j := by simp (disch := omega) only [sndM, movM, newM, pM, mU_r]
theorem snd_0 (M : Nat → Nat → Int32) (s : Nat) (aim rank : Int32) (j : Nat) (h : 1 ≤ j) (h2 : j < 8) : sndM M s aim rank 0 j = movM (newM M aim rank) (nC M) s 0 j := by
  by_cases q : j = 5
  · subst q; simp (disch := omega) only [sndM, movM, newM, pM, mU_s, mU_r, mU_c]
  · simp (disch := omega) only [sndM, movM, newM, pM, mU_r, mU_c]
theorem snd_C {M : Nat → Nat → Int32} (hN : iN M) (h500 : nC M < 500) {s : Nat} {aim rank : Int32} : nC (sndM M s aim rank) = nC M + 1 := by
  show u (sndM M s aim rank 0 5) = _
  have e : sndM M s aim rank 0 5 = M 0 5 + 1 := by simp (disch := omega) only [sndM, pM, mU_s, mU_r, mU_c]
  rw [e, hN.2.2.2.1, nI_1, u_nI (by omega)]
theorem lsC_snd {A A' : Nat → Nat → Nat} {B K s q : Nat} {P : pP} {aim rank : Int32} (hw : wI B K P.1 P.2) (hs : s < 14) (h500 : nC P.1 < 500) (hA' : A' = upA A 3 (nC P.1) q) {i : Nat} (hi : i < 62) : lsC A' (sndM P.1 s aim rank) (sndL P.1 P.2 s aim rank) i = up (up (lsC A P.1 P.2) 3 (lsC A P.1 P.2 3 ++ [q])) (18 + s) ((insR (movM (newM P.1 aim rank) (nC P.1) s) (nC P.1) (P.2 (1 + s))).map (A' 3)) i := by
  have a1 : A' 1 = A 1 := by rw [hA']; exact upA_r (by decide)
  have a2 : A' 2 = A 2 := by rw [hA']; exact upA_r (by decide)
  have a4 : A' 4 = A 4 := by rw [hA']; exact upA_r (by decide)
  have a3n : A' 3 (nC P.1) = q := by rw [hA']; exact upA_s
  have a3 : ∀ c, c < nC P.1 → A' 3 c = A 3 c := fun c hc => by rw [hA']; exact upA_c (by omega)
  have hmap : ∀ j, j ≠ 0 → j < 45 → (P.2 j).map (A' 3) = (P.2 j).map (A 3) := fun j h0 h45 => List.map_congr_left (fun d hd => a3 d (w_lt hw h0 h45 hd))
  have hrem : ∀ j, j ≠ 0 → j < 45 → rem (nC P.1) (P.2 j) = P.2 j := fun j h0 h45 => rem_no (fun x => Nat.lt_irrefl _ (w_lt hw h0 h45 x))
  have hL1 : ∀ j, j ≠ 0 → j ≠ 1 + s → j < 45 → sndL P.1 P.2 s aim rank j = P.2 j := fun j h0 h1 h45 => by
    unfold sndL sLst
    rw [if_neg h0, if_neg h1]
    exact hrem j h0 h45
  have hL2 : sndL P.1 P.2 s aim rank (1 + s) = insR (movM (newM P.1 aim rank) (nC P.1) s) (nC P.1) (P.2 (1 + s)) := by
    unfold sndL sLst
    rw [if_neg (by omega), if_pos rfl, if_pos (by omega), hrem _ (by omega) (by omega)]
    exact insR_ext (fun d => snd_4 s aim rank _) _
  by_cases q18 : i = 18 + s
  · rw [q18, up_s, lsC_b (by omega) (by omega), show 1 + (18 + s - 18) = 1 + s by omega, hL2]
  · rw [up_n q18]
    by_cases q3 : i = 3
    · rw [q3, up_s]
      show (List.range (nC (sndM P.1 s aim rank))).map (A' 3) = (List.range (nC P.1)).map (A 3) ++ [q]
      rw [snd_C hw.1 h500, List.range_succ, List.map_append]
      congr 1
      · exact List.map_congr_left (fun d hd => a3 d (List.mem_range.mp hd))
      · show [A' 3 (nC P.1)] = [q]
        rw [a3n]
    · rw [up_n q3]
      by_cases h18 : i < 18
      · unfold lsC
        rw [a1, a2, a4, if_neg q3, if_neg q3, if_pos h18, if_pos h18]
        have e1 : ∀ j, sndM P.1 s aim rank 1 j = P.1 1 j := fun j => by simp (disch := omega) only [sndM, pM, mU_r]
        have e1' : sndM P.1 s aim rank 1 = P.1 1 := funext e1
        unfold mny way nS nT nE
        rw [e1', snd_r0 _ _ _ _ 2 (by decide), snd_r0 _ _ _ _ 3 (by decide), snd_r0 _ _ _ _ 4 (by decide)]
      · by_cases h32 : i < 32
        · rw [lsC_b (by omega) h32, lsC_b (by omega) h32, hL1 _ (by omega) (by omega) (by omega), hmap _ (by omega) (by omega)]
        · rw [lsC_c (by omega), lsC_c (by omega), hL1 _ (by omega) (by omega) (by omega), hmap _ (by omega) (by omega)]
theorem C_dispatch {S : bS} {A : Nat → Nat → Nat} {cp : Nat → Nat} {P : pP} {B K : Nat} (h : cR S A cp P) (hw : wI B K P.1 P.2) {s a : Nat} {rank : Int32} (hs : s < nS P.1) (ha : a < nS P.1) (h500 : nC P.1 < 500) {MC MS : Nat} (hMC : 9 + cpB (nC P.1) (cp 3) + cpB (P.2 (1 + s)).length (cp (18 + s)) ≤ MC) (hMS : 9 + cpB (nC P.1) (cp 3) + cpB (P.2 (1 + s)).length (cp (18 + s)) ≤ MS) {post : bS → Prop} (hp : ∀ S' A', cR S' A' (up (up cp 3 (cp1 (nC P.1) (cp 3))) (18 + s) (cp1 (P.2 (1 + s)).length (cp (18 + s)))) (sndM P.1 s (nI a) rank, sndL P.1 P.2 s (nI a) rank) → A' 0 = A 0 → A' 6 = A 6 → cF A S S' → post S') : wp_X5_dispatch post MC MS (A 0 0) (A 1 s) (A 1 a) rank S := by
  have h14 := hw.1.1.2
  refine ⟨by omega, by omega, fun q hq => ?_⟩
  have hlf := lF_new (κ := 2) (n := 0) hq (by decide)
  have hO1 := cO_l h.1 hlf
  obtain ⟨ea, hL⟩ := h.2
  have hL1 := LSr_new (n := 0) (κ := 2) hL hq (by decide)
  have lv3 : lvC P.1 3 := Or.inl (by decide)
  have lvs : lvC P.1 (18 + s) := Or.inr (Or.inr (Or.inl ⟨by omega, by omega⟩))
  obtain ⟨p0, -, -, p3, p4, -⟩ := hO1.1
  have kq1 : gK (sNew S q 2 0) q = 2 := by rw [gK_sNew, if_pos rfl]
  refine ⟨p0, _, p3, (hL1.1 3 lv3).1, C_size (hL1.1 3 lv3) ⟨p0, ?_⟩⟩
  rw [ls_3, List.length_map, List.length_range, p4]
  refine ⟨kq1, ?_⟩
  obtain ⟨A', hA'⟩ : ∃ A', A' = upA A 3 (nC P.1) q := ⟨_, rfl⟩
  have hO2 := cO_new h.1 hw.1 h500 hq (a := a) ha (rank := rank) hA'
  obtain ⟨X, hX⟩ : ∃ X, X = sV (sV (sV (sV (sV (sV (sV (sQ (sV (sNew S q 2 0) 2 q 0 (nI (nC P.1))) 2 q 1 (some (A 1 a))) 2 q 2 rank) 2 q 3 (P.1 0 1)) 2 q 4 1) 2 q 5 0) 2 q 6 (P.1 0 1)) 2 q 7 0) 2 q 8 0 := ⟨_, rfl⟩
  rw [← hX] at hO2 ⊢
  have hLX : LSr X (lvC P.1) (A 5) ea (lsC A P.1 P.2) cp := by
    rw [hX]
    exact hL1
  have hFX : cF A S X := by
    rw [hX]
    exact cF_tr (cF_l hlf) ⟨fun _ _ => ⟨rfl, rfl⟩, fun _ _ _ => ⟨rfl, rfl⟩, fun _ _ _ _ => rfl, fun _ _ => ⟨fun _ => rfl, fun _ => rfl⟩⟩
  have kq : gK X q = 2 := by
    rw [hX]
    exact kq1
  have a0 : A' 0 = A 0 := by rw [hA']; exact upA_r (by decide)
  have a1 : A' 1 = A 1 := by rw [hA']; exact upA_r (by decide)
  have a5 : A' 5 = A 5 := by rw [hA']; exact upA_r (by decide)
  have a6 : A' 6 = A 6 := by rw [hA']; exact upA_r (by decide)
  have a3n : A' 3 (nC P.1) = q := by rw [hA']; exact upA_s
  have a3 : ∀ c, c < nC P.1 → A' 3 c = A 3 c := fun c hc => by rw [hA']; exact upA_c (by omega)
  obtain ⟨q0, -, -, q3, q4, -⟩ := hO2.1
  rw [a0] at q0 q3 q4
  rw [a5] at q3
  have l3 : (lsC A P.1 P.2 3).length = nC P.1 := by rw [ls_3, List.length_map, List.length_range]
  refine ⟨q0, _, q3, (hLX.1 3 lv3).1, cpB (nC P.1) (cp 3), cpB (nC P.1) (cp 3), by omega, by omega, ?_⟩
  refine CF_add hLX lv3 (a := q) (by rw [kq]; decide) (by rw [l3]; omega) (by rw [l3]; exact Nat.le_refl _) (by rw [l3]; exact Nat.le_refl _) (fun S3 ea3 i1 i2 => ?_)
  rw [l3] at i1
  have hO3 := cO_l hO2 i2
  obtain ⟨r0, -, -, r3, r4, -⟩ := hO3.1
  rw [a0] at r0 r4
  have hC := newM_C hw.1 h500 (aim := nI a) (rank := rank)
  have kq3 : gK S3 q = 2 := by rw [(i2.1.1 q (by rw [kq]; decide)).1, kq]
  have hlen := len_at hw (t := s) (by omega)
  refine ⟨r0, kq3, cpB (P.2 (1 + s)).length (cp (18 + s)), cpB (P.2 (1 + s)).length (cp (18 + s)), by omega, by omega, ?_⟩
  rw [r4]
  have e3 : ∀ d, d < nC P.1 → newM P.1 (nI a) rank 4 (9 * d + 3) = P.1 4 (9 * d + 3) := fun d hd => by simp (disch := omega) only [newM, mU_r, mU_c]
  have i1' : LSr S3 (lvC P.1) (A' 5) ea3 (up (lsC A P.1 P.2) 3 (lsC A P.1 P.2 3 ++ [q])) (up cp 3 (cp1 (nC P.1) (cp 3))) := by
    rw [a5]
    exact i1
  have key := C_comeTo (A := A') (M := newM P.1 (nI a) rank) hO3 i1' (s := s) (c := nC P.1) (l := P.2 (1 + s)) hs (by rw [hC]; omega) lvs (by
    rw [up_n (by omega), ls_l (by omega)]
    exact List.map_congr_left (fun d hd => (a3 d (w_lt hw (by omega) (by omega) hd)).symm)) (fun d hd => by
    have := w_lt hw (by omega) (by omega) hd
    rw [hC]
    omega) (by omega) (List.Pairwise.imp_of_mem (fun {x y} hx hy hxy => by
    rw [e3 x (w_lt hw (by omega) (by omega) hx), e3 y (w_lt hw (by omega) (by omega) hy)]
    exact ahd_nlt hxy) (hw.2.2.2.2.2.2.1.1 s (by omega)).2) (MC := cpB (P.2 (1 + s)).length (cp (18 + s))) (MS := cpB (P.2 (1 + s)).length (cp (18 + s))) (by rw [up_n (by omega)]; exact Nat.le_refl _) (by rw [up_n (by omega)]; exact Nat.le_refl _) (post := fun S24 => post S24) (fun S4 ea4 hO4 hL4 hF4 => ?_)
  · rw [a3n, a1] at key
    exact key
  · rw [up_n (f := cp) (by omega)] at hL4
    refine hp S4 A' ⟨cO_ext hO4 (fun j h1 h8 => snd_0 P.1 s (nI a) rank j h1 h8) (fun i j h1 h4 => ?_), ea4, LSr_ls hL4 (fun i hi => lsC_snd hw (by omega) h500 hA' (lvC_lt hw.1 hi))⟩ a0 a6 (cF_tr hFX (cF_tr (cF_l i2) (cF_A a0 a6 hF4)))
    by_cases x : i = 4
    · subst x
      exact snd_4 s (nI a) rank j
    · exact snd_r123 P.1 s (nI a) rank i j h1 (by omega)
end CDISP2
