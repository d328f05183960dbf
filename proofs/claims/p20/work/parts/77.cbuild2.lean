section CBUILD2
variable {S : bS} {A : Nat → Nat → Nat} {cp : Nat → Nat} {P : pP} {B K : Nat}
theorem C_build (h : cR S A cp P) (hw : wI B K P.1 P.2) (hz : ∃ z, gK S z = 14 ∧ gN S z = 0) (hcz : cZ P.1 cp) (hf : nS P.1 < 14) {room handling : Int32} {MC MS : Nat} (hMC : 30 + cpB (nS P.1) (cp 0) ≤ MC) (hMS : 30 + cpB (nS P.1) (cp 0) ≤ MS) {post : Int32 → bS → Prop} (hp : ∀ S' A', cR S' A' (up cp 0 (cp1 (nS P.1) (cp 0))) (aStM P.1 room handling, P.2) → A' 0 = A 0 → (∀ k, A' 6 k = A 6 k ∨ gK S (A' 6 k) = 0) → cF A S S' → post (P.1 0 2) S') : wp_X2_build post MC MS (A 0 1) room handling S := by
  obtain ⟨n0, n1, -⟩ := h.1.2.1
  obtain ⟨ea, hL⟩ := h.2
  obtain ⟨z0, hz0, hzn0⟩ := hz
  have lv0 : lvC P.1 0 := Or.inl (by decide)
  have h30 := hw.1.2.1.2
  have nlv4 : ¬ lvC P.1 (4 + nS P.1) := by unfold lvC; omega
  have nlv18 : ¬ (lvC P.1 (18 + nS P.1) ∨ 18 + nS P.1 = 4 + nS P.1) := by unfold lvC; omega
  have la1 : ∀ i, lvC P.1 i → gK S (A 5 i) = 1 := fun i hi => (hL.1 i hi).1
  have one14 := hL.2.2.2
  refine ⟨n0, _, n1, by omega, by omega, fun q hq => ?_⟩
  have hx1 : sEx S (sNew S q 5 0) := sEx_new hq (sEx_rf S)
  have hO1 := cO_l h.1 (sEx_lF hx1)
  have hL1 := LSr_ex hL hx1
  have kq1 : gK (sNew S q 5 0) q = 5 := by rw [gK_sNew, if_pos rfl]
  refine ⟨_, hO1.2.1.2.1, (hL1.1 0 lv0).1, C_size (hL1.1 0 lv0) ⟨3, 20, by omega, by omega, ?_⟩⟩
  rw [ls_0, List.length_map, List.length_range]
  refine ⟨kq1, by decide, by decide, fun q2 hq2 => C_linit hq2 (fun z hz => ?_)⟩
  simp only [gK_sV, gK_sNew] at hq2 hz
  have n2 : q2 ≠ q := fun e => by rw [if_pos e] at hq2; cases hq2
  rw [if_neg n2] at hq2
  have nz : z ≠ q := fun e => by rw [if_pos e] at hz; cases hz
  rw [if_neg nz] at hz
  refine ⟨?_, by decide, by decide, fun q9 hq9 => C_linit hq9 (fun z9 hz9 => ?_)⟩
  · simp only [gK_sQ, gK_sV, gK_sNew]
    rw [if_neg n2.symm, if_pos trivial]
  simp only [gK_sQ, gK_sV, gK_sNew] at hq9 hz9
  have n92 : q9 ≠ q2 := fun e => by rw [if_pos e] at hq9; cases hq9
  rw [if_neg n92] at hq9
  have n9 : q9 ≠ q := fun e => by rw [if_pos e] at hq9; cases hq9
  rw [if_neg n9] at hq9
  have nz92 : z9 ≠ q2 := fun e => by rw [if_pos e] at hz9; cases hz9
  rw [if_neg nz92] at hz9
  have nz9 : z9 ≠ q := fun e => by rw [if_pos e] at hz9; cases hz9
  rw [if_neg nz9] at hz9
  have ez9 := one14 z9 z0 hz9 hz0
  have ez := one14 z z0 hz hz0
  subst ez9
  subst ez
  have nz2 : z ≠ q2 := nz92
  have nz99 : z ≠ q9 := fun e => by rw [e, hq9] at hz; cases hz
  refine ⟨?_, by decide, by decide, by decide, by decide, fun qr hqr => ?_⟩
  · simp only [gK_sQ, gK_sV, gK_sNew]
    rw [if_neg n9.symm, if_neg n2.symm, if_pos trivial]
  simp only [gK_sQ, gK_sV, gK_sNew] at hqr
  have nr9 : qr ≠ q9 := fun e => by rw [if_pos e] at hqr; cases hqr
  rw [if_neg nr9] at hqr
  have nr2 : qr ≠ q2 := fun e => by rw [if_pos e] at hqr; cases hqr
  rw [if_neg nr2] at hqr
  have nr : qr ≠ q := fun e => by rw [if_pos e] at hqr; cases hqr
  rw [if_neg nr] at hqr
  have nzr : z ≠ qr := fun e => by rw [e, hqr] at hz; cases hz
  rw [show Int32.toNatClampNeg (14 : Int32) = 14 by decide]
  obtain ⟨X, hX⟩ : ∃ X, X = sV (sV (sV (sV (sQ (sNew (sQ (sQ (sV (sNew (sQ (sQ (sV (sNew (sV (sV (sV (sNew S q 5 0) 5 q 0 (nI (nS P.1))) 5 q 1 room) 5 q 2 handling) q2 1 0) 1 q2 0 0) 1 q2 1 (some z)) 5 q 3 (some q2)) q9 1 0) 1 q9 0 0) 1 q9 1 (some z)) 5 q 4 (some q9)) qr 9 14) 5 q 5 (some qr)) 5 q 6 0) 5 q 7 0) 5 q 8 (-1)) 5 q 9 0 := ⟨_, rfl⟩
  have hx8 : sEx S X := by
    rw [hX]
    exact sEx_V hq (sEx_V hq (sEx_V hq (sEx_V hq (sEx_Q hq (sEx_new hqr (sEx_Q hq (sEx_Q hq9 (sEx_V hq9 (sEx_new hq9 (sEx_Q hq (sEx_Q hq2 (sEx_V hq2 (sEx_new hq2 (sEx_V hq (sEx_V hq (sEx_V hq (sEx_new hq (sEx_rf S))))))))))))))))))
  have x0 : gK X q = 5 := by rw [hX]; simp [gK_sV, gK_sQ, gK_sNew, n9.symm, n2.symm, nr.symm]
  have x1 : gV X 5 q 0 = nI (nS P.1) := by rw [hX]; simp [gV_sV, gV_sQ, gV_sNew, n9.symm, n2.symm, nr.symm]
  have x2 : gV X 5 q 1 = room := by rw [hX]; simp [gV_sV, gV_sQ, gV_sNew, n9.symm, n2.symm, nr.symm]
  have x3 : gV X 5 q 2 = handling := by rw [hX]; simp [gV_sV, gV_sQ, gV_sNew, n9.symm, n2.symm, nr.symm]
  have x6 : gV X 5 q 8 = -1 := by rw [hX]; simp [gV_sV, gV_sQ, gV_sNew, n9.symm, n2.symm, nr.symm]
  have x7 : gV X 5 q 9 = 0 := by rw [hX]; simp [gV_sV, gV_sQ, gV_sNew, n9.symm, n2.symm, nr.symm]
  have x4 : gQ X 5 q 3 = some q2 := by rw [hX]; simp [gQ_sV, gQ_sQ, gQ_sNew, n9.symm, n2.symm, nr.symm]
  have x5 : gQ X 5 q 4 = some q9 := by rw [hX]; simp [gQ_sV, gQ_sQ, gQ_sNew, n9.symm, n2.symm, nr.symm]
  have x8 : gQ X 5 q 5 = some qr := by rw [hX]; simp [gQ_sV, gQ_sQ, gQ_sNew, n9.symm, n2.symm, nr.symm]
  have y0 : gK X q2 = 1 := by rw [hX]; simp [gK_sV, gK_sQ, gK_sNew, n92.symm, n2, nr2.symm]
  have y1 : gV X 1 q2 2 = 0 := by rw [hX]; simp [gV_sV, gV_sQ, gV_sNew, n92.symm, n2, nr2.symm]
  have y2 : gQ X 1 q2 1 = some z := by rw [hX]; simp [gQ_sV, gQ_sQ, gQ_sNew, n92.symm, n2, nr2.symm]
  have w0 : gK X q9 = 1 := by rw [hX]; simp [gK_sV, gK_sQ, gK_sNew, n92, n9, nr9.symm]
  have w1 : gV X 1 q9 2 = 0 := by rw [hX]; simp [gV_sV, gV_sQ, gV_sNew, n92, n9, nr9.symm]
  have w2 : gQ X 1 q9 1 = some z := by rw [hX]; simp [gQ_sV, gQ_sQ, gQ_sNew, n92, n9, nr9.symm]
  have u0 : gK X qr = 9 := by rw [hX]; simp [gK_sV, gK_sQ, gK_sNew]
  have u1 : gN X qr = 14 := by rw [hX]; simp [gN_sV, gN_sQ, gN_sNew]
  have z1 : gK X z = 14 ∧ gN X z = 0 := by
    obtain ⟨e1, e2, -⟩ := hx8.1 z (by rw [hz]; decide)
    rw [e1, e2]
    exact ⟨hz, hzn0⟩
  rw [← hX]
  have hLX := LSr_ex hL hx8
  have c4 : cp (4 + nS P.1) = 0 := hcz _ (by omega) nlv4
  have c18 : cp (18 + nS P.1) = 0 := hcz _ (by omega) (fun x => nlv18 (Or.inl x))
  have hLY := LSr_addl hLX (i0 := 4 + nS P.1) y0 y1 y2 z1.1 z1.2 c4 (fun i hi e => by
    have := la1 i hi
    rw [e, hq2] at this
    cases this) nlv4
  have hLZ := LSr_addl hLY (i0 := 18 + nS P.1) w0 w1 w2 z1.1 z1.2 c18 (fun i hi e => by
    rcases hi with hi | hi
    · rw [up_n (j := i) (i := 4 + nS P.1) (fun x => nlv4 (by rw [← x]; exact hi))] at e
      have := la1 i hi
      rw [e, hq9] at this
      cases this
    · rw [hi, up_s] at e
      exact n92 e.symm) nlv18
  rw [← stA_f] at hLZ
  have la0 : stA A (nS P.1) q q2 q9 qr 5 0 = A 5 0 := stA_5 (by omega) (by omega)
  have a0 : stA A (nS P.1) q q2 q9 qr 0 = A 0 := stA_0 (by decide) (by decide) (by decide)
  have a6 : ∀ k, stA A (nS P.1) q q2 q9 qr 6 k = A 6 k ∨ gK S (stA A (nS P.1) q q2 q9 qr 6 k) = 0 := fun k => by
    by_cases e : k = nS P.1
    · right
      rw [e, stA_6n]
      exact hqr
    · left
      exact stA_6 e
  have l0 : (up (up (lsC A P.1 P.2) (4 + nS P.1) []) (18 + nS P.1) [] 0).length = nS P.1 := by
    rw [up_n (by omega), up_n (by omega), ls_0, List.length_map, List.length_range]
  have e0 : up (up (lsC A P.1 P.2) (4 + nS P.1) []) (18 + nS P.1) [] 0 = lsC A P.1 P.2 0 := by
    rw [up_n (by omega), up_n (by omega)]
  have hOX := cO_l h.1 (sEx_lF hx8)
  refine ⟨(hLX.1 0 lv0).1, cpB (nS P.1) (cp 0), cpB (nS P.1) (cp 0), by omega, by omega, ?_⟩
  rw [← la0]
  refine CF_add hLZ (Or.inl (Or.inl lv0)) (a := q) (by rw [x0]; decide) (by rw [l0]; omega) (by rw [l0]; exact Nat.le_refl _) (by rw [l0]; exact Nat.le_refl _) (fun S9 ea9 i1 i2 => ?_)
  rw [l0, e0] at i1
  have hO9 := cO_l hOX i2
  have kq : gK X q ≠ 0 := by rw [x0]; decide
  have kr : gK X qr ≠ 0 := by rw [u0]; decide
  have e8 : up (up (up (lsC A P.1 P.2) (4 + nS P.1) []) (18 + nS P.1) []) 0 (lsC A P.1 P.2 0 ++ [q]) 0 = (List.range (nS P.1 + 1)).map (stA A (nS P.1) q q2 q9 qr 1) := by
    rw [up_s, ls_0, List.range_succ, List.map_append]
    congr 1
    · exact List.map_congr_left (fun d hd => (stA_1 (by have := List.mem_range.mp hd; omega)).symm)
    · show [q] = [stA A (nS P.1) q q2 q9 qr 1 (nS P.1)]
      rw [stA_1n]
  have hL9 := i1.1 0 (Or.inl (Or.inl lv0))
  rw [e8, la0] at hL9
  refine ⟨hO9.2.1.1, C_forget (S := S9) (n := nS P.1 + 1) (g := stA A (nS P.1) q q2 q9 qr 1) hO9.2.1.1 hO9.2.1.2.1 hL9 (fun k hk => ?_) (fun f hff => ?_)⟩
  · by_cases e : k = nS P.1
    · rw [e, stA_1n, (i2.1.1 q kq).1]
      exact x0
    · rw [stA_1 e]
      exact (hO9.2.2.2.1 k (by omega)).1
  have hO10 := cO_build hw hf (room := room) (handling := handling) (q := q) (q2 := q2) (q9 := q9) (qr := qr) hO9 (fun s hs e => by
    have := (h.1.2.2.2.1 s hs).1
    rw [e, hq] at this
    cases this) (by rw [(i2.1.1 q kq).1]; exact x0) (by rw [i2.2.1 5 q 0 (by decide) kq]; exact x1) (by rw [i2.2.1 5 q 1 (by decide) kq]; exact x2) (by rw [i2.2.1 5 q 2 (by decide) kq]; exact x3) (by rw [i2.2.2.1 5 q 3 (by decide) (by decide) kq]; exact x4) (by rw [i2.2.2.1 5 q 4 (by decide) (by decide) kq]; exact x5) (by rw [i2.2.1 5 q 8 (by decide) kq]; exact x6) (by rw [i2.2.1 5 q 9 (by decide) kq]; exact x7) (by rw [i2.2.2.1 5 q 5 (by decide) (by decide) kq]; exact x8) (by rw [(i2.1.1 qr kr).1]; exact u0) (by rw [(i2.1.1 qr kr).2]; exact u1) (fun s hs e => by
    have := (h.1.2.2.1.1 s hs).2.1
    rw [e, hqr] at this
    cases this) hff
  have hn := aSt_S hw.1 hf (room := room) (handling := handling)
  have hL10 : LSr (sJ S9 6 f) (lvC (aStM P.1 room handling)) (stA A (nS P.1) q q2 q9 qr 5) ea9 (lsC (stA A (nS P.1) q q2 q9 qr) (aStM P.1 room handling) P.2) (up cp 0 (cp1 (nS P.1) (cp 0))) := by
    refine LSr_ls (LSr_lv (show LSr (sJ S9 6 f) _ _ _ _ _ from i1) (fun i hi => ?_)) (fun i hi => lsC_build hw hf hi)
    have e3 : nT (aStM P.1 room handling) = nT P.1 := rfl
    unfold lvC at hi ⊢
    rw [hn, e3] at hi
    omega
  have hle := hL10.1 0 (Or.inl (by decide))
  obtain ⟨m0, m1, -⟩ := hO10.2.1
  rw [a0] at m0 m1
  refine ⟨m0, _, m1, hle.1, C_size hle ?_⟩
  rw [show lsC (stA A (nS P.1) q q2 q9 qr) (aStM P.1 room handling) P.2 0 = (List.range (nS (aStM P.1 room handling))).map (stA A (nS P.1) q q2 q9 qr 1) from rfl, List.length_map, List.length_range, hn, nI_pred]
  have := hp _ _ ⟨hO10, ea9, hL10⟩ a0 a6 (cF_tr (cF_l (sEx_lF hx8)) (cF_tr (cF_l i2) (cF_J _ _ _ _)))
  rw [hw.1.1.1] at this
  exact this
end CBUILD2
