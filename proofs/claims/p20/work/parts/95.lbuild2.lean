/-! ===== the law's loops that build ===== -/
section LBUILD2
variable {post : Option Nat → bS → Prop} {xs : Nat → Int32} {LL : Nat}
set_option maxRecDepth 4000 in
theorem K_bTubes (hL : LL < 2 ^ 31) {q a0 n tt X0 : Nat} (hn2 : 2 ≤ n) (hn7 : n ≤ 7) (htt : tt ≤ 12) (hend : ∀ S A cp P, lB S A cp P q a0 → nS P.1 = n → nT P.1 ≤ 12 → potA P.1 cp ≤ X0 → post (some q) S) : ∀ (r k : Nat) (S : bS) (A : Nat → Nat → Nat) (cp : Nat → Nat) (P : pP) (mc ms : Nat), k + r = tt → lB S A cp P q a0 → nS P.1 = n → nT P.1 ≤ k → potA P.1 cp ≤ X0 → potA P.1 cp + 10 * r ≤ mc → potA P.1 cp + 120 * r ≤ ms → wb_L_build_151 xs LL post (r + 1) mc ms a0 q (nI n) (nI tt) (nI k) S := by
  intro r
  induction r with
  | zero =>
    intro k S A cp P mc ms hk hI hn hT hX hc hs
    unfold wb_L_build_151
    exact ⟨fun _ => hend S A cp P hI hn (by omega) hX, fun z => absurd (nI_le (by omega) (by omega)) z⟩
  | succ r ih =>
    intro k S A cp P mc ms hk hI hn hT hX hc hs
    subst hn
    have K202 : ∀ (v7 : Int32) (f : Nat), f < nS P.1 → wb_L_build_202 xs LL post (wb_L_build_151 xs LL post (r + 1)) mc ms a0 q (nI (nS P.1)) (nI tt) (nI k) v7 (nI f) S := by
      intro v7 f hf
      have one : ∀ (m1 : Nat) (s0 s1 : Int32), 0 < m1 → m1 ≤ 7 → s0 = nI m1 → wb_L_build_238 xs LL post (wb_L_build_151 xs LL post (r + 1)) mc ms a0 q (nI (nS P.1)) (nI tt) (nI k) v7 (nI f) s0 s1 (nI f + 1) S := fun m1 s0 s1 h0 hm1 e0 =>
        K_bTube hI hn2 hn7 hT (by omega) (by omega) (by omega) (fun S' A' cp' P' mc' ms' hI' en eT hp' hc' hs' => by
          rw [nI_1]
          exact ih (k + 1) S' A' cp' P' mc' ms' (by omega) hI' en eT (by omega) (by omega) (by omega)) hf h0 hm1 e0
      have em : nI (nS P.1) - 1 = nI (nS P.1 - 1) := by
        have := nI_pred (nS P.1 - 1)
        rw [show nS P.1 - 1 + 1 = nS P.1 by omega] at this
        exact this
      unfold wb_L_build_202 wb_L_build_234
      exact ⟨fun _ => one (nS P.1 - 1) _ _ (by omega) (by omega) em, fun _ => D_below (m := 3) rfl (by decide) (by decide) (fun j _ => ⟨fun _ => one (nS P.1 - 1) _ _ (by omega) (by omega) em, fun _ => one 1 _ _ (by decide) (by decide) rfl⟩)⟩
    unfold wb_L_build_151
    refine ⟨fun z => absurd z (nI_ge (a := k) (b := tt) (by omega) (by omega)), fun _ => ⟨by decide, D_cell hL (k := 6 + k % 10) ?_ (by omega) (fun v => ⟨by decide, fun _ => D_below rfl (by omega) (by omega) (fun f hf => K202 _ f hf), fun z => K202 _ k ?_⟩)⟩⟩
    · rw [show nI k - nI k / (10 : Int32) * (10 : Int32) = nI (k % 10) from pk_rem (a := k) (d := 10) (by omega) (by decide) (by decide)]
      exact nI_add 6 (k % 10)
    · exact Nat.lt_of_not_le (fun y => z (nI_le y (by omega)))
set_option maxRecDepth 4000 in
theorem K_bStat (hL : LL < 2 ^ 31) {q a0 n X0 : Nat} (hn2 : 2 ≤ n) (hn7 : n ≤ 7) (hend : ∀ S A cp P, lB S A cp P q a0 → nS P.1 = n → nT P.1 ≤ 12 → potA P.1 cp ≤ X0 → post (some q) S) : ∀ (r k : Nat) (S : bS) (A : Nat → Nat → Nat) (cp : Nat → Nat) (P : pP) (mc ms : Nat), k + r = n → lB S A cp P q a0 → nS P.1 = k → nT P.1 = 0 → potA P.1 cp ≤ X0 → potA P.1 cp + 10 * r + 120 ≤ mc → potA P.1 cp + 100 * r + 1440 ≤ ms → wb_L_build_26 xs LL post (r + 1) mc ms a0 q (nI n) (nI k) S := by
  intro r
  induction r with
  | zero =>
    intro k S A cp P mc ms hk hI hn hT hX hc hs
    unfold wb_L_build_26
    refine ⟨fun _ => D_cell hL (k := 6) rfl (by decide) (fun v => D_below (m := 6) rfl (by decide) (by decide) (fun j hj => ⟨n + j + 1, ?_⟩)), fun z => absurd (nI_le (by omega) (by omega)) z⟩
    rw [nI_add]
    exact K_bTubes hL hn2 hn7 (by omega) hend (n + j) 0 S A cp P mc ms (by omega) hI (by omega) (by omega) hX (by omega) (by omega)
  | succ r ih =>
    intro k S A cp P mc ms hk hI hn hT hX hc hs
    obtain ⟨h, hcz, hz, hw, hP2, hb, hsi, ha0⟩ := hI
    have K101 : ∀ (jr jh : Nat), 1 ≤ jr → jr ≤ 9 → jh ≤ 7 → wb_L_build_101 xs LL post (wb_L_build_26 xs LL post (r + 1)) mc ms a0 q (nI n) (nI k) (nI jr) (nI jh) S := by
      intro jr jh hr1 hr9 hh
      have c1 : (1 : Int32) ≤ nI jr ∧ nI jr ≤ 9 := ⟨nI_le (a := 1) hr1 (by omega), nI_le (b := 9) hr9 (by decide)⟩
      have c2 : (0 : Int32) ≤ nI jh ∧ nI jh ≤ 20 := ⟨nI_le (a := 0) (by omega) (by omega), nI_le (b := 20) (by omega) (by decide)⟩
      have hf : nS P.1 < 14 := by omega
      obtain ⟨cp1, m1, m2, m3⟩ := D_addStation (cp := cp) hw c1 c2 hf
      have hwS := wI_aSt hw c1 c2 (fun z => by rw [hw.1.1.1] at z; have := (nI_eq (b := 14) (by omega) (by decide)).mp z; omega)
      have hbS := bI_aSt hw hb hf (room := nI jr) (handling := nI jh)
      have eT : nT (aStM P.1 (nI jr) (nI jh)) = nT P.1 := by
        unfold nT
        rw [show aStM P.1 (nI jr) (nI jh) 0 3 = P.1 0 3 by simp (disch := omega) only [aStM, mU_r, mU_c]]
      have mnyE : ∀ i, i < nS P.1 + 1 → (if i = nS P.1 then 0 else mny P.1 i) = mny (aStM P.1 (nI jr) (nI jh)) i := fun i hi => by
        by_cases z : i = nS P.1
        · rw [if_pos z, z]
          show 0 = u (aStM P.1 (nI jr) (nI jh) 1 (9 * nS P.1 + 2))
          rw [show aStM P.1 (nI jr) (nI jh) 1 (9 * nS P.1 + 2) = 0 by simp (disch := omega) only [aStM, mU_s, mU_r, mU_c]]
          decide
        · rw [if_neg z]
          show u (P.1 1 (9 * i + 2)) = u (aStM P.1 (nI jr) (nI jh) 1 (9 * i + 2))
          rw [aSt_1 z (by decide)]
      have m1' : potA (aStM P.1 (nI jr) (nI jh)) cp1 ≤ potA P.1 cp := m1
      generalize hM' : aStM P.1 (nI jr) (nI jh) = M' at *
      have hpT : potA (M', P.2).1 cp1 = potA M' cp1 := rfl
      unfold wb_L_build_101
      rw [← ha0]
      refine ⟨h.1.1.1, potA P.1 cp - potA M' cp1, potA P.1 cp - potA M' cp1, by omega, by omega, m3 S A _ _ _ h hcz hz (by omega) (by omega) (fun S30 A1 h1 a0' a6 hF => ?_)⟩
      have s30 := sI_cF hsi hF
      refine ⟨fun _ => ⟨s30.1, 6, 50, by omega, by omega, C_simSt s30 (by omega) (Nat.le_refl _) (Nat.le_refl _) (fun S35 hj35 s35 => ?_)⟩, fun z => absurd (by rw [hw.1.1.1, hn]) z⟩
      rw [nI_1, ha0]
      refine ih (k + 1) S35 A1 cp1 (M', P.2) _ _ (by omega) ⟨cR_jF h1 hj35, m2 hcz, z_jF (z_cF hz hF) hj35, hwS.1, hP2, hbS, ?_, by rw [a0']; exact ha0⟩ (by show nS M' = k + 1; rw [hwS.2, hn]) (by show nT M' = 0; rw [eT, hT]) (by show potA M' cp1 ≤ X0; omega) (by rw [hpT]; omega) (by rw [hpT]; omega)
      rw [show nS (M', P.2).1 = nS P.1 + 1 from hwS.2, show nT (M', P.2).1 = nT P.1 from eT]
      exact sI_ext s35 mnyE
    have K71 : ∀ (mm : Nat) (v6 s0 s1 : Int32), 1 ≤ mm → mm ≤ 9 → s0 = nI mm → wb_L_build_71 xs LL post (wb_L_build_26 xs LL post (r + 1)) mc ms a0 q (nI n) (nI k) v6 s0 s1 (1 : Int32) S := by
      intro mm v6 s0 s1 h1 h9 e0
      unfold wb_L_build_71
      refine D_below e0 h1 (by omega) (fun j hj => ?_)
      rw [show (1 : Int32) + nI j = nI (1 + j) from nI_add 1 j]
      exact D_below (m := 2) rfl (by decide) (by decide) (fun j2 _ => ⟨fun _ => D_below (m := 8) rfl (by decide) (by decide) (fun j3 hj3 => K101 (1 + j) j3 (by omega) (by omega) (by omega)), fun _ => K101 (1 + j) 0 (by omega) (by omega) (by omega)⟩)
    unfold wb_L_build_26
    refine ⟨fun z => absurd z (nI_ge (a := k) (b := n) (by omega) (by omega)), fun _ => ⟨by decide, D_cell hL (k := 1 + k % 5) ?_ (by omega) (fun v16 => D_cell hL (k := 0) rfl (by decide) (fun v18 => D_below (m := 2) rfl (by decide) (by decide) (fun j _ => ⟨fun _ => K71 2 _ _ _ (by decide) (by decide) rfl, fun _ => K71 9 _ _ _ (by decide) (by decide) rfl⟩)))⟩⟩
    rw [show nI k - nI k / (5 : Int32) * (5 : Int32) = nI (k % 5) from pk_rem (a := k) (d := 5) (by omega) (by decide) (by decide)]
    exact nI_add 1 (k % 5)
end LBUILD2
