/-! ===== the class's run ===== -/
section CRUN
theorem C_strike {P : pP} {cp : Nat → Nat} (hE : nE P.1 = 0) : ∃ cp', cV P (sClk P (nE P.1)) cp cp' (fun post MC MS A S => wp_X5_strikeClock post MC MS (A 0 0) S) := by
  rw [hE]
  refine ⟨cp, cV_rf (fun S A MC MS post h hp => ?_)⟩
  obtain ⟨p0, p1, p2, -⟩ := h.1.1
  obtain ⟨e, hL⟩ := cl_at h (i := 2) (Or.inl (by decide))
  unfold wp_X5_strikeClock
  refine ⟨p0, _, p2, hL.1, C_size hL ⟨fun _ => hp S h (cF_rf A S), fun q => ?_⟩⟩
  rw [ls_2, List.length_map, List.length_range, hE] at q
  exact q (by decide)
theorem C_arrive {B K : Nat} {P : pP} {cp : Nat → Nat} (hw : wI B K P.1 P.2) (hK : K + 1200 < 2 ^ 31) : ∃ cp', cV P (sArrN P (nT P.1)) cp cp' (fun post MC MS A S => wp_X5_arriveEverywhere post MC MS (A 0 0) S) := by
  obtain ⟨cp', h⟩ := C_arrN hK hw (nT P.1) 0 cp (by omega)
  obtain ⟨h1, h2, h3⟩ := cW_cV h (sArrN_inv hK hw _ (Nat.le_refl _)).2
  exact ⟨cp', h1, h2, fun S A MC MS post h hC hS hp => ⟨_, h3 S A MC MS post h hC hS hp⟩⟩
theorem C_depart {B K : Nat} {P : pP} {cp : Nat → Nat} (hB : B + 20 < 2 ^ 31) (hw : wI B K P.1 P.2) (hX : iX P.1 P.2) (hk : 1 ≤ u (P.1 0 1)) (hK : K + 560 < 2 ^ 31) : ∃ cp', cV P (sDepN P (nS P.1)) cp cp' (fun post MC MS A S => wp_X5_departEverywhere post MC MS (A 0 0) S) := by
  obtain ⟨cp', h⟩ := C_depN hB hK hw hX hk (nS P.1) 0 cp (by omega)
  obtain ⟨h1, h2, h3⟩ := cW_cV h (fun j hj => (sDepN_inv hK hw _ (Nat.le_refl _)).2 j (by omega))
  exact ⟨cp', h1, h2, fun S A MC MS post h hC hS hp => ⟨_, h3 S A MC MS post h hC hS hp⟩⟩
theorem cR_tick {S : bS} {A : Nat → Nat → Nat} {cp : Nat → Nat} {P : pP} (h : cR S A cp P) : cR (sV S 7 (A 0 0) 3 (P.1 0 1 + 1)) A cp (sTk1 P) := by
  obtain ⟨⟨p0, p1, p2, p3, p4, p5, p6⟩, hNt, hAr, hSt, hTb, hCa, hEn, hIn, hTm⟩ := h.1
  refine ⟨⟨⟨p0, p1, p2, p3, ?_, ?_, ?_⟩, hNt, hAr, hSt, hTb, hCa, hEn, hIn, ?_⟩, h.2⟩
  · rw [gV_sV, if_pos ⟨rfl, rfl, rfl⟩]
    show _ = mU P.1 0 1 (P.1 0 1 + 1) 0 1
    rw [mU_s]
  · rw [gV_sV, if_neg (fun x => by omega)]
    exact p5
  · rw [gV_sV, if_neg (fun x => by omega)]
    exact p6
  · exact oTm_fr (M' := (sTk1 P).1) hTm (fun _ => rfl) (fun _ _ => rfl) rfl (fun k => dD_fr (M := P.1) (M' := mU P.1 0 1 (P.1 0 1 + 1)) rfl (fun _ _ _ => rfl) (fun _ => rfl) k)
/-- one tick: what a road that goes on behind it needs -/
theorem C_tick {B K : Nat} {P : pP} {cp : Nat → Nat} (hE : nE P.1 = 0) (hB : B + 21 < 2 ^ 31) (hK : K + 1772 < 2 ^ 31) (hw : wI B K P.1 P.2) (hX : iX P.1 P.2) : ∃ cp', potA (sTick P).1 cp' ≤ potA P.1 cp ∧ (cZ P.1 cp → cZ (sTick P).1 cp') ∧ ∀ (S : bS) (A : Nat → Nat → Nat) (mc ms : Nat) (go : Nat → Nat → bS → Prop), cR S A cp P → potA P.1 cp ≤ mc + potA (sTick P).1 cp' → potA P.1 cp ≤ ms + potA (sTick P).1 cp' → (∀ S' A' mc' ms', mc ≤ mc' + (potA P.1 cp - potA (sTick P).1 cp') → ms ≤ ms' + (potA P.1 cp - potA (sTick P).1 cp') → cR S' A' cp' (sTick P) → A' 0 = A 0 → A' 6 = A 6 → cF A S S' → go mc' ms' S') → ∃ k8 n9, k8 ≤ mc ∧ n9 ≤ ms ∧ (wp_X5_strikeClock (fun S7 => gK S7 (A 0 0) = 7 ∧ (∃ k13 n14, k13 ≤ (mc - k8) ∧ n14 ≤ (ms - n9) ∧ (wp_X5_arriveEverywhere (fun S12 => gK S12 (A 0 0) = 7 ∧ (∃ k18 n19, k18 ≤ ((mc - k8) - k13) ∧ n19 ≤ ((ms - n9) - n14) ∧ (wp_X5_departEverywhere (fun S17 => go (((mc - k8) - k13) - k18) (((ms - n9) - n14) - n19) S17) k18 n19 (A 0 0) S12))) k13 n14 (A 0 0) S7))) k8 n9 (A 0 0) (sV S 7 (A 0 0) 3 ((gV S 7 (A 0 0) 3) + (1 : Int32)))) := by
  obtain ⟨h1, ⟨h2, f2⟩, ⟨h3, f3⟩, h4, f4⟩ := tick_inv (by omega) hK hw
  obtain ⟨x1, x2, x3, x4⟩ := tick_iX (by omega) hK hw hX
  have hT1 : 1 ≤ u ((sTk1 P).1 0 1) := by
    obtain ⟨⟨a1, a1B⟩, -⟩ := hw.2.2.2.2.1
    show 1 ≤ u (mU P.1 0 1 (P.1 0 1 + 1) 0 1)
    rw [mU_s, a1, nI_1, u_nI (by omega)]
    omega
  have g2 := (sClk_inv (by omega) h1 (nE (sTk1 P).1) (Nat.le_refl _)).2
  have n3 : nT (sTk2 P).1 = nT P.1 := by unfold nT; rw [f2 3 (by decide) (by decide)]
  have n2 : nS (sTk3 P).1 = nS P.1 := by unfold nS; rw [f3 2 (by decide) (by decide)]
  have g3 := (sArrN_inv (K := K + 12) (by omega) h2 (nT P.1) (by rw [n3]; exact Nat.le_refl _)).2
  have hT3 : 1 ≤ u ((sTk3 P).1 0 1) := by
    show 1 ≤ u ((sArrN (sTk2 P) (nT P.1)).1 0 1)
    rw [g3 1 (by decide)]
    show 1 ≤ u ((sClk (sTk1 P) (nE (sTk1 P).1)).1 0 1)
    rw [g2 1 (by decide)]
    exact hT1
  obtain ⟨cp1, a1, a2, a3⟩ := C_strike (P := sTk1 P) (cp := cp) hE
  obtain ⟨cp2, b1, b2, b3⟩ := C_arrive (cp := cp1) h2 (by omega)
  rw [n3] at b1 b2 b3
  obtain ⟨cp3, c1, c2, c3⟩ := C_depart (cp := cp2) (by omega) h3 x3 hT3 (by omega)
  rw [n2] at c1 c2 c3
  have eA : potA (sTk1 P).1 cp = potA P.1 cp := rfl
  have zA : cZ P.1 cp → cZ (sTk1 P).1 cp := fun z => z
  change potA (sTk2 P).1 cp1 ≤ _ at a1
  change potA (sTk3 P).1 cp2 ≤ _ at b1
  change potA (sTick P).1 cp3 ≤ _ at c1
  rw [eA] at a1
  refine ⟨cp3, by omega, fun z => c2 (b2 (a2 (zA z))), fun S A mc ms go h hC hS hp => ?_⟩
  rw [h.1.1.2.2.2.2.1]
  refine ⟨potA P.1 cp - potA (sTk2 P).1 cp1, potA P.1 cp - potA (sTk2 P).1 cp1, by omega, by omega, a3 _ A _ _ _ (cR_tick h) ?_ ?_ (fun S1 A1 hR1 p0 p6 hF1 => ?_)⟩
  · show potA P.1 cp ≤ _ + potA (sTk2 P).1 cp1
    omega
  · show potA P.1 cp ≤ _ + potA (sTk2 P).1 cp1
    omega
  · rw [← p0]
    refine ⟨hR1.1.1.1, potA (sTk2 P).1 cp1 - potA (sTk3 P).1 cp2, potA (sTk2 P).1 cp1 - potA (sTk3 P).1 cp2, by omega, by omega, b3 _ A1 _ _ _ hR1 ?_ ?_ (fun S2 A2 hR2 q0 q6 hF2 => ?_)⟩
    · show potA (sTk2 P).1 cp1 ≤ _ + potA (sTk3 P).1 cp2
      omega
    · show potA (sTk2 P).1 cp1 ≤ _ + potA (sTk3 P).1 cp2
      omega
    · rw [← q0]
      refine ⟨hR2.1.1.1, potA (sTk3 P).1 cp2 - potA (sTick P).1 cp3, potA (sTk3 P).1 cp2 - potA (sTick P).1 cp3, by omega, by omega, c3 _ A2 _ _ _ hR2 ?_ ?_ (fun S3 A3 hR3 r0 r6 hF3 => ?_)⟩
      · show potA (sTk3 P).1 cp2 ≤ _ + potA (sTick P).1 cp3
        omega
      · show potA (sTk3 P).1 cp2 ≤ _ + potA (sTick P).1 cp3
        omega
      · refine hp S3 A3 _ _ (by omega) (by omega) hR3 (r0.trans (q0.trans p0)) (r6.trans (q6.trans p6)) ?_
        exact cF_tr (cF_7 _ _ _) (cF_tr hF1 (cF_A p0 p6 (cF_tr hF2 (cF_A q0 q6 hF3))))
end CRUN
