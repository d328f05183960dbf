/-! ===== the class's clock ===== -/
/-- what may still be made -/
def potA (M : Nat → Nat → Int32) (cp : Nat → Nat) : Nat := potC cp 62 + 9 * (500 - nC M) + 30 * (14 - nS M) + 14 * (30 - nT M) + 5 * (12 - nE M)
def cV (P P' : pP) (cp cp' : Nat → Nat) (wp : (bS → Prop) → Nat → Nat → (Nat → Nat → Nat) → bS → Prop) : Prop := potA P'.1 cp' ≤ potA P.1 cp ∧ (cZ P.1 cp → cZ P'.1 cp') ∧ ∀ (S : bS) (A : Nat → Nat → Nat) (MC MS : Nat) (post : bS → Prop), cR S A cp P → potA P.1 cp ≤ MC + potA P'.1 cp' → potA P.1 cp ≤ MS + potA P'.1 cp' → (∀ S' A', cR S' A' cp' P' → A' 0 = A 0 → A' 6 = A 6 → cF A S S' → post S') → wp post MC MS A S
theorem cW_cV {P P' : pP} {cp cp' : Nat → Nat} {w : (bS → Prop) → Nat → Nat → (Nat → Nat → Nat) → bS → Prop} (h : cW P P' cp cp' w) (h0 : ∀ j, j < 6 → P'.1 0 j = P.1 0 j) : cV P P' cp cp' w := by
  obtain ⟨h1, h2, h3⟩ := h
  have e : ∀ c, potA P'.1 c = potC c 62 + 9 * (500 - nC P.1) + 30 * (14 - nS P.1) + 14 * (30 - nT P.1) + 5 * (12 - nE P.1) := fun c => by
    unfold potA nC nS nT nE
    rw [h0 2 (by decide), h0 3 (by decide), h0 4 (by decide), h0 5 (by decide)]
  refine ⟨?_, h2, fun S A MC MS post hR hC hS hp => h3 S A MC MS post hR ?_ ?_ (fun S' hR' hF => hp S' A hR' rfl rfl hF)⟩
  · rw [e]
    unfold potA
    omega
  · rw [e] at hC
    unfold potA at hC
    omega
  · rw [e] at hS
    unfold potA at hS
    omega
theorem cV_rf {P : pP} {cp : Nat → Nat} {w : (bS → Prop) → Nat → Nat → (Nat → Nat → Nat) → bS → Prop} (h : ∀ (S : bS) (A : Nat → Nat → Nat) (MC MS : Nat) (post : bS → Prop), cR S A cp P → (∀ S', cR S' A cp P → cF A S S' → post S') → w post MC MS A S) : cV P P cp cp w := ⟨Nat.le_refl _, fun z => z, fun S A MC MS post hR _ _ hp => h S A MC MS post hR (fun S' hR' hF => hp S' A hR' rfl rfl hF)⟩
section CCLK
theorem potA_snd {B K : Nat} {P : pP} {cp : Nat → Nat} (hw : wI B K P.1 P.2) {s : Nat} (h500 : nC P.1 < 500) (aim rank : Int32) : ∀ c, potA (sndM P.1 s aim rank) c = potC c 62 + 9 * (499 - nC P.1) + 30 * (14 - nS P.1) + 14 * (30 - nT P.1) + 5 * (12 - nE P.1) := by
  intro c
  unfold potA
  rw [snd_C hw.1 h500]
  unfold nS nT nE
  rw [snd_r0 _ _ _ _ 2 (by decide), snd_r0 _ _ _ _ 3 (by decide), snd_r0 _ _ _ _ 4 (by decide)]
  rw [show 500 - (nC P.1 + 1) = 499 - nC P.1 by omega]
/-- a dispatch, its budget told -/
theorem V_dispatch {B K : Nat} {P : pP} {cp : Nat → Nat} (hw : wI B K P.1 P.2) {s a : Nat} {rank : Int32} (hs : s < nS P.1) (ha : a < nS P.1) (h500 : nC P.1 < 500) : ∃ cp', cV P (sndM P.1 s (nI a) rank, sndL P.1 P.2 s (nI a) rank) cp cp' (fun post MC MS A S => wp_X5_dispatch post MC MS (A 0 0) (A 1 s) (A 1 a) rank S) := by
  have h14 := hw.1.1.2
  have hlen := len_at hw (t := s) (by omega)
  have hpS := potA_snd (cp := cp) hw (s := s) h500 (nI a) rank
  have lv3 : lvC P.1 3 := Or.inl (by decide)
  have lvs : lvC P.1 (18 + s) := Or.inr (Or.inr (Or.inl ⟨by omega, by omega⟩))
  have q1 := potC_le (cp := cp) (i := 3) (c' := cp1 (nC P.1) (cp 3)) cp1_ge 62
  have e18 : up cp 3 (cp1 (nC P.1) (cp 3)) (18 + s) = cp (18 + s) := up_n (by omega)
  have q2 := potC_le (cp := up cp 3 (cp1 (nC P.1) (cp 3))) (i := 18 + s) (c' := cp1 (P.2 (1 + s)).length (cp (18 + s))) (by rw [e18]; exact cp1_ge) 62
  refine ⟨up (up cp 3 (cp1 (nC P.1) (cp 3))) (18 + s) (cp1 (P.2 (1 + s)).length (cp (18 + s))), ?_, fun z i hi hn => ?_, fun S A MC MS post h hC hS hp => ?_⟩
  · show potA (sndM P.1 s (nI a) rank) _ ≤ _
    rw [hpS]
    unfold potA
    omega
  · have hn' : ¬ lvC P.1 i := hn
    rw [up_n (j := i) (i := 18 + s) (fun q => hn' (by rw [q]; exact lvs)), up_n (j := i) (i := 3) (fun q => hn' (by rw [q]; exact lv3))]
    exact z i hi hn'
  · obtain ⟨ea, hL⟩ := h.2
    obtain ⟨c1, c2, -⟩ := LSr_cap hL lv3
    obtain ⟨d1, d2, -⟩ := LSr_cap hL lvs
    have b1 := cpB_pot (cp := cp) (i := 3) (n := nC P.1) (by decide) c1 (by omega) c2
    have b2 := cpB_pot (cp := up cp 3 (cp1 (nC P.1) (cp 3))) (i := 18 + s) (n := (P.2 (1 + s)).length) (by omega) (by rw [e18]; exact d1) (by omega) (by rw [e18]; exact d2)
    rw [e18] at b2
    have hC : _ ≤ MC + potA (sndM P.1 s (nI a) rank) _ := hC
    have hS : _ ≤ MS + potA (sndM P.1 s (nI a) rank) _ := hS
    rw [hpS] at hC hS
    unfold potA at hC hS
    exact C_dispatch h hw hs ha h500 (by omega) (by omega) hp
end CCLK
