/-! ===== the law builds: direct contracts ===== -/
def cYz (P P' : pP) (cp cp' : Nat → Nat) (r : Int32) (w : (Int32 → bS → Prop) → Nat → Nat → (Nat → Nat → Nat) → bS → Prop) : Prop := potA P'.1 cp' ≤ potA P.1 cp ∧ (cZ P.1 cp → cZ P'.1 cp') ∧ ∀ (S : bS) (A : Nat → Nat → Nat) (MC MS : Nat) (post : Int32 → bS → Prop), cR S A cp P → cZ P.1 cp → (∃ z, gK S z = 14 ∧ gN S z = 0) → potA P.1 cp ≤ MC + potA P'.1 cp' → potA P.1 cp ≤ MS + potA P'.1 cp' → (∀ S' A', cR S' A' cp' P' → A' 0 = A 0 → (∀ k, A' 6 k = A 6 k ∨ gK S (A' 6 k) = 0) → cF A S S' → post r S') → w post MC MS A S
section TELL2
variable {B K : Nat} {P : pP} {cp : Nat → Nat}
theorem D_addStation (hw : wI B K P.1 P.2) {room handling : Int32} (c1 : (1 : Int32) ≤ room ∧ room ≤ 9) (c2 : (0 : Int32) ≤ handling ∧ handling ≤ 20) (hf : nS P.1 < 14) : ∃ cp', cYz P (aStM P.1 room handling, P.2) cp cp' (P.1 0 2) (fun post MC MS A S => wp_X5_addStation post (fun _ _ => False) MC MS (A 0 0) room handling S) := by
  have h14 := hw.1.1.2
  have hn := aSt_S (M := P.1) hw.1 hf (room := room) (handling := handling)
  have hpl := potC_le (cp := cp) (i := 0) (c' := cp1 (nS P.1) (cp 0)) cp1_ge 62
  have hpA : ∀ c, potA (aStM P.1 room handling) c = potC c 62 + 9 * (500 - nC P.1) + 30 * (13 - nS P.1) + 14 * (30 - nT P.1) + 5 * (12 - nE P.1) := fun c => by
    show potC c 62 + 9 * (500 - nC P.1) + 30 * (14 - nS (aStM P.1 room handling)) + 14 * (30 - nT P.1) + 5 * (12 - nE P.1) = _
    rw [hn, show 14 - (nS P.1 + 1) = 13 - nS P.1 by omega]
  refine ⟨up cp 0 (cp1 (nS P.1) (cp 0)), ?_, fun z i hi hn' => ?_, fun S A MC MS post h hcz hzz hC hS hp => C_isOut ?_⟩
  · show potA (aStM P.1 room handling) _ ≤ _
    rw [hpA]
    unfold potA
    omega
  · have hn2 : ¬ lvC P.1 i := fun x => hn' (by
      show lvC (aStM P.1 room handling) i
      have e3 : nT (aStM P.1 room handling) = nT P.1 := rfl
      unfold lvC at x ⊢
      rw [hn, e3]
      omega)
    rw [up_n (j := i) (i := 0) (fun e => hn2 (by rw [e]; exact Or.inl (by decide)))]
    exact z i hi hn2
  · rw [if_pos c1]
    refine ⟨fun q => absurd rfl q, fun _ => C_isOut ?_⟩
    rw [if_pos c2]
    obtain ⟨e, hL⟩ := cl_at h (i := 0) (Or.inl (by decide))
    obtain ⟨ea, hLL⟩ := h.2
    obtain ⟨cap1, cap2, -⟩ := LSr_cap hLL (i := 0) (Or.inl (by decide))
    have hB := cpB_pot (cp := cp) (i := 0) (n := nS P.1) (by decide) cap1 (by omega) cap2
    refine ⟨fun _ => ⟨h.1.1.1, _, h.1.1.2.1, h.1.2.1.1, _, h.1.2.1.2.1, hL.1, C_size hL ?_⟩, fun q => absurd rfl q⟩
    rw [ls_0, List.length_map, List.length_range]
    have hC : potA P.1 cp ≤ MC + potA (aStM P.1 room handling) _ := hC
    have hS : potA P.1 cp ≤ MS + potA (aStM P.1 room handling) _ := hS
    rw [hpA] at hC hS
    unfold potA at hC hS
    refine ⟨fun _ => ⟨h.1.1.1, _, h.1.1.2.1, h.1.2.1.1, MC, MS, Nat.le_refl _, Nat.le_refl _, ?_⟩, fun q => absurd (nI_lt (b := 14) hf (by decide)) q⟩
    exact C_build (P := P) h hw hzz hcz hf (by omega) (by omega) (fun S' A' hR' a0 a6 hF' => hp S' A' hR' a0 a6 hF')
theorem D_addTube (hw : wI B K P.1 P.2) {i k l1 s1 : Nat} {bo : Int32} (hi : i < nS P.1) (hk : k < nS P.1) (hik : i ≠ k) (c1 : 1 ≤ l1 ∧ l1 ≤ 60) (c2 : 1 ≤ s1 ∧ s1 ≤ 6) (c3 : (1 : Int32) ≤ bo ∧ bo ≤ 8) (hf : nT P.1 < 30) (hm4 : mny P.1 i < 4) : ∃ cp', cYz P (aTuM P.1 i (nI i) (nI k) (nI l1) (nI s1) bo, P.2) cp cp' (P.1 0 3) (fun post MC MS A S => wp_X5_addTube post (fun _ _ => False) MC MS (A 0 0) (nI i) (nI k) (nI l1) (nI s1) bo S) := by
  have h14 := hw.1.1.2
  have e1 : ixO (nI i) (nS P.1) = some i := ixO_nI (by omega) hi
  have e2 : ixO (nI k) (nS P.1) = some k := ixO_nI (by omega) hk
  have hnT := aTu_T (M := P.1) hw.1 hf (a := i) (fr := nI i) (to := nI k) (len := nI l1) (sp := nI s1) (bo := bo)
  have hpl := potC_le (cp := cp) (i := 1) (c' := cp1 (nT P.1) (cp 1)) cp1_ge 62
  have e4i : up cp 1 (cp1 (nT P.1) (cp 1)) (4 + i) = cp (4 + i) := up_n (by omega)
  have hpl2 := potC_le (cp := up cp 1 (cp1 (nT P.1) (cp 1))) (i := 4 + i) (c' := cp1 (mny P.1 i) (cp (4 + i))) (by rw [e4i]; exact cp1_ge) 62
  have hpA : ∀ c, potA (aTuM P.1 i (nI i) (nI k) (nI l1) (nI s1) bo) c = potC c 62 + 9 * (500 - nC P.1) + 30 * (14 - nS P.1) + 14 * (29 - nT P.1) + 5 * (12 - nE P.1) := fun c => by
    show potC c 62 + 9 * (500 - nC P.1) + 30 * (14 - nS P.1) + 14 * (30 - nT (aTuM P.1 i (nI i) (nI k) (nI l1) (nI s1) bo)) + 5 * (12 - nE P.1) = _
    rw [hnT, show 30 - (nT P.1 + 1) = 29 - nT P.1 by omega]
  refine ⟨up (up cp 1 (cp1 (nT P.1) (cp 1))) (4 + i) (cp1 (mny P.1 i) (cp (4 + i))), ?_, fun z j hj hn' => ?_, fun S A MC MS post h hcz hzz hC hS hp => ⟨h.1.1.1, 0, 0, Nat.zero_le _, Nat.zero_le _, C_knownSt h hw (fun q => (by rw [e1] at q; cases q)) (fun i' hi' => ⟨_, rfl, h.1.1.1, 0, 0, Nat.zero_le _, Nat.zero_le _, C_knownSt h hw (fun q => (by rw [e2] at q; cases q)) (fun k' hk' => ⟨_, rfl, ?_⟩)⟩)⟩⟩
  · show potA (aTuM P.1 i (nI i) (nI k) (nI l1) (nI s1) bo) _ ≤ _
    rw [hpA]
    unfold potA
    omega
  · have hn2 : ¬ lvC P.1 j := fun x => hn' (by
      show lvC (aTuM P.1 i (nI i) (nI k) (nI l1) (nI s1) bo) j
      have e3 : nS (aTuM P.1 i (nI i) (nI k) (nI l1) (nI s1) bo) = nS P.1 := rfl
      unfold lvC at x ⊢
      rw [hnT, e3]
      omega)
    rw [up_n (j := j) (i := 4 + i) (fun e => hn2 (by rw [e]; exact Or.inr (Or.inl ⟨by omega, by omega⟩))), up_n (j := j) (i := 1) (fun e => hn2 (by rw [e]; exact Or.inl (by decide)))]
    exact z j hj hn2
  · rw [e1] at hi'
    rw [e2] at hk'
    cases hi'
    cases hk'
    refine ⟨fun q => absurd (h.1.2.2.2.2.2.2.2.1.1 _ _ hi hk (by injection q)) hik, fun _ => C_isOut ?_⟩
    rw [if_pos ⟨nI_le c1.1 (by omega), nI_le (b := 60) c1.2 (by omega)⟩]
    refine ⟨fun q => absurd rfl q, fun _ => C_isOut ?_⟩
    rw [if_pos c3]
    refine ⟨fun _ => ⟨0, 0, Nat.zero_le _, Nat.zero_le _, C_isOut ?_⟩, fun q => absurd rfl q⟩
    rw [if_pos ⟨nI_le c2.1 (by omega), nI_le (b := 6) c2.2 (by omega)⟩]
    obtain ⟨e, hL⟩ := cl_at h (i := 1) (Or.inl (by decide))
    obtain ⟨e4, hL4⟩ := cl_at h (i := 4 + i) (Or.inr (Or.inl ⟨by omega, by omega⟩))
    obtain ⟨eaa, hLL⟩ := h.2
    obtain ⟨cap1, cap2, -⟩ := LSr_cap hLL (i := 1) (Or.inl (by decide))
    obtain ⟨cap3, cap4, -⟩ := LSr_cap hLL (i := 4 + i) (Or.inr (Or.inl ⟨by omega, by omega⟩))
    have hB := cpB_pot (cp := cp) (i := 1) (n := nT P.1) (by decide) cap1 (by omega) cap2
    have hB2 := cpB_pot (cp := up cp 1 (cp1 (nT P.1) (cp 1))) (i := 4 + i) (n := mny P.1 i) (by omega) (by rw [e4i]; exact cap3) (by omega) (by rw [e4i]; exact cap4)
    rw [e4i] at hB2
    have hC : potA P.1 cp ≤ MC + potA (aTuM P.1 i (nI i) (nI k) (nI l1) (nI s1) bo) _ := hC
    have hS : potA P.1 cp ≤ MS + potA (aTuM P.1 i (nI i) (nI k) (nI l1) (nI s1) bo) _ := hS
    rw [hpA] at hC hS
    unfold potA at hC hS
    refine ⟨fun _ => ⟨h.1.1.1, _, h.1.1.2.1, h.1.2.1.1, _, h.1.2.1.2.2.1, hL.1, C_size hL ?_⟩, fun q => absurd rfl q⟩
    rw [ls_1, List.length_map, List.length_range]
    refine ⟨fun q => absurd q (nI_ge (b := 30) hf (by decide)), fun _ => ⟨(h.1.2.2.2.1 i hi).1, _, (h.1.2.2.2.1 i hi).2.2.2.2.1, hL4.1, C_size hL4 ?_⟩⟩
    rw [ls_w (by omega), List.length_map, List.length_range]
    refine ⟨fun _ => ⟨h.1.1.1, _, h.1.1.2.1, h.1.2.1.1, MC, MS, Nat.le_refl _, Nat.le_refl _, ?_⟩, fun q => absurd (nI_lt (b := 4) hm4 (by decide)) q⟩
    exact C_lay (P := P) h hw hzz hcz hf hi hk hm4 c1.1 c1.2 c2.1 c2.2 (by omega) (by omega) (fun S' A' hR' a0 a6 hF' => hp S' A' hR' a0 (fun k => Or.inl (congrFun a6 k)) hF')
end TELL2
