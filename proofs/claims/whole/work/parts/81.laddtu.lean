section LADDTU
variable {B K : Nat} {P : pP} {cp : Nat → Nat}
theorem L_addTube (hw : wI B K P.1 P.2) (fr to len sp bo : Int32) : ∃ cp', cQz P cp cp' (qAddTube P fr to len sp bo) (fun post MC MS out A S => wp_L_addTube post MC MS (A 0 0) fr to len sp bo out S) := by
  unfold qAddTube
  have h14 := hw.1.1.2
  have h30 := hw.1.2.1.2
  cases hx : ixO fr (nS P.1) with
  | none => exact ⟨cp, cQ_z1 (cQ_fl (by decide) (fun S A MC MS out post h h1 h6 hp => ⟨h.1.1.1, MC, MS, Nat.le_refl _, Nat.le_refl _, h.1.1.1, MC, MS, Nat.le_refl _, Nat.le_refl _, C_knownSt h hw (fun _ => ⟨h1, h6, fun _ => hp S h (cF_rf A S), fun q => absurd q io_ia, fun q => absurd q io_is, fun q => absurd rfl q⟩) (fun s hs => (by rw [hx] at hs; cases hs))⟩))⟩
  | some i =>
    obtain ⟨ea, hi⟩ := ixO_some (by omega) hx
    cases hy : ixO to (nS P.1) with
    | none => exact ⟨cp, cQ_z1 (cQ_fl (by decide) (fun S A MC MS out post h h1 h6 hp => ⟨h.1.1.1, MC, MS, Nat.le_refl _, Nat.le_refl _, h.1.1.1, 0, 0, Nat.zero_le _, Nat.zero_le _, C_knownSt h hw (fun q => (by rw [hx] at q; cases q)) (fun s hs => ⟨_, rfl, h.1.1.1, MC, MS, Nat.le_refl _, Nat.le_refl _, C_knownSt h hw (fun _ => ⟨h1, h6, fun _ => hp S h (cF_rf A S), fun q => absurd q io_ia, fun q => absurd q io_is, fun q => absurd rfl q⟩) (fun s hs => (by rw [hy] at hs; cases hs))⟩)⟩))⟩
    | some k =>
      obtain ⟨eb, hk⟩ := ixO_some (by omega) hy
      show ∃ cp', cQz P cp cp' (if fr = to then fl P 2 else if (1 : Int32) ≤ len ∧ len ≤ 60 then (if (1 : Int32) ≤ sp ∧ sp ≤ 6 then (if (1 : Int32) ≤ bo ∧ bo ≤ 8 then (if P.1 0 3 = 30 then fl P 3 else if P.1 1 (9 * i + 2) = 4 then fl P 3 else (P.1 0 3, (aTuM (T0 P).1 i fr to len sp bo, P.2))) else fl P 2) else fl P 2) else fl P 2) _
      have same : fr = to ↔ i = k := by
        rw [ea, eb]
        exact nI_eq (by omega) (by omega)
      have hne : ∀ {S : bS} {A : Nat → Nat → Nat}, cR S A cp P → some (A 1 i) = some (A 1 k) → i = k := fun h x => h.1.2.2.2.2.2.2.2.1.1 _ _ hi hk (by injection x)
      by_cases hsm : i = k
      · rw [if_pos (same.mpr hsm)]
        refine ⟨cp, cQ_z1 (cQ_fl (by decide) (fun S A MC MS out post h h1 h6 hp => ⟨h.1.1.1, MC, MS, Nat.le_refl _, Nat.le_refl _, h.1.1.1, 0, 0, Nat.zero_le _, Nat.zero_le _, C_knownSt h hw (fun q => (by rw [hx] at q; cases q)) (fun i' hi' => ⟨_, rfl, h.1.1.1, 0, 0, Nat.zero_le _, Nat.zero_le _, C_knownSt h hw (fun q => (by rw [hy] at q; cases q)) (fun k' hk' => ⟨_, rfl, ?_⟩)⟩)⟩))⟩
        · rw [hx] at hi'; rw [hy] at hk'; cases hi'; cases hk'
          exact ⟨fun _ => ⟨h1, h6, fun q => absurd q.symm io_ia, fun _ => hp S h (cF_rf A S), fun q => absurd q ia_is, fun _ q => absurd rfl q⟩, fun q => absurd (by rw [hsm]) q⟩
      · rw [if_neg (fun q => hsm (same.mp q))]
        by_cases c1 : (1 : Int32) ≤ len ∧ len ≤ 60
        · rw [if_pos c1]
          by_cases c2 : (1 : Int32) ≤ sp ∧ sp ≤ 6
          · rw [if_pos c2]
            by_cases c3 : (1 : Int32) ≤ bo ∧ bo ≤ 8
            · rw [if_pos c3]
              have hm := (hw.2.2.1 i hi).2.2.1
              by_cases c4 : P.1 0 3 = 30
              · rw [if_pos c4]
                refine ⟨cp, cQ_z1 (cQ_fl (by decide) (fun S A MC MS out post h h1 h6 hp => ⟨h.1.1.1, MC, MS, Nat.le_refl _, Nat.le_refl _, h.1.1.1, 0, 0, Nat.zero_le _, Nat.zero_le _, C_knownSt h hw (fun q => (by rw [hx] at q; cases q)) (fun i' hi' => ⟨_, rfl, h.1.1.1, 0, 0, Nat.zero_le _, Nat.zero_le _, C_knownSt h hw (fun q => (by rw [hy] at q; cases q)) (fun k' hk' => ⟨_, rfl, ?_⟩)⟩)⟩))⟩
                rw [hx] at hi'; rw [hy] at hk'; cases hi'; cases hk'
                refine ⟨fun q => absurd (hne h q) hsm, fun _ => C_isOut ?_⟩
                rw [if_pos c1]
                refine ⟨fun q => absurd rfl q, fun _ => C_isOut ?_⟩
                rw [if_pos c3]
                refine ⟨fun _ => ⟨0, 0, Nat.zero_le _, Nat.zero_le _, C_isOut ?_⟩, fun q => absurd rfl q⟩
                rw [if_pos c2]
                obtain ⟨e, hL⟩ := cl_at h (i := 1) (Or.inl (by decide))
                refine ⟨fun _ => ⟨h.1.1.1, _, h.1.1.2.1, h.1.2.1.1, _, h.1.2.1.2.2.1, hL.1, C_size hL ?_⟩, fun q => absurd rfl q⟩
                rw [ls_1, List.length_map, List.length_range, ← hw.1.2.1.1, c4]
                exact ⟨fun _ => ⟨h1, h6, fun q => absurd q.symm io_is, fun q => absurd q.symm ia_is, fun _ => hp S h (cF_rf A S), fun _ _ q => absurd rfl q⟩, fun q => absurd (by decide) q⟩
              · rw [if_neg c4]
                have hf : nT P.1 < 30 := ne_full hw.1.2.1.1 h30 c4
                by_cases c5 : P.1 1 (9 * i + 2) = 4
                · rw [if_pos c5]
                  refine ⟨cp, cQ_z1 (cQ_fl (by decide) (fun S A MC MS out post h h1 h6 hp => ⟨h.1.1.1, MC, MS, Nat.le_refl _, Nat.le_refl _, h.1.1.1, 0, 0, Nat.zero_le _, Nat.zero_le _, C_knownSt h hw (fun q => (by rw [hx] at q; cases q)) (fun i' hi' => ⟨_, rfl, h.1.1.1, 0, 0, Nat.zero_le _, Nat.zero_le _, C_knownSt h hw (fun q => (by rw [hy] at q; cases q)) (fun k' hk' => ⟨_, rfl, ?_⟩)⟩)⟩))⟩
                  rw [hx] at hi'; rw [hy] at hk'; cases hi'; cases hk'
                  refine ⟨fun q => absurd (hne h q) hsm, fun _ => C_isOut ?_⟩
                  rw [if_pos c1]
                  refine ⟨fun q => absurd rfl q, fun _ => C_isOut ?_⟩
                  rw [if_pos c3]
                  refine ⟨fun _ => ⟨0, 0, Nat.zero_le _, Nat.zero_le _, C_isOut ?_⟩, fun q => absurd rfl q⟩
                  rw [if_pos c2]
                  obtain ⟨e, hL⟩ := cl_at h (i := 1) (Or.inl (by decide))
                  obtain ⟨e4, hL4⟩ := cl_at h (i := 4 + i) (Or.inr (Or.inl ⟨by omega, by omega⟩))
                  refine ⟨fun _ => ⟨h.1.1.1, _, h.1.1.2.1, h.1.2.1.1, _, h.1.2.1.2.2.1, hL.1, C_size hL ?_⟩, fun q => absurd rfl q⟩
                  rw [ls_1, List.length_map, List.length_range]
                  refine ⟨fun q => absurd q (nI_ge (b := 30) hf (by decide)), fun _ => ⟨(h.1.2.2.2.1 i hi).1, _, (h.1.2.2.2.1 i hi).2.2.2.2.1, hL4.1, C_size hL4 ?_⟩⟩
                  rw [ls_w (by omega), List.length_map, List.length_range, ← hm.1, c5]
                  exact ⟨fun q => absurd q (by decide), fun _ => ⟨h1, h6, fun q => absurd q.symm io_is, fun q => absurd q.symm ia_is, fun _ => hp S h (cF_rf A S), fun _ _ q => absurd rfl q⟩⟩
                · rw [if_neg c5]
                  have hm4 : mny P.1 i < 4 := ne_full hm.1 hm.2 c5
                  obtain ⟨ln, l1, l60, el⟩ := rng_iff (a := 1) (b := 60) (by decide) (by decide) c1
                  obtain ⟨s6, s1, s66, es⟩ := rng_iff (a := 1) (b := 6) (by decide) (by decide) c2
                  have hnT := aTu_T (M := (T0 P).1) (wI_T0 hw).1 hf (a := i) (fr := fr) (to := to) (len := len) (sp := sp) (bo := bo)
                  have hpl := potC_le (cp := cp) (i := 1) (c' := cp1 (nT P.1) (cp 1)) cp1_ge 62
                  have e4i : up cp 1 (cp1 (nT P.1) (cp 1)) (4 + i) = cp (4 + i) := up_n (by omega)
                  have hpl2 := potC_le (cp := up cp 1 (cp1 (nT P.1) (cp 1))) (i := 4 + i) (c' := cp1 (mny P.1 i) (cp (4 + i))) (by rw [e4i]; exact cp1_ge) 62
                  have hpA : ∀ c, potA (aTuM (T0 P).1 i fr to len sp bo) c = potC c 62 + 9 * (500 - nC P.1) + 30 * (14 - nS P.1) + 14 * (29 - nT P.1) + 5 * (12 - nE P.1) := fun c => by
                    show potC c 62 + 9 * (500 - nC P.1) + 30 * (14 - nS P.1) + 14 * (30 - nT (aTuM (T0 P).1 i fr to len sp bo)) + 5 * (12 - nE P.1) = _
                    rw [hnT, show nT (T0 P).1 = nT P.1 from rfl, show 30 - (nT P.1 + 1) = 29 - nT P.1 by omega]
                  refine ⟨up (up cp 1 (cp1 (nT P.1) (cp 1))) (4 + i) (cp1 (mny P.1 i) (cp (4 + i))), cQz_ok (T0_0 (P := P)) ?_ (fun z j hj hn' => ?_) (fun S A MC MS out post h hcz hzz ho hno hC hS hp => ⟨h.1.1.1, MC, MS, Nat.le_refl _, Nat.le_refl _, h.1.1.1, 0, 0, Nat.zero_le _, Nat.zero_le _, C_knownSt h hw (fun q => (by rw [hx] at q; cases q)) (fun i' hi' => ⟨_, rfl, h.1.1.1, 0, 0, Nat.zero_le _, Nat.zero_le _, C_knownSt h hw (fun q => (by rw [hy] at q; cases q)) (fun k' hk' => ⟨_, rfl, ?_⟩)⟩)⟩)⟩
                  · show potA (aTuM (T0 P).1 i fr to len sp bo) _ ≤ _
                    rw [hpA]
                    unfold potA
                    omega
                  · have hn2 : ¬ lvC P.1 j := fun x => hn' (by
                      show lvC (aTuM (T0 P).1 i fr to len sp bo) j
                      have e3 : nS (aTuM (T0 P).1 i fr to len sp bo) = nS P.1 := rfl
                      have hnT : nT (aTuM (T0 P).1 i fr to len sp bo) = nT P.1 + 1 := hnT
                      unfold lvC at x ⊢
                      rw [hnT, e3]
                      omega)
                    rw [up_n (j := j) (i := 4 + i) (fun e => hn2 (by rw [e]; exact Or.inr (Or.inl ⟨by omega, by omega⟩))), up_n (j := j) (i := 1) (fun e => hn2 (by rw [e]; exact Or.inl (by decide)))]
                    exact z j hj hn2
                  · rw [hx] at hi'; rw [hy] at hk'; cases hi'; cases hk'
                    refine ⟨fun q => absurd (hne h q) hsm, fun _ => C_isOut ?_⟩
                    rw [if_pos c1]
                    refine ⟨fun q => absurd rfl q, fun _ => C_isOut ?_⟩
                    rw [if_pos c3]
                    refine ⟨fun _ => ⟨0, 0, Nat.zero_le _, Nat.zero_le _, C_isOut ?_⟩, fun q => absurd rfl q⟩
                    rw [if_pos c2]
                    obtain ⟨e, hL⟩ := cl_at h (i := 1) (Or.inl (by decide))
                    obtain ⟨e4, hL4⟩ := cl_at h (i := 4 + i) (Or.inr (Or.inl ⟨by omega, by omega⟩))
                    obtain ⟨eaa, hLL⟩ := h.2
                    obtain ⟨cap1, cap2, -⟩ := LSr_cap hLL (i := 1) (Or.inl (by decide))
                    obtain ⟨cap3, cap4, -⟩ := LSr_cap hLL (i := 4 + i) (Or.inr (Or.inl ⟨by omega, by omega⟩))
                    have hB := cpB_pot (cp := cp) (i := 1) (n := nT P.1) (by decide) cap1 (by omega) cap2
                    have hB2 := cpB_pot (cp := up cp 1 (cp1 (nT P.1) (cp 1))) (i := 4 + i) (n := mny P.1 i) (by omega) (by rw [e4i]; exact cap3) (by omega) (by rw [e4i]; exact cap4)
                    rw [e4i] at hB2
                    have hC : potA P.1 cp + 6 ≤ MC + potA (aTuM (T0 P).1 i fr to len sp bo) _ := hC
                    have hS : potA P.1 cp + 6 ≤ MS + potA (aTuM (T0 P).1 i fr to len sp bo) _ := hS
                    rw [hpA] at hC hS
                    unfold potA at hC hS
                    refine ⟨fun _ => ⟨h.1.1.1, _, h.1.1.2.1, h.1.2.1.1, _, h.1.2.1.2.2.1, hL.1, C_size hL ?_⟩, fun q => absurd rfl q⟩
                    rw [ls_1, List.length_map, List.length_range]
                    refine ⟨fun q => absurd q (nI_ge (b := 30) hf (by decide)), fun _ => ⟨(h.1.2.2.2.1 i hi).1, _, (h.1.2.2.2.1 i hi).2.2.2.2.1, hL4.1, C_size hL4 ?_⟩⟩
                    rw [ls_w (by omega), List.length_map, List.length_range]
                    refine ⟨fun _ => ⟨h.1.1.1, _, h.1.1.2.1, h.1.2.1.1, MC, MS, Nat.le_refl _, Nat.le_refl _, ?_⟩, fun q => absurd (nI_lt (b := 4) hm4 (by decide)) q⟩
                    rw [ea, eb, el, es] at hp
                    rw [el, es]
                    exact C_lay (P := T0 P) (cR_T0 h) (wI_T0 hw) hzz hcz hf hi hk hm4 l1 l60 s1 s66 (by show 14 + cpB (nT P.1) (cp 1) + cpB (mny P.1 i) (cp (4 + i)) ≤ MC; omega) (by show 14 + cpB (nT P.1) (cp 1) + cpB (mny P.1 i) (cp (4 + i)) ≤ MS; omega) (fun S' A' hR' a0 a6 hF' => hp S' A' hR' a0 (fun k => Or.inl (congrFun a6 k)) hF')
            · rw [if_neg c3]
              refine ⟨cp, cQ_z1 (cQ_fl (by decide) (fun S A MC MS out post h h1 h6 hp => ⟨h.1.1.1, MC, MS, Nat.le_refl _, Nat.le_refl _, h.1.1.1, 0, 0, Nat.zero_le _, Nat.zero_le _, C_knownSt h hw (fun q => (by rw [hx] at q; cases q)) (fun i' hi' => ⟨_, rfl, h.1.1.1, 0, 0, Nat.zero_le _, Nat.zero_le _, C_knownSt h hw (fun q => (by rw [hy] at q; cases q)) (fun k' hk' => ⟨_, rfl, ?_⟩)⟩)⟩))⟩
              rw [hx] at hi'; rw [hy] at hk'; cases hi'; cases hk'
              refine ⟨fun q => absurd (hne h q) hsm, fun _ => C_isOut ?_⟩
              rw [if_pos c1]
              refine ⟨fun q => absurd rfl q, fun _ => C_isOut ?_⟩
              rw [if_neg c3]
              exact ⟨fun q => absurd (show (1 : Int32) = 0 from q) (by decide), fun _ => ⟨h1, h6, fun q => absurd q.symm io_ia, fun _ => hp S h (cF_rf A S), fun q => absurd q ia_is, fun _ q => absurd rfl q⟩⟩
          · rw [if_neg c2]
            refine ⟨cp, cQ_z1 (cQ_fl (by decide) (fun S A MC MS out post h h1 h6 hp => ⟨h.1.1.1, MC, MS, Nat.le_refl _, Nat.le_refl _, h.1.1.1, 0, 0, Nat.zero_le _, Nat.zero_le _, C_knownSt h hw (fun q => (by rw [hx] at q; cases q)) (fun i' hi' => ⟨_, rfl, h.1.1.1, 0, 0, Nat.zero_le _, Nat.zero_le _, C_knownSt h hw (fun q => (by rw [hy] at q; cases q)) (fun k' hk' => ⟨_, rfl, ?_⟩)⟩)⟩))⟩
            rw [hx] at hi'; rw [hy] at hk'; cases hi'; cases hk'
            refine ⟨fun q => absurd (hne h q) hsm, fun _ => C_isOut ?_⟩
            rw [if_pos c1]
            refine ⟨fun q => absurd rfl q, fun _ => C_isOut ?_⟩
            by_cases c3 : (1 : Int32) ≤ bo ∧ bo ≤ 8
            · rw [if_pos c3]
              refine ⟨fun _ => ⟨MC, MS, Nat.le_refl _, Nat.le_refl _, C_isOut ?_⟩, fun q => absurd rfl q⟩
              rw [if_neg c2]
              exact ⟨fun q => absurd (show (1 : Int32) = 0 from q) (by decide), fun _ => ⟨h1, h6, fun q => absurd q.symm io_ia, fun _ => hp S h (cF_rf A S), fun q => absurd q ia_is, fun _ q => absurd rfl q⟩⟩
            · rw [if_neg c3]
              exact ⟨fun q => absurd (show (1 : Int32) = 0 from q) (by decide), fun _ => ⟨h1, h6, fun q => absurd q.symm io_ia, fun _ => hp S h (cF_rf A S), fun q => absurd q ia_is, fun _ q => absurd rfl q⟩⟩
        · rw [if_neg c1]
          refine ⟨cp, cQ_z1 (cQ_fl (by decide) (fun S A MC MS out post h h1 h6 hp => ⟨h.1.1.1, MC, MS, Nat.le_refl _, Nat.le_refl _, h.1.1.1, 0, 0, Nat.zero_le _, Nat.zero_le _, C_knownSt h hw (fun q => (by rw [hx] at q; cases q)) (fun i' hi' => ⟨_, rfl, h.1.1.1, 0, 0, Nat.zero_le _, Nat.zero_le _, C_knownSt h hw (fun q => (by rw [hy] at q; cases q)) (fun k' hk' => ⟨_, rfl, ?_⟩)⟩)⟩))⟩
          rw [hx] at hi'; rw [hy] at hk'; cases hi'; cases hk'
          refine ⟨fun q => absurd (hne h q) hsm, fun _ => C_isOut ?_⟩
          rw [if_neg c1]
          exact ⟨fun _ => ⟨h1, h6, fun q => absurd q.symm io_ia, fun _ => hp S h (cF_rf A S), fun q => absurd q ia_is, fun _ q => absurd rfl q⟩, fun q => absurd (show (1 : Int32) = 0 from q) (by decide)⟩
end LADDTU
