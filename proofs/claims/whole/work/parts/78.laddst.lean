/-- a wrapper's call that may lay lists -/
def cQz (P : pP) (cp cp' : Nat → Nat) (q : Int32 × pP) (w : (Int32 → bS → Prop) → Nat → Nat → Nat → (Nat → Nat → Nat) → bS → Prop) : Prop := potA q.2.1 cp' ≤ potA P.1 cp ∧ (cZ P.1 cp → cZ q.2.1 cp') ∧ ∀ (S : bS) (A : Nat → Nat → Nat) (MC MS out : Nat) (post : Int32 → bS → Prop), cR S A cp P → cZ P.1 cp → (∃ z, gK S z = 14 ∧ gN S z = 0) → gK S out = 13 → gN S out = 1 → potA P.1 cp + 6 ≤ MC + potA q.2.1 cp' → potA P.1 cp + 6 ≤ MS + potA q.2.1 cp' → (∀ S' A', cR S' A' cp' q.2 → A' 0 = A 0 → (∀ k, A' 6 k = A 6 k ∨ gK S (A' 6 k) = 0) → cF A S S' → post (q.2.1 0 0) (if q.2.1 0 0 = 0 then sL S' out 0 (Int32.toInt64 q.1) else S')) → w post MC MS out A S
theorem cQ_z {P : pP} {q : Int32 × pP} {w : (Int32 → bS → Prop) → Nat → Nat → Nat → (Nat → Nat → Nat) → bS → Prop} {cp : Nat → Nat} (h : ∃ cp', cQ P cp cp' q w) : ∃ cp', cQz P cp cp' q w := by
  obtain ⟨cp', h1, h2, h3⟩ := h
  exact ⟨cp', h1, h2, fun S A MC MS out post hR _ _ ho hn hC hS hp => h3 S A MC MS out post hR ho hn hC hS (fun S' A' hR' a0 a6 hF' => hp S' A' hR' a0 (fun k => Or.inl (congrFun a6 k)) hF')⟩
theorem cQ_z1 {P : pP} {q : Int32 × pP} {w : (Int32 → bS → Prop) → Nat → Nat → Nat → (Nat → Nat → Nat) → bS → Prop} {cp cp' : Nat → Nat} (h : cQ P cp cp' q w) : cQz P cp cp' q w := ⟨h.1, h.2.1, fun S A MC MS out post hR _ _ ho hn hC hS hp => h.2.2 S A MC MS out post hR ho hn hC hS (fun S' A' hR' a0 a6 hF' => hp S' A' hR' a0 (fun k => Or.inl (congrFun a6 k)) hF')⟩
theorem cQz_ok {P : pP} {cp cp' : Nat → Nat} {q : Int32 × pP} {w : (Int32 → bS → Prop) → Nat → Nat → Nat → (Nat → Nat → Nat) → bS → Prop} (h0 : q.2.1 0 0 = 0) (hA : potA q.2.1 cp' ≤ potA P.1 cp) (hZ : cZ P.1 cp → cZ q.2.1 cp') (h : ∀ (S : bS) (A : Nat → Nat → Nat) (MC MS out : Nat) (post : Int32 → bS → Prop), cR S A cp P → cZ P.1 cp → (∃ z, gK S z = 14 ∧ gN S z = 0) → gK S out = 13 → gN S out = 1 → potA P.1 cp + 6 ≤ MC + potA q.2.1 cp' → potA P.1 cp + 6 ≤ MS + potA q.2.1 cp' → (∀ S' A', cR S' A' cp' q.2 → A' 0 = A 0 → (∀ k, A' 6 k = A 6 k ∨ gK S (A' 6 k) = 0) → cF A S S' → gK S' out = 13 ∧ (vp_in (0 : Int32) (gN S' out) ∧ (post (0 : Int32) (sL S' out (Int32.toNatClampNeg (0 : Int32)) (Int32.toInt64 q.1))))) → w post MC MS out A S) : cQz P cp cp' q w := by
  refine ⟨hA, hZ, fun S A MC MS out post hR hz hzz ho hn hC hS hp => h S A MC MS out post hR hz hzz ho hn hC hS (fun S' A' hR' a0 a6 hF' => ?_)⟩
  obtain ⟨e1, e2⟩ := hF'.1 out (by rw [ho]; decide)
  have := hp S' A' hR' a0 a6 hF'
  rw [h0, if_pos rfl] at this
  refine ⟨by rw [e1]; exact ho, ?_, this⟩
  rw [e2, hn]
  exact vp_in_nI (n := 0) (by decide) (by decide)
section LADDST
variable {B K : Nat} {P : pP} {cp : Nat → Nat}
theorem L_addStation (hw : wI B K P.1 P.2) (room handling : Int32) : ∃ cp', cQz P cp cp' (qAddStation P room handling) (fun post MC MS out A S => wp_L_addStation post MC MS (A 0 0) room handling out S) := by
  unfold qAddStation
  have h14 := hw.1.1.2
  by_cases c1 : (1 : Int32) ≤ room ∧ room ≤ 9
  · rw [if_pos c1]
    by_cases c2 : (0 : Int32) ≤ handling ∧ handling ≤ 20
    · rw [if_pos c2]
      by_cases c3 : P.1 0 2 = 14
      · rw [if_pos c3]
        refine ⟨cp, cQ_z1 (cQ_fl (by decide) (fun S A MC MS out post h h1 h6 hp => ⟨h.1.1.1, MC, MS, Nat.le_refl _, Nat.le_refl _, C_isOut ?_⟩))⟩
        rw [if_pos c1]
        refine ⟨fun q => absurd rfl q, fun _ => C_isOut ?_⟩
        rw [if_pos c2]
        obtain ⟨e, hL⟩ := cl_at h (i := 0) (Or.inl (by decide))
        refine ⟨fun _ => ⟨h.1.1.1, _, h.1.1.2.1, h.1.2.1.1, _, h.1.2.1.2.1, hL.1, C_size hL ?_⟩, fun q => absurd rfl q⟩
        rw [ls_0, List.length_map, List.length_range, ← hw.1.1.1, c3]
        exact ⟨fun q => absurd q (by decide), fun _ => ⟨h1, h6, fun q => absurd q.symm ia_is, fun _ => hp S h (cF_rf A S), fun _ q => absurd rfl q⟩⟩
      · rw [if_neg c3]
        have hf : nS P.1 < 14 := ne_full hw.1.1.1 h14 c3
        have hn := aSt_S (M := (T0 P).1) (wI_T0 hw).1 hf (room := room) (handling := handling)
        have hpl := potC_le (cp := cp) (i := 0) (c' := cp1 (nS P.1) (cp 0)) cp1_ge 62
        have hpA : ∀ c, potA (aStM (T0 P).1 room handling) c = potC c 62 + 9 * (500 - nC P.1) + 30 * (13 - nS P.1) + 14 * (30 - nT P.1) + 5 * (12 - nE P.1) := fun c => by
          show potC c 62 + 9 * (500 - nC P.1) + 30 * (14 - nS (aStM (T0 P).1 room handling)) + 14 * (30 - nT P.1) + 5 * (12 - nE P.1) = _
          rw [hn, show nS (T0 P).1 = nS P.1 from rfl, show 14 - (nS P.1 + 1) = 13 - nS P.1 by omega]
        refine ⟨up cp 0 (cp1 (nS P.1) (cp 0)), cQz_ok (T0_0 (P := P)) ?_ (fun z i hi hn' => ?_) (fun S A MC MS out post h hcz hzz ho hno hC hS hp => ⟨h.1.1.1, MC, MS, Nat.le_refl _, Nat.le_refl _, C_isOut ?_⟩)⟩
        · show potA (aStM (T0 P).1 room handling) _ ≤ _
          rw [hpA]
          unfold potA
          omega
        · have hn2 : ¬ lvC P.1 i := fun x => hn' (by
            show lvC (aStM (T0 P).1 room handling) i
            have e3 : nT (aStM (T0 P).1 room handling) = nT P.1 := rfl
            have hn : nS (aStM (T0 P).1 room handling) = nS P.1 + 1 := hn
            unfold lvC at x ⊢
            rw [hn, e3]
            omega)
          rw [up_n (j := i) (i := 0) (fun e => hn2 (by rw [e]; exact Or.inl (by decide)))]
          exact z i hi hn2
        · rw [if_pos c1]
          refine ⟨fun q => absurd rfl q, fun _ => C_isOut ?_⟩
          rw [if_pos c2]
          obtain ⟨e, hL⟩ := cl_at h (i := 0) (Or.inl (by decide))
          obtain ⟨ea, hLL⟩ := h.2
          obtain ⟨cap1, cap2, -⟩ := LSr_cap hLL (i := 0) (Or.inl (by decide))
          have hB := cpB_pot (cp := cp) (i := 0) (n := nS P.1) (by decide) cap1 (by omega) cap2
          refine ⟨fun _ => ⟨h.1.1.1, _, h.1.1.2.1, h.1.2.1.1, _, h.1.2.1.2.1, hL.1, C_size hL ?_⟩, fun q => absurd rfl q⟩
          rw [ls_0, List.length_map, List.length_range]
          have hC : potA P.1 cp + 6 ≤ MC + potA (aStM (T0 P).1 room handling) _ := hC
          have hS : potA P.1 cp + 6 ≤ MS + potA (aStM (T0 P).1 room handling) _ := hS
          rw [hpA] at hC hS
          unfold potA at hC hS
          refine ⟨fun _ => ⟨h.1.1.1, _, h.1.1.2.1, h.1.2.1.1, MC, MS, Nat.le_refl _, Nat.le_refl _, ?_⟩, fun q => absurd (nI_lt (b := 14) hf (by decide)) q⟩
          exact C_build (P := T0 P) (cR_T0 h) (wI_T0 hw) hzz hcz hf (by show 30 + cpB (nS P.1) (cp 0) ≤ MC; omega) (by show 30 + cpB (nS P.1) (cp 0) ≤ MS; omega) (fun S' A' hR' a0 a6 hF' => hp S' A' hR' a0 a6 hF')
    · rw [if_neg c2]
      refine ⟨cp, cQ_z1 (cQ_fl (by decide) (fun S A MC MS out post h h1 h6 hp => ⟨h.1.1.1, MC, MS, Nat.le_refl _, Nat.le_refl _, C_isOut ?_⟩))⟩
      rw [if_pos c1]
      refine ⟨fun q => absurd rfl q, fun _ => C_isOut ?_⟩
      rw [if_neg c2]
      exact ⟨fun q => absurd (show (1 : Int32) = 0 from q) (by decide), fun _ => ⟨h1, h6, fun _ => hp S h (cF_rf A S), fun q => absurd q ia_is, fun q => absurd rfl q⟩⟩
  · rw [if_neg c1]
    refine ⟨cp, cQ_z1 (cQ_fl (by decide) (fun S A MC MS out post h h1 h6 hp => ⟨h.1.1.1, MC, MS, Nat.le_refl _, Nat.le_refl _, C_isOut ?_⟩))⟩
    rw [if_neg c1]
    exact ⟨fun _ => ⟨h1, h6, fun _ => hp S h (cF_rf A S), fun q => absurd q ia_is, fun q => absurd rfl q⟩, fun q => absurd (show (1 : Int32) = 0 from q) (by decide)⟩
end LADDST
