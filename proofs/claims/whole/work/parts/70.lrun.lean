section LRUN
set_option maxRecDepth 4000 in
theorem sRun_iX {B K : Nat} {P : pP} (h : wI B K P.1 P.2) (hX : iX P.1 P.2) : ∀ k, B + k < 2 ^ 31 → K + 1772 * k < 2 ^ 31 → iX (sRun P k).1 (sRun P k).2
  | 0, _, _ => hX
  | k + 1, hB, hK => by
    rw [Nat.mul_succ] at hK
    generalize hx : 1772 * k = x at *
    obtain ⟨h1, -⟩ := sRun_inv k (by omega) (by rw [hx]; omega) h
    exact (tick_iX (by omega) (by rw [hx]; omega) h1 (sRun_iX h hX k (by omega) (by rw [hx]; omega))).2.2.2
set_option maxRecDepth 4000 in
theorem C_runLoop {B K N : Nat} {P : pP} (hB : B + N + 21 < 2 ^ 31) (hN : N ≤ 500) (hK : K + 1772 * N < 2 ^ 31) (hw : wI B K P.1 P.2) (hX : iX P.1 P.2) : ∀ (n k : Nat) (cp : Nat → Nat), k + n = N → ∃ cp', potA (sRun P N).1 cp' ≤ potA (sRun P k).1 cp ∧ (cZ (sRun P k).1 cp → cZ (sRun P N).1 cp') ∧ ∀ (S : bS) (A : Nat → Nat → Nat) (mc ms : Nat) (post : Int32 → bS → Prop) (xp : String → bS → Prop) (v2 : Int32), cR S A cp (sRun P k) → potA (sRun P k).1 cp ≤ mc + potA (sRun P N).1 cp' → potA (sRun P k).1 cp ≤ ms + potA (sRun P N).1 cp' → (∀ S' A', cR S' A' cp' (sRun P N) → A' 0 = A 0 → A' 6 = A 6 → cF A S S' → post ((sRun P N).1 0 6 - v2) S') → wb_X5_run_28 post xp (n + 1) mc ms (A 0 0) (nI N) v2 (nI k) S := by
  intro n
  induction n with
  | zero =>
    intro k cp hk
    have hk' : k = N := by omega
    subst hk'
    refine ⟨cp, Nat.le_refl _, fun z => z, fun S A mc ms post xp v2 h hC hS hp => ?_⟩
    unfold wb_X5_run_28
    refine ⟨fun _ => ⟨h.1.1.1, ?_⟩, fun q => absurd (nI_le (Nat.le_refl _) (by omega)) q⟩
    rw [h.1.1.2.2.2.2.2.1]
    exact hp S A h rfl rfl (cF_rf A S)
  | succ n ih =>
    intro k cp hk
    have hm : 1772 * (k + 1) ≤ 1772 * N := Nat.mul_le_mul_left _ (by omega)
    rw [Nat.mul_succ] at hm
    obtain ⟨h1, -⟩ := sRun_inv k (by omega) (by omega) hw
    have x1 := sRun_iX hw hX k (by omega) (by omega)
    generalize hx : 1772 * k = x at *
    generalize hy : 1772 * N = y at *
    obtain ⟨cp1, a1, a2, a3⟩ := C_tick (cp := cp) (B := B + k) (K := K + x) (by omega) (by omega) h1 x1
    obtain ⟨cp', o1, o2, o3⟩ := ih (k + 1) cp1 (by omega)
    have e : sRun P (k + 1) = sTick (sRun P k) := rfl
    rw [e] at o1 o2 o3
    refine ⟨cp', Nat.le_trans o1 a1, fun z => o2 (a2 z), fun S A mc ms post xp v2 h hC hS hp => ?_⟩
    unfold wb_X5_run_28
    refine ⟨fun q => absurd q (nI_ge (by omega) (by omega)), fun _ => ⟨h.1.1.1, a3 S A mc ms (fun mc' ms' S17 => wb_X5_run_28 post xp (n + 1) mc' ms' (A 0 0) (nI N) v2 (nI k + 1) S17) h (by omega) (by omega) (fun S' A' mc' ms' hC' hS' hR' p0 p6 hF' => ?_)⟩⟩
    show wb_X5_run_28 post xp (n + 1) mc' ms' (A 0 0) (nI N) v2 (nI k + 1) S'
    rw [nI_1, ← p0]
    exact o3 S' A' mc' ms' post xp v2 hR' (by omega) (by omega) (fun S'' A'' hR'' q0 q6 hF'' => hp S'' A'' hR'' (q0.trans p0) (q6.trans p6) (cF_tr hF' (cF_A p0 p6 hF'')))
variable {B K : Nat} {P : pP} {cp : Nat → Nat}
theorem L_run (hB : B + 521 < 2 ^ 31) (hK : K + 886000 < 2 ^ 31) (hw : wI B K P.1 P.2) (hX : iX P.1 P.2) (n : Int32) : ∃ cp', cQ P cp cp' (qRun P n) (fun post MC MS out A S => wp_L_run post MC MS (A 0 0) n out S) := by
  unfold qRun
  by_cases hc : (1 : Int32) ≤ n ∧ n ≤ 500
  · rw [if_pos hc]
    obtain ⟨k, k1, k5, ek⟩ := rng_iff (a := 1) (b := 500) (by decide) (by decide) hc
    have hu : u n = k := by rw [ek]; exact u_nI (by omega)
    rw [hu]
    have hm : 1772 * k ≤ 1772 * 500 := Nat.mul_le_mul_left _ k5
    obtain ⟨-, f0⟩ := sRun_inv (P := T0 P) k (by omega) (by omega) (wI_T0 hw)
    obtain ⟨cp', m1, m2, m3⟩ := C_runLoop (N := k) (by omega) k5 (by omega) (wI_T0 hw) hX k 0 cp (by omega)
    refine ⟨cp', cQ_ok ((f0 0 (by decide) (by decide)).trans (T0_0 (P := P))) m1 m2 (fun S A MC MS out post h ho hn hC hS hp => ⟨h.1.1.1, MC, MS, Nat.le_refl _, Nat.le_refl _, C_isOut ?_⟩)⟩
    rw [if_pos hc]
    refine ⟨fun _ => ⟨h.1.1.1, k + 1, ?_⟩, fun q => absurd rfl q⟩
    have hC : potA P.1 cp + 6 ≤ MC + potA (sRun (T0 P) k).1 cp' := hC
    have hS : potA P.1 cp + 6 ≤ MS + potA (sRun (T0 P) k).1 cp' := hS
    have e0 : potA (sRun (T0 P) 0).1 cp = potA P.1 cp := rfl
    rw [ek, h.1.1.2.2.2.2.2.1]
    exact m3 S A MC MS _ _ (P.1 0 6) (cR_T0 h) (by omega) (by omega) hp
  · rw [if_neg hc]
    refine ⟨cp, cQ_fl (by decide) (fun S A MC MS out post h h1 h6 hp => ⟨h.1.1.1, MC, MS, Nat.le_refl _, Nat.le_refl _, C_isOut ?_⟩)⟩
    rw [if_neg hc]
    exact ⟨fun q => absurd (show (1 : Int32) = 0 from q) (by decide), fun _ => ⟨h1, h6, fun _ => hp S h (cF_rf A S), fun q => absurd rfl q⟩⟩
end LRUN
