/-! ===== the law's wrappers: calls that change ===== -/
theorem cQ_ok {P : pP} {cp cp' : Nat → Nat} {q : Int32 × pP} {w : (Int32 → bS → Prop) → Nat → Nat → Nat → (Nat → Nat → Nat) → bS → Prop} (h0 : q.2.1 0 0 = 0) (hA : potA q.2.1 cp' ≤ potA P.1 cp) (hZ : cZ P.1 cp → cZ q.2.1 cp') (h : ∀ (S : bS) (A : Nat → Nat → Nat) (MC MS out : Nat) (post : Int32 → bS → Prop), cR S A cp P → gK S out = 13 → gN S out = 1 → potA P.1 cp + 6 ≤ MC + potA q.2.1 cp' → potA P.1 cp + 6 ≤ MS + potA q.2.1 cp' → (∀ S' A', cR S' A' cp' q.2 → A' 0 = A 0 → A' 6 = A 6 → cF A S S' → gK S' out = 13 ∧ (vp_in (0 : Int32) (gN S' out) ∧ (post (0 : Int32) (sL S' out (Int32.toNatClampNeg (0 : Int32)) (Int32.toInt64 q.1))))) → w post MC MS out A S) : cQ P cp cp' q w := by
  refine ⟨hA, hZ, fun S A MC MS out post hR ho hn hC hS hp => h S A MC MS out post hR ho hn hC hS (fun S' A' hR' a0 a6 hF' => ?_)⟩
  obtain ⟨e1, e2⟩ := hF'.1 out (by rw [ho]; decide)
  have := hp S' A' hR' a0 a6 hF'
  rw [h0, if_pos rfl] at this
  refine ⟨by rw [e1]; exact ho, ?_, this⟩
  rw [e2, hn]
  exact vp_in_nI (n := 0) (by decide) (by decide)
theorem io_ia : ¬ "java/lang/IndexOutOfBoundsException" = "java/lang/IllegalArgumentException" := by decide
theorem io_is : ¬ "java/lang/IndexOutOfBoundsException" = "java/lang/IllegalStateException" := by decide
theorem ia_is : ¬ "java/lang/IllegalArgumentException" = "java/lang/IllegalStateException" := by decide
section LWRITE
variable {B K : Nat} {P : pP} {cp : Nat → Nat}
theorem L_turn (hw : wI B K P.1 P.2) (s w : Int32) : ∃ cp', cQ P cp cp' (qTurn P s w) (fun post MC MS out A S => wp_L_turn post MC MS (A 0 0) s w out S) := by
  refine ⟨cp, ?_⟩
  unfold qTurn
  have h14 := hw.1.1.2
  cases hx : ixO s (nS P.1) with
  | none => exact cQ_fl (by decide) (fun S A MC MS out post h h1 h6 hp => ⟨h.1.1.1, MC, MS, Nat.le_refl _, Nat.le_refl _, h.1.1.1, MC, MS, Nat.le_refl _, Nat.le_refl _, C_knownSt h hw (fun _ => ⟨h1, h6, fun _ => hp S h (cF_rf A S), fun q => absurd q io_ia, fun q => absurd rfl q⟩) (fun s hs => (by rw [hx] at hs; cases hs))⟩)
  | some i =>
    obtain ⟨-, hi⟩ := ixO_some (by omega) hx
    show cQ P cp cp (if (-1 : Int32) ≤ w ∧ w ≤ nI (mny P.1 i) - 1 then (P.1 1 (9 * i + 3), (mU (T0 P).1 1 (9 * i + 3) w, P.2)) else fl P 2) _
    by_cases hc : (-1 : Int32) ≤ w ∧ w ≤ nI (mny P.1 i) - 1
    · rw [if_pos hc]
      refine cQ_ok (T0_0 (P := P)) (Nat.le_refl _) (fun z => z) (fun S A MC MS out post h ho hn _ _ hp => ⟨h.1.1.1, 0, 0, Nat.zero_le _, Nat.zero_le _, h.1.1.1, 0, 0, Nat.zero_le _, Nat.zero_le _, C_knownSt h hw (fun q => (by rw [hx] at q; cases q)) (fun i' hi' => ⟨_, rfl, ?_, ?_⟩)⟩)
      · rw [hx] at hi'
        cases hi'
        exact (h.1.2.2.2.1 i hi).1
      · rw [hx] at hi'
        cases hi'
        refine C_hasSw h hw hi ?_
        rw [if_pos hc]
        refine ⟨fun _ => ⟨(h.1.2.2.2.1 i hi).1, ?_⟩, fun q => absurd q (by decide)⟩
        rw [(h.1.2.2.2.1 i hi).2.2.2.2.2.2.1]
        exact hp _ A (cR_sw (P := T0 P) (cR_T0 h) (wI_T0 hw) hi) rfl rfl (cF_5 _ _ _)
    · rw [if_neg hc]
      refine cQ_fl (by decide) (fun S A MC MS out post h h1 h6 hp => ⟨h.1.1.1, MC, MS, Nat.le_refl _, Nat.le_refl _, h.1.1.1, 0, 0, Nat.zero_le _, Nat.zero_le _, C_knownSt h hw (fun q => (by rw [hx] at q; cases q)) (fun i' hi' => ⟨_, rfl, ?_, ?_⟩)⟩)
      · rw [hx] at hi'
        cases hi'
        exact (h.1.2.2.2.1 i hi).1
      · rw [hx] at hi'
        cases hi'
        refine C_hasSw h hw hi ?_
        rw [if_neg hc]
        exact ⟨fun q => absurd rfl q, fun _ => ⟨h1, h6, fun q => absurd q.symm io_ia, fun _ => hp S h (cF_rf A S), fun _ q => absurd rfl q⟩⟩
theorem L_setTube (hw : wI B K P.1 P.2) (t sp : Int32) {op : Int32} (hop : op = 0 ∨ op = 1) : ∃ cp', cQ P cp cp' (qSet P t sp op) (fun post MC MS out A S => wp_L_setTube post MC MS (A 0 0) t sp op out S) := by
  refine ⟨cp, ?_⟩
  unfold qSet
  have h30 := hw.1.2.1.2
  have eop : (if op = 0 then (0 : Int32) else 1) = op := by
    rcases hop with q | q <;> rw [q] <;> decide
  rw [eop]
  cases hx : ixO t (nT P.1) with
  | none => exact cQ_fl (by decide) (fun S A MC MS out post h h1 h6 hp => ⟨h.1.1.1, MC, MS, Nat.le_refl _, Nat.le_refl _, h.1.1.1, MC, MS, Nat.le_refl _, Nat.le_refl _, C_knownTu h hw (fun _ => ⟨h1, h6, fun _ => hp S h (cF_rf A S), fun q => absurd q io_ia, fun q => absurd rfl q⟩) (fun s hs => (by rw [hx] at hs; cases hs))⟩)
  | some i =>
    obtain ⟨-, hi⟩ := ixO_some (by omega) hx
    show cQ P cp cp (if (1 : Int32) ≤ sp ∧ sp ≤ 6 then (P.1 2 (8 * i + 3), (mU (mU (T0 P).1 2 (8 * i + 3) sp) 2 (8 * i + 5) op, P.2)) else fl P 2) _
    by_cases hc : (1 : Int32) ≤ sp ∧ sp ≤ 6
    · rw [if_pos hc]
      obtain ⟨k, k1, k6, ek⟩ := rng_iff (a := 1) (b := 6) (by decide) (by decide) hc
      refine cQ_ok (T0_0 (P := P)) (Nat.le_refl _) (fun z => z) (fun S A MC MS out post h ho hn _ _ hp => ⟨h.1.1.1, 0, 0, Nat.zero_le _, Nat.zero_le _, h.1.1.1, 0, 0, Nat.zero_le _, Nat.zero_le _, C_knownTu h hw (fun q => (by rw [hx] at q; cases q)) (fun i' hi' => ⟨_, rfl, 0, 0, Nat.zero_le _, Nat.zero_le _, C_isOut ?_⟩)⟩)
      rw [hx] at hi'
      cases hi'
      rw [if_pos hc]
      refine ⟨fun _ => ⟨(h.1.2.2.2.2.1 i hi).1, h.1.1.1, _, h.1.1.2.1, h.1.2.1.1, ?_⟩, fun q => absurd rfl q⟩
      rw [(h.1.2.2.2.2.1 i hi).2.2.2.2.2.2.2.1]
      rw [ek] at hp ⊢
      exact C_set (P := T0 P) (cR_T0 h) (wI_T0 hw) hi k1 k6 hop (fun S' hR' hF' => hp S' A hR' rfl rfl hF')
    · rw [if_neg hc]
      refine cQ_fl (by decide) (fun S A MC MS out post h h1 h6 hp => ⟨h.1.1.1, MC, MS, Nat.le_refl _, Nat.le_refl _, h.1.1.1, 0, 0, Nat.zero_le _, Nat.zero_le _, C_knownTu h hw (fun q => (by rw [hx] at q; cases q)) (fun i' hi' => ⟨_, rfl, MC, MS, Nat.le_refl _, Nat.le_refl _, C_isOut ?_⟩)⟩)
      rw [if_neg hc]
      exact ⟨fun q => absurd (show (1 : Int32) = 0 from q) (by decide), fun _ => ⟨h1, h6, fun q => absurd q.symm io_ia, fun _ => hp S h (cF_rf A S), fun _ q => absurd rfl q⟩⟩
theorem L_send (hw : wI B K P.1 P.2) (a b rk : Int32) : ∃ cp', cQ P cp cp' (qSend P a b rk) (fun post MC MS out A S => wp_L_send post MC MS (A 0 0) a b rk out S) := by
  unfold qSend
  have h14 := hw.1.1.2
  cases hx : ixO a (nS P.1) with
  | none => exact ⟨cp, cQ_fl (by decide) (fun S A MC MS out post h h1 h6 hp => ⟨h.1.1.1, MC, MS, Nat.le_refl _, Nat.le_refl _, h.1.1.1, MC, MS, Nat.le_refl _, Nat.le_refl _, C_knownSt h hw (fun _ => ⟨h1, h6, fun _ => hp S h (cF_rf A S), fun q => absurd q io_ia, fun q => absurd q io_is, fun q => absurd rfl q⟩) (fun s hs => (by rw [hx] at hs; cases hs))⟩)⟩
  | some i =>
    obtain ⟨ea, hi⟩ := ixO_some (by omega) hx
    cases hy : ixO b (nS P.1) with
    | none => exact ⟨cp, cQ_fl (by decide) (fun S A MC MS out post h h1 h6 hp => ⟨h.1.1.1, MC, MS, Nat.le_refl _, Nat.le_refl _, h.1.1.1, 0, 0, Nat.zero_le _, Nat.zero_le _, C_knownSt h hw (fun q => (by rw [hx] at q; cases q)) (fun s hs => ⟨_, rfl, h.1.1.1, MC, MS, Nat.le_refl _, Nat.le_refl _, C_knownSt h hw (fun _ => ⟨h1, h6, fun _ => hp S h (cF_rf A S), fun q => absurd q io_ia, fun q => absurd q io_is, fun q => absurd rfl q⟩) (fun s hs => (by rw [hy] at hs; cases hs))⟩)⟩)⟩
    | some k =>
      obtain ⟨eb, hk⟩ := ixO_some (by omega) hy
      show ∃ cp', cQ P cp cp' (if a = b then fl P 2 else if (0 : Int32) ≤ rk ∧ rk ≤ 3 then (if canS P.1 (P.2 (1 + i)).length i then (P.1 0 5, (sndM (T0 P).1 i b rk, sndL (T0 P).1 P.2 i b rk)) else fl P 3) else fl P 2) _
      have same : a = b ↔ i = k := by
        rw [ea, eb]
        exact nI_eq (by omega) (by omega)
      have hne : ∀ {S : bS} {A : Nat → Nat → Nat}, cR S A cp P → some (A 1 i) = some (A 1 k) → i = k := fun h x => h.1.2.2.2.2.2.2.2.1.1 _ _ hi hk (by injection x)
      by_cases hsm : i = k
      · rw [if_pos (same.mpr hsm)]
        refine ⟨cp, cQ_fl (by decide) (fun S A MC MS out post h h1 h6 hp => ⟨h.1.1.1, MC, MS, Nat.le_refl _, Nat.le_refl _, h.1.1.1, 0, 0, Nat.zero_le _, Nat.zero_le _, C_knownSt h hw (fun q => (by rw [hx] at q; cases q)) (fun i' hi' => ⟨_, rfl, h.1.1.1, 0, 0, Nat.zero_le _, Nat.zero_le _, C_knownSt h hw (fun q => (by rw [hy] at q; cases q)) (fun k' hk' => ⟨_, rfl, ?_⟩)⟩)⟩)⟩
        · rw [hx] at hi'; rw [hy] at hk'; cases hi'; cases hk'
          exact ⟨fun _ => ⟨h1, h6, fun q => absurd q.symm io_ia, fun _ => hp S h (cF_rf A S), fun q => absurd q ia_is, fun _ q => absurd rfl q⟩, fun q => absurd (by rw [hsm]) q⟩
      · rw [if_neg (fun q => hsm (same.mp q))]
        by_cases hc : (0 : Int32) ≤ rk ∧ rk ≤ 3
        · rw [if_pos hc]
          by_cases hcs : canS P.1 (P.2 (1 + i)).length i
          · rw [if_pos hcs, eb]
            rw [eb] at hy
            obtain ⟨c1, c2, c3⟩ := canS_spec hw hi hcs
            obtain ⟨cp', m1, m2, m3⟩ := V_dispatch (P := T0 P) (cp := cp) (wI_T0 hw) (rank := rk) hi hk c3
            refine ⟨cp', cQ_ok ((snd_r0 (T0 P).1 i (nI k) rk 0 (by decide)).trans (T0_0 (P := P))) m1 m2 (fun S A MC MS out post h ho hn hC hS hp => ⟨h.1.1.1, MC, MS, Nat.le_refl _, Nat.le_refl _, h.1.1.1, 0, 0, Nat.zero_le _, Nat.zero_le _, C_knownSt h hw (fun q => (by rw [hx] at q; cases q)) (fun i' hi' => ⟨_, rfl, h.1.1.1, 0, 0, Nat.zero_le _, Nat.zero_le _, C_knownSt h hw (fun q => (by rw [hy] at q; cases q)) (fun k' hk' => ⟨_, rfl, ?_⟩)⟩)⟩)⟩
            rw [hx] at hi'; rw [hy] at hk'; cases hi'; cases hk'
            refine ⟨fun q => absurd (hne h q) hsm, fun _ => C_isOut ?_⟩
            rw [if_pos hc]
            refine ⟨fun _ => ⟨h.1.1.1, C_canTake h hw hi ?_⟩, fun q => absurd rfl q⟩
            rw [if_pos hcs]
            refine ⟨fun _ => ⟨h.1.1.1, MC, MS, Nat.le_refl _, Nat.le_refl _, m3 S A MC MS _ (cR_T0 h) ?_ ?_ (fun S' A' hR' a0 a6 hF' => ?_)⟩, fun q => absurd q (by decide)⟩
            · have hC : potA P.1 cp + 6 ≤ MC + potA (sndM (T0 P).1 i (nI k) rk) cp' := hC
              show potA P.1 cp ≤ MC + potA (sndM (T0 P).1 i (nI k) rk) cp'
              omega
            · have hS : potA P.1 cp + 6 ≤ MS + potA (sndM (T0 P).1 i (nI k) rk) cp' := hS
              show potA P.1 cp ≤ MS + potA (sndM (T0 P).1 i (nI k) rk) cp'
              omega
            · obtain ⟨q0, -, -, q3, -⟩ := hR'.1.1
              rw [a0] at q0 q3
              obtain ⟨e3, hL3⟩ := cl_at hR' (i := 3) (Or.inl (by decide))
              refine ⟨q0, _, q3, hL3.1, C_size hL3 ?_⟩
              rw [ls_3, List.length_map, List.length_range]
              have hp' := hp S' A' hR' a0 a6 hF'
              have e5 : nI (nC (sndM (T0 P).1 i (nI k) rk)) - 1 = P.1 0 5 := by
                rw [snd_C (wI_T0 hw).1 c3, nI_pred]
                exact hw.1.2.2.2.1.symm
              show gK S' out = 13 ∧ (vp_in (0 : Int32) (gN S' out) ∧ (post (0 : Int32) (sL S' out (Int32.toNatClampNeg (0 : Int32)) (Int32.toInt64 (nI (nC (sndM (T0 P).1 i (nI k) rk)) - 1)))))
              rw [e5]
              exact hp'
          · rw [if_neg hcs]
            refine ⟨cp, cQ_fl (by decide) (fun S A MC MS out post h h1 h6 hp => ⟨h.1.1.1, MC, MS, Nat.le_refl _, Nat.le_refl _, h.1.1.1, 0, 0, Nat.zero_le _, Nat.zero_le _, C_knownSt h hw (fun q => (by rw [hx] at q; cases q)) (fun i' hi' => ⟨_, rfl, h.1.1.1, 0, 0, Nat.zero_le _, Nat.zero_le _, C_knownSt h hw (fun q => (by rw [hy] at q; cases q)) (fun k' hk' => ⟨_, rfl, ?_⟩)⟩)⟩)⟩
            rw [hx] at hi'; rw [hy] at hk'; cases hi'; cases hk'
            refine ⟨fun q => absurd (hne h q) hsm, fun _ => C_isOut ?_⟩
            rw [if_pos hc]
            refine ⟨fun _ => ⟨h.1.1.1, C_canTake h hw hi ?_⟩, fun q => absurd rfl q⟩
            rw [if_neg hcs]
            exact ⟨fun q => absurd rfl q, fun _ => ⟨h1, h6, fun q => absurd q.symm io_is, fun q => absurd q.symm ia_is, fun _ => hp S h (cF_rf A S), fun _ _ q => absurd rfl q⟩⟩
        · rw [if_neg hc]
          refine ⟨cp, cQ_fl (by decide) (fun S A MC MS out post h h1 h6 hp => ⟨h.1.1.1, MC, MS, Nat.le_refl _, Nat.le_refl _, h.1.1.1, 0, 0, Nat.zero_le _, Nat.zero_le _, C_knownSt h hw (fun q => (by rw [hx] at q; cases q)) (fun i' hi' => ⟨_, rfl, h.1.1.1, 0, 0, Nat.zero_le _, Nat.zero_le _, C_knownSt h hw (fun q => (by rw [hy] at q; cases q)) (fun k' hk' => ⟨_, rfl, ?_⟩)⟩)⟩)⟩
          rw [hx] at hi'; rw [hy] at hk'; cases hi'; cases hk'
          refine ⟨fun q => absurd (hne h q) hsm, fun _ => C_isOut ?_⟩
          rw [if_neg hc]
          exact ⟨fun q => absurd (show (1 : Int32) = 0 from q) (by decide), fun _ => ⟨h1, h6, fun q => absurd q.symm io_ia, fun _ => hp S h (cF_rf A S), fun q => absurd q ia_is, fun _ q => absurd rfl q⟩⟩
end LWRITE
