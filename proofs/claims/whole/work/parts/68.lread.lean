/-! ===== the law's wrappers: calls that only tell ===== -/
/-- a wrapper's call from the value P to what q says -/
def cQ (P : pP) (cp cp' : Nat → Nat) (q : Int32 × pP) (w : (Int32 → bS → Prop) → Nat → Nat → Nat → (Nat → Nat → Nat) → bS → Prop) : Prop := potA q.2.1 cp' ≤ potA P.1 cp ∧ (cZ P.1 cp → cZ q.2.1 cp') ∧ ∀ (S : bS) (A : Nat → Nat → Nat) (MC MS out : Nat) (post : Int32 → bS → Prop), cR S A cp P → gK S out = 13 → gN S out = 1 → potA P.1 cp + 6 ≤ MC + potA q.2.1 cp' → potA P.1 cp + 6 ≤ MS + potA q.2.1 cp' → (∀ S' A', cR S' A' cp' q.2 → A' 0 = A 0 → A' 6 = A 6 → cF A S S' → post (q.2.1 0 0) (if q.2.1 0 0 = 0 then sL S' out 0 (Int32.toInt64 q.1) else S')) → w post MC MS out A S
theorem T0_0 {P : pP} : (T0 P).1 0 0 = 0 := mU_s (M := P.1) (i := 0) (j := 0) (v := 0)
theorem fl_0 {P : pP} {n : Int32} : (fl P n).2.1 0 0 = n := mU_s (M := mU P.1 0 0 0) (i := 0) (j := 0) (v := n)
theorem cR_th {S : bS} {A : Nat → Nat → Nat} {cp : Nat → Nat} {P : pP} (h : cR S A cp P) (v : Int32) : cR S A cp (mU P.1 0 0 v, P.2) := h
theorem cR_T0 {S : bS} {A : Nat → Nat → Nat} {cp : Nat → Nat} {P : pP} (h : cR S A cp P) : cR S A cp (T0 P) := h
theorem cR_fl {S : bS} {A : Nat → Nat → Nat} {cp : Nat → Nat} {P : pP} (h : cR S A cp P) (n : Int32) : cR S A cp (fl P n).2 := h
theorem cQ_fl {P : pP} {cp : Nat → Nat} {n : Int32} {w : (Int32 → bS → Prop) → Nat → Nat → Nat → (Nat → Nat → Nat) → bS → Prop} (hn0 : ¬ n = 0) (h : ∀ (S : bS) (A : Nat → Nat → Nat) (MC MS out : Nat) (post : Int32 → bS → Prop), cR S A cp P → 1 ≤ MC → 6 ≤ MS → (∀ S', cR S' A cp P → cF A S S' → post n S') → w post MC MS out A S) : cQ P cp cp (fl P n) w := by
  refine ⟨Nat.le_refl _, fun z => z, fun S A MC MS out post hR _ _ hC hS hp => h S A MC MS out post hR ?_ ?_ (fun S' hR' hF' => ?_)⟩
  · have : potA (fl P n).2.1 cp = potA P.1 cp := rfl
    omega
  · have : potA (fl P n).2.1 cp = potA P.1 cp := rfl
    omega
  · have := hp S' A (cR_fl hR' n) rfl rfl hF'
    rw [fl_0, if_neg hn0] at this
    exact this
theorem cQ_T0 {P : pP} {cp : Nat → Nat} {x : Int32} {w : (Int32 → bS → Prop) → Nat → Nat → Nat → (Nat → Nat → Nat) → bS → Prop} (h : ∀ (S : bS) (A : Nat → Nat → Nat) (MC MS out : Nat) (post : Int32 → bS → Prop), cR S A cp P → gK S out = 13 → gN S out = 1 → (∀ S', cR S' A cp P → cF A S S' → gK S' out = 13 ∧ (vp_in (0 : Int32) (gN S' out) ∧ (post (0 : Int32) (sL S' out (Int32.toNatClampNeg (0 : Int32)) (Int32.toInt64 x))))) → w post MC MS out A S) : cQ P cp cp (x, T0 P) w := by
  refine ⟨Nat.le_refl _, fun z => z, fun S A MC MS out post hR ho hn hC hS hp => h S A MC MS out post hR ho hn (fun S' hR' hF' => ?_)⟩
  obtain ⟨e1, e2⟩ := hF'.1 out (by rw [ho]; decide)
  have := hp S' A (cR_T0 hR') rfl rfl hF'
  rw [show (x, T0 P).2.1 0 0 = 0 from T0_0, if_pos rfl] at this
  refine ⟨by rw [e1]; exact ho, ?_, this⟩
  rw [e2, hn]
  exact vp_in_nI (n := 0) (by decide) (by decide)
section LREAD
variable {B K : Nat} {P : pP} {cp : Nat → Nat}
theorem ioo (post : Int32 → bS → Prop) (S : bS) (h : post 1 S) : ("java/lang/IndexOutOfBoundsException" = "java/lang/IndexOutOfBoundsException" → post (1 : Int32) S) ∧ (¬ "java/lang/IndexOutOfBoundsException" = "java/lang/IndexOutOfBoundsException" → False) := ⟨fun _ => h, fun q => q rfl⟩
theorem L_carrier (hw : wI B K P.1 P.2) (c w : Int32) : ∃ cp', cQ P cp cp' (qCarrier P c w) (fun post MC MS out A S => wp_L_carrier post MC MS (A 0 0) c w out S) := by
  refine ⟨cp, ?_⟩
  unfold qCarrier
  cases hx : ixO c (nC P.1) with
  | none => exact cQ_fl (by decide) (fun S A MC MS out post h h1 h6 hp => ⟨h.1.1.1, MC, MS, Nat.le_refl _, Nat.le_refl _, C_carrier h hw (fun i k hi => (by rw [hx] at hi; cases hi)) (fun _ => ⟨h1, h6, ioo post S (hp S h (cF_rf A S))⟩)⟩)
  | some i =>
    cases hy : ixO w 7 with
    | none => exact cQ_fl (by decide) (fun S A MC MS out post h h1 h6 hp => ⟨h.1.1.1, MC, MS, Nat.le_refl _, Nat.le_refl _, C_carrier h hw (fun i k _ hk => (by rw [hy] at hk; cases hk)) (fun _ => ⟨h1, h6, ioo post S (hp S h (cF_rf A S))⟩)⟩)
    | some k =>
      refine cQ_T0 (fun S A MC MS out post h ho hn hp => ⟨h.1.1.1, MC, MS, Nat.le_refl _, Nat.le_refl _, C_carrier h hw (fun i' k' hi hk => ?_) (fun q => ?_)⟩)
      · rw [hx] at hi
        rw [hy] at hk
        cases hi
        cases hk
        exact hp S h (cF_rf A S)
      · rcases q with q | q
        · rw [hx] at q; cases q
        · rw [hy] at q; cases q
theorem L_count (hw : wI B K P.1 P.2) (w : Int32) : ∃ cp', cQ P cp cp' (qCount P w) (fun post MC MS out A S => wp_L_count post MC MS (A 0 0) w out S) := by
  refine ⟨cp, ?_⟩
  unfold qCount
  cases hy : ixO w 9 with
  | none => exact cQ_fl (by decide) (fun S A MC MS out post h h1 h6 hp => ⟨h.1.1.1, MC, MS, Nat.le_refl _, Nat.le_refl _, C_count h hw (fun k hk => (by rw [hy] at hk; cases hk)) (fun _ => ⟨h1, h6, ioo post S (hp S h (cF_rf A S))⟩)⟩)
  | some k =>
    refine cQ_T0 (fun S A MC MS out post h ho hn hp => ⟨h.1.1.1, MC, MS, Nat.le_refl _, Nat.le_refl _, C_count (P := T0 P) (cR_T0 h) (wI_T0 hw) (fun k' hk => ?_) (fun q => ?_)⟩)
    · rw [hy] at hk
      cases hk
      exact hp S h (cF_rf A S)
    · rw [hy] at q; cases q
theorem L_station (hw : wI B K P.1 P.2) (c w : Int32) : ∃ cp', cQ P cp cp' (qStation P c w) (fun post MC MS out A S => wp_L_station post MC MS (A 0 0) c w out S) := by
  refine ⟨cp, ?_⟩
  unfold qStation
  cases hx : ixO c (nS P.1) with
  | none => exact cQ_fl (by decide) (fun S A MC MS out post h h1 h6 hp => ⟨h.1.1.1, MC, MS, Nat.le_refl _, Nat.le_refl _, C_station h hw (fun i k hi => (by rw [hx] at hi; cases hi)) (fun _ => ⟨h1, h6, ioo post S (hp S h (cF_rf A S))⟩)⟩)
  | some i =>
    cases hy : ixO w 6 with
    | none => exact cQ_fl (by decide) (fun S A MC MS out post h h1 h6 hp => ⟨h.1.1.1, MC, MS, Nat.le_refl _, Nat.le_refl _, C_station h hw (fun i k _ hk => (by rw [hy] at hk; cases hk)) (fun _ => ⟨h1, h6, ioo post S (hp S h (cF_rf A S))⟩)⟩)
    | some k =>
      refine cQ_T0 (fun S A MC MS out post h ho hn hp => ⟨h.1.1.1, MC, MS, Nat.le_refl _, Nat.le_refl _, C_station h hw (fun i' k' hi hk => ?_) (fun q => ?_)⟩)
      · rw [hx] at hi
        rw [hy] at hk
        cases hi
        cases hk
        exact hp S h (cF_rf A S)
      · rcases q with q | q
        · rw [hx] at q; cases q
        · rw [hy] at q; cases q
theorem L_tube (hw : wI B K P.1 P.2) (c w : Int32) : ∃ cp', cQ P cp cp' (qTube P c w) (fun post MC MS out A S => wp_L_tube post MC MS (A 0 0) c w out S) := by
  refine ⟨cp, ?_⟩
  unfold qTube
  cases hx : ixO c (nT P.1) with
  | none => exact cQ_fl (by decide) (fun S A MC MS out post h h1 h6 hp => ⟨h.1.1.1, MC, MS, Nat.le_refl _, Nat.le_refl _, C_tube h hw (fun i k hi => (by rw [hx] at hi; cases hi)) (fun _ => ⟨h1, h6, ioo post S (hp S h (cF_rf A S))⟩)⟩)
  | some i =>
    cases hy : ixO w 9 with
    | none => exact cQ_fl (by decide) (fun S A MC MS out post h h1 h6 hp => ⟨h.1.1.1, MC, MS, Nat.le_refl _, Nat.le_refl _, C_tube h hw (fun i k _ hk => (by rw [hy] at hk; cases hk)) (fun _ => ⟨h1, h6, ioo post S (hp S h (cF_rf A S))⟩)⟩)
    | some k =>
      refine cQ_T0 (fun S A MC MS out post h ho hn hp => ⟨h.1.1.1, MC, MS, Nat.le_refl _, Nat.le_refl _, C_tube (P := T0 P) (cR_T0 h) (wI_T0 hw) (fun i' k' hi hk => ?_) (fun q => ?_)⟩)
      · have hi : ixO c (nT P.1) = some i' := hi
        rw [hx] at hi
        rw [hy] at hk
        cases hi
        cases hk
        exact hp S h (cF_rf A S)
      · rcases q with q | q
        · have q : ixO c (nT P.1) = none := q
          rw [hx] at q; cases q
        · rw [hy] at q; cases q
theorem L_there (hw : wI B K P.1 P.2) (c w : Int32) : ∃ cp', cQ P cp cp' (qThere P c w) (fun post MC MS out A S => wp_L_there post MC MS (A 0 0) c w out S) := by
  refine ⟨cp, ?_⟩
  unfold qThere
  cases hx : ixO c (nS P.1) with
  | none => exact cQ_fl (by decide) (fun S A MC MS out post h h1 h6 hp => ⟨h.1.1.1, MC, MS, Nat.le_refl _, Nat.le_refl _, C_there h hw (fun i k hi => (by rw [hx] at hi; cases hi)) (fun _ => ⟨h1, h6, ioo post S (hp S h (cF_rf A S))⟩)⟩)
  | some i =>
    show cQ P cp cp (match ixO w (P.2 (1 + i)).length with | some k => (nI ((P.2 (1 + i)).getD k 0), T0 P) | none => fl P 1) _
    cases hy : ixO w (P.2 (1 + i)).length with
    | none =>
      refine cQ_fl (by decide) (fun S A MC MS out post h h1 h6 hp => ⟨h.1.1.1, MC, MS, Nat.le_refl _, Nat.le_refl _, C_there h hw (fun a k ha hk => ?_) (fun _ => ⟨h1, h6, ioo post S (hp S h (cF_rf A S))⟩)⟩)
      rw [hx] at ha
      cases ha
      rw [hy] at hk
      cases hk
    | some k =>
      refine cQ_T0 (fun S A MC MS out post h ho hn hp => ⟨h.1.1.1, MC, MS, Nat.le_refl _, Nat.le_refl _, C_there h hw (fun i' k' hi hk => ?_) (fun q => ?_)⟩)
      · rw [hx] at hi
        cases hi
        rw [hy] at hk
        cases hk
        exact hp S h (cF_rf A S)
      · have := q i hx
        rw [hy] at this
        cases this
theorem oV_oN {x : Option Nat} (hx : ∀ y, x = some y → y ≤ 48000) {Q : Int32 → Prop} (h : Q (oN x)) : (oV x ≠ 1000000 → Q (oV x)) ∧ (oV x = 1000000 → Q (-1)) := by
  have h2 := oV_some (x := x) (fun y hy => by have := hx y hy; omega)
  cases x with
  | none => exact ⟨fun q => absurd rfl q, fun _ => h⟩
  | some y => exact ⟨fun _ => h, fun q => by have := h2.mp q; cases this⟩
theorem L_time (hw : wI B K P.1 P.2) (a b : Int32) : ∃ cp', cQ P cp cp' (qTime P a b) (fun post MC MS out A S => wp_L_time post MC MS (A 0 0) a b out S) := by
  refine ⟨cp, ?_⟩
  unfold qTime
  have h14 := hw.1.1.2
  cases hx : ixO a (nS P.1) with
  | none => exact cQ_fl (by decide) (fun S A MC MS out post h h1 h6 hp => ⟨h.1.1.1, MC, MS, Nat.le_refl _, Nat.le_refl _, h.1.1.1, _, h.1.1.2.1, MC, MS, Nat.le_refl _, Nat.le_refl _, C_knownSt h hw (fun _ => ⟨h1, h6, ioo post S (hp S h (cF_rf A S))⟩) (fun s hs => (by rw [hx] at hs; cases hs))⟩)
  | some i =>
    cases hy : ixO b (nS P.1) with
    | none =>
      refine cQ_fl (by decide) (fun S A MC MS out post h h1 h6 hp => ⟨h.1.1.1, MC, MS, Nat.le_refl _, Nat.le_refl _, h.1.1.1, _, h.1.1.2.1, 0, 0, Nat.zero_le _, Nat.zero_le _, C_knownSt h hw (fun q => (by rw [hx] at q; cases q)) (fun s hs => ⟨_, rfl, h.1.1.1, MC, MS, Nat.le_refl _, Nat.le_refl _, C_knownSt h hw (fun _ => ⟨h1, h6, ioo post S (hp S h (cF_rf A S))⟩) (fun s' hs' => (by rw [hy] at hs'; cases hs'))⟩)⟩)
    | some k =>
      obtain ⟨-, hi⟩ := ixO_some (by omega) hx
      obtain ⟨-, hk⟩ := ixO_some (by omega) hy
      refine cQ_T0 (fun S A MC MS out post h ho hn hp => ⟨h.1.1.1, MC, MS, Nat.le_refl _, Nat.le_refl _, h.1.1.1, _, h.1.1.2.1, 0, 0, Nat.zero_le _, Nat.zero_le _, C_knownSt h hw (fun q => (by rw [hx] at q; cases q)) (fun s hs => ⟨_, rfl, h.1.1.1, 0, 0, Nat.zero_le _, Nat.zero_le _, C_knownSt h hw (fun q => (by rw [hy] at q; cases q)) (fun s' hs' => ⟨_, rfl, h.1.2.1.1, ?_⟩)⟩)⟩)
      rw [hx] at hs
      rw [hy] at hs'
      cases hs
      cases hs'
      refine C_leastTime h hw hi hk (fun S' hR hF => ?_)
      have hq := hp S' hR hF
      exact oV_oN (x := dD P.1 k i) (dR_bound hw.1 hw.2.1 hw.2.2.1 (by decide) i) (Q := fun v => gK S' out = 13 ∧ (vp_in (0 : Int32) (gN S' out) ∧ (post (0 : Int32) (sL S' out (Int32.toNatClampNeg (0 : Int32)) (Int32.toInt64 v))))) hq
theorem L_next (hw : wI B K P.1 P.2) (a b : Int32) : ∃ cp', cQ P cp cp' (qNext P a b) (fun post MC MS out A S => wp_L_next post MC MS (A 0 0) a b out S) := by
  refine ⟨cp, ?_⟩
  unfold qNext
  have h14 := hw.1.1.2
  cases hx : ixO a (nS P.1) with
  | none => exact cQ_fl (by decide) (fun S A MC MS out post h h1 h6 hp => ⟨h.1.1.1, MC, MS, Nat.le_refl _, Nat.le_refl _, h.1.1.1, _, h.1.1.2.1, MC, MS, Nat.le_refl _, Nat.le_refl _, C_knownSt h hw (fun _ => ⟨h1, h6, ioo post S (hp S h (cF_rf A S))⟩) (fun s hs => (by rw [hx] at hs; cases hs))⟩)
  | some i =>
    cases hy : ixO b (nS P.1) with
    | none =>
      refine cQ_fl (by decide) (fun S A MC MS out post h h1 h6 hp => ⟨h.1.1.1, MC, MS, Nat.le_refl _, Nat.le_refl _, h.1.1.1, _, h.1.1.2.1, 0, 0, Nat.zero_le _, Nat.zero_le _, C_knownSt h hw (fun q => (by rw [hx] at q; cases q)) (fun s hs => ⟨_, rfl, h.1.1.1, MC, MS, Nat.le_refl _, Nat.le_refl _, C_knownSt h hw (fun _ => ⟨h1, h6, ioo post S (hp S h (cF_rf A S))⟩) (fun s' hs' => (by rw [hy] at hs'; cases hs'))⟩)⟩)
    | some k =>
      obtain ⟨-, hi⟩ := ixO_some (by omega) hx
      obtain ⟨-, hk⟩ := ixO_some (by omega) hy
      refine cQ_T0 (fun S A MC MS out post h ho hn hp => ⟨h.1.1.1, MC, MS, Nat.le_refl _, Nat.le_refl _, h.1.1.1, _, h.1.1.2.1, 0, 0, Nat.zero_le _, Nat.zero_le _, C_knownSt h hw (fun q => (by rw [hx] at q; cases q)) (fun s hs => ⟨_, rfl, h.1.1.1, 0, 0, Nat.zero_le _, Nat.zero_le _, C_knownSt h hw (fun q => (by rw [hy] at q; cases q)) (fun s' hs' => ⟨_, rfl, h.1.2.1.1, ?_⟩)⟩)⟩)
      rw [hx] at hs
      rw [hy] at hs'
      cases hs
      cases hs'
      refine C_wayFor h hw hi hk (fun hne S' hR hF => ?_) (fun he => ?_)
      · have hq := hp S' hR hF
        rw [if_neg hne] at hq
        exact hq
      · have hq := hp S h (cF_rf A S)
        rw [if_pos he] at hq
        exact hq
end LREAD
