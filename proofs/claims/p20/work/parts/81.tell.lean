/-! ===== what the law asks: direct contracts ===== -/
theorem oV_oN {x : Option Nat} (hx : ∀ y, x = some y → y ≤ 48000) {Q : Int32 → Prop} (h : Q (oN x)) : (oV x ≠ 1000000 → Q (oV x)) ∧ (oV x = 1000000 → Q (-1)) := by
  have h2 := oV_some (x := x) (fun y hy => by have := hx y hy; omega)
  cases x with
  | none => exact ⟨fun q => absurd rfl q, fun _ => h⟩
  | some y => exact ⟨fun _ => h, fun q => by have := h2.mp q; cases this⟩
/-- a call that answers r and goes from P to P' -/
def cY (P P' : pP) (cp cp' : Nat → Nat) (r : Int32) (w : (Int32 → bS → Prop) → Nat → Nat → (Nat → Nat → Nat) → bS → Prop) : Prop := potA P'.1 cp' ≤ potA P.1 cp ∧ (cZ P.1 cp → cZ P'.1 cp') ∧ ∀ (S : bS) (A : Nat → Nat → Nat) (MC MS : Nat) (post : Int32 → bS → Prop), cR S A cp P → potA P.1 cp ≤ MC + potA P'.1 cp' → potA P.1 cp ≤ MS + potA P'.1 cp' → (∀ S' A', cR S' A' cp' P' → A' 0 = A 0 → A' 6 = A 6 → cF A S S' → post r S') → w post MC MS A S
section TELL
variable {S : bS} {A : Nat → Nat → Nat} {cp : Nat → Nat} {P : pP} {B K : Nat} {MC MS : Nat} {post : Int32 → bS → Prop} {xp : String → bS → Prop}
theorem D_count (h : cR S A cp P) (hw : wI B K P.1 P.2) {w : Int32} {k : Nat} (e : w = nI k) (hk : k < 9) (hp : post (cntR P k) S) : wp_X5_count post xp MC MS (A 0 0) w S :=
  C_count h hw (fun k' e' => by rw [e, ixO_nI (by decide) hk] at e'; cases e'; exact hp) (fun e' => by rw [e, ixO_nI (by decide) hk] at e'; cases e')
theorem D_station (h : cR S A cp P) (hw : wI B K P.1 P.2) {v w : Int32} {s k : Nat} (ev : v = nI s) (hs : s < nS P.1) (e : w = nI k) (hk : k < 6) (hp : post (staR P s k) S) : wp_X5_station post xp MC MS (A 0 0) v w S := by
  have h14 := hw.1.1.2
  have e1 : ixO v (nS P.1) = some s := by rw [ev]; exact ixO_nI (by omega) hs
  have e2 : ixO w 6 = some k := by rw [e]; exact ixO_nI (by decide) hk
  exact C_station h hw (fun i k' x y => by rw [e1] at x; rw [e2] at y; cases x; cases y; exact hp) (fun x => by rw [e1, e2] at x; rcases x with x | x <;> cases x)
theorem D_tube (h : cR S A cp P) (hw : wI B K P.1 P.2) {v w : Int32} {s k : Nat} (ev : v = nI s) (hs : s < nT P.1) (e : w = nI k) (hk : k < 9) (hp : post (tubR P s k) S) : wp_X5_tube post xp MC MS (A 0 0) v w S := by
  have h14 := hw.1.2.1.2
  have e1 : ixO v (nT P.1) = some s := by rw [ev]; exact ixO_nI (by omega) hs
  have e2 : ixO w 9 = some k := by rw [e]; exact ixO_nI (by decide) hk
  exact C_tube h hw (fun i k' x y => by rw [e1] at x; rw [e2] at y; cases x; cases y; exact hp) (fun x => by rw [e1, e2] at x; rcases x with x | x <;> cases x)
theorem D_carrier (h : cR S A cp P) (hw : wI B K P.1 P.2) {v w : Int32} {c k : Nat} (ev : v = nI c) (hc : c < nC P.1) (e : w = nI k) (hk : k < 7) (hp : post (P.1 4 (9 * c + k)) S) : wp_X5_carrier post xp MC MS (A 0 0) v w S := by
  have h500 := hw.1.2.2.2.2
  have e1 : ixO v (nC P.1) = some c := by rw [ev]; exact ixO_nI (by omega) hc
  have e2 : ixO w 7 = some k := by rw [e]; exact ixO_nI (by decide) hk
  exact C_carrier h hw (fun i k' x y => by rw [e1] at x; rw [e2] at y; cases x; cases y; exact hp) (fun x => by rw [e1, e2] at x; rcases x with x | x <;> cases x)
theorem D_there (h : cR S A cp P) (hw : wI B K P.1 P.2) {v w : Int32} {s i : Nat} (ev : v = nI s) (hs : s < nS P.1) (e : w = nI i) (hi : i < (P.2 (1 + s)).length) (hp : post (nI ((P.2 (1 + s)).getD i 0)) S) : wp_X5_there post xp MC MS (A 0 0) v w S := by
  have h14 := hw.1.1.2
  have hl := len_at hw (t := s) (by omega)
  have e1 : ixO v (nS P.1) = some s := by rw [ev]; exact ixO_nI (by omega) hs
  have e2 : ixO w (P.2 (1 + s)).length = some i := by rw [e]; exact ixO_nI (by omega) hi
  exact C_there h hw (fun a k' x y => by rw [e1] at x; cases x; rw [e2] at y; cases y; exact hp) (fun x => by have := x s e1; rw [e2] at this; cases this)
theorem D_time (h : cR S A cp P) (hw : wI B K P.1 P.2) {v w : Int32} {a b : Nat} (ev : v = nI a) (ha : a < nS P.1) (e : w = nI b) (hb : b < nS P.1) (hp : ∀ S', cR S' A cp P → cF A S S' → post (oN (dD P.1 b a)) S') : wp_X5_time post xp MC MS (A 0 0) v w S := by
  have h14 := hw.1.1.2
  have e1 : ixO v (nS P.1) = some a := by rw [ev]; exact ixO_nI (by omega) ha
  have e2 : ixO w (nS P.1) = some b := by rw [e]; exact ixO_nI (by omega) hb
  refine ⟨h.1.1.1, _, h.1.1.2.1, 0, 0, Nat.zero_le _, Nat.zero_le _, C_knownSt h hw (fun q => (by rw [e1] at q; cases q)) (fun s hs => ⟨_, rfl, h.1.1.1, 0, 0, Nat.zero_le _, Nat.zero_le _, C_knownSt h hw (fun q => (by rw [e2] at q; cases q)) (fun s' hs' => ⟨_, rfl, h.1.2.1.1, ?_⟩)⟩)⟩
  rw [e1] at hs
  rw [e2] at hs'
  cases hs
  cases hs'
  refine C_leastTime h hw ha hb (fun S' hR hF => ?_)
  exact oV_oN (x := dD P.1 b a) (dR_bound hw.1 hw.2.1 hw.2.2.1 (by decide) a) (Q := fun v => post v S') (hp S' hR hF)
end TELL
theorem D_send {P : pP} {B K : Nat} {cp : Nat → Nat} (hw : wI B K P.1 P.2) {a b k : Nat} (ha : a < nS P.1) (hb : b < nS P.1) (hab : a ≠ b) (hk : k ≤ 3) (hcs : canS P.1 (P.2 (1 + a)).length a) : ∃ cp', cY P (sndM P.1 a (nI b) (nI k), sndL P.1 P.2 a (nI b) (nI k)) cp cp' (P.1 0 5) (fun post MC MS A S => wp_X5_send post (fun _ _ => False) MC MS (A 0 0) (nI a) (nI b) (nI k) S) := by
  have h14 := hw.1.1.2
  obtain ⟨c1, c2, c3⟩ := canS_spec hw ha hcs
  have e1 : ixO (nI a) (nS P.1) = some a := ixO_nI (by omega) ha
  have e2 : ixO (nI b) (nS P.1) = some b := ixO_nI (by omega) hb
  obtain ⟨cp', m1, m2, m3⟩ := V_dispatch (P := P) (cp := cp) hw (rank := nI k) ha hb c3
  refine ⟨cp', m1, m2, fun S A MC MS post h hC hS hp => ⟨h.1.1.1, 0, 0, Nat.zero_le _, Nat.zero_le _, C_knownSt h hw (fun q => (by rw [e1] at q; cases q)) (fun i' hi' => ⟨_, rfl, h.1.1.1, 0, 0, Nat.zero_le _, Nat.zero_le _, C_knownSt h hw (fun q => (by rw [e2] at q; cases q)) (fun k' hk' => ⟨_, rfl, ?_⟩)⟩)⟩⟩
  rw [e1] at hi'
  rw [e2] at hk'
  cases hi'
  cases hk'
  refine ⟨fun q => absurd (h.1.2.2.2.2.2.2.2.1.1 _ _ ha hb (by injection q)) hab, fun _ => C_isOut ?_⟩
  rw [if_pos ⟨nI_le (Nat.zero_le _) (by omega), nI_le (b := 3) hk (by omega)⟩]
  refine ⟨fun _ => ⟨h.1.1.1, C_canTake h hw ha ?_⟩, fun q => absurd rfl q⟩
  rw [if_pos hcs]
  refine ⟨fun _ => ⟨h.1.1.1, MC, MS, Nat.le_refl _, Nat.le_refl _, m3 S A MC MS _ h hC hS (fun S' A' hR' a0 a6 hF' => ?_)⟩, fun q => absurd q (by decide)⟩
  obtain ⟨q0, -, -, q3, -⟩ := hR'.1.1
  rw [a0] at q0 q3
  obtain ⟨e3, hL3⟩ := cl_at hR' (i := 3) (Or.inl (by decide))
  refine ⟨q0, _, q3, hL3.1, C_size hL3 ?_⟩
  rw [ls_3, List.length_map, List.length_range]
  have hp' := hp S' A' hR' a0 a6 hF'
  have e5 : nI (nC (sndM P.1 a (nI b) (nI k))) - 1 = P.1 0 5 := by
    rw [snd_C hw.1 c3, nI_pred]
    exact hw.1.2.2.2.1.symm
  show post (nI (nC (sndM P.1 a (nI b) (nI k))) - 1) S'
  rw [e5]
  exact hp'
theorem D_run {P : pP} {B K : Nat} {cp : Nat → Nat} (hE : nE P.1 = 0) (hB : B + 21 < 2 ^ 31) (hK : K + 1772 < 2 ^ 31) (hw : wI B K P.1 P.2) (hX : iX P.1 P.2) : ∃ cp', cY P (sTick P) cp cp' ((sTick P).1 0 6 - P.1 0 6) (fun post MC MS A S => wp_X5_run post (fun _ _ => False) MC MS (A 0 0) (1 : Int32) S) := by
  obtain ⟨cp1, a1, a2, a3⟩ := C_tick (cp := cp) hE hB hK hw hX
  refine ⟨cp1, a1, a2, fun S A MC MS post h hC hS hp => C_isOut ?_⟩
  rw [if_pos (by decide)]
  refine ⟨fun _ => ⟨h.1.1.1, 0 + 1 + 1, ?_⟩, fun q => absurd rfl q⟩
  rw [h.1.1.2.2.2.2.2.1]
  unfold wb_X5_run_28
  refine ⟨fun q => absurd q (by decide), fun _ => ⟨h.1.1.1, a3 S A MC MS (fun mc' ms' S17 => wb_X5_run_28 post (fun _ _ => False) (0 + 1) mc' ms' (A 0 0) 1 (P.1 0 6) (0 + 1) S17) h hC hS (fun S' A' mc' ms' hC' hS' hR' p0 p6 hF' => ?_)⟩⟩
  unfold wb_X5_run_28
  have e := hR'.1.1.2.2.2.2.2.1
  have e0 := hR'.1.1.1
  rw [p0] at e e0
  refine ⟨fun _ => ⟨e0, ?_⟩, fun q => absurd (by decide) q⟩
  rw [e]
  exact hp S' A' hR' p0 p6 hF'
