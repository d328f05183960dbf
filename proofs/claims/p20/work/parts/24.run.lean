def sArrN (P : pP) : Nat → pP
  | 0 => P
  | k + 1 => sArr k ((sArrN P k).2 (15 + k)) (sArrN P k)
def sDepN (P : pP) : Nat → pP
  | 0 => P
  | k + 1 => sDep k ((sDepN P k).2 (1 + k)) (sDepN P k)
def sTk1 (P : pP) : pP := (mU P.1 0 1 (P.1 0 1 + 1), P.2)
def sTk2 (P : pP) : pP := sClk (sTk1 P) (nE P.1)
def sTk3 (P : pP) : pP := sArrN (sTk2 P) (nT P.1)
def sTick (P : pP) : pP := sDepN (sTk3 P) (nS P.1)
def sRun (P : pP) : Nat → pP
  | 0 => P
  | k + 1 => sTick (sRun P k)
theorem len_in {B K : Nat} {M : Nat → Nat → Int32} {L : Nat → List Nat} (h : wI B K M L) {t : Nat} (ht : t < 30) : (L (15 + t)).length ≤ 40 := by
  rw [(h.2.2.2.2.2.2.1.2 t ht).1.length_eq]
  exact Nat.le_trans (List.length_filter_le _ _) h.2.2.2.2.1.2.2.1.2.1
theorem len_at {B K : Nat} {M : Nat → Nat → Int32} {L : Nat → List Nat} (h : wI B K M L) {t : Nat} (ht : t < 14) : (L (1 + t)).length ≤ 40 := by
  rw [(h.2.2.2.2.2.2.1.1 t ht).1.length_eq]
  exact Nat.le_trans (List.length_filter_le _ _) h.2.2.2.2.1.2.2.1.2.1
theorem sArrN_inv {B K : Nat} {P : pP} (hK : K + 1200 < 2 ^ 31) (h : wI B K P.1 P.2) : ∀ k, k ≤ nT P.1 → wI B (K + 40 * k) (sArrN P k).1 (sArrN P k).2 ∧ ∀ j, j < 6 → (sArrN P k).1 0 j = P.1 0 j
  | 0, _ => ⟨h, fun _ _ => rfl⟩
  | k + 1, hk => by
    obtain ⟨h1, h2⟩ := sArrN_inv hK h k (by omega)
    have h30 := h.1.2.1.2
    have hl := len_in h1 (t := k) (by omega)
    obtain ⟨h3, h4⟩ := sArr_inv (t := k) _ _ _ h1 (by unfold nT at *; rw [h2 3 (by decide)]; omega) rfl (by omega)
    exact ⟨wI_mono (Nat.le_refl _) (by omega) h3, fun j hj => (h4 j hj).trans (h2 j hj)⟩
theorem sDepN_inv {B K : Nat} {P : pP} (hK : K + 560 < 2 ^ 31) (h : wI B K P.1 P.2) : ∀ k, k ≤ nS P.1 → wI B (K + 40 * k) (sDepN P k).1 (sDepN P k).2 ∧ ∀ j, j ≠ 8 → (sDepN P k).1 0 j = P.1 0 j
  | 0, _ => ⟨h, fun _ _ => rfl⟩
  | k + 1, hk => by
    obtain ⟨h1, h2⟩ := sDepN_inv hK h k (by omega)
    have h14 := h.1.1.2
    have hl := len_at h1 (t := k) (by omega)
    obtain ⟨h3, h4⟩ := sDep_inv (s := k) _ _ _ h1 (by unfold nS at *; rw [h2 2 (by decide)]; omega) (fun d hd => hd) (w_ndS h1 (by omega)) (by omega)
    exact ⟨wI_mono (Nat.le_refl _) (by omega) h3, fun j hj => (h4 j hj).trans (h2 j hj)⟩
theorem tick_inv {B K : Nat} {P : pP} (hB : B + 1 < 2 ^ 31) (hK : K + 1772 < 2 ^ 31) (h : wI B K P.1 P.2) : wI (B + 1) K (sTk1 P).1 (sTk1 P).2 ∧ (wI (B + 1) (K + 12) (sTk2 P).1 (sTk2 P).2 ∧ ∀ j, j < 5 → j ≠ 1 → (sTk2 P).1 0 j = P.1 0 j) ∧ (wI (B + 1) (K + 1212) (sTk3 P).1 (sTk3 P).2 ∧ ∀ j, j < 5 → j ≠ 1 → (sTk3 P).1 0 j = P.1 0 j) ∧ wI (B + 1) (K + 1772) (sTick P).1 (sTick P).2 ∧ ∀ j, j < 5 → j ≠ 1 → (sTick P).1 0 j = P.1 0 j := by
  have h1 : wI (B + 1) K (sTk1 P).1 (sTk1 P).2 := wI_tick hB h
  have e1 : ∀ j, j ≠ 1 → (sTk1 P).1 0 j = P.1 0 j := fun j hj => mU_c (M := P.1) hj
  have h12 := h.1.2.2.1.2
  obtain ⟨h2, e2⟩ := sClk_inv (by omega) h1 (nE P.1) (by unfold nE; rw [e1 4 (by decide)]; exact Nat.le_refl _)
  have f2 : ∀ j, j < 5 → j ≠ 1 → (sTk2 P).1 0 j = P.1 0 j := fun j hj hj1 => (e2 j hj).trans (e1 j hj1)
  have h2' : wI (B + 1) (K + 12) (sTk2 P).1 (sTk2 P).2 := wI_mono (Nat.le_refl _) (by omega) h2
  have h30 := h.1.2.1.2
  have h14 := h.1.1.2
  obtain ⟨h3, e3⟩ := sArrN_inv (by omega) h2' (nT P.1) (by unfold nT; rw [f2 3 (by decide) (by decide)]; exact Nat.le_refl _)
  have f3 : ∀ j, j < 5 → j ≠ 1 → (sTk3 P).1 0 j = P.1 0 j := fun j hj hj1 => (e3 j (by omega)).trans (f2 j hj hj1)
  have h3' : wI (B + 1) (K + 1212) (sTk3 P).1 (sTk3 P).2 := wI_mono (Nat.le_refl _) (by omega) h3
  obtain ⟨h4, e4⟩ := sDepN_inv (by omega) h3' (nS P.1) (by unfold nS; rw [f3 2 (by decide) (by decide)]; exact Nat.le_refl _)
  exact ⟨h1, ⟨h2', f2⟩, ⟨h3', f3⟩, wI_mono (Nat.le_refl _) (by omega) h4, fun j hj hj1 => (e4 j (by omega)).trans (f3 j hj hj1)⟩
set_option maxRecDepth 4000 in
theorem sRun_inv {B K : Nat} {P : pP} : ∀ k, B + k < 2 ^ 31 → K + 1772 * k < 2 ^ 31 → wI B K P.1 P.2 → wI (B + k) (K + 1772 * k) (sRun P k).1 (sRun P k).2 ∧ ∀ j, j < 5 → j ≠ 1 → (sRun P k).1 0 j = P.1 0 j
  | 0, _, _, h => ⟨h, fun _ _ _ => rfl⟩
  | k + 1, hB, hK, h => by
    rw [Nat.mul_succ] at hK ⊢
    generalize hx : 1772 * k = x at *
    obtain ⟨h1, h2⟩ := sRun_inv k (by omega) (by rw [hx]; omega) h
    rw [hx] at h1
    have hb1 : B + k + 1 < 2 ^ 31 := by omega
    have hk1 : K + x + 1772 < 2 ^ 31 := by omega
    have hb2 : B + k + 1 ≤ B + (k + 1) := by omega
    have hk2 : K + x + 1772 ≤ K + (x + 1772) := by omega
    obtain ⟨-, -, -, h3, h4⟩ := tick_inv hb1 hk1 h1
    exact ⟨wI_mono hb2 hk2 h3, fun j hj hj1 => (h4 j hj hj1).trans (h2 j hj hj1)⟩
section MODEL12
variable {μ : Nat} {r : Nat → Nat} {S : bS}
theorem M_tick (hM : mOK μ r S) {f g : Nat → Int32} {B K : Nat} {P : pP} (hB : B + 1 < 2 ^ 31) (hK : K + 1772 < 2 ^ 31) (h : wI B K P.1 P.2) {post : Int32 → bS → Prop} {rec : Nat → Int32 → Int32 → Int32 → bS → Prop} {v1 v2 v3 : Int32} (hp : ∀ f g, rec μ v1 v2 (v3 + 1) (mW μ r S (mX (sTick P).1 f g))) : wp_X6_clock (fun S11 => ∃ n51, wb_X6_run_51 post rec n51 μ v1 v2 v3 (0 : Int32) S11) μ (mW μ r S (mX (sTk1 P).1 f g)) := by
  obtain ⟨h1, ⟨h2, f2⟩, ⟨h3, f3⟩, h4, f4⟩ := tick_inv hB hK h
  have h30 := h.1.2.1.2
  have h14 := h.1.1.2
  refine M_clock hM h1 (by omega) ?_
  have e : nE (sTk1 P).1 = nE P.1 := rfl
  rw [e]
  show ∃ n51, wb_X6_run_51 post rec n51 μ v1 v2 v3 (0 : Int32) (mW μ r S (mX (sTk2 P).1 f g))
  have deps : ∀ (n k : Nat) (f g : Nat → Int32), k + n = nS P.1 → wb_X6_run_75 post rec (n + 1) μ v1 v2 v3 (nI k) (mW μ r S (mX (sDepN (sTk3 P) k).1 f g)) := by
    intro n
    induction n with
    | zero =>
      intro k f g hk
      have hk' : k = nS P.1 := by omega
      subst hk'
      unfold wb_X6_run_75
      refine ⟨m_k hM, fun _ => hp f g, fun hc => ?_⟩
      rw [mW_V0, show mX (sDepN (sTk3 P) (nS P.1)).1 f g 0 2 = nI (nS P.1) from (f4 2 (by decide) (by decide)).trans h.1.1.1] at hc
      exact absurd (nI_le (Nat.le_refl _) (by omega)) hc
    | succ n ih =>
      intro k f g hk
      have hs3 : nS (sTk3 P).1 = nS P.1 := by unfold nS; rw [f3 2 (by decide) (by decide)]
      obtain ⟨hk1, hk2⟩ := sDepN_inv (by omega) h3 k (by rw [hs3]; omega)
      unfold wb_X6_run_75
      refine ⟨m_k hM, fun hc => ?_, fun _ => ?_⟩
      · rw [mW_V0, show mX (sDepN (sTk3 P) k).1 f g 0 2 = nI (nS P.1) from ((hk2 2 (by decide)).trans (f3 2 (by decide) (by decide))).trans h.1.1.1] at hc
        exact absurd hc (nI_ge (by omega) (by omega))
      · refine M_departures hM hk1 (s := k) (by unfold nS at *; rw [hk2 2 (by decide), hs3]; omega) (by omega) (fun f g => ?_)
        rw [nI_1]
        exact ih (k + 1) f g (by omega)
  have arrs : ∀ (n k : Nat), k + n = nT P.1 → wb_X6_run_51 post rec (n + 1) μ v1 v2 v3 (nI k) (mW μ r S (mX (sArrN (sTk2 P) k).1 f g)) := by
    intro n
    induction n with
    | zero =>
      intro k hk
      have hk' : k = nT P.1 := by omega
      subst hk'
      unfold wb_X6_run_51
      refine ⟨m_k hM, fun _ => ⟨nS P.1 + 1, deps (nS P.1) 0 f g (by omega)⟩, fun hc => ?_⟩
      rw [mW_V0, show mX (sArrN (sTk2 P) (nT P.1)).1 f g 0 3 = nI (nT P.1) from (f3 3 (by decide) (by decide)).trans h.1.2.1.1] at hc
      exact absurd (nI_le (Nat.le_refl _) (by omega)) hc
    | succ n ih =>
      intro k hk
      have hs3 : nT (sTk2 P).1 = nT P.1 := by unfold nT; rw [f2 3 (by decide) (by decide)]
      obtain ⟨hk1, hk2⟩ := sArrN_inv (by omega) h2 k (by rw [hs3]; omega)
      unfold wb_X6_run_51
      refine ⟨m_k hM, fun hc => ?_, fun _ => ?_⟩
      · rw [mW_V0, show mX (sArrN (sTk2 P) k).1 f g 0 3 = nI (nT P.1) from ((hk2 3 (by decide)).trans (f2 3 (by decide) (by decide))).trans h.1.2.1.1] at hc
        exact absurd hc (nI_ge (by omega) (by omega))
      · refine M_arrivals hM hk1 (t := k) (by unfold nT at *; rw [hk2 3 (by decide), hs3]; omega) (by omega) ?_
        rw [nI_1]
        exact ih (k + 1) (by omega)
  exact ⟨nT P.1 + 1, arrs (nT P.1) 0 (by omega)⟩
set_option maxRecDepth 4000 in
theorem M_run (hM : mOK μ r S) {f g : Nat → Int32} {B K N : Nat} {P : pP} (hN : N ≤ 500) (hB : B + N < 2 ^ 31) (hK : K + 1772 * N < 2 ^ 31) (h : wI B K P.1 P.2) {post : Int32 → bS → Prop} {v2 : Int32} (hp : ∀ f g, post ((sRun P N).1 0 6 - v2) (mW μ r S (mX (sRun P N).1 f g))) : ∃ n29, wb_X6_run_29 post n29 μ (nI N) v2 (0 : Int32) (mW μ r S (mX P.1 f g)) := by
  have loop : ∀ (n k : Nat) (f g : Nat → Int32), k + n = N → wb_X6_run_29 post (n + 1) μ (nI N) v2 (nI k) (mW μ r S (mX (sRun P k).1 f g)) := by
    intro n
    induction n with
    | zero =>
      intro k f g hk
      have hk' : k = N := by omega
      subst hk'
      unfold wb_X6_run_29
      refine ⟨fun _ => ⟨m_k hM, ?_⟩, fun hc => absurd (nI_le (Nat.le_refl _) (by omega)) hc⟩
      rw [mW_V0]
      exact hp f g
    | succ n ih =>
      intro k f g hk
      obtain ⟨hk1, -⟩ := sRun_inv k (by omega) (by omega) h
      unfold wb_X6_run_29
      refine ⟨fun hc => absurd hc (nI_ge (by omega) (by omega)), fun _ => ⟨m_k hM, ?_⟩⟩
      rw [mW_V0, sW_0, mX_U (by decide) (by decide)]
      refine M_tick hM (by omega) (by omega) hk1 (fun f g => ?_)
      rw [nI_1]
      exact ih (k + 1) f g (by omega)
  exact ⟨N + 1, loop N 0 f g (by omega)⟩
end MODEL12
