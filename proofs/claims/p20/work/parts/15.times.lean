/-! ===== the reference's least times ===== -/
abbrev nS (M : Nat → Nat → Int32) : Nat := u (M 0 2)
abbrev nT (M : Nat → Nat → Int32) : Nat := u (M 0 3)
abbrev nE (M : Nat → Nat → Int32) : Nat := u (M 0 4)
abbrev nC (M : Nat → Nat → Int32) : Nat := u (M 0 5)
abbrev tFr (M : Nat → Nat → Int32) (t : Nat) : Nat := u (M 2 (8 * t + 0))
abbrev tTo (M : Nat → Nat → Int32) (t : Nat) : Nat := u (M 2 (8 * t + 1))
abbrev tLn (M : Nat → Nat → Int32) (t : Nat) : Nat := u (M 2 (8 * t + 2))
abbrev tSp (M : Nat → Nat → Int32) (t : Nat) : Nat := u (M 2 (8 * t + 3))
abbrev tBo (M : Nat → Nat → Int32) (t : Nat) : Nat := u (M 2 (8 * t + 4))
abbrev hnd (M : Nat → Nat → Int32) (s : Nat) : Nat := u (M 1 (9 * s + 1))
abbrev rom (M : Nat → Nat → Int32) (s : Nat) : Nat := u (M 1 (9 * s + 0))
abbrev mny (M : Nat → Nat → Int32) (s : Nat) : Nat := u (M 1 (9 * s + 2))
abbrev way (M : Nat → Nat → Int32) (s k : Nat) : Nat := u (M 1 (9 * s + (5 + k)))
def tOp (M : Nat → Nat → Int32) (t : Nat) : Bool := decide (¬ M 2 (8 * t + 5) = 0)
def thr (M : Nat → Nat → Int32) (t : Nat) : Nat := (tLn M t + tSp M t - 1) / tSp M t
def cst (M : Nat → Nat → Int32) (aim t : Nat) : Nat := thr M t + if tTo M t = aim then 0 else hnd M (tTo M t)
/-- the counts -/
def iN (M : Nat → Nat → Int32) : Prop := (M 0 2 = nI (nS M) ∧ nS M ≤ 14) ∧ (M 0 3 = nI (nT M) ∧ nT M ≤ 30) ∧ (M 0 4 = nI (nE M) ∧ nE M ≤ 12) ∧ (M 0 5 = nI (nC M) ∧ nC M ≤ 500)
/-- the tubes -/
def iT (M : Nat → Nat → Int32) : Prop := ∀ t, t < nT M → (M 2 (8 * t + 0) = nI (tFr M t) ∧ tFr M t < nS M) ∧ (M 2 (8 * t + 1) = nI (tTo M t) ∧ tTo M t < nS M) ∧ tFr M t ≠ tTo M t ∧ (M 2 (8 * t + 2) = nI (tLn M t) ∧ 1 ≤ tLn M t ∧ tLn M t ≤ 60) ∧ (M 2 (8 * t + 3) = nI (tSp M t) ∧ 1 ≤ tSp M t ∧ tSp M t ≤ 6) ∧ (M 2 (8 * t + 4) = nI (tBo M t) ∧ 1 ≤ tBo M t ∧ tBo M t ≤ 8) ∧ (M 2 (8 * t + 5) = 0 ∨ M 2 (8 * t + 5) = 1)
/-- the stations -/
def iS (M : Nat → Nat → Int32) : Prop := ∀ s, s < nS M → (M 1 (9 * s + 0) = nI (rom M s) ∧ 1 ≤ rom M s ∧ rom M s ≤ 9) ∧ (M 1 (9 * s + 1) = nI (hnd M s) ∧ hnd M s ≤ 20) ∧ (M 1 (9 * s + 2) = nI (mny M s) ∧ mny M s ≤ 4) ∧ (M 1 (9 * s + 3) = -1 ∨ ∃ w, w < mny M s ∧ M 1 (9 * s + 3) = nI w) ∧ ∀ k, k < mny M s → M 1 (9 * s + (5 + k)) = nI (way M s k) ∧ way M s k < nT M
def oN : Option Nat → Int32
  | none => -1
  | some x => nI x
def tmO (M : Nat → Nat → Int32) (D : Nat → Option Nat) (aim t : Nat) : Option Nat := if tOp M t = true then (match D (tTo M t) with | none => none | some y => some (cst M aim t + y)) else none
theorem thr_le {M : Nat → Nat → Int32} {t : Nat} (h1 : 1 ≤ tSp M t) (h2 : tLn M t ≤ 60) : thr M t ≤ 60 := by
  unfold thr
  refine Nat.div_le_of_le_mul ?_
  have h3 : tLn M t + tSp M t - 1 ≤ 60 + (tSp M t - 1) := by omega
  have h4 : (tSp M t - 1) * 1 ≤ (tSp M t - 1) * 60 := Nat.mul_le_mul_left _ (by decide)
  have h5 : tSp M t * 60 = (tSp M t - 1) * 60 + 60 := by
    obtain ⟨k, hk⟩ : ∃ k, tSp M t = k + 1 := ⟨tSp M t - 1, by omega⟩
    rw [hk, Nat.add_sub_cancel, Nat.succ_mul]
  omega
theorem thr_ge {M : Nat → Nat → Int32} {t : Nat} (h1 : 1 ≤ tSp M t) (h2 : 1 ≤ tLn M t) : 1 ≤ thr M t := by
  unfold thr
  exact (Nat.le_div_iff_mul_le (by omega)).mpr (by omega)
theorem thr_eq {M : Nat → Nat → Int32} {t : Nat} (hS : M 2 (8 * t + 3) = nI (tSp M t)) (hL : M 2 (8 * t + 2) = nI (tLn M t)) (h1 : 1 ≤ tSp M t) (h1' : tSp M t ≤ 6) (h2 : tLn M t ≤ 60) : (M 2 (8 * t + 2) + M 2 (8 * t + 3) - 1) / M 2 (8 * t + 3) = nI (thr M t) := by
  have e : M 2 (8 * t + 2) + M 2 (8 * t + 3) - 1 = nI (tLn M t + tSp M t - 1) := by
    rw [hS, hL, nI_add, show (1 : Int32) = nI 1 from rfl, pk_sub (by omega)]
  rw [e, hS, pk_div (by omega) (by omega) (by omega)]
  rfl
theorem cst_le {M : Nat → Nat → Int32} (hT : iT M) (hS : iS M) {aim t : Nat} (ht : t < nT M) : cst M aim t ≤ 80 := by
  obtain ⟨-, h2, -, h4, h5, -⟩ := hT t ht
  have := thr_le h5.2.1 h4.2.2
  have := (hS _ h2.2).2.1.2
  unfold cst
  split <;> omega
theorem cst_ge {M : Nat → Nat → Int32} (hT : iT M) {aim t : Nat} (ht : t < nT M) : 1 ≤ cst M aim t := by
  obtain ⟨-, -, -, h4, h5, -⟩ := hT t ht
  have := thr_ge h5.2.1 h4.2.1
  unfold cst
  omega
section MODEL6
variable {μ : Nat} {r : Nat → Nat} {S : bS} {M : Nat → Nat → Int32}
theorem M_through (hM : mOK μ r S) (hN : iN M) (hT : iT M) {f g : Nat → Int32} {t : Nat} (ht : t < nT M) {post : Int32 → bS → Prop} (h : post (nI (thr M t)) (mW μ r S (mX M f g))) : wp_X6_through post μ (nI t) (mW μ r S (mX M f g)) := by
  obtain ⟨-, -, -, h4, h5, -⟩ := hT t ht
  have h30 := hN.2.1.2
  refine ⟨m_k hM, M_tu (w := 2) hM (by omega) ⟨m_k hM, M_tu (w := 3) hM (by omega) ⟨m_k hM, M_tu (w := 3) hM (by omega) ⟨?_, ?_⟩⟩⟩⟩
  · rw [show mX M f g 2 (8 * t + 3) = nI (tSp M t) from h5.1]
    exact nI_ne0 (by omega) (by omega)
  · rw [show (mX M f g 2 (8 * t + 2) + mX M f g 2 (8 * t + 3) - 1) / mX M f g 2 (8 * t + 3) = nI (thr M t) from thr_eq h5.1 h4.1 h5.2.1 h5.2.2 h4.2.2]
    exact h
/-- the row has the times of n stations -/
def encD (n : Nat) (f : Nat → Int32) (D : Nat → Option Nat) : Prop := ∀ v, v < n → f v = oN (D v)
theorem oN_none {x : Option Nat} (hx : ∀ y, x = some y → y < 2 ^ 31) : oN x = -1 ↔ x = none := by
  cases x with
  | none => exact ⟨fun _ => rfl, fun _ => rfl⟩
  | some y => exact ⟨fun h => absurd h (nI_neN1 (hx y rfl)), fun h => by cases h⟩
theorem M_timeBy (hM : mOK μ r S) (hN : iN M) (hT : iT M) (hS : iS M) {f g : Nat → Int32} {D : Nat → Option Nat} {aim t : Nat} (hE : encD (nS M) f D) (hB : ∀ v x, D v = some x → x < 2 ^ 30) (ht : t < nT M) (haim : aim < nS M) {post : Int32 → bS → Prop} (h : post (oN (tmO M D aim t)) (mW μ r S (mX M f g))) : wp_X6_timeBy post μ (nI t) (nI aim) (mW μ r S (mX M f g)) := by
  obtain ⟨-, h2, -, h4, h5, -, h7⟩ := hT t ht
  have h30 := hN.2.1.2
  have h14 := hN.1.2
  obtain ⟨-, hh, -⟩ := hS _ h2.2
  have hthr := thr_le h5.2.1 h4.2.2
  unfold tmO at h
  refine ⟨m_k hM, M_tu (w := 1) hM (by omega) ⟨m_k hM, M_tu (w := 5) hM (by omega) ⟨fun h0 => ?_, fun h0 => ⟨m_k hM, r 6, (m_q hM).2.2.2.2.2.1, mW_k6 hM, ?_, ?_⟩⟩⟩⟩
  · rw [if_neg (by unfold tOp; simp; exact h0)] at h
    exact h
  · rw [show mX M f g 2 (8 * t + 1) = nI (tTo M t) from h2.1, mW_n6 hM]
    exact vp_in_nI (by omega) (by omega)
  · have ho : tOp M t = true := by unfold tOp; simp; exact h0
    rw [if_pos ho] at h
    rw [show mX M f g 2 (8 * t + 1) = nI (tTo M t) from h2.1, nI_clamp (by omega), mW_V6 hM, show mX M f g 6 (tTo M t) = oN (D (tTo M t)) from hE _ h2.2]
    cases hD : D (tTo M t) with
    | none =>
      rw [hD] at h
      exact ⟨fun q => absurd rfl q, fun _ => h⟩
    | some y =>
      have hy := hB _ _ hD
      rw [hD] at h
      refine ⟨fun _ => ?_, fun q => absurd q (nI_neN1 (by omega))⟩
      refine M_through hM hN hT ht ⟨m_k hM, r 6, (m_q hM).2.2.2.2.2.1, mW_k6 hM, ?_, ?_⟩
      · rw [mW_n6 hM]
        exact vp_in_nI (by omega) (by omega)
      · rw [mW_V6 hM, show mX M f g 6 (tTo M t) = oN (D (tTo M t)) from hE _ h2.2, hD]
        refine ⟨fun hne => ?_, fun he => ?_⟩
        · have hne' : ¬ tTo M t = aim := fun q => hne (by rw [q])
          refine M_st (w := 1) hM (by omega) ?_
          show post (nI (thr M t) + nI y + M 1 (9 * tTo M t + 1)) _
          rw [hh.1, nI_add, nI_add, show thr M t + y + hnd M (tTo M t) = cst M aim t + y by unfold cst; rw [if_neg hne']; omega]
          exact h
        · have he' : tTo M t = aim := (nI_eq (by omega) (by omega)).mp he
          show post (nI (thr M t) + nI y + nI 0) _
          rw [nI_add, nI_add, show thr M t + y + 0 = cst M aim t + y by unfold cst; rw [if_pos he']; omega]
          exact h
end MODEL6
