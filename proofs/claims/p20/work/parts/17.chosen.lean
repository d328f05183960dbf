/-! ===== the reference's way out, and what it sends ===== -/
def bStep (M : Nat → Nat → Int32) (D : Nat → Option Nat) (s aim : Nat) (o : Option (Nat × Nat)) (k : Nat) : Option (Nat × Nat) := match tmO M D aim (way M s k) with
  | none => o
  | some x => match o with
    | none => some (k, x)
    | some q => if x < q.2 then some (k, x) else o
def bst (M : Nat → Nat → Int32) (D : Nat → Option Nat) (s aim : Nat) : Nat → Option (Nat × Nat)
  | 0 => none
  | k + 1 => bStep M D s aim (bst M D s aim k) k
def bw : Option (Nat × Nat) → Int32
  | none => -1
  | some q => nI q.1
def bl : Option (Nat × Nat) → Int32
  | none => 0
  | some q => nI q.2
/-- the way out for an aim, as the reference chooses it -/
def chM (M : Nat → Nat → Int32) (s aim : Nat) : Int32 := if M 1 (9 * s + 3) = -1 then bw (bst M (dD M aim) s aim (mny M s)) else M 1 (9 * s + 3)
theorem tmO_lt {M : Nat → Nat → Int32} (hT : iT M) (hS : iS M) {D : Nat → Option Nat} {aim t x : Nat} (hB : ∀ v x, D v = some x → x ≤ 48000) (ht : t < nT M) (h : tmO M D aim t = some x) : x ≤ 48080 := by
  unfold tmO at h
  by_cases ho : tOp M t = true
  · rw [if_pos ho] at h
    cases hy : D (tTo M t) with
    | none => rw [hy] at h; cases h
    | some y =>
      rw [hy] at h
      cases h
      have := hB _ _ hy
      have := cst_le hT hS (aim := aim) ht
      omega
  · rw [if_neg ho] at h
    cases h
theorem bst_lt {M : Nat → Nat → Int32} (hT : iT M) (hS : iS M) {D : Nat → Option Nat} {s aim : Nat} (hB : ∀ v x, D v = some x → x ≤ 48000) (hs : s < nS M) : ∀ k, k ≤ mny M s → ∀ q, bst M D s aim k = some q → q.1 < k ∧ q.2 ≤ 48080
  | 0, _, q, h => by cases h
  | k + 1, hk, q, h => by
    have ih := bst_lt hT hS (aim := aim) hB hs k (by omega)
    have hw := ((hS s hs).2.2.2.2 k (by omega)).2
    have h : bStep M D s aim (bst M D s aim k) k = some q := h
    unfold bStep at h
    cases hx : tmO M D aim (way M s k) with
    | none =>
      rw [hx] at h
      have := ih q h
      exact ⟨by omega, this.2⟩
    | some x =>
      have hxb := tmO_lt hT hS hB hw hx
      rw [hx] at h
      cases ho : bst M D s aim k with
      | none =>
        rw [ho] at h
        cases h
        exact ⟨by show k < k + 1; omega, hxb⟩
      | some q' =>
        rw [ho] at h
        by_cases hl : x < q'.2
        · rw [show (match some x with | none => some q' | some x => match some q' with | none => some (k, x) | some q => if x < q.2 then some (k, x) else some q') = some (k, x) from if_pos hl] at h
          cases h
          exact ⟨by show k < k + 1; omega, hxb⟩
        · rw [show (match some x with | none => some q' | some x => match some q' with | none => some (k, x) | some q => if x < q.2 then some (k, x) else some q') = some q' from if_neg hl] at h
          cases h
          have := ih _ ho
          exact ⟨by omega, this.2⟩
section MODEL8
variable {μ : Nat} {r : Nat → Nat} {S : bS} {M : Nat → Nat → Int32}
theorem M_chosen (hM : mOK μ r S) (hN : iN M) (hT : iT M) (hS : iS M) {f g : Nat → Int32} {s aim : Nat} (hs : s < nS M) (haim : aim < nS M) {post : Int32 → bS → Prop} (h : ∀ f, post (chM M s aim) (mW μ r S (mX M f g))) : wp_X6_chosen post μ (nI s) (nI aim) (mW μ r S (mX M f g)) := by
  have h14 := hN.1.2
  obtain ⟨-, -, hm, -, hw⟩ := hS s hs
  refine ⟨m_k hM, M_st (w := 3) hM (by omega) ⟨fun he => ⟨m_k hM, M_findTimes hM hN hT hS haim (fun f' hE => ⟨mny M s + 1, ?_⟩)⟩, fun hne => ⟨m_k hM, M_st (w := 3) hM (by omega) ?_⟩⟩⟩
  · have he' : M 1 (9 * s + 3) = -1 := he
    have hB : ∀ v x, dD M aim v = some x → x ≤ 48000 := dR_bound hN hT hS (by omega)
    have loop : ∀ (n k : Nat), k + n = mny M s → wb_X6_chosen_30 post (n + 1) μ (nI s) (nI aim) (bw (bst M (dD M aim) s aim k)) (bl (bst M (dD M aim) s aim k)) (nI k) (mW μ r S (mX M f' g)) := by
      intro n
      induction n with
      | zero =>
        intro k hk
        have hk' : k = mny M s := by omega
        subst hk'
        unfold wb_X6_chosen_30
        refine ⟨m_k hM, M_st (w := 2) hM (by omega) ⟨fun _ => ?_, fun hc => ?_⟩⟩
        · have := h f'
          unfold chM at this
          rw [if_pos he'] at this
          exact this
        · rw [show mX M f' g 1 (9 * s + 2) = nI (mny M s) from hm.1] at hc
          exact absurd (nI_le (Nat.le_refl _) (by omega)) hc
      | succ n ih =>
        intro k hk
        obtain ⟨hwk, hwt⟩ := hw k (by omega)
        have hbl := bst_lt hT hS (aim := aim) hB hs k (by omega)
        have next := ih (k + 1) (by omega)
        unfold wb_X6_chosen_30
        refine ⟨m_k hM, M_st (w := 2) hM (by omega) ⟨fun hc => ?_, fun _ => ⟨m_k hM, ?_⟩⟩⟩
        · rw [show mX M f' g 1 (9 * s + 2) = nI (mny M s) from hm.1] at hc
          exact absurd hc (nI_ge (by omega) (by omega))
        · rw [show (5 : Int32) + nI k = nI (5 + k) from nI_add 5 k]
          refine M_st (w := 5 + k) hM (by omega) ⟨m_k hM, ?_⟩
          rw [show mX M f' g 1 (9 * s + (5 + k)) = nI (way M s k) from hwk]
          refine M_timeBy hM hN hT hS hE (fun v x hx => by have := hB v x hx; omega) hwt haim ?_
          have e : bst M (dD M aim) s aim (k + 1) = bStep M (dD M aim) s aim (bst M (dD M aim) s aim k) k := rfl
          cases hx : tmO M (dD M aim) aim (way M s k) with
          | none =>
            have e2 : bst M (dD M aim) s aim (k + 1) = bst M (dD M aim) s aim k := by rw [e]; unfold bStep; rw [hx]
            rw [e2] at next
            refine ⟨fun _ => ?_, fun q => absurd rfl q⟩
            show wb_X6_chosen_30 post (n + 1) μ (nI s) (nI aim) _ _ (nI k + 1) _
            rw [nI_1]
            exact next
          | some x =>
            have hxb := tmO_lt hT hS hB hwt hx
            refine ⟨fun q => absurd q (nI_neN1 (by omega)), fun _ => ?_⟩
            cases ho : bst M (dD M aim) s aim k with
            | none =>
              have e2 : bst M (dD M aim) s aim (k + 1) = some (k, x) := by rw [e]; unfold bStep; rw [hx, ho]
              rw [e2] at next
              refine ⟨fun _ => ?_, fun q => absurd rfl q⟩
              show wb_X6_chosen_30 post (n + 1) μ (nI s) (nI aim) (nI k) (nI x) (nI k + 1) _
              rw [nI_1]
              exact next
            | some q =>
              obtain ⟨hq1, hq2⟩ := hbl q ho
              refine ⟨fun q' => absurd q' (nI_neN1 (by omega)), fun _ => ⟨fun hlt => ?_, fun hlt => ?_⟩⟩
              · have hl : x < q.2 := (nI_ltI (by omega) (by omega)).mp hlt
                have e2 : bst M (dD M aim) s aim (k + 1) = some (k, x) := by rw [e]; unfold bStep; rw [hx, ho]; exact if_pos hl
                rw [e2] at next
                show wb_X6_chosen_30 post (n + 1) μ (nI s) (nI aim) (nI k) (nI x) (nI k + 1) _
                rw [nI_1]
                exact next
              · have hl : ¬ x < q.2 := fun q' => hlt ((nI_ltI (by omega) (by omega)).mpr q')
                have e2 : bst M (dD M aim) s aim (k + 1) = some q := by rw [e]; unfold bStep; rw [hx, ho]; exact if_neg hl
                rw [e2] at next
                show wb_X6_chosen_30 post (n + 1) μ (nI s) (nI aim) (nI q.1) (nI q.2) (nI k + 1) _
                rw [nI_1]
                exact next
    exact loop (mny M s) 0 (by omega)
  · have := h f
    unfold chM at this
    rw [if_neg (show ¬ M 1 (9 * s + 3) = -1 from hne)] at this
    exact this
abbrev canS (M : Nat → Nat → Int32) (n s : Nat) : Prop := nI n < M 1 (9 * s + 0) ∧ M 0 14 < 40 ∧ M 0 5 < 500
theorem M_canSend (hM : mOK μ r S) {al Ln : List Nat} (hA : mAc M al) {s : Nat} (hs : s < 14) (hp : Ln.Perm (al.filter (atS M (nI s)))) {post : Int32 → bS → Prop} (h : post (if canS M Ln.length s then 1 else 0) (mW μ r S M)) : wp_X6_canSend post μ (nI s) (mW μ r S M) := by
  refine ⟨m_k hM, M_manyAt hM hA ⟨m_k hM, M_st (w := 0) hM (by omega) ?_⟩⟩
  rw [mCn_perm (fun c => rfl) hp]
  refine ⟨fun hle => ?_, fun hgt => ⟨m_k hM, fun h40 => ?_, fun h40 => ⟨fun h5 => ?_, fun h5 => ?_⟩⟩⟩
  · rw [if_neg (fun q => absurd hle (Int32.not_le.mpr q.1))] at h
    exact ⟨Or.inl rfl, h⟩
  · rw [mW_V0] at h40
    rw [if_neg (fun q => absurd h40 (Int32.not_le.mpr q.2.1))] at h
    exact ⟨Or.inl rfl, h⟩
  · rw [mW_V0] at h5
    rw [if_neg (fun q => absurd h5 (Int32.not_le.mpr q.2.2))] at h
    exact ⟨Or.inl rfl, h⟩
  · rw [mW_V0] at h40 h5
    rw [if_pos ⟨Int32.not_le.mp hgt, Int32.not_le.mp h40, Int32.not_le.mp h5⟩] at h
    exact ⟨Or.inr rfl, h⟩
/-- a sending, on the numbers -/
def sndM (M : Nat → Nat → Int32) (s : Nat) (aim rank : Int32) : Nat → Nat → Int32 :=
  mU (mU (pM (mU (mU (mU (mU (mU M 0 5 (M 0 5 + 1)) 4 (9 * nC M + 2) aim) 4 (9 * nC M + 3) rank) 4 (9 * nC M + 4) (M 0 1)) 4 (9 * nC M + 6) 0) (nC M) 1 (nI s)) 5 (u (M 0 14)) (nI (nC M))) 0 14 (M 0 14 + 1)
theorem M_sendOff (hM : mOK μ r S) (h5 : M 0 5 = nI (nC M)) (h500 : nC M < 500) {n : Nat} (h14 : M 0 14 = nI n) (h40 : n < 40) {s : Nat} {aim rank : Int32} {post : bS → Prop} (h : post (mW μ r S (sndM M s aim rank))) : wp_X6_sendOff post μ (nI s) aim rank (mW μ r S M) := by
  refine ⟨m_k hM, ?_⟩
  rw [mW_V0, sW_0, h5]
  refine M_set (w := 2) hM (by omega) ⟨m_k hM, M_set (w := 3) hM (by omega) ⟨m_k hM, ?_⟩⟩
  rw [mW_V0]
  refine M_set (w := 4) hM (by omega) ⟨m_k hM, M_set (w := 6) hM (by omega) ⟨m_k hM, M_put hM h500 ⟨m_k hM, r 5, (m_q hM).2.2.2.2.1, mW_k5 hM, ?_, ?_⟩⟩⟩
  · rw [mW_V0, mW_n5 hM]
    simp (disch := omega) only [pM, mU_s, mU_r, mU_c]
    rw [h14]
    exact vp_in_nI (by omega) (by omega)
  · rw [mW_V0, sW_5 hM, mW_V0, sW_0]
    unfold sndM at h
    simp (disch := omega) only [pM, mU_s, mU_r, mU_c] at h ⊢
    rw [h5] at h
    exact h
end MODEL8
