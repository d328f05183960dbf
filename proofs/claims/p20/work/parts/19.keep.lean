def wI (B K : Nat) (M : Nat → Nat → Int32) (L : Nat → List Nat) : Prop := iN M ∧ iT M ∧ iS M ∧ iE M ∧ iA B K M (L 0) ∧ iC M ∧ iL M L ∧ iR M L
theorem hat_1 {M' : Nat → Nat → Int32} {c s : Nat} (h0 : M' 4 (9 * c + 0) = 1) (h1 : M' 4 (9 * c + 1) = nI s) (hs : s < 14) : (∀ s', s' < 14 → atS M' (nI s') c = decide (1 + s' = 1 + s)) ∧ ∀ t, t < 30 → inT M' (nI t) c = decide (15 + t = 1 + s) := by
  refine ⟨fun s' hs' => ?_, fun t ht => ?_⟩
  · unfold atS
    rw [h0, h1]
    by_cases h : s = s'
    · subst h; simp
    · rw [decide_eq_false (p := nI s = nI s') (fun q => h ((nI_eq (by omega) (by omega)).mp q)), decide_eq_false (p := 1 + s' = 1 + s) (by omega)]
      simp
  · unfold inT
    rw [h0, decide_eq_false (p := 15 + t = 1 + s) (by omega)]
    rfl
theorem hat_2 {M' : Nat → Nat → Int32} {c t : Nat} (h0 : M' 4 (9 * c + 0) = 2) (h1 : M' 4 (9 * c + 1) = nI t) (hs : t < 30) : (∀ s', s' < 14 → atS M' (nI s') c = decide (1 + s' = 15 + t)) ∧ ∀ t', t' < 30 → inT M' (nI t') c = decide (15 + t' = 15 + t) := by
  refine ⟨fun s' hs' => ?_, fun t' ht => ?_⟩
  · unfold atS
    rw [h0, decide_eq_false (p := 1 + s' = 15 + t) (by omega)]
    rfl
  · unfold inT
    rw [h0, h1]
    by_cases h : t = t'
    · subst h; simp
    · rw [decide_eq_false (p := nI t = nI t') (fun q => h ((nI_eq (by omega) (by omega)).mp q)), decide_eq_false (p := 15 + t' = 15 + t) (by omega)]
      simp
theorem hat_3 {M' : Nat → Nat → Int32} {c : Nat} (h0 : M' 4 (9 * c + 0) = 3) : (∀ s', s' < 14 → atS M' (nI s') c = decide (1 + s' = 0)) ∧ ∀ t', t' < 30 → inT M' (nI t') c = decide (15 + t' = 0) := by
  refine ⟨fun s' hs' => ?_, fun t' ht => ?_⟩
  · unfold atS
    rw [h0, decide_eq_false (p := 1 + s' = 0) (by omega)]
    rfl
  · unfold inT
    rw [h0, decide_eq_false (p := 15 + t' = 0) (by omega)]
    rfl
theorem iR_put {M M' : Nat → Nat → Int32} {L : Nat → List Nat} {al' : List Nat} {c tgt : Nat} (h14 : nS M ≤ 14) (h30 : nT M ≤ 30) (hR : iR M L) (h2 : M' 0 2 = M 0 2) (h3 : M' 0 3 = M 0 3) (hr : ∀ s, M' 1 (9 * s + 0) = M 1 (9 * s + 0)) (hb : ∀ t, M' 2 (8 * t + 4) = M 2 (8 * t + 4)) (ht : tgt = 0 ∨ (∃ s, s < nS M ∧ tgt = 1 + s ∧ (L (1 + s)).length < rom M s) ∨ ∃ t, t < nT M ∧ tgt = 15 + t ∧ (L (15 + t)).length < tBo M t) : iR M' (sLst M' L al' c tgt) := by
  obtain ⟨r1, r2, r3, r4⟩ := hR
  have nil : ∀ i, i ≠ 0 → i ≠ tgt → L i = [] → sLst M' L al' c tgt i = [] := fun i h0 h1 h => by
    unfold sLst
    rw [if_neg h0, if_neg h1, h]
    rfl
  have other : ∀ i, i ≠ 0 → i ≠ tgt → (sLst M' L al' c tgt i).length ≤ (L i).length := fun i h0 h1 => by
    unfold sLst
    rw [if_neg h0, if_neg h1]
    exact rem_le _ _
  have more : ∀ i, i ≠ 0 → (sLst M' L al' c tgt i).length ≤ (L i).length + 1 := fun i h0 => by
    have hl := rem_le c (L i)
    unfold sLst
    rw [if_neg h0]
    by_cases q : i = tgt
    · rw [if_pos q]
      split
      · rw [(insR_perm _).length_eq, List.length_cons]
        omega
      · rw [List.length_append, List.length_singleton]
        omega
    · rw [if_neg q]
      omega
  unfold iR nS nT rom tBo at *
  simp only [h2, h3, hr, hb]
  refine ⟨fun s hs => ?_, fun s hs hs2 => ?_, fun t hs => ?_, fun t hs hs2 => ?_⟩
  · by_cases q : 1 + s = tgt
    · rcases ht with e | ⟨s', h1, e, hlt⟩ | ⟨t', h1, e, hlt⟩
      · omega
      · have : s' = s := by omega
        subst this
        have := more (1 + s') (by omega)
        omega
      · omega
    · have := other (1 + s) (by omega) q
      have := r1 s hs
      omega
  · refine nil _ (by omega) (fun q => ?_) (r2 s hs hs2)
    rcases ht with e | ⟨s', h1, e, hlt⟩ | ⟨t', h1, e, hlt⟩ <;> omega
  · by_cases q : 15 + t = tgt
    · rcases ht with e | ⟨s', h1, e, hlt⟩ | ⟨t', h1, e, hlt⟩
      · omega
      · omega
      · have : t' = t := by omega
        subst this
        have := more (15 + t') (by omega)
        omega
    · have := other (15 + t) (by omega) q
      have := r3 t hs
      omega
  · refine nil _ (by omega) (fun q => ?_) (r4 t hs hs2)
    rcases ht with e | ⟨s', h1, e, hlt⟩ | ⟨t', h1, e, hlt⟩ <;> omega
/-- a carrier comes to a station -/
def movM (M : Nat → Nat → Int32) (c s : Nat) : Nat → Nat → Int32 := pM M c 1 (nI s)
def movL (M : Nat → Nat → Int32) (L : Nat → List Nat) (c s : Nat) : Nat → List Nat := sLst (movM M c s) L (L 0) c (1 + s)
theorem wI_mov {B K : Nat} {M : Nat → Nat → Int32} {L : Nat → List Nat} (hK : K + 1 < 2 ^ 31) (h : wI B K M L) {c s : Nat} (hc : c ∈ L 0) (hs : s < nS M) (hr : (L (1 + s)).length < rom M s) : wI B (K + 1) (movM M c s) (movL M L c s) := by
  obtain ⟨hN, hT, hS, hE, ⟨a1, a2, a3, a4, a5, a6, a7, a8⟩, hC, hL, hR⟩ := h
  have h14 := hN.1.2
  have h30 := hN.2.1.2
  obtain ⟨g1, g2⟩ := hat_1 (M' := movM M c s) (c := c) (s := s) (by simp (disch := omega) only [movM, pM, mU_s, mU_r, mU_c]) (by simp (disch := omega) only [movM, pM, mU_s, mU_r, mU_c]) (by omega)
  obtain ⟨p1, p2, p3⟩ := put_inv (M' := movM M c s) (al' := L 0) (c := c) (tgt := 1 + s) hL a4 a7 a8 a2.1 (by omega) (fun d w hd hw => by simp (disch := omega) only [movM, pM, mU_r, mU_c]) (by simp (disch := omega) only [movM, pM, mU_s, mU_r, mU_c]) (by simp (disch := omega) only [movM, pM, mU_s]) g1 g2 a4 rfl (fun _ => hc)
  have e8 : movM M c s 0 8 = M 0 8 + 1 := by simp (disch := omega) only [movM, pM, mU_s]
  have eo : ∀ j, j ≠ 8 → movM M c s 0 j = M 0 j := fun j hj => by simp (disch := omega) only [movM, pM, mU_r, mU_c]
  refine ⟨iN_fr hN (eo 2 (by decide)) (eo 3 (by decide)) (eo 4 (by decide)) (eo 5 (by decide)), iT_fr hT (eo 2 (by decide)) (eo 3 (by decide)) (fun _ _ _ => rfl), iS_fr hS (eo 2 (by decide)) (eo 3 (by decide)) (fun _ _ _ _ => rfl), iE_fr hE (eo 2 (by decide)) (eo 3 (by decide)) (eo 4 (by decide)) (fun _ => rfl) (fun _ => rfl), ⟨?_, ?_, ?_, a4, ?_, ?_, p2, p3⟩, ?_, p1, iR_put h14 h30 hR (eo 2 (by decide)) (eo 3 (by decide)) (fun _ => rfl) (fun _ => rfl) (Or.inr (Or.inl ⟨s, hs, rfl, hr⟩))⟩
  · rw [eo 1 (by decide)]; exact a1
  · rw [e8, a2.1, nI_1, u_nI (by omega)]
    exact ⟨rfl, by omega⟩
  · exact ⟨by rw [eo 14 (by decide)]; exact a3.1, a3.2⟩
  · intro d hd
    have := a5 d hd
    unfold nC at *
    rw [eo 5 (by decide)]
    exact this
  · unfold nC at *
    rw [eo 6 (by decide), eo 5 (by decide)]
    exact a6
  · refine iC_fr hC (eo 2 (by decide)) (eo 5 (by decide)) (eo 1 (by decide)) a1.1 (fun d w hw => ?_) (fun d => ?_)
    · rcases hw with rfl | rfl <;> simp (disch := omega) only [movM, pM, mU_r, mU_c]
    · by_cases q : d = c
      · subst q
        exact Or.inr (by simp (disch := omega) only [movM, pM, mU_s, mU_r, mU_c])
      · exact Or.inl (by simp (disch := omega) only [movM, pM, mU_s, mU_r, mU_c])
