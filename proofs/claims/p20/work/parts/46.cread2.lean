section CREAD2
variable {S : bS} {A : Nat → Nat → Nat} {cp : Nat → Nat} {P : pP} {B K : Nat}
theorem C_atEnd (h : cR S A cp P) (hw : wI B K P.1 P.2) {t : Nat} (ht : t < nT P.1) {post : Int32 → bS → Prop} (hp : post (if jamB P t then 1 else 0) S) : wp_X4_isFirstAtEnd post (A 2 t) (P.1 0 1) S := by
  have h30 := hw.1.2.1.2
  obtain ⟨t0, -, -, -, -, -, t5, -⟩ := h.1.2.2.2.2.1 t ht
  obtain ⟨e, hL⟩ := cl_at h (i := 32 + t) (Or.inr (Or.inr (Or.inr ⟨by omega, by omega⟩)))
  have hL0 := hL
  rw [ls_i] at hL
  unfold jamB at hp
  refine ⟨t0, _, t5, hL.1, C_isEmpty hL ?_⟩
  cases hI : P.2 (15 + t) with
  | nil =>
    rw [hI] at hp
    exact ⟨fun q => absurd (show (1 : Int32) = 0 from q) (by decide), fun _ => hp⟩
  | cons c rest =>
    rw [hI] at hp
    have hc : c ∈ P.2 (15 + t) := by rw [hI]; exact List.mem_cons_self
    obtain ⟨-, c2, -, c4, -⟩ := w_in hw (by omega) hc
    obtain ⟨k0, -, -, -, -, -, -, k6, k7, -⟩ := h.1.2.2.2.2.2.1 c c4
    rw [if_neg (by simp)]
    refine ⟨fun _ => ⟨t0, _, t5, hL.1, C_get (k := 0) (a := A 3 c) hL (by rw [hI]; rfl) ⟨_, rfl, k0, ?_⟩⟩, fun q => absurd rfl q⟩
    rw [k6, k7 c2]
    by_cases hd : dueM P.1 c
    · rw [if_pos (by show decide (dueM P.1 c) = true; exact decide_eq_true hd)] at hp
      exact ⟨fun q => absurd q hd, fun _ => ⟨Or.inr rfl, hp⟩⟩
    · rw [if_neg (by show ¬ decide (dueM P.1 c) = true; simp [hd])] at hp
      refine ⟨fun _ => ⟨Or.inl rfl, hp⟩, fun q => absurd q hd⟩
theorem C_canEnter (h : cR S A cp P) (hw : wI B K P.1 P.2) {t : Nat} (ht : t < nT P.1) (hk0 : ¬ P.1 0 1 = 0) (hk1 : ¬ P.1 0 1 = -1) {post : Int32 → bS → Prop} (hp : post (if ¬ P.1 2 (8 * t + 5) = 0 ∧ nI (P.2 (15 + t)).length < P.1 2 (8 * t + 4) ∧ ¬ P.1 2 (8 * t + 7) = P.1 0 1 then 1 else 0) S) : wp_X4_canBeEnteredAt post (A 2 t) (P.1 0 1) S := by
  have h30 := hw.1.2.1.2
  obtain ⟨t0, -, -, -, -, t4, t5, -, -, t8, -, t10⟩ := h.1.2.2.2.2.1 t ht
  obtain ⟨e, hL⟩ := cl_at h (i := 32 + t) (Or.inr (Or.inr (Or.inr ⟨by omega, by omega⟩)))
  rw [ls_i] at hL
  refine ⟨t0, ?_⟩
  rw [t8]
  refine ⟨fun he => ?_, fun hne => ⟨_, t5, hL.1, C_size hL ⟨t0, ?_⟩⟩⟩
  · rw [if_neg (fun q => q.1 he)] at hp
    exact ⟨Or.inl rfl, hp⟩
  · rw [List.length_map, t4, t10]
    refine ⟨fun hle => ?_, fun hgt => ⟨fun he => ?_, fun hn => ?_⟩⟩
    · rw [if_neg (fun q => absurd hle (Int32.not_le.mpr q.2.1))] at hp
      exact ⟨Or.inl rfl, hp⟩
    · have : P.1 2 (8 * t + 7) = P.1 0 1 := by
        by_cases q : P.1 2 (8 * t + 7) = -1
        · rw [if_pos q] at he
          exact absurd he.symm hk0
        · rw [if_neg q] at he
          exact he
      rw [if_neg (fun q => q.2.2 this)] at hp
      exact ⟨Or.inl rfl, hp⟩
    · have : ¬ P.1 2 (8 * t + 7) = P.1 0 1 := fun q => by
        rw [if_neg (by rw [q]; exact hk1)] at hn
        exact hn q
      rw [if_pos ⟨hne, Int32.not_le.mp hgt, this⟩] at hp
      exact ⟨Or.inr rfl, hp⟩
theorem C_jammed (h : cR S A cp P) (hw : wI B K P.1 P.2) {post : Int32 → bS → Prop} (hp : post (nI (jamN P (nT P.1))) S) : wp_X5_jammedTubes post (A 0 0) S := by
  have h30 := hw.1.2.1.2
  obtain ⟨p0, p1, -, -, p4, -⟩ := h.1.1
  obtain ⟨n0, -, n1, -⟩ := h.1.2.1
  obtain ⟨e, hL⟩ := cl_at h (i := 1) (Or.inl (by decide))
  have loop : ∀ (n k : Nat), k + n = nT P.1 → wb_X5_jammedTubes_4 post (n + 1) (A 0 0) (nI (jamN P k)) (nI k) S := by
    intro n
    induction n with
    | zero =>
      intro k hk
      have hk' : k = nT P.1 := by omega
      subst hk'
      unfold wb_X5_jammedTubes_4
      refine ⟨p0, _, p1, n0, _, n1, hL.1, C_size hL ?_⟩
      rw [ls_1, List.length_map, List.length_range]
      exact ⟨fun _ => hp, fun q => absurd (nI_le (Nat.le_refl _) (by omega)) q⟩
    | succ n ih =>
      intro k hk
      have next := ih (k + 1) (by omega)
      unfold wb_X5_jammedTubes_4
      refine ⟨p0, _, p1, n0, _, n1, hL.1, C_size hL ?_⟩
      rw [ls_1, List.length_map, List.length_range]
      refine ⟨fun q => absurd q (nI_ge (by omega) (by omega)), fun _ => ⟨p0, _, p1, n0, _, n1, hL.1, C_getTu h (s := k) (by omega) ⟨_, rfl, (h.1.2.2.2.2.1 k (by omega)).1, p0, ?_⟩⟩⟩
      rw [p4]
      refine C_atEnd h hw (by omega) ?_
      have e2 : jamN P (k + 1) = jamN P k + if jamB P k then 1 else 0 := rfl
      by_cases hj : jamB P k = true
      · rw [if_pos hj] at e2 ⊢
        refine ⟨fun q => absurd q (by decide), fun _ => ?_⟩
        show wb_X5_jammedTubes_4 post (n + 1) (A 0 0) (nI (jamN P k) + 1) (nI k + 1) S
        rw [nI_1, nI_1 k, ← e2]
        exact next
      · rw [if_neg hj] at e2 ⊢
        refine ⟨fun _ => ?_, fun q => absurd rfl q⟩
        show wb_X5_jammedTubes_4 post (n + 1) (A 0 0) (nI (jamN P k)) (nI k + 1) S
        rw [nI_1 k]
        rw [e2, Nat.add_zero] at next
        exact next
  exact ⟨nT P.1 + 1, loop (nT P.1) 0 (by omega)⟩
end CREAD2
