section CDIG
variable {S : bS} {A : Nat → Nat → Nat} {cp : Nat → Nat} {P : pP} {B K : Nat}
theorem C_mean (h : cR S A cp P) {post : UInt64 → bS → Prop} (hp : ∀ v, meanOK P.1 v → post v S) : wp_X5_mean post (A 0 0) S := by
  obtain ⟨p0, -, -, -, -, p5, p6⟩ := h.1.1
  unfold wp_X5_mean
  rw [p5, p6]
  refine ⟨p0, fun hne v hv => hp v ?_, fun he => hp _ ?_⟩
  · unfold meanOK
    rw [if_neg hne]
    exact hv
  · unfold meanOK
    rw [if_pos he]
theorem C_digSt (h : cR S A cp P) (hw : wI B K P.1 P.2) {s MC MS : Nat} (hs : s < nS P.1) {d : Int64} {post : Int64 → bS → Prop} {xp : String → bS → Prop} (hp : post (dgS P s d) S) : wp_X5_digestStation post xp MC MS (A 0 0) d (nI s) S := by
  have h14 := hw.1.1.2
  obtain ⟨p0, -⟩ := h.1.1
  have hlen := len_at hw (t := s) (by omega)
  have ixs : ixO (nI s) (nS P.1) = some s := ixO_nI (by omega) hs
  have lin : ∀ (n k : Nat), k + n = (P.2 (1 + s)).length → wb_X5_digestStation_47 post xp (n + 1) MC MS (A 0 0) (nI s) (dgF (fun k => nI ((P.2 (1 + s)).getD k 0)) (dgF (staR P s) d 6) k) (nI (P.2 (1 + s)).length) (nI k) S := by
    intro n
    induction n with
    | zero =>
      intro k hk
      have hk' : k = (P.2 (1 + s)).length := by omega
      subst hk'
      unfold wb_X5_digestStation_47
      exact ⟨fun _ => hp, fun q => absurd (nI_le (Nat.le_refl _) (by omega)) q⟩
    | succ n ih =>
      intro k hk
      unfold wb_X5_digestStation_47
      refine ⟨fun q => absurd q (nI_ge (by omega) (by omega)), fun _ => ⟨p0, 0, 0, Nat.zero_le _, Nat.zero_le _, C_there h hw (fun a k' ha hk' => ?_) (fun q => ?_)⟩⟩
      · rw [ixs] at ha
        cases ha
        rw [ixO_nI (by omega) (by omega)] at hk'
        cases hk'
        rw [nI_1 k]
        exact ih (k + 1) (by omega)
      · have := q s ixs
        rw [ixO_nI (by omega) (by omega)] at this
        cases this
  have sta : ∀ (n w : Nat), w + n = 6 → wb_X5_digestStation_6 post xp (n + 1) MC MS (A 0 0) (nI s) (dgF (staR P s) d w) (nI w) S := by
    intro n
    induction n with
    | zero =>
      intro w hw6
      have hw' : w = 6 := by omega
      subst hw'
      unfold wb_X5_digestStation_6
      refine ⟨fun _ => ⟨p0, 0, 0, Nat.zero_le _, Nat.zero_le _, C_station h hw (fun i k hi hk => ⟨(P.2 (1 + s)).length + 1, ?_⟩) (fun q => ?_)⟩, fun q => absurd (by decide) q⟩
      · rw [ixs] at hi
        cases hi
        have hk4 : k = 4 := by
          have : ixO (4 : Int32) 6 = some 4 := by decide
          rw [this] at hk
          cases hk
          rfl
        subst hk4
        exact lin (P.2 (1 + s)).length 0 (by omega)
      · rcases q with q | q
        · rw [ixs] at q; cases q
        · have : ixO (4 : Int32) 6 = some 4 := by decide
          rw [this] at q
          cases q
    | succ n ih =>
      intro w hw6
      unfold wb_X5_digestStation_6
      refine ⟨fun q => absurd ((nI_leI (a := 6) (by decide) (by omega)).mp q) (by omega), fun _ => ⟨p0, 0, 0, Nat.zero_le _, Nat.zero_le _, C_station h hw (fun i k hi hk => ?_) (fun q => ?_)⟩⟩
      · rw [ixs] at hi
        cases hi
        rw [ixO_nI (by decide) (by omega)] at hk
        cases hk
        rw [nI_1 w]
        exact ih (w + 1) (by omega)
      · rcases q with q | q
        · rw [ixs] at q; cases q
        · rw [ixO_nI (by decide) (by omega)] at q
          cases q
  exact ⟨7, sta 6 0 (by omega)⟩
theorem C_digest (h : cR S A cp P) (hw : wI B K P.1 P.2) {MC MS : Nat} {post : Int64 → bS → Prop} {xp : String → bS → Prop} (hp : post (dgP P) S) : wp_X5_digest post xp MC MS (A 0 0) S := by
  have h14 := hw.1.1.2
  have h30 := hw.1.2.1.2
  have h500 := hw.1.2.2.2.2
  obtain ⟨p0, p1, -, p3, -⟩ := h.1.1
  obtain ⟨n0, n1, n2, -⟩ := h.1.2.1
  obtain ⟨e0, hL0⟩ := cl_at h (i := 0) (Or.inl (by decide))
  obtain ⟨e1, hL1⟩ := cl_at h (i := 1) (Or.inl (by decide))
  obtain ⟨e3, hL3⟩ := cl_at h (i := 3) (Or.inl (by decide))
  rw [ls_0] at hL0
  rw [ls_1] at hL1
  rw [ls_3] at hL3
  obtain ⟨d1, E1⟩ : ∃ x, x = dgF (cntR P) 457 9 := ⟨_, rfl⟩
  obtain ⟨d2, E2⟩ : ∃ x, x = dgG (dgS P) d1 (nS P.1) := ⟨_, rfl⟩
  obtain ⟨d3, E3⟩ : ∃ x, x = dgG (fun t d => dgF (tubR P t) d 9) d2 (nT P.1) := ⟨_, rfl⟩
  have eP : dgP P = dgG (fun c d => dgF (fun w => P.1 4 (9 * c + w)) d 7) d3 (nC P.1) := by rw [E3, E2, E1]; rfl
  rw [eP] at hp
  have car1 : ∀ (c : Nat) (d : Int64) (rec : Nat → Nat → Nat → Int64 → Int32 → bS → Prop), c < nC P.1 → rec MC MS (A 0 0) (dgF (fun w => P.1 4 (9 * c + w)) d 7) (nI c + 1) S → ∀ (n w : Nat), w + n = 7 → wb_X5_digest_129 post xp rec (n + 1) MC MS (A 0 0) (dgF (fun w => P.1 4 (9 * c + w)) d w) (nI c) (nI w) S := by
    intro c d rec hc hr n
    induction n with
    | zero =>
      intro w hw7
      have hw' : w = 7 := by omega
      subst hw'
      unfold wb_X5_digest_129
      exact ⟨fun _ => hr, fun q => absurd (by decide) q⟩
    | succ n ih =>
      intro w hw7
      unfold wb_X5_digest_129
      refine ⟨fun q => absurd ((nI_leI (a := 7) (by decide) (by omega)).mp q) (by omega), fun _ => ⟨p0, 0, 0, Nat.zero_le _, Nat.zero_le _, C_carrier h hw (fun i k hi hk => ?_) (fun q => ?_)⟩⟩
      · rw [ixO_nI (by omega) hc] at hi
        cases hi
        rw [ixO_nI (by decide) (by omega)] at hk
        cases hk
        rw [nI_1 w]
        exact ih (w + 1) (by omega)
      · rcases q with q | q
        · rw [ixO_nI (by omega) hc] at q; cases q
        · rw [ixO_nI (by decide) (by omega)] at q; cases q
  have car : ∀ (n c : Nat), c + n = nC P.1 → wb_X5_digest_115 post xp (n + 1) MC MS (A 0 0) (dgG (fun c d => dgF (fun w => P.1 4 (9 * c + w)) d 7) d3 c) (nI c) S := by
    intro n
    induction n with
    | zero =>
      intro c hc
      have hc' : c = nC P.1 := by omega
      subst hc'
      unfold wb_X5_digest_115
      refine ⟨p0, _, p3, hL3.1, C_size hL3 ?_⟩
      rw [List.length_map, List.length_range]
      exact ⟨fun _ => hp, fun q => absurd (nI_le (Nat.le_refl _) (by omega)) q⟩
    | succ n ih =>
      intro c hc
      unfold wb_X5_digest_115
      refine ⟨p0, _, p3, hL3.1, C_size hL3 ?_⟩
      rw [List.length_map, List.length_range]
      refine ⟨fun q => absurd q (nI_ge (by omega) (by omega)), fun _ => ⟨8, car1 c _ _ (by omega) ?_ 7 0 (by omega)⟩⟩
      rw [nI_1 c]
      exact ih (c + 1) (by omega)
  have tub1 : ∀ (c : Nat) (d : Int64) (rec : Nat → Nat → Nat → Int64 → Int32 → bS → Prop), c < nT P.1 → rec MC MS (A 0 0) (dgF (tubR P c) d 9) (nI c + 1) S → ∀ (n w : Nat), w + n = 9 → wb_X5_digest_79 post xp rec (n + 1) MC MS (A 0 0) (dgF (tubR P c) d w) (nI c) (nI w) S := by
    intro c d rec hc hr n
    induction n with
    | zero =>
      intro w hw7
      have hw' : w = 9 := by omega
      subst hw'
      unfold wb_X5_digest_79
      exact ⟨fun _ => hr, fun q => absurd (by decide) q⟩
    | succ n ih =>
      intro w hw7
      unfold wb_X5_digest_79
      refine ⟨fun q => absurd ((nI_leI (a := 9) (by decide) (by omega)).mp q) (by omega), fun _ => ⟨p0, 0, 0, Nat.zero_le _, Nat.zero_le _, C_tube h hw (fun i k hi hk => ?_) (fun q => ?_)⟩⟩
      · rw [ixO_nI (by omega) hc] at hi
        cases hi
        rw [ixO_nI (by decide) (by omega)] at hk
        cases hk
        rw [nI_1 w]
        exact ih (w + 1) (by omega)
      · rcases q with q | q
        · rw [ixO_nI (by omega) hc] at q; cases q
        · rw [ixO_nI (by decide) (by omega)] at q; cases q
  have tub : ∀ (n c : Nat), c + n = nT P.1 → wb_X5_digest_62 post xp (n + 1) MC MS (A 0 0) (dgG (fun t d => dgF (tubR P t) d 9) d2 c) (nI c) S := by
    intro n
    induction n with
    | zero =>
      intro c hc
      have hc' : c = nT P.1 := by omega
      subst hc'
      unfold wb_X5_digest_62
      refine ⟨p0, _, p1, n0, _, n2, hL1.1, C_size hL1 ?_⟩
      rw [List.length_map, List.length_range]
      refine ⟨fun _ => ⟨nC P.1 + 1, ?_⟩, fun q => absurd (nI_le (Nat.le_refl _) (by omega)) q⟩
      rw [← E3]
      exact car (nC P.1) 0 (by omega)
    | succ n ih =>
      intro c hc
      unfold wb_X5_digest_62
      refine ⟨p0, _, p1, n0, _, n2, hL1.1, C_size hL1 ?_⟩
      rw [List.length_map, List.length_range]
      refine ⟨fun q => absurd q (nI_ge (by omega) (by omega)), fun _ => ⟨10, tub1 c _ _ (by omega) ?_ 9 0 (by omega)⟩⟩
      rw [nI_1 c]
      exact ih (c + 1) (by omega)
  have sta : ∀ (n c : Nat), c + n = nS P.1 → wb_X5_digest_33 post xp (n + 1) MC MS (A 0 0) (dgG (dgS P) d1 c) (nI c) S := by
    intro n
    induction n with
    | zero =>
      intro c hc
      have hc' : c = nS P.1 := by omega
      subst hc'
      unfold wb_X5_digest_33
      refine ⟨p0, _, p1, n0, _, n1, hL0.1, C_size hL0 ?_⟩
      rw [List.length_map, List.length_range]
      refine ⟨fun _ => ⟨nT P.1 + 1, ?_⟩, fun q => absurd (nI_le (Nat.le_refl _) (by omega)) q⟩
      rw [← E2]
      exact tub (nT P.1) 0 (by omega)
    | succ n ih =>
      intro c hc
      unfold wb_X5_digest_33
      refine ⟨p0, _, p1, n0, _, n1, hL0.1, C_size hL0 ?_⟩
      rw [List.length_map, List.length_range]
      refine ⟨fun q => absurd q (nI_ge (by omega) (by omega)), fun _ => ⟨p0, 0, 0, Nat.zero_le _, Nat.zero_le _, C_digSt h hw (s := c) (by omega) ?_⟩⟩
      rw [nI_1 c]
      exact ih (c + 1) (by omega)
  have cnt : ∀ (n w : Nat), w + n = 9 → wb_X5_digest_6 post xp (n + 1) MC MS (A 0 0) (dgF (cntR P) 457 w) (nI w) S := by
    intro n
    induction n with
    | zero =>
      intro w hw9
      have hw' : w = 9 := by omega
      subst hw'
      unfold wb_X5_digest_6
      refine ⟨fun _ => ⟨nS P.1 + 1, ?_⟩, fun q => absurd (by decide) q⟩
      rw [← E1]
      exact sta (nS P.1) 0 (by omega)
    | succ n ih =>
      intro w hw9
      unfold wb_X5_digest_6
      refine ⟨fun q => absurd ((nI_leI (a := 9) (by decide) (by omega)).mp q) (by omega), fun _ => ⟨p0, 0, 0, Nat.zero_le _, Nat.zero_le _, C_count h hw (fun k hk => ?_) (fun q => ?_)⟩⟩
      · rw [ixO_nI (by decide) (by omega)] at hk
        cases hk
        rw [nI_1 w]
        exact ih (w + 1) (by omega)
      · rw [ixO_nI (by decide) (by omega)] at q
        cases q
  exact ⟨10, cnt 9 0 (by omega)⟩
end CDIG
