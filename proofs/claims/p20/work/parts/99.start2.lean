/-! ===== the start out of the Statement's words ===== -/
theorem bNw_in : ∀ w ∈ bNw, w ∈ lw_tbl := by decide +kernel
theorem bNw_tab : ∀ w ∈ bNw, w.onTables = true := by decide +kernel
theorem bStr_in : ∀ q ∈ bStr, Cond.stringRef q.1 q.2.1 q.2.2 ∈ lw_tbl := by decide +kernel
theorem bStr_ex : ∀ q ∈ bStr, Cond.exactly (.string q.1 q.2.1) "java/lang/String" ∈ flatC (Jvm.Cond.and given_1 narrow_1) := by decide +kernel
/-- the start's store: nothing but the lists' empty row -/
def sZ (z : Nat) : bS := ((fun a => if a = z then 14 else 0), (fun _ => 0), (fun _ _ _ => 0), (fun _ _ _ => none), (fun _ _ => 0))
theorem gK_sZ (z a : Nat) : gK (sZ z) a = if a = z then 14 else 0 := rfl
theorem ce_sZ {y : Nat → ClassId} {z a : Nat} : ce y (sZ z) a = none := by
  unfold ce
  rw [gK_sZ]
  by_cases q : a = z
  · rw [if_pos q]
    rfl
  · rw [if_neg q]
    rfl
theorem wk_sZ (z : Nat) : wk z (sZ z) := by
  refine ⟨fun a => ?_, rfl, fun a => ?_⟩
  · rw [gK_sZ]
    by_cases q : a = z
    · rw [if_pos q]
      exact ⟨fun _ => q, fun _ => rfl⟩
    · rw [if_neg q]
      exact ⟨fun h => (by cases h), fun h => absurd h q⟩
  · rw [gK_sZ]
    by_cases q : a = z
    · rw [if_pos q]
      decide
    · rw [if_neg q]
      exact Nat.zero_le _
theorem arr_class {args : Array Value} {s : State} {t : FieldType} (h : (Cond.arrayClass t).before args s = true) : ∃ c : ClassId, ArrOfT s c t ∧ s.vm.findClass ("[" ++ t.toString) = some c := by
  obtain ⟨c, k, comp, h1, h2, h3⟩ := Cond.arrayClass_spec (args := args) (first := s) (o := none) (s := s) (idx := []) h
  exact ⟨c, fun n z => ⟨fun k h => (by cases h), k, h2, comp, h3⟩, h1⟩
theorem bP_start {s : State} {b : Nat} (hts : ∀ w ∈ lw_tbl, w.before #[Value.ref b] s = true) (hgv : (Jvm.Cond.and given_1 narrow_1).before #[Value.ref b] s = true) : ∃ (D : va_G) (y : Nat → ClassId) (z : Nat), bP D y z (sZ z) (fun q => s.heap.size ≤ q) s := by
  have hs := flat_of_before _ hgv
  have hA0 : ∀ a : Nat, a < s.heap.size → ¬ (fun q : Nat => s.heap.size ≤ q) a := fun a h => Nat.not_le.mpr h
  obtain ⟨c0, i0, k0⟩ := u_known (C := RJx4a65c) (T := TJx4a65c) (N := 3) (n := 3) hts inJx4a65c (hts (.instantiable RJx4a65c 3) (by decide +kernel))
  obtain ⟨c1, i1, k1⟩ := u_known (C := RX0) (T := TX0) (N := 9) (n := 9) hts inX0 (hts (.instantiable RX0 9) (by decide +kernel))
  obtain ⟨c3, i3, k3⟩ := u_known (C := RX2) (T := TX2) (N := 2) (n := 2) hts inX2 (hts (.instantiable RX2 2) (by decide +kernel))
  obtain ⟨c4, i4, k4⟩ := u_known (C := RX3) (T := TX3) (N := 10) (n := 10) hts inX3 (hts (.instantiable RX3 10) (by decide +kernel))
  obtain ⟨c5, i5, k5⟩ := u_known (C := RX4) (T := TX4) (N := 11) (n := 11) hts inX4 (hts (.instantiable RX4 11) (by decide +kernel))
  obtain ⟨c6, i6, k6⟩ := u_known (C := RX5) (T := TX5) (N := 6) (n := 6) hts inX5 (hts (.instantiable RX5 6) (by decide +kernel))
  obtain ⟨c7, i7, k7⟩ := u_known (C := RX7) (T := TX7) (N := 10) (n := 10) hts inX7 (hts (.instantiable RX7 10) (by decide +kernel))
  obtain ⟨dC, dI, hKc⟩ : ∃ (dC : Nat → ClassId) (dI : Nat → Nat → Nat), ∀ (k : Nat) (q : vw_C), bCl[k]? = some q → u_Kn s q.1 q.2.1 q.2.2 (dC k) (dI k) := by
    refine ⟨fun k => match k with | 0 => c0 | 1 => c1 | 2 => c1 | 3 => c3 | 4 => c4 | 5 => c5 | 6 => c6 | _ => c7, fun k => match k with | 0 => i0 | 1 => i1 | 2 => i1 | 3 => i3 | 4 => i4 | 5 => i5 | 6 => i6 | _ => i7, ?_⟩
    intro k q hq
    match k, hq with
    | 0, hq => cases hq; exact k0
    | 1, hq => cases hq; exact k1
    | 2, hq => cases hq; exact k1
    | 3, hq => cases hq; exact k3
    | 4, hq => cases hq; exact k4
    | 5, hq => cases hq; exact k5
    | 6, hq => cases hq; exact k6
    | 7, hq => cases hq; exact k7
    | k + 8, hq => simp [bCl] at hq
  obtain ⟨a0, r0, n0⟩ := arr_class (hts (.arrayClass .int) (by decide +kernel))
  have hO : (Cond.arrayOver (.object "java/lang/Object")).before #[Value.ref b] s = true := hts _ (by decide +kernel)
  obtain ⟨o2, a2, q2, f2, -, g2, h2, n2⟩ := Cond.arrayOver_spec (args := #[Value.ref b]) (first := s) (o := none) (s := s) (idx := []) hO
  obtain ⟨a1, r1, n1⟩ := arr_class (hts (.arrayClass .boolean) (by decide +kernel))
  have hO3 : (Cond.arrayOver (.array .int)).before #[Value.ref b] s = true := hts _ (by decide +kernel)
  have hO4 : (Cond.arrayOver (.object "TubePostLaw$Carrier")).before #[Value.ref b] s = true := hts _ (by decide +kernel)
  have hO5 : (Cond.arrayOver (.array (.object "TubePostLaw$Carrier"))).before #[Value.ref b] s = true := hts _ (by decide +kernel)
  have hO6 : (Cond.arrayOver (.array .boolean)).before #[Value.ref b] s = true := hts _ (by decide +kernel)
  obtain ⟨o3, a3, q3, f3, -, g3, h3, n3⟩ := arrayOverA_spec (args := #[Value.ref b]) (first := s) (o := none) (s := s) (idx := []) hO3
  obtain ⟨o4, a4, q4, f4, -, g4, h4, n4⟩ := Cond.arrayOver_spec (args := #[Value.ref b]) (first := s) (o := none) (s := s) (idx := []) hO4
  obtain ⟨o5, a5, q5, f5, -, g5, h5, n5⟩ := arrayOverA_spec (args := #[Value.ref b]) (first := s) (o := none) (s := s) (idx := []) hO5
  obtain ⟨o6, a6, q6, f6, -, g6, h6, n6⟩ := arrayOverA_spec (args := #[Value.ref b]) (first := s) (o := none) (s := s) (idx := []) hO6
  obtain ⟨y, hT⟩ : ∃ y : Nat → ClassId, ∀ (k : Nat) (q : ClassId × FieldType), (bT y)[k]? = some q → ArrOfT s q.1 q.2 ∧ va_RA s q.1 q.2 := by
    refine ⟨fun k => match k with | 0 => a0 | 1 => a1 | 2 => a2 | 3 => a3 | 4 => a4 | 5 => a5 | _ => a6, ?_⟩
    intro k q hq
    match k, hq with
    | 0, hq => cases hq; exact ⟨r0, n0⟩
    | 1, hq => cases hq; exact ⟨r1, n1⟩
    | 2, hq => cases hq; exact ⟨fun n z => ⟨fun k h => (by cases h), q2, g2, o2, h2⟩, q2, o2, g2, h2, f2, n2⟩
    | 3, hq => cases hq; exact ⟨fun n z => ⟨fun k h => (by cases h), q3, g3, o3, h3⟩, n3⟩
    | 4, hq => cases hq; exact ⟨fun n z => ⟨fun k h => (by cases h), q4, g4, o4, h4⟩, q4, o4, g4, h4, f4, n4⟩
    | 5, hq => cases hq; exact ⟨fun n z => ⟨fun k h => (by cases h), q5, g5, o5, h5⟩, n5⟩
    | 6, hq => cases hq; exact ⟨fun n z => ⟨fun k h => (by cases h), q6, g6, o6, h6⟩, n6⟩
    | k + 7, hq => simp [bT] at hq
  have hN : ∀ w ∈ bNw, va_Nw w s := fun w hw => va_Nw.of (bNw_tab w hw) (hts w (bNw_in w hw))
  obtain ⟨z, hz, hzT⟩ := va_Tof (args := #[Value.ref b]) (s := s) (tm := .static "java/util/ArrayList" "DEFAULTCAPACITY_EMPTY_ELEMENTDATA" "[Ljava/lang/Object;") (ty := .object "java/lang/Object") (N := 0) (f := fun _ => .null) (A := fun q => s.heap.size ≤ q) (by decide) (hs _ (by decide +kernel)) (va_eqt (z := Int32.ofNat 0) (hs _ (by decide +kernel))) (fun j hj => absurd hj (Nat.not_lt_zero j)) hA0
  have hzZ : va_Z "java/util/ArrayList" "DEFAULTCAPACITY_EMPTY_ELEMENTDATA" "[Ljava/lang/Object;" (.ref z) (fun q => s.heap.size ≤ q) s s.heap := va_Zof (hts _ (by decide +kernel)) (hts _ (by decide +kernel)) hz hA0
  have hU : vx_Zq Bundle.tN "UNASSIGNED_STACK" Bundle.steD (fun q => s.heap.size ≤ q) s s.heap := vx_Zqof (hts _ (by decide +kernel)) (hts _ (by decide +kernel)) (hs _ (by decide +kernel)) hA0
  have hL : vx_Zq Bundle.tN "SUPPRESSED_SENTINEL" Bundle.listD (fun q => s.heap.size ≤ q) s s.heap := vx_Zqof (hts _ (by decide +kernel)) (hts _ (by decide +kernel)) (hs _ (by decide +kernel)) hA0
  have hMi := va_Mi.of (C := "[Ljava/lang/Object;") (hs _ (by decide +kernel))
  have hzA : ¬ s.heap.size ≤ z := by
    obtain ⟨-, -, -, -, -, -, -, h⟩ := hzT
    exact h
  refine ⟨(dC, dI), y, z, ⟨⟨[], fun k q h => by simp at h, ⟨fun i j p q h => by simp at h, fun k q h => by simp at h⟩, fun a e h => by rw [ce_sZ] at h; cases h⟩, wk_sZ z⟩, ⟨hKc, hT⟩, hN, fun q h => h, hzA, ⟨va_AO.of hO, hN, ⟨hO3, hO6, hO5, va_AO.of hO4⟩, va_Dc.of (hts _ (by decide +kernel)), hMi, fun q hq => ?_, fun q hq => absurd hq (by simp [bNc])⟩, hzZ, hzT, hU, hL⟩
  obtain ⟨sa, c, cell, k, e, -⟩ := Cond.exactly_spec (args := #[Value.ref b]) (first := s) (o := none) (s := s) (idx := []) (t := .string q.1 q.2.1) (cls := "java/lang/String") (hs _ (bStr_ex q hq))
  exact ⟨sa, hts _ (bStr_in q hq), e⟩
