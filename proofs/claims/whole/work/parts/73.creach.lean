/-! ===== the class's reach ===== -/
def rowB (n : Nat) (f : Nat → Int32) (b : Nat → Nat → Bool) : Prop := ∀ i, i < n → ∀ j, j < 32 → bt (f i) j = b i j
section CREACH
variable {S : bS} {A : Nat → Nat → Nat} {cp : Nat → Nat} {P : pP} {B K : Nat}
theorem C_rrIn (h : cR S A cp P) (hw : wI B K P.1 P.2) {row : Nat} (hr : gK S row = 9) (hrn : gN S row = 14) {b : Nat → Nat → Bool} (hself : ∀ i, b i i = true) {k : Nat} (hk : k < nS P.1) {post : bS → Prop} {rec : Nat → Nat → Int32 → bS → Prop} (hp : ∀ f, rowB (nS P.1) f (rW b (k + 1)) → rec (A 0 1) row (nI (k + 1)) (sF S 9 row f)) : ∀ (n i : Nat) (f : Nat → Int32), i + n = nS P.1 → (∀ i', i' < nS P.1 → ∀ j, j < 32 → bt (f i') j = if i' < i then rW b (k + 1) i' j else rW b k i' j) → wb_X2_reckonReach_109 post rec (n + 1) (A 0 1) row (nI k) (nI i) (sF S 9 row f) := by
  have h14 := hw.1.1.2
  obtain ⟨n0, n1, -⟩ := h.1.2.1
  obtain ⟨e, hL⟩ := cl_at h (i := 0) (Or.inl (by decide))
  have hLf : ∀ f, isLe (sF S 9 row f) (A 5 0) e (lsC A P.1 P.2 0) (cp 0) := fun f => hL
  have ek : ∀ i j, rW b (k + 1) i j = (rW b k i j || (rW b k i k && rW b k k j)) := fun _ _ => rfl
  have hkk : rW b k k k = true := rW_r hself k k
  intro n
  induction n with
  | zero =>
    intro i f hi hE
    have hi' : i = nS P.1 := by omega
    subst hi'
    unfold wb_X2_reckonReach_109
    refine ⟨n0, _, n1, hL.1, C_size (hLf f) ⟨fun _ => ?_, fun q => ?_⟩⟩
    · rw [nI_1]
      exact hp f (fun i' hi' j hj => by rw [hE i' hi' j hj, if_pos hi'])
    · rw [ls_0, List.length_map, List.length_range] at q
      exact absurd (nI_le (Nat.le_refl _) (by omega)) q
  | succ n ih =>
    intro i f hi hE
    have hfi : ∀ j, j < 32 → bt (f i) j = rW b k i j := fun j hj => by rw [hE i (by omega) j hj, if_neg (Nat.lt_irrefl i)]
    have hfk : ∀ j, j < 32 → bt (f k) j = rW b k k j := fun j hj => by
      rw [hE k hk j hj]
      by_cases q : k < i
      · rw [if_pos q, ek, hkk]
        simp
      · rw [if_neg q]
    have hin : vp_in (nI i) (gN (sF S 9 row f) row) := by
      rw [gN_sF, hrn]
      exact vp_in_nI (by omega) (by omega)
    unfold wb_X2_reckonReach_109
    refine ⟨n0, _, n1, hL.1, C_size (hLf f) ⟨fun q => ?_, fun _ => ⟨hr, hin, fun hz => ?_, fun hz => ⟨hin, ?_, hin, ?_⟩⟩⟩⟩
    · rw [ls_0, List.length_map, List.length_range] at q
      exact absurd q (nI_ge (by omega) (by omega))
    · rw [nI_clamp (by omega), gV_sFs, bt_test (by omega), hfi k (by omega)] at hz
      show wb_X2_reckonReach_109 post rec (n + 1) (A 0 1) row (nI k) (nI i + 1) (sF S 9 row f)
      rw [nI_1]
      refine ih (i + 1) f (by omega) (fun i' hi' j hj => ?_)
      rw [hE i' hi' j hj]
      by_cases q : i' = i
      · subst q
        rw [if_neg (Nat.lt_irrefl _), if_pos (by omega), ek, hz]
        simp
      · by_cases q2 : i' < i
        · rw [if_pos q2, if_pos (by omega)]
        · rw [if_neg q2, if_neg (by omega)]
    · rw [gN_sF, hrn]
      exact vp_in_nI (by omega) (by omega)
    · rw [nI_clamp (n := i) (by omega), gV_sFs, bt_test (by omega), hfi k (by omega)] at hz
      have hz' : rW b k i k = true := by
        cases q : rW b k i k with
        | true => rfl
        | false => exact absurd q hz
      show wb_X2_reckonReach_109 post rec (n + 1) (A 0 1) row (nI k) (nI i + 1) (sV (sF S 9 row f) 9 row (Int32.toNatClampNeg (nI i)) (gV (sF S 9 row f) 9 row (Int32.toNatClampNeg (nI i)) ||| gV (sF S 9 row f) 9 row (Int32.toNatClampNeg (nI k))))
      rw [nI_clamp (n := i) (by omega), nI_clamp (n := k) (by omega), gV_sFs, gV_sFs, sV_sF, nI_1]
      refine ih (i + 1) _ (by omega) (fun i' hi' j hj => ?_)
      by_cases q : i' = i
      · subst q
        rw [pk_us, b_or, hfi j hj, hfk j hj, if_pos (by omega), ek, hz']
        simp
      · rw [pk_un q, hE i' hi' j hj]
        by_cases q2 : i' < i
        · rw [if_pos q2, if_pos (by omega)]
        · rw [if_neg q2, if_neg (by omega)]
theorem C_rrOut (h : cR S A cp P) (hw : wI B K P.1 P.2) {row : Nat} (hr : gK S row = 9) (hrn : gN S row = 14) {b : Nat → Nat → Bool} (hself : ∀ i, b i i = true) {post : bS → Prop} (hp : ∀ f, rowB (nS P.1) f (rW b (nS P.1)) → post (sF S 9 row f)) : ∀ (n k : Nat) (f : Nat → Int32), k + n = nS P.1 → rowB (nS P.1) f (rW b k) → wb_X2_reckonReach_95 post (n + 1) (A 0 1) row (nI k) (sF S 9 row f) := by
  have h14 := hw.1.1.2
  obtain ⟨n0, n1, -⟩ := h.1.2.1
  obtain ⟨e, hL⟩ := cl_at h (i := 0) (Or.inl (by decide))
  have hLf : ∀ f, isLe (sF S 9 row f) (A 5 0) e (lsC A P.1 P.2 0) (cp 0) := fun f => hL
  intro n
  induction n with
  | zero =>
    intro k f hk hE
    have hk' : k = nS P.1 := by omega
    subst hk'
    unfold wb_X2_reckonReach_95
    refine ⟨n0, _, n1, hL.1, C_size (hLf f) ⟨fun _ => hp f hE, fun q => ?_⟩⟩
    rw [ls_0, List.length_map, List.length_range] at q
    exact absurd (nI_le (Nat.le_refl _) (by omega)) q
  | succ n ih =>
    intro k f hk hE
    unfold wb_X2_reckonReach_95
    refine ⟨n0, _, n1, hL.1, C_size (hLf f) ⟨fun q => ?_, fun _ => ⟨nS P.1 + 1, ?_⟩⟩⟩
    · rw [ls_0, List.length_map, List.length_range] at q
      exact absurd q (nI_ge (by omega) (by omega))
    · exact C_rrIn h hw hr hrn hself (k := k) (by omega) (fun f' hE' => ih (k + 1) f' (by omega) hE') (nS P.1) 0 f (by omega) (fun i' hi' j hj => by rw [hE i' hi' j hj, if_neg (Nat.not_lt_zero _)])
theorem C_reckon (h : cR S A cp P) (hw : wI B K P.1 P.2) {row : Nat} (hr : gK S row = 9) (hrn : gN S row = 14) {lo : Int32} {o : Nat → Bool} (ho : ∀ t, t < nT P.1 → o t = (tOp P.1 t && decide (¬ nI t = lo))) {post : bS → Prop} (hp : ∀ f, rowB (nS P.1) f (rW (rA (tFr P.1) (tTo P.1) o (nT P.1)) (nS P.1)) → post (sF S 9 row f)) : wp_X2_reckonReach post (A 0 1) row lo S := by
  have h14 := hw.1.1.2
  have h30 := hw.1.2.1.2
  obtain ⟨n0, n1, n2, -⟩ := h.1.2.1
  obtain ⟨e, hL⟩ := cl_at h (i := 0) (Or.inl (by decide))
  obtain ⟨e1, hL1⟩ := cl_at h (i := 1) (Or.inl (by decide))
  have hLf : ∀ f, isLe (sF S 9 row f) (A 5 0) e (lsC A P.1 P.2 0) (cp 0) := fun f => hL
  have hLf1 : ∀ f, isLe (sF S 9 row f) (A 5 1) e1 (lsC A P.1 P.2 1) (cp 1) := fun f => hL1
  have tubes : ∀ (n t : Nat) (f : Nat → Int32), t + n = nT P.1 → rowB (nS P.1) f (rA (tFr P.1) (tTo P.1) o t) → wb_X2_reckonReach_27 post (n + 1) (A 0 1) row lo (nI t) (sF S 9 row f) := by
    intro n
    induction n with
    | zero =>
      intro t f ht hE
      have ht' : t = nT P.1 := by omega
      subst ht'
      unfold wb_X2_reckonReach_27
      refine ⟨n0, _, n2, hL1.1, C_size (hLf1 f) ⟨fun _ => ⟨nS P.1 + 1, C_rrOut h hw hr hrn (rA_self (nT P.1)) hp (nS P.1) 0 f (by omega) hE⟩, fun q => ?_⟩⟩
      rw [ls_1, List.length_map, List.length_range] at q
      exact absurd (nI_le (Nat.le_refl _) (by omega)) q
    | succ n ih =>
      intro t f ht hE
      have htT : t < nT P.1 := by omega
      obtain ⟨x1, x2, -⟩ := hw.2.1 t htT
      obtain ⟨t0, -, t1, t2, -, -, -, -, -, t8, -⟩ := h.1.2.2.2.2.1 t htT
      obtain ⟨s0, s1, -⟩ := h.1.2.2.2.1 _ x1.2
      obtain ⟨z0, z1, -⟩ := h.1.2.2.2.1 _ x2.2
      have skip : o t = false → wb_X2_reckonReach_87 post (wb_X2_reckonReach_27 post (n + 1)) (A 0 1) row lo (nI t) (sF S 9 row f) := by
        intro hot
        show wb_X2_reckonReach_27 post (n + 1) (A 0 1) row lo (nI t + 1) (sF S 9 row f)
        rw [nI_1]
        refine ih (t + 1) f (by omega) (fun i hi j hj => ?_)
        rw [hE i hi j hj]
        show _ = (rA (tFr P.1) (tTo P.1) o t i j || (o t && (decide (tFr P.1 t = i) && decide (tTo P.1 t = j))))
        rw [hot]
        simp
      have hin : vp_in (nI (tFr P.1 t)) (gN (sF S 9 row f) row) := by
        rw [gN_sF, hrn]
        exact vp_in_nI (by omega) (by omega)
      have g1 : gV (sF S 9 row f) 5 (A 1 (tFr P.1 t)) 0 = nI (tFr P.1 t) := s1
      have g2 : gV (sF S 9 row f) 5 (A 1 (tTo P.1 t)) 0 = nI (tTo P.1 t) := z1
      have g8 : gV (sF S 9 row f) 6 (A 2 t) 8 = P.1 2 (8 * t + 5) := t8
      unfold wb_X2_reckonReach_27
      refine ⟨n0, _, n2, hL1.1, C_size (hLf1 f) ⟨fun q => ?_, fun _ => ⟨n0, _, n2, hL1.1, C_get (a := A 2 t) (hLf1 f) (by rw [ls_1]; exact rng_at htT) ⟨_, rfl, t0, ?_⟩⟩⟩⟩
      · rw [ls_1, List.length_map, List.length_range] at q
        exact absurd q (nI_ge (by omega) (by omega))
      · rw [g8]
        refine ⟨fun hz => skip ?_, fun hz => ⟨fun he => skip ?_, fun he => ⟨_, t1, s0, hr, ?_, _, t2, z0, ?_, ?_⟩⟩⟩
        · rw [ho t htT]
          unfold tOp
          rw [decide_eq_false (fun q => q hz)]
          rfl
        · rw [ho t htT, decide_eq_false (p := ¬ nI t = lo) (fun q => q he)]
          simp
        · rw [g1]; exact hin
        · rw [g1]; exact hin
        · rw [g1, g2, nI_clamp (by omega), gV_sFs, sV_sF]
          show wb_X2_reckonReach_27 post (n + 1) (A 0 1) row lo (nI t + 1) _
          rw [nI_1]
          refine ih (t + 1) _ (by omega) (fun i hi j hj => ?_)
          have hot : o t = true := by
            rw [ho t htT]
            unfold tOp
            rw [decide_eq_true hz, decide_eq_true (p := ¬ nI t = lo) he]
            rfl
          show _ = (rA (tFr P.1) (tTo P.1) o t i j || (o t && (decide (tFr P.1 t = i) && decide (tTo P.1 t = j))))
          rw [hot]
          by_cases q : i = tFr P.1 t
          · rw [q, pk_us, b_or, hE _ x1.2 j hj, bt_one _ (by omega) j hj]
            by_cases q2 : j = tTo P.1 t
            · rw [q2]
              simp
            · rw [decide_eq_false q2, decide_eq_false (p := tTo P.1 t = j) (fun x => q2 x.symm)]
              simp
          · rw [pk_un q, hE i hi j hj, decide_eq_false (p := tFr P.1 t = i) (fun x => q x.symm)]
            simp
  have init : ∀ (n i : Nat) (f : Nat → Int32), i + n = nS P.1 → (∀ i', i' < i → ∀ j, j < 32 → bt (f i') j = decide (i' = j)) → wb_X2_reckonReach_2 post (n + 1) (A 0 1) row lo (nI i) (sF S 9 row f) := by
    intro n
    induction n with
    | zero =>
      intro i f hi hE
      have hi' : i = nS P.1 := by omega
      subst hi'
      unfold wb_X2_reckonReach_2
      refine ⟨n0, _, n1, hL.1, C_size (hLf f) ⟨fun _ => ⟨nT P.1 + 1, tubes (nT P.1) 0 f (by omega) hE⟩, fun q => ?_⟩⟩
      rw [ls_0, List.length_map, List.length_range] at q
      exact absurd (nI_le (Nat.le_refl _) (by omega)) q
    | succ n ih =>
      intro i f hi hE
      unfold wb_X2_reckonReach_2
      refine ⟨n0, _, n1, hL.1, C_size (hLf f) ⟨fun q => ?_, fun _ => ⟨hr, ?_, ?_⟩⟩⟩
      · rw [ls_0, List.length_map, List.length_range] at q
        exact absurd q (nI_ge (by omega) (by omega))
      · rw [gN_sF, hrn]
        exact vp_in_nI (by omega) (by omega)
      · rw [nI_clamp (by omega), sV_sF, nI_1]
        refine ih (i + 1) _ (by omega) (fun i' hi' j hj => ?_)
        by_cases q : i' = i
        · subst q
          rw [pk_us, bt_one _ (by omega) j hj]
          by_cases q2 : i' = j
          · rw [q2]
          · rw [decide_eq_false q2, decide_eq_false (fun x => q2 x.symm)]
        · rw [pk_un q]
          exact hE i' (by omega) j hj
  refine ⟨nS P.1 + 1, ?_⟩
  have := init (nS P.1) 0 (gV S 9 row) (by omega) (fun i' hi' => absurd hi' (Nat.not_lt_zero _))
  rw [sF_self] at this
  exact this
end CREACH
