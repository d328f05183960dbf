/-! ===== the class's reach ===== -/
def rowB (n : Nat) (f : Nat → Int32) (b : Nat → Nat → Bool) : Prop := ∀ i, i < n → ∀ j, j < 32 → bt (f i) j = b i j
section CREACH
variable {S : bS} {A : Nat → Nat → Nat} {cp : Nat → Nat} {P : pP} {B K : Nat}
theorem C_rrIn (h : cR S A cp P) (hw : wI B K P.1 P.2) {b : Nat → Nat → Bool} {k : Nat} (hk : k < nS P.1) {v : Int32} (hv : ∀ j, j < 32 → bt v j = rW b k k j) {post : bS → Prop} {rec : Nat → Int32 → bS → Prop} (hp : ∀ f, rowB (nS P.1) (fun i => f (A 1 i)) (rW b (k + 1)) → rec (A 0 1) (nI (k + 1)) (sJ S 7 f)) : ∀ (n i : Nat) (f : Nat → Int32), i + n = nS P.1 → (∀ i', i' < nS P.1 → ∀ j, j < 32 → bt (f (A 1 i')) j = if i' < i then rW b (k + 1) i' j else rW b k i' j) → wb_X2_reckonReach_131 post rec (n + 1) (A 0 1) (nI k) v (nI i) (sJ S 7 f) := by
  have h14 := hw.1.1.2
  obtain ⟨n0, n1, -⟩ := h.1.2.1
  obtain ⟨e, hL⟩ := cl_at h (i := 0) (Or.inl (by decide))
  have hLf : ∀ f, isLe (sJ S 7 f) (A 5 0) e (lsC A P.1 P.2 0) (cp 0) := fun f => hL
  have hinj := h.1.2.2.2.2.2.2.2.1.1
  have ek : ∀ i j, rW b (k + 1) i j = (rW b k i j || (rW b k i k && rW b k k j)) := fun _ _ => rfl
  intro n
  induction n with
  | zero =>
    intro i f hi hE
    have hi' : i = nS P.1 := by omega
    subst hi'
    unfold wb_X2_reckonReach_131
    refine ⟨n0, _, n1, hL.1, C_size (hLf f) ⟨fun _ => ?_, fun q => ?_⟩⟩
    · rw [nI_1]
      exact hp f (fun i' hi' j hj => (hE i' hi' j hj).trans (if_pos hi'))
    · rw [ls_0, List.length_map, List.length_range] at q
      exact absurd (nI_le (Nat.le_refl _) (by omega)) q
  | succ n ih =>
    intro i f hi hE
    have hfi : ∀ j, j < 32 → bt (f (A 1 i)) j = rW b k i j := fun j hj => by rw [hE i (by omega) j hj, if_neg (Nat.lt_irrefl i)]
    unfold wb_X2_reckonReach_131
    refine ⟨n0, _, n1, hL.1, C_size (hLf f) ⟨fun q => ?_, fun _ => ⟨n0, _, n1, hL.1, C_get (a := A 1 i) (hLf f) (by rw [ls_0]; exact rng_at (by omega)) ⟨_, rfl, (h.1.2.2.2.1 i (by omega)).1, fun hz => ?_, fun hz => ?_⟩⟩⟩⟩
    · rw [ls_0, List.length_map, List.length_range] at q
      exact absurd q (nI_ge (by omega) (by omega))
    · rw [gV_sJs, bt_test (by omega), hfi k (by omega)] at hz
      show wb_X2_reckonReach_131 post rec (n + 1) (A 0 1) (nI k) v (nI i + 1) (sJ S 7 f)
      rw [nI_1]
      refine ih (i + 1) f (by omega) (fun i' hi' j hj => ?_)
      rw [hE i' hi' j hj]
      by_cases q : i' = i
      · subst q
        rw [if_neg (Nat.lt_irrefl _), if_pos (by omega), ek, hz]
        simp
      · by_cases q2 : i' < i
        · rw [if_pos q2, if_pos (by omega)]
        · rw [if_neg q2, if_neg (by omega)]
    · rw [gV_sJs, bt_test (by omega), hfi k (by omega)] at hz
      have hz' : rW b k i k = true := by
        cases q : rW b k i k with
        | true => rfl
        | false => exact absurd q hz
      show wb_X2_reckonReach_131 post rec (n + 1) (A 0 1) (nI k) v (nI i + 1) (sV (sJ S 7 f) 5 (A 1 i) 7 (gV (sJ S 7 f) 5 (A 1 i) 7 ||| v))
      rw [gV_sJs, sV_sJ, nI_1]
      refine ih (i + 1) _ (by omega) (fun i' hi' j hj => ?_)
      by_cases q : i' = i
      · subst q
        rw [pk_us, b_or, hfi j hj, hv j hj, if_pos (by omega), ek, hz']
        simp
      · rw [pk_un (fun x => q (hinj i' i hi' (by omega) x)), hE i' hi' j hj]
        by_cases q2 : i' < i
        · rw [if_pos q2, if_pos (by omega)]
        · rw [if_neg q2, if_neg (by omega)]
theorem C_rrOut (h : cR S A cp P) (hw : wI B K P.1 P.2) {b : Nat → Nat → Bool} {post : bS → Prop} (hp : ∀ f, rowB (nS P.1) (fun i => f (A 1 i)) (rW b (nS P.1)) → post (sJ S 7 f)) : ∀ (n k : Nat) (f : Nat → Int32), k + n = nS P.1 → rowB (nS P.1) (fun i => f (A 1 i)) (rW b k) → wb_X2_reckonReach_102 post (n + 1) (A 0 1) (nI k) (sJ S 7 f) := by
  have h14 := hw.1.1.2
  obtain ⟨n0, n1, -⟩ := h.1.2.1
  obtain ⟨e, hL⟩ := cl_at h (i := 0) (Or.inl (by decide))
  have hLf : ∀ f, isLe (sJ S 7 f) (A 5 0) e (lsC A P.1 P.2 0) (cp 0) := fun f => hL
  intro n
  induction n with
  | zero =>
    intro k f hk hE
    have hk' : k = nS P.1 := by omega
    subst hk'
    unfold wb_X2_reckonReach_102
    refine ⟨n0, _, n1, hL.1, C_size (hLf f) ⟨fun _ => hp f hE, fun q => ?_⟩⟩
    rw [ls_0, List.length_map, List.length_range] at q
    exact absurd (nI_le (Nat.le_refl _) (by omega)) q
  | succ n ih =>
    intro k f hk hE
    unfold wb_X2_reckonReach_102
    refine ⟨n0, _, n1, hL.1, C_size (hLf f) ⟨fun q => ?_, fun _ => ⟨n0, _, n1, hL.1, C_get (a := A 1 k) (hLf f) (by rw [ls_0]; exact rng_at (by omega)) ⟨_, rfl, (h.1.2.2.2.1 k (by omega)).1, nS P.1 + 1, ?_⟩⟩⟩⟩
    · rw [ls_0, List.length_map, List.length_range] at q
      exact absurd q (nI_ge (by omega) (by omega))
    · rw [gV_sJs]
      exact C_rrIn h hw (k := k) (by omega) (hE k (by omega)) (fun f' hE' => ih (k + 1) f' (by omega) hE') (nS P.1) 0 f (by omega) (fun i' hi' j hj => (hE i' hi' j hj).trans (if_neg (Nat.not_lt_zero _)).symm)
theorem C_reckon (h : cR S A cp P) (hw : wI B K P.1 P.2) {lo : Int32} {o : Nat → Bool} (ho : ∀ t, t < nT P.1 → o t = (tOp P.1 t && decide (¬ nI t = lo))) {post : bS → Prop} (hp : ∀ f, rowB (nS P.1) (fun i => f (A 1 i)) (rW (rA (tFr P.1) (tTo P.1) o (nT P.1)) (nS P.1)) → post (sJ S 7 f)) : wp_X2_reckonReach post (A 0 1) lo S := by
  have h14 := hw.1.1.2
  have h30 := hw.1.2.1.2
  obtain ⟨n0, n1, n2, -⟩ := h.1.2.1
  obtain ⟨e, hL⟩ := cl_at h (i := 0) (Or.inl (by decide))
  obtain ⟨e1, hL1⟩ := cl_at h (i := 1) (Or.inl (by decide))
  have hLf : ∀ f, isLe (sJ S 7 f) (A 5 0) e (lsC A P.1 P.2 0) (cp 0) := fun f => hL
  have hLf1 : ∀ f, isLe (sJ S 7 f) (A 5 1) e1 (lsC A P.1 P.2 1) (cp 1) := fun f => hL1
  have hinj := h.1.2.2.2.2.2.2.2.1.1
  have tubes : ∀ (n t : Nat) (f : Nat → Int32), t + n = nT P.1 → rowB (nS P.1) (fun i => f (A 1 i)) (rA (tFr P.1) (tTo P.1) o t) → wb_X2_reckonReach_38 post (n + 1) (A 0 1) lo (nI t) (sJ S 7 f) := by
    intro n
    induction n with
    | zero =>
      intro t f ht hE
      have ht' : t = nT P.1 := by omega
      subst ht'
      unfold wb_X2_reckonReach_38
      refine ⟨n0, _, n2, hL1.1, C_size (hLf1 f) ⟨fun _ => ⟨nS P.1 + 1, C_rrOut h hw hp (nS P.1) 0 f (by omega) hE⟩, fun q => ?_⟩⟩
      rw [ls_1, List.length_map, List.length_range] at q
      exact absurd (nI_le (Nat.le_refl _) (by omega)) q
    | succ n ih =>
      intro t f ht hE
      have htT : t < nT P.1 := by omega
      obtain ⟨x1, x2, -⟩ := hw.2.1 t htT
      obtain ⟨t0, -, t1, t2, -, -, -, -, -, t8, -⟩ := h.1.2.2.2.2.1 t htT
      obtain ⟨s0, s1, -⟩ := h.1.2.2.2.1 _ x1.2
      obtain ⟨z0, z1, -⟩ := h.1.2.2.2.1 _ x2.2
      have skip : o t = false → wb_X2_reckonReach_94 post (wb_X2_reckonReach_38 post (n + 1)) (A 0 1) lo (nI t) (sJ S 7 f) := by
        intro hot
        show wb_X2_reckonReach_38 post (n + 1) (A 0 1) lo (nI t + 1) (sJ S 7 f)
        rw [nI_1]
        refine ih (t + 1) f (by omega) (fun i hi j hj => ?_)
        refine (hE i hi j hj).trans ?_
        show _ = (rA (tFr P.1) (tTo P.1) o t i j || (o t && (decide (tFr P.1 t = i) && decide (tTo P.1 t = j))))
        rw [hot]
        simp
      have g2 : gV (sJ S 7 f) 5 (A 1 (tTo P.1 t)) 0 = nI (tTo P.1 t) := z1
      have g8 : gV (sJ S 7 f) 6 (A 2 t) 8 = P.1 2 (8 * t + 5) := t8
      unfold wb_X2_reckonReach_38
      refine ⟨n0, _, n2, hL1.1, C_size (hLf1 f) ⟨fun q => ?_, fun _ => ⟨n0, _, n2, hL1.1, C_get (a := A 2 t) (hLf1 f) (by rw [ls_1]; exact rng_at htT) ⟨_, rfl, t0, ?_⟩⟩⟩⟩
      · rw [ls_1, List.length_map, List.length_range] at q
        exact absurd q (nI_ge (by omega) (by omega))
      · rw [g8]
        refine ⟨fun hz => skip ?_, fun hz => ⟨fun he => skip ?_, fun he => ⟨_, t1, s0, _, t2, z0, ?_⟩⟩⟩
        · rw [ho t htT]
          unfold tOp
          rw [decide_eq_false (fun q => q hz)]
          rfl
        · rw [ho t htT, decide_eq_false (p := ¬ nI t = lo) (fun q => q he)]
          simp
        · rw [g2, gV_sJs, sV_sJ]
          show wb_X2_reckonReach_38 post (n + 1) (A 0 1) lo (nI t + 1) _
          rw [nI_1]
          refine ih (t + 1) _ (by omega) (fun i hi j hj => ?_)
          have hot : o t = true := by
            rw [ho t htT]
            unfold tOp
            rw [decide_eq_true hz, decide_eq_true (p := ¬ nI t = lo) he]
            rfl
          have hEi : bt (f (A 1 i)) j = rA (tFr P.1) (tTo P.1) o t i j := hE i hi j hj
          show bt (upd f (A 1 (tFr P.1 t)) _ (A 1 i)) j = (rA (tFr P.1) (tTo P.1) o t i j || (o t && (decide (tFr P.1 t = i) && decide (tTo P.1 t = j))))
          rw [hot]
          by_cases q : i = tFr P.1 t
          · rw [q] at hEi ⊢
            rw [pk_us, b_or, hEi, bt_one _ (by omega) j hj]
            by_cases q2 : j = tTo P.1 t
            · rw [q2]
              simp
            · rw [decide_eq_false q2, decide_eq_false (p := tTo P.1 t = j) (fun x => q2 x.symm)]
              simp
          · rw [pk_un (fun x => q (hinj i _ hi x1.2 x)), hEi, decide_eq_false (p := tFr P.1 t = i) (fun x => q x.symm)]
            simp
  have init : ∀ (n i : Nat) (f : Nat → Int32), i + n = nS P.1 → (∀ i', i' < i → ∀ j, j < 32 → bt (f (A 1 i')) j = decide (i' = j)) → wb_X2_reckonReach_2 post (n + 1) (A 0 1) lo (nI i) (sJ S 7 f) := by
    intro n
    induction n with
    | zero =>
      intro i f hi hE
      have hi' : i = nS P.1 := by omega
      subst hi'
      unfold wb_X2_reckonReach_2
      refine ⟨n0, _, n1, hL.1, C_size (hLf f) ⟨fun _ => ⟨nT P.1 + 1, tubes (nT P.1) 0 f (by omega) hE⟩, fun q => ?_⟩⟩
      rw [ls_0, List.length_map, List.length_range] at q
      exact absurd (nI_le (Nat.le_refl _) (by omega)) q
    | succ n ih =>
      intro i f hi hE
      unfold wb_X2_reckonReach_2
      refine ⟨n0, _, n1, hL.1, C_size (hLf f) ⟨fun q => ?_, fun _ => ⟨n0, _, n1, hL.1, C_get (a := A 1 i) (hLf f) (by rw [ls_0]; exact rng_at (by omega)) ⟨_, rfl, (h.1.2.2.2.1 i (by omega)).1, ?_⟩⟩⟩⟩
      · rw [ls_0, List.length_map, List.length_range] at q
        exact absurd q (nI_ge (by omega) (by omega))
      · rw [sV_sJ, nI_1]
        refine ih (i + 1) _ (by omega) (fun i' hi' j hj => ?_)
        by_cases q : i' = i
        · subst q
          rw [pk_us, bt_one _ (by omega) j hj]
          by_cases q2 : i' = j
          · rw [q2]
          · rw [decide_eq_false q2, decide_eq_false (fun x => q2 x.symm)]
        · rw [pk_un (fun x => q (hinj i' i (by omega) (by omega) x))]
          exact hE i' (by omega) j hj
  refine ⟨nS P.1 + 1, ?_⟩
  have := init (nS P.1) 0 (fun a => gV S 5 a 7) (by omega) (fun i' hi' => absurd hi' (Nat.not_lt_zero _))
  rw [sJ_self] at this
  exact this
/-- how many pairs there are, a tube left out -/
theorem C_pairs (h : cR S A cp P) (hw : wI B K P.1 P.2) {lo : Int32} {o : Nat → Bool} (ho : ∀ t, t < nT P.1 → o t = (tOp P.1 t && decide (¬ nI t = lo))) {post : Int32 → bS → Prop} (hp : ∀ f, post (nI (cn2 (rW (rA (tFr P.1) (tTo P.1) o (nT P.1)) (nS P.1)) (nS P.1) (nS P.1))) (sJ S 7 f)) : wp_X2_pairsWithAWay post (A 0 1) lo S := by
  have h14 := hw.1.1.2
  obtain ⟨n0, n1, -⟩ := h.1.2.1
  obtain ⟨e, hL⟩ := cl_at h (i := 0) (Or.inl (by decide))
  have hLf : ∀ f, isLe (sJ S 7 f) (A 5 0) e (lsC A P.1 P.2 0) (cp 0) := fun f => hL
  have hoff : ∀ i j, i < nS P.1 → nS P.1 ≤ j → rW (rA (tFr P.1) (tTo P.1) o (nT P.1)) (nS P.1) i j = false := fun i j hi hj => rW_off (rA_off (nT P.1) (fun x hx => (hw.2.1 x hx).2.1.2)) (nS P.1) (Nat.le_refl _) i j hi hj
  refine ⟨n0, C_reckon h hw ho (fun f hf => ⟨nS P.1 + 1, ?_⟩)⟩
  generalize rW (rA (tFr P.1) (tTo P.1) o (nT P.1)) (nS P.1) = b at *
  have loop : ∀ (n i : Nat), i + n = nS P.1 → wb_X2_pairsWithAWay_9 post (n + 1) (A 0 1) (nI (cn2 b (nS P.1) i)) (nI i) (sJ S 7 f) := by
    intro n
    induction n with
    | zero =>
      intro i hi
      have hi' : i = nS P.1 := by omega
      subst hi'
      unfold wb_X2_pairsWithAWay_9
      refine ⟨n0, _, n1, hL.1, C_size (hLf f) ⟨fun _ => hp f, fun q => ?_⟩⟩
      rw [ls_0, List.length_map, List.length_range] at q
      exact absurd (nI_le (Nat.le_refl _) (by omega)) q
    | succ n ih =>
      intro i hi
      have hiS : i < nS P.1 := by omega
      unfold wb_X2_pairsWithAWay_9
      refine ⟨n0, _, n1, hL.1, C_size (hLf f) ⟨fun q => ?_, fun _ => ⟨n0, _, n1, hL.1, C_get (a := A 1 i) (hLf f) (by rw [ls_0]; exact rng_at hiS) ⟨_, rfl, (h.1.2.2.2.1 i hiS).1, C_bitCount ?_⟩⟩⟩⟩
      · rw [ls_0, List.length_map, List.length_range] at q
        exact absurd q (nI_ge (by omega) (by omega))
      · have hfi : ∀ j, j < 32 → bt (f (A 1 i)) j = b i j := hf i hiS
        have hc : bcI (f (A 1 i)) = nI (cnt (b i) (nS P.1)) := by
          rw [bc_bt (fun j hj hj2 => by rw [hfi j hj2, hoff i j hiS (by omega)])]
          congr 1
          rw [cnt_ext 14 (q := b i) (fun j hj => hfi j (by omega)), show 14 = nS P.1 + (14 - nS P.1) by omega, cnt_more _ (fun j hj => hoff i j hiS hj)]
        rw [gV_sJs, hc, nI_add, nI_1 i]
        exact ih (i + 1) (by omega)
  exact loop (nS P.1) 0 (by omega)
end CREACH
