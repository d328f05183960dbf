section JSTEP
variable {M : Nat → Nat → Int32} {L : Nat → List Nat} {F : Nat → Nat} {B K : Nat}
theorem sta_mov (c s : Nat) : sta M (movM M c s) := ⟨⟨mov_r0 _ _ _ _ (by decide), mov_r0 _ _ _ _ (by decide), mov_r0 _ _ _ _ (by decide)⟩, fun _ _ _ => mov_r2 _ _ _ _, fun _ _ _ _ => by simp (disch := omega) only [movM, pM, mU_r]⟩
theorem sta_del (al : List Nat) (c : Nat) : sta M (delM M al c) := ⟨⟨del_r0 _ _ _ _ (by decide), del_r0 _ _ _ _ (by decide), del_r0 _ _ _ _ (by decide)⟩, fun _ _ _ => del_r2 _ _ _ _, fun _ _ _ _ => by simp (disch := omega) only [delM, pM, mU_r, mU_c, mRow_r]⟩
theorem sta_ent (c t : Nat) : sta M (entM M c t) := ⟨⟨ent_r0 _ _ _ _ (by decide), ent_r0 _ _ _ _ (by decide), ent_r0 _ _ _ _ (by decide)⟩, fun _ _ _ => by simp (disch := omega) only [entM, pM, mU_r, mU_c], fun _ _ _ _ => by simp (disch := omega) only [entM, pM, mU_r]⟩
theorem sta_snd (s : Nat) (aim rank : Int32) : sta M (sndM M s aim rank) := ⟨⟨snd_r0 _ _ _ _ _ (by decide), snd_r0 _ _ _ _ _ (by decide), snd_r0 _ _ _ _ _ (by decide)⟩, fun _ _ _ => by simp (disch := omega) only [sndM, pM, mU_r], fun _ _ _ _ => by simp (disch := omega) only [sndM, pM, mU_r]⟩
/-- numbers of a carrier -/
theorem w_c (hw : wI B K M L) {c : Nat} (hc : c < nC M) : M 4 (9 * c + 2) = nI (aimM M c) ∧ aimM M c < nS M ∧ M 4 (9 * c + 5) = nI (tauM M c) ∧ tauM M c ≤ u (M 0 1) ∧ M 0 1 = nI (u (M 0 1)) ∧ u (M 0 1) ≤ B := by
  obtain ⟨-, -, -, -, ⟨a1, -⟩, hC, -⟩ := hw
  obtain ⟨⟨x1, x2⟩, -, x3, x4⟩ := hC c hc
  exact ⟨x1, x2, x3, x4, a1.1, a1.2⟩
/-- a carrier in a tube, by the property's numbers -/
theorem j_in (hw : wI B K M L) (h : jI M L F) {t c : Nat} (ht : t < nT M) (hc : c ∈ L (15 + t)) : c < nC M ∧ 1 ≤ kapM M c ∧ M 4 (9 * c + 8) = nI (thr M t) ∧ ∃ x y, dD M (aimM M c) (F c) = some x ∧ dD M (aimM M c) (tTo M t) = some y ∧ hnd M (F c) + x + sgM M c ≤ tauM M c + cst M (aimM M c) t + y := by
  have h30 := hw.1.2.1.2
  obtain ⟨-, s2, p2, cn, -⟩ := w_in hw (t := t) (by omega) hc
  obtain ⟨-, -, s1, -⟩ := h.1 c cn
  rcases s1 with ⟨x, -⟩ | ⟨-, t', ht', pt, k1, k2, x⟩ | ⟨x, -⟩
  · rw [s2] at x
    exact absurd x (by decide)
  · rw [p2] at pt
    have e := (nI_eq (by omega) (by omega)).mp pt
    subst e
    exact ⟨cn, k1, k2, x⟩
  · rw [s2] at x
    exact absurd x (by decide)
theorem due_thr (hw : wI B K M L) (hB : B < 2 ^ 31) {t c : Nat} (ht : t < nT M) (hc : c < nC M) (h8 : M 4 (9 * c + 8) = nI (thr M t)) (hd : dueM M c) : tauM M c + thr M t ≤ u (M 0 1) := by
  obtain ⟨-, -, x3, x4, x5, x6⟩ := w_c hw hc
  obtain ⟨-, -, -, y4, y5, -⟩ := hw.2.1 t ht
  have hth := thr_le y5.2.1 y4.2.2
  unfold dueM at hd
  rw [x5, x3, h8, pk_sub x4] at hd
  have : ¬ (u (M 0 1) - tauM M c < thr M t) := fun q => hd ((nI_ltI (by omega) (by omega)).mpr q)
  omega
/-- counters -/
theorem w_8 (hw : wI B K M L) : M 0 8 = nI (u (M 0 8)) ∧ u (M 0 8) ≤ K := hw.2.2.2.2.1.2.1
theorem u_8 (hw : wI B K M L) (hK : K + 1 < 2 ^ 31) : u (M 0 8 + 1) = u (M 0 8) + 1 := by
  obtain ⟨h1, h2⟩ := w_8 hw
  rw [h1, nI_1, u_nI (by omega), u_nI (by omega)]
theorem w_l0 (hw : wI B K M L) : (∀ d, d ∈ L 0 → u (M 4 (9 * d + 7)) < u (M 0 8)) ∧ ∀ d, d ∈ L 0 → d < nC M := ⟨fun d hd => (hw.2.2.2.2.1.2.2.2.2.2.2.2 d hd).2, hw.2.2.2.2.1.2.2.2.2.1⟩
theorem dlB_off {M' : Nat → Nat → Int32} {s d : Nat} (h0 : M' 4 (9 * d + 0) = M 4 (9 * d + 0)) (h1 : M' 4 (9 * d + 1) = M 4 (9 * d + 1)) : dlB M' s d = dlB M s d := by
  unfold dlB
  rw [h0, h1]
/-- a carrier comes to a station -/
theorem jI_mov (hw : wI B K M L) (hK : K + 1 < 2 ^ 31) (hB : B < 2 ^ 31) (h : jI M L F) {t c s : Nat} (ht : t < nT M) (hc : c ∈ L (15 + t)) (hs : s = tTo M t) (hdue : dueM M c) (ha : aimM M c ≠ s) : jI (movM M c s) (movL M L c s) F := by
  have h30 := hw.1.2.1.2
  obtain ⟨cn, k1, k8, x, y, hx, hy, hxy⟩ := j_in hw h ht hc
  obtain ⟨c0, s2, p2, -, -⟩ := w_in hw (t := t) (by omega) hc
  have hdt := due_thr hw hB ht cn k8 hdue
  obtain ⟨hA, hO, hE, hR, hT, hW⟩ := h
  obtain ⟨-, ⟨⟨n1, n2⟩, n3, n4⟩, -, -⟩ := hA c cn
  have hst := sta_mov (M := M) c s
  have hsS : s < nS M := by rw [hs]; exact (hw.2.1 t ht).2.1.2
  have hd : ∀ d w, d ≠ c → w < 9 → movM M c s 4 (9 * d + w) = M 4 (9 * d + w) := fun d w h1 h2 => by simp (disch := omega) only [movM, pM, mU_r, mU_c]
  have m0 : movM M c s 4 (9 * c + 0) = 1 := by simp (disch := omega) only [movM, pM, mU_s, mU_r, mU_c]
  have m1 : movM M c s 4 (9 * c + 1) = nI s := by simp (disch := omega) only [movM, pM, mU_s, mU_r, mU_c]
  have m2 : movM M c s 4 (9 * c + 2) = M 4 (9 * c + 2) := mov_4 _ _ _ _ _ (Or.inl rfl)
  have m4 : movM M c s 4 (9 * c + 4) = M 4 (9 * c + 4) := mov_4 _ _ _ _ _ (Or.inr (Or.inr rfl))
  have m5 : movM M c s 4 (9 * c + 5) = M 0 1 := by simp (disch := omega) only [movM, pM, mU_s, mU_r, mU_c]
  have m6 : movM M c s 4 (9 * c + 6) = M 4 (9 * c + 6) := by simp (disch := omega) only [movM, pM, mU_r, mU_c]
  have m7 : movM M c s 4 (9 * c + 7) = M 0 8 := by simp (disch := omega) only [movM, pM, mU_s, mU_r, mU_c]
  have e8 : movM M c s 0 8 = M 0 8 + 1 := by simp (disch := omega) only [movM, pM, mU_s]
  have u8 : u (movM M c s 0 8) = u (M 0 8) + 1 := by rw [e8]; exact u_8 hw hK
  have l0 : movL M L c s 0 = L 0 := by unfold movL sLst; exact if_pos rfl
  have nC' : nC (movM M c s) = nC M := by unfold nC; rw [mov_r0 _ _ _ _ (by decide)]
  obtain ⟨b1, b2⟩ := w_l0 hw
  have htm := fun d (hd : d ∈ L 0) => (w_c hw (b2 d hd)).2.2.2.1
  have ea : aimM (movM M c s) c = aimM M c := by unfold aimM; rw [m2]
  have es : sgM (movM M c s) c = sgM M c := by unfold sgM; rw [m4]
  have et : tauM (movM M c s) c = u (M 0 1) := by unfold tauM; rw [m5]
  have ek : kapM (movM M c s) c = kapM M c := by unfold kapM; rw [m6]
  have htc := (w_c hw cn).2.2.2.1
  refine ⟨jA_put hst nC' (by omega) hd (fun d hdc => by rw [l0]) m2 hA (fun _ => ⟨⟨⟨by rw [es, m4]; exact n1, by rw [es, et]; omega⟩, by rw [ek, m6]; exact n3, by rw [ek, u8]; omega⟩, Or.inl ⟨m0, s, by rw [sta_S hst]; exact hsS, m1, ?_, ?_⟩, ?_⟩), jO_put hO hd (fun d _ hdm => by rw [l0] at hdm; exact hdm) m5 m7 b1 htm, jE_put hE hst (mov_r0 _ _ _ _ (by decide)) hd (fun t' _ => mov_r2 _ _ _ _) (fun t' ht' => ?_), fun s' hs' => ?_, ?_, jW_st hw.2.2.1 hW hst⟩
  · rw [ea, sta_dD hst]
    intro q
    rw [hx] at q
    cases q
  · rw [ea, es, et, sta_dD hst, sta_hnd hst]
    intro x' hx'
    rw [hx] at hx'
    cases hx'
    refine ⟨y, by rw [hs]; exact hy, ?_⟩
    unfold cst at hxy
    rw [if_neg (fun q => ha (by rw [hs, q])), ← hs] at hxy
    omega
  · rw [l0, m0]
    exact ⟨fun _ => by decide, fun _ => c0⟩
  · show sLst (movM M c s) L (L 0) c (1 + s) (15 + t') = _
    unfold sLst
    have h14 := hw.1.1.2
    rw [if_neg (by omega), if_neg (by omega)]
  · rw [sta_S hst] at hs'
    rw [show movM M c s 1 (9 * s' + 4) = M 1 (9 * s' + 4) by simp (disch := omega) only [movM, pM, mU_r], nC', hR s' hs']
    congr 1
    refine (cnt_ext _ (fun d _ => ?_)).symm
    by_cases q : d = c
    · subst q
      unfold dlB
      rw [m0, s2]
      rfl
    · exact dlB_off (hd d 0 q (by decide)) (hd d 1 q (by decide))
  · show movM M c s 0 7 = smT (movM M c s) (nC (movM M c s))
    rw [mov_r0 _ _ _ _ (by decide), nC', smT_upd hd (by rw [s2]; decide), if_neg (fun q => by rw [m0] at q; exact absurd q.2 (by decide)), Int32.add_zero]
    exact hT
/-- a carrier is delivered -/
theorem jI_del (hw : wI B K M L) (hK : K + 1 < 2 ^ 31) (hB : B < 2 ^ 31) (h : jI M L F) {t c : Nat} (ht : t < nT M) (hc : c ∈ L (15 + t)) (hdue : dueM M c) (ha : aimM M c = tTo M t) : jI (delM M (L 0) c) (delL M L c) F := by
  have h30 := hw.1.2.1.2
  have h14 := hw.1.1.2
  obtain ⟨cn, k1, k8, x, y, hx, hy, hxy⟩ := j_in hw h ht hc
  obtain ⟨c0, s2, p2, -, -⟩ := w_in hw (t := t) (by omega) hc
  have hdt := due_thr hw hB ht cn k8 hdue
  obtain ⟨hA, hO, hE, hR, hT, hW⟩ := h
  obtain ⟨-, ⟨⟨n1, n2⟩, n3, n4⟩, -, -⟩ := hA c cn
  have hst := sta_del (M := M) (L 0) c
  obtain ⟨a2, aS, -, htc, -, -⟩ := w_c hw cn
  have ua : u (M 4 (9 * c + 2)) = aimM M c := rfl
  have hd : ∀ d w, d ≠ c → w < 9 → delM M (L 0) c 4 (9 * d + w) = M 4 (9 * d + w) := fun d w h1 h2 => by simp (disch := omega) only [delM, pM, mU_r, mU_c, mRow_r]
  have m0 : delM M (L 0) c 4 (9 * c + 0) = 3 := by simp (disch := omega) only [delM, pM, mU_s, mU_r, mU_c, mRow_r]
  have m1 : delM M (L 0) c 4 (9 * c + 1) = M 4 (9 * c + 2) := by simp (disch := omega) only [delM, pM, mU_s, mU_r, mU_c, mRow_r]
  have m2 : delM M (L 0) c 4 (9 * c + 2) = M 4 (9 * c + 2) := del_4 _ _ _ _ _ (Or.inl rfl)
  have m4 : delM M (L 0) c 4 (9 * c + 4) = M 4 (9 * c + 4) := del_4 _ _ _ _ _ (Or.inr (Or.inr rfl))
  have m5 : delM M (L 0) c 4 (9 * c + 5) = M 0 1 := by simp (disch := omega) only [delM, pM, mU_s, mU_r, mU_c, mRow_r]
  have m6 : delM M (L 0) c 4 (9 * c + 6) = M 4 (9 * c + 6) := by simp (disch := omega) only [delM, pM, mU_r, mU_c, mRow_r]
  have m7 : delM M (L 0) c 4 (9 * c + 7) = M 0 8 := by simp (disch := omega) only [delM, pM, mU_s, mU_r, mU_c, mRow_r]
  have e8 : delM M (L 0) c 0 8 = M 0 8 + 1 := by simp (disch := omega) only [delM, pM, mU_s, mU_r, mU_c, mRow_r]
  have e7 : delM M (L 0) c 0 7 = M 0 7 + (M 0 1 - M 4 (9 * c + 4)) := by simp (disch := omega) only [delM, pM, mU_s, mU_r, mU_c, mRow_r]
  have u8 : u (delM M (L 0) c 0 8) = u (M 0 8) + 1 := by rw [e8]; exact u_8 hw hK
  have l0 : delL M L c 0 = rem c (L 0) := by unfold delL sLst; exact if_pos rfl
  have nC' : nC (delM M (L 0) c) = nC M := by unfold nC; rw [del_r0 _ _ _ _ (by decide)]
  obtain ⟨b1, b2⟩ := w_l0 hw
  have htm := fun d (hd : d ∈ L 0) => (w_c hw (b2 d hd)).2.2.2.1
  have ea : aimM (delM M (L 0) c) c = aimM M c := by unfold aimM; rw [m2]
  have es : sgM (delM M (L 0) c) c = sgM M c := by unfold sgM; rw [m4]
  have et : tauM (delM M (L 0) c) c = u (M 0 1) := by unfold tauM; rw [m5]
  have ek : kapM (delM M (L 0) c) c = kapM M c := by unfold kapM; rw [m6]
  refine ⟨jA_put hst nC' (by omega) hd (fun d hdc => by rw [l0, rem_mem]; exact ⟨fun q => q.1, fun q => ⟨q, hdc⟩⟩) m2 hA (fun _ => ⟨⟨⟨by rw [es, m4]; exact n1, by rw [es, et]; omega⟩, by rw [ek, m6]; exact n3, by rw [ek, u8]; omega⟩, Or.inr (Or.inr ⟨m0, by rw [ea, m1]; exact a2, x, ?_, ?_⟩), ?_⟩), jO_put hO hd (fun d _ hdm => by rw [l0, rem_mem] at hdm; exact hdm.1) m5 m7 b1 htm, jE_put hE hst (del_r0 _ _ _ _ (by decide)) hd (fun t' _ => del_r2 _ _ _ _) (fun t' ht' => ?_), fun s' hs' => ?_, ?_, jW_st hw.2.2.1 hW hst⟩
  · rw [ea, sta_dD hst]
    exact hx
  · rw [es, et, sta_hnd hst]
    have hy0 : dD M (aimM M c) (aimM M c) = some 0 := dIt_zero 14
    rw [← ha, hy0] at hy
    cases hy
    unfold cst at hxy
    rw [if_pos ha.symm] at hxy
    omega
  · rw [l0, m0, rem_mem]
    exact ⟨fun q => absurd rfl q.2, fun q => absurd rfl q⟩
  · show sLst (delM M (L 0) c) L (rem c (L 0)) c 0 (15 + t') = _
    unfold sLst
    rw [if_neg (by omega), if_neg (by omega)]
  · rw [sta_S hst] at hs'
    have hold : ∀ d, d ≠ c → dlB (delM M (L 0) c) s' d = dlB M s' d := fun d q => dlB_off (hd d 0 q (by decide)) (hd d 1 q (by decide))
    have hc0 : dlB M s' c = false := by
      unfold dlB
      rw [s2]
      rfl
    rw [nC', cnt_upd hold hc0]
    by_cases q : s' = aimM M c
    · have hc1 : dlB (delM M (L 0) c) s' c = true := by
        unfold dlB
        rw [m0, m1, a2, q]
        simp
      rw [if_pos ⟨cn, hc1⟩]
      have e1 : delM M (L 0) c 1 (9 * s' + 4) = M 1 (9 * s' + 4) + 1 := by
        unfold delM
        rw [ua, ← q]
        simp (disch := omega) only [pM, mU_s, mU_r, mU_c, mRow_r]
      rw [e1, hR s' hs', nI_1]
    · have hc1 : ¬ dlB (delM M (L 0) c) s' c = true := by
        unfold dlB
        rw [m0, m1, a2]
        simp only [Bool.and_eq_true, decide_eq_true_eq]
        intro e
        exact q ((nI_eq (by omega) (by omega)).mp e.2).symm
      rw [if_neg (fun e => hc1 e.2), Nat.add_zero (cnt (dlB M s') (nC M)), ← hR s' hs']
      unfold delM
      rw [ua]
      simp (disch := omega) only [pM, mU_r, mU_c, mRow_r]
  · show delM M (L 0) c 0 7 = smT (delM M (L 0) c) (nC (delM M (L 0) c))
    rw [e7, nC', smT_upd hd (by rw [s2]; decide), if_pos ⟨cn, m0⟩, m5, m4, show M 0 7 = smT M (nC M) from hT]
theorem bst_val {D : Nat → Option Nat} {s aim : Nat} : ∀ k q, bst M D s aim k = some q → tmO M D aim (way M s q.1) = some q.2
  | 0, q, h => by cases h
  | k + 1, q, h => by
    have ih := bst_val (D := D) (s := s) (aim := aim) k
    have h : bStep M D s aim (bst M D s aim k) k = some q := h
    unfold bStep at h
    cases hx : tmO M D aim (way M s k) with
    | none =>
      rw [hx] at h
      exact ih q h
    | some x =>
      rw [hx] at h
      cases ho : bst M D s aim k with
      | none =>
        rw [ho] at h
        cases h
        exact hx
      | some q' =>
        rw [ho] at h
        by_cases hl : x < q'.2
        · have h : (if x < q'.2 then some (k, x) else some q') = some q := h
          rw [if_pos hl] at h
          cases h
          exact hx
        · have h : (if x < q'.2 then some (k, x) else some q') = some q := h
          rw [if_neg hl] at h
          cases h
          exact ih _ ho
/-- the way that is chosen is as short as can be -/
theorem ch_least (hw : wI B K M L) (hW : jW M) {s a : Nat} (hs : s < nS M) (hg : ¬ chM M s a = -1) : ∃ w y, w < mny M s ∧ chM M s a = nI w ∧ dD M a (tTo M (way M s w)) = some y ∧ ∃ z, dD M a s = some z ∧ z ≤ cst M a (way M s w) + y := by
  unfold chM at hg ⊢
  rw [if_pos (hW.2.2 s hs)] at hg ⊢
  cases hb : bst M (dD M a) s a (mny M s) with
  | none =>
    rw [hb] at hg
    exact absurd rfl hg
  | some q =>
    have hq := (bst_lt hw.2.1 hw.2.2.1 (dR_bound hw.1 hw.2.1 hw.2.2.1 (by decide)) hs _ (Nat.le_refl _) q hb).1
    have hv := bst_val _ _ hb
    obtain ⟨-, wt⟩ := (hw.2.2.1 s hs).2.2.2.2 q.1 hq
    unfold tmO at hv
    by_cases ho : tOp M (way M s q.1) = true
    · rw [if_pos ho] at hv
      cases hy : dD M a (tTo M (way M s q.1)) with
      | none => rw [hy] at hv; cases hv
      | some y =>
        obtain ⟨z, hz, hzy⟩ := dR_stable hw.1 hw.2.1 hw.1.1.2 (way M s q.1) wt ho y hy
        rw [hW.1 s q.1 hs hq] at hz
        exact ⟨q.1, y, hq, rfl, hy, z, hz, hzy⟩
    · rw [if_neg ho] at hv
      cases hv
/-- a carrier enters a tube -/
theorem jI_ent {P : pP} (hw : wI B K P.1 P.2) (hK : K + 1 < 2 ^ 31) (hB : B + 20 < 2 ^ 31) (h : jI P.1 P.2 F) {s c : Nat} (hs : s < nS P.1) (hc : c ∈ P.2 (1 + s)) (hg : goD P s c) : jI (entM P.1 c (tGo P s c)) (entL P.1 P.2 c (tGo P s c)) F := by
  have h30 := hw.1.2.1.2
  have h14 := hw.1.1.2
  obtain ⟨c0, s1, p1, cn, -⟩ := w_at hw (s := s) (by omega) hc
  obtain ⟨hA, hO, hE, hR, hT, hW⟩ := h
  obtain ⟨-, ⟨⟨n1, n2⟩, n3, n4⟩, sj, -⟩ := hA c cn
  obtain ⟨a2, aS, a5, htc, t1, tB⟩ := w_c hw cn
  obtain ⟨w, y, hwm, hch, hy, z, hz, hzy⟩ := ch_least (a := aimM P.1 c) hw hW hs hg.2.1
  obtain ⟨w', -, hch', ht, -, htT, -⟩ := tGo_lt hw hs hg.2.1
  have hm4 := (hw.2.2.1 s hs).2.2.1.2
  have ew : way P.1 s w = tGo P s c := by
    unfold tGo
    rw [show u (P.1 4 (9 * c + 2)) = aimM P.1 c from rfl, hch, u_nI (by omega)]
  rw [ew] at hy hzy
  have hhs : P.1 1 (9 * s + 1) = nI (hnd P.1 s) ∧ hnd P.1 s ≤ 20 := (hw.2.2.1 s hs).2.1
  have hhan : tauM P.1 c + hnd P.1 s ≤ u (P.1 0 1) := by
    have := hg.1
    rw [a5, hhs.1, t1, nI_add] at this
    exact (nI_leI (by omega) (by omega)).mp this
  have hnl : ¬ P.1 2 (8 * tGo P s c + 7) = P.1 0 1 := hg.2.2.2.2
  generalize tGo P s c = t at *
  obtain ⟨M, L⟩ := P
  dsimp only at *
  have hst := sta_ent (M := M) c t
  have hd : ∀ d w, d ≠ c → w < 9 → entM M c t 4 (9 * d + w) = M 4 (9 * d + w) := fun d w h1 h2 => by simp (disch := omega) only [entM, pM, mU_r, mU_c]
  have m0 : entM M c t 4 (9 * c + 0) = 2 := by simp (disch := omega) only [entM, pM, mU_s, mU_r, mU_c]
  have m1 : entM M c t 4 (9 * c + 1) = nI t := by simp (disch := omega) only [entM, pM, mU_s, mU_r, mU_c]
  have m2 : entM M c t 4 (9 * c + 2) = M 4 (9 * c + 2) := ent_4 _ _ _ _ _ (Or.inl rfl)
  have m4 : entM M c t 4 (9 * c + 4) = M 4 (9 * c + 4) := ent_4 _ _ _ _ _ (Or.inr (Or.inr rfl))
  have m5 : entM M c t 4 (9 * c + 5) = M 0 1 := by simp (disch := omega) only [entM, pM, mU_s, mU_r, mU_c]
  have m6 : entM M c t 4 (9 * c + 6) = M 4 (9 * c + 6) + 1 := by simp (disch := omega) only [entM, pM, mU_s, mU_r, mU_c]
  have m7 : entM M c t 4 (9 * c + 7) = M 0 8 := by simp (disch := omega) only [entM, pM, mU_s, mU_r, mU_c]
  have m8 : entM M c t 4 (9 * c + 8) = nI (thr M t) := by simp (disch := omega) only [entM, pM, mU_s, mU_r, mU_c]
  have e8 : entM M c t 0 8 = M 0 8 + 1 := by simp (disch := omega) only [entM, pM, mU_s, mU_r]
  have u8 : u (entM M c t 0 8) = u (M 0 8) + 1 := by rw [e8]; exact u_8 hw hK
  have l0 : entL M L c t 0 = L 0 := by unfold entL sLst; exact if_pos rfl
  have nC' : nC (entM M c t) = nC M := by unfold nC; rw [ent_r0 _ _ _ _ (by decide)]
  obtain ⟨b1, b2⟩ := w_l0 hw
  have htm := fun d (hd : d ∈ L 0) => (w_c hw (b2 d hd)).2.2.2.1
  have ea : aimM (entM M c t) c = aimM M c := by unfold aimM; rw [m2]
  have es : sgM (entM M c t) c = sgM M c := by unfold sgM; rw [m4]
  have et : tauM (entM M c t) c = u (M 0 1) := by unfold tauM; rw [m5]
  have h8K := (w_8 hw).2
  have n3 : M 4 (9 * c + 6) = nI (kapM M c) := n3
  have n4 : kapM M c ≤ u (M 0 8) := n4
  have h8K : u (M 0 8) ≤ K := h8K
  have ek : kapM (entM M c t) c = kapM M c + 1 := by
    show u (entM M c t 4 (9 * c + 6)) = _
    rw [m6, n3, nI_1, u_nI (by omega)]
  have n2 : sgM M c ≤ tauM M c := n2
  have htc : tauM M c ≤ u (M 0 1) := htc
  have sx : ∃ x, dD M (aimM M c) (F c) = some x ∧ hnd M (F c) + x + sgM M c ≤ tauM M c + hnd M s + z := by
    rcases sj with ⟨-, v, hv, pv, j1, j2⟩ | ⟨q, -⟩ | ⟨q, -⟩
    · rw [show M 4 (9 * c + 1) = nI s from p1] at pv
      have e := (nI_eq (a := s) (b := v) (by omega) (by have : v < nS M := hv; have : nS M ≤ 14 := h14; omega)).mp pv
      subst e
      cases hf : dD M (aimM M c) (F c) with
      | none =>
        have := j1 hf
        rw [show dD M (aimM M c) s = some z from hz] at this
        cases this
      | some x =>
        obtain ⟨y', hy', hle⟩ := j2 x hf
        rw [show dD M (aimM M c) s = some z from hz] at hy'
        cases hy'
        exact ⟨x, rfl, hle⟩
    · rw [show M 4 (9 * c + 0) = 1 from s1] at q
      exact absurd q (by decide)
    · rw [show M 4 (9 * c + 0) = 1 from s1] at q
      exact absurd q (by decide)
  obtain ⟨x, hx, hxz⟩ := sx
  have hzy : z ≤ cst M (aimM M c) t + y := hzy
  have hhan : tauM M c + hnd M s ≤ u (M 0 1) := hhan
  refine ⟨jA_put hst nC' (by omega) hd (fun d hdc => by rw [l0]) m2 hA (fun _ => ⟨⟨⟨by rw [es, m4]; exact n1, by rw [es, et]; omega⟩, by rw [ek, m6, n3, nI_1], by rw [ek, u8]; omega⟩, Or.inr (Or.inl ⟨m0, t, by rw [sta_T hst]; exact htT, m1, by rw [ek]; omega, by rw [m8, sta_thr hst], x, y, ?_, ?_, ?_⟩), ?_⟩), jO_put hO hd (fun d _ hdm => by rw [l0] at hdm; exact hdm) m5 m7 b1 htm, fun t' ht' => ?_, fun s' hs' => ?_, ?_, jW_st hw.2.2.1 hW hst⟩
  · rw [ea, sta_dD hst]
    exact hx
  · rw [ea, sta_dD hst, sta_tTo hst]
    exact hy
  · rw [ea, es, et, sta_hnd hst, sta_cst hst]
    omega
  · rw [l0, m0]
    exact ⟨fun _ => by decide, fun _ => c0⟩
  · rw [sta_T hst] at ht'
    have ht' : t' < nT M := ht'
    have hlt' : entL M L c t (15 + t') = if t' = t then rem c (L (15 + t')) ++ [c] else rem c (L (15 + t')) := by
      show sLst (entM M c t) L (L 0) c (15 + t) (15 + t') = _
      unfold sLst
      rw [if_neg (by omega)]
      by_cases q : t' = t
      · rw [if_pos (by omega), if_neg (by omega), if_pos q]
      · rw [if_neg (by omega), if_neg q]
    obtain ⟨e1, e2⟩ := hE t' ht'
    have hrem : rem c (L (15 + t')) = L (15 + t') := rem_no (fun q => by
      have h30' : nT M ≤ 30 := h30
      have := (w_in (M := M) (L := L) hw (t := t') (by omega) q).2.1
      rw [show M 4 (9 * c + 0) = 1 from s1] at this
      exact absurd this (by decide))
    have e01 : entM M c t 0 1 = M 0 1 := ent_r0 _ _ _ _ (by decide)
    have htl : ∀ d, d ∈ L (15 + t') → d ≠ c := fun d hdm q => by
      rw [q, ← hrem] at hdm
      exact (rem_mem.mp hdm).2 rfl
    have htd : ∀ d, d ∈ L (15 + t') → tauM (entM M c t) d = tauM M d := fun d hdm => by
      unfold tauM
      rw [hd d 5 (htl d hdm) (by decide)]
    rw [hlt', hrem, e01]
    by_cases q : t' = t
    · rw [if_pos q]
      subst q
      have e7 : entM M c t' 2 (8 * t' + 7) = M 0 1 := by simp (disch := omega) only [entM, pM, mU_s, mU_r, mU_c]
      have hlow : ∀ d, d ∈ L (15 + t') → tauM M d < u (M 0 1) := fun d hdm => by
        rcases e1 with ⟨-, x2⟩ | ⟨x1, x2, x3⟩
        · rw [show L (15 + t') = [] from x2] at hdm
          cases hdm
        · have h3 : tauM M d ≤ u (M 2 (8 * t' + 7)) := x3 d hdm
          have x2 : u (M 2 (8 * t' + 7)) ≤ u (M 0 1) := x2
          have hne : u (M 2 (8 * t' + 7)) ≠ u (M 0 1) := fun e => hnl (by
            show M 2 (8 * t' + 7) = M 0 1
            rw [show M 2 (8 * t' + 7) = nI (u (M 2 (8 * t' + 7))) from x1, e]
            exact t1.symm)
          omega
      refine ⟨Or.inr ⟨by rw [e7]; exact t1, by rw [e7]; exact Nat.le_refl _, fun d hdm => ?_⟩, ?_⟩
      · rw [e7]
        rcases List.mem_append.mp hdm with hdm | hdm
        · rw [htd d hdm]
          exact Nat.le_of_lt (hlow d hdm)
        · rw [List.mem_singleton.mp hdm, et]
          exact Nat.le_refl _
      · refine List.pairwise_append.mpr ⟨List.Pairwise.imp_of_mem (fun {a b} hma hmb hr => ?_) e2, List.pairwise_singleton _ _, fun a hma b hmb => ?_⟩
        · rw [htd a hma, htd b hmb]
          exact hr
        · rw [List.mem_singleton.mp hmb, et, htd a hma]
          exact hlow a hma
    · rw [if_neg q]
      have e7 : entM M c t 2 (8 * t' + 7) = M 2 (8 * t' + 7) := by simp (disch := omega) only [entM, pM, mU_r, mU_c]
      rw [e7]
      refine ⟨?_, List.Pairwise.imp_of_mem (fun {a b} hma hmb hr => ?_) e2⟩
      · rcases e1 with x | ⟨x1, x2, x3⟩
        · exact Or.inl x
        · refine Or.inr ⟨x1, x2, fun d hdm => ?_⟩
          rw [htd d hdm]
          exact x3 d hdm
      · rw [htd a hma, htd b hmb]
        exact hr
  · rw [sta_S hst] at hs'
    rw [show entM M c t 1 (9 * s' + 4) = M 1 (9 * s' + 4) by simp (disch := omega) only [entM, pM, mU_r], nC', show M 1 (9 * s' + 4) = _ from hR s' hs']
    congr 1
    refine (cnt_ext _ (fun d _ => ?_)).symm
    by_cases q : d = c
    · subst q
      unfold dlB
      rw [m0, show M 4 (9 * d + 0) = 1 from s1]
      rfl
    · exact dlB_off (hd d 0 q (by decide)) (hd d 1 q (by decide))
  · show entM M c t 0 7 = smT (entM M c t) (nC (entM M c t))
    rw [ent_r0 _ _ _ _ (by decide), nC', smT_upd hd (by rw [show M 4 (9 * c + 0) = 1 from s1]; decide), if_neg (fun q => by rw [m0] at q; exact absurd q.2 (by decide)), Int32.add_zero]
    exact hT
end JSTEP
