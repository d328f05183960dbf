/-! ===== the class takes an entry ===== -/
section LADDEN
theorem aEn_E {M : Nat → Nat → Int32} (hN : iN M) (hf : nE M < 12) {v0 v1 v2 v3 v4 : Int32} : nE (aEnM M v0 v1 v2 v3 v4) = nE M + 1 := by
  show u (aEnM M v0 v1 v2 v3 v4 0 4) = _
  have e : aEnM M v0 v1 v2 v3 v4 0 4 = M 0 4 + 1 := mU_s
  rw [e, hN.2.2.1.1, nI_1, u_nI (by omega)]
theorem aEn_3 {M : Nat → Nat → Int32} {v0 v1 v2 v3 v4 : Int32} {e w : Nat} (h : e ≠ nE M) (hw : w < 5) : aEnM M v0 v1 v2 v3 v4 3 (5 * e + w) = M 3 (5 * e + w) := by simp (disch := omega) only [aEnM, aE5, mU_r, mU_c]
theorem cO_entry {X : bS} {A : Nat → Nat → Nat} {M : Nat → Nat → Int32} (hN : iN M) (hf : nE M < 12) {v0 v1 v2 v3 v4 : Int32} {q : Nat} (hO : cO X A M) (k0 : gK X q = 3) (k1 : gV X 3 q 0 = v0) (k2 : gV X 3 q 1 = v1) (k3 : gV X 3 q 2 = v2) (k4 : gV X 3 q 3 = v3) (k5 : gV X 3 q 4 = v4) : cO X (upA A 4 (nE M) q) (aEnM M v0 v1 v2 v3 v4) := by
  obtain ⟨hP, hNt, hAr, hSt, hTb, hCa, hEn, hIn, hTm⟩ := hO
  have hn := aEn_E hN hf (v0 := v0) (v1 := v1) (v2 := v2) (v3 := v3) (v4 := v4)
  have a0 : upA A 4 (nE M) q 0 = A 0 := upA_r (by decide)
  have a1 : upA A 4 (nE M) q 1 = A 1 := upA_r (by decide)
  have a2 : upA A 4 (nE M) q 2 = A 2 := upA_r (by decide)
  have a3 : upA A 4 (nE M) q 3 = A 3 := upA_r (by decide)
  have a5 : upA A 4 (nE M) q 5 = A 5 := upA_r (by decide)
  have a6 : upA A 4 (nE M) q 6 = A 6 := upA_r (by decide)
  refine ⟨?_, ?_, ?_, ?_, ?_, ?_, fun e he => ?_, ?_, ?_⟩
  · unfold oP
    rw [a0, a5]
    exact hP
  · unfold oNt
    rw [a0, a5]
    exact hNt
  · unfold oAr
    rw [a1, a6]
    exact hAr
  · unfold oSt
    rw [a1, a5]
    exact hSt
  · unfold oTb
    rw [a1, a2, a5]
    exact hTb
  · unfold oCa
    rw [a1, a3]
    exact hCa
  · rw [hn] at he
    by_cases q0 : e = nE M
    · subst q0
      rw [upA_s]
      refine ⟨k0, fun w hw => ?_⟩
      rcases (show w = 0 ∨ w = 1 ∨ w = 2 ∨ w = 3 ∨ w = 4 by omega) with x | x | x | x | x <;> subst x
      · rw [k1]; simp (disch := omega) only [aEnM, aE5, mU_s, mU_r, mU_c]
      · rw [k2]; simp (disch := omega) only [aEnM, aE5, mU_s, mU_r, mU_c]
      · rw [k3]; simp (disch := omega) only [aEnM, aE5, mU_s, mU_r, mU_c]
      · rw [k4]; simp (disch := omega) only [aEnM, aE5, mU_s, mU_r, mU_c]
      · rw [k5]; simp (disch := omega) only [aEnM, aE5, mU_s, mU_r, mU_c]
    · rw [upA_c q0]
      obtain ⟨x0, x1⟩ := hEn e (by omega)
      exact ⟨x0, fun w hw => by rw [aEn_3 q0 hw]; exact x1 w hw⟩
  · unfold oIn
    rw [a1, a2, a3]
    exact hIn
  · unfold oTm
    rw [a1, a6]
    exact hTm
theorem lsC_entry {A : Nat → Nat → Nat} {M : Nat → Nat → Int32} {L : Nat → List Nat} (hN : iN M) (hf : nE M < 12) {v0 v1 v2 v3 v4 : Int32} {q i : Nat} : lsC (upA A 4 (nE M) q) (aEnM M v0 v1 v2 v3 v4) L i = up (lsC A M L) 2 (lsC A M L 2 ++ [q]) i := by
  have hn := aEn_E hN hf (v0 := v0) (v1 := v1) (v2 := v2) (v3 := v3) (v4 := v4)
  have a1 : upA A 4 (nE M) q 1 = A 1 := upA_r (by decide)
  have a2 : upA A 4 (nE M) q 2 = A 2 := upA_r (by decide)
  have a3 : upA A 4 (nE M) q 3 = A 3 := upA_r (by decide)
  by_cases q2 : i = 2
  · subst q2
    rw [up_s]
    show (List.range (nE (aEnM M v0 v1 v2 v3 v4))).map (upA A 4 (nE M) q 4) = (List.range (nE M)).map (A 4) ++ [q]
    rw [hn, List.range_succ, List.map_append]
    congr 1
    · exact List.map_congr_left (fun d hd => upA_c (by have := List.mem_range.mp hd; omega))
    · show [upA A 4 (nE M) q 4 (nE M)] = [q]
      rw [upA_s]
  · rw [up_n q2]
    unfold lsC
    rw [a1, a2, a3, if_neg q2, if_neg q2]
    rfl
variable {B K : Nat} {P : pP} {cp : Nat → Nat}
theorem C_refuse {S : bS} {A : Nat → Nat → Nat} (h : cR S A cp P) (hw : wI B K P.1 P.2) {sort what how : Int32} (hs : (0 : Int32) ≤ sort ∧ sort ≤ 2) {MC MS : Nat} {post : bS → Prop} {xp : String → bS → Prop} (ok : deedOK P sort what how → post S) (bad : ¬ deedOK P sort what how → 1 ≤ MC ∧ 6 ≤ MS ∧ xp "java/lang/IndexOutOfBoundsException" S) : wp_X5_refuseWrongDeed post xp MC MS (A 0 0) sort what how S := by
  have h14 := hw.1.1.2
  have h30 := hw.1.2.1.2
  obtain ⟨k, -, k2, rfl⟩ := rng_iff (a := 0) (b := 2) (by decide) (by decide) hs
  unfold deedOK at ok bad
  rcases (show k = 0 ∨ k = 1 ∨ k = 2 by omega) with e | e | e <;> subst e
  · rw [if_pos (show nI 0 = 0 from rfl)] at ok bad
    refine ⟨fun _ => ?_, fun q => absurd q (by decide)⟩
    cases hx : ixO what (nS P.1) with
    | none =>
      refine ⟨h.1.1.1, MC, MS, Nat.le_refl _, Nat.le_refl _, C_knownSt h hw (fun _ => bad (fun q => ?_)) (fun s hs' => (by rw [hx] at hs'; cases hs'))⟩
      obtain ⟨i, hi, -⟩ := q
      rw [hx] at hi
      cases hi
    | some i =>
      obtain ⟨-, hi⟩ := ixO_some (by omega) hx
      refine ⟨h.1.1.1, 0, 0, Nat.zero_le _, Nat.zero_le _, C_knownSt h hw (fun q => (by rw [hx] at q; cases q)) (fun s hs' => ⟨_, rfl, fun _ => ?_, fun q => absurd q (by decide)⟩)⟩
      rw [hx] at hs'
      cases hs'
      refine ⟨(h.1.2.2.2.1 i hi).1, C_hasSw h hw hi ?_⟩
      by_cases hc : (-1 : Int32) ≤ how ∧ how ≤ nI (mny P.1 i) - 1
      · rw [if_pos hc]
        exact ⟨fun _ => ok ⟨i, hx, hc⟩, fun q => absurd q (by decide)⟩
      · rw [if_neg hc]
        refine ⟨fun q => absurd rfl q, fun _ => bad (fun q => hc ?_)⟩
        obtain ⟨j, hj, hh⟩ := q
        rw [hx] at hj
        cases hj
        exact hh
  · rw [if_neg (show ¬ nI 1 = 0 by decide), if_pos (show nI 1 = 1 from rfl)] at ok bad
    refine ⟨fun q => absurd rfl q, fun _ => ?_⟩
    cases hx : ixO what (nT P.1) with
    | none =>
      refine ⟨h.1.1.1, MC, MS, Nat.le_refl _, Nat.le_refl _, C_knownTu h hw (fun _ => bad (fun q => ?_)) (fun s hs' => (by rw [hx] at hs'; cases hs'))⟩
      obtain ⟨⟨i, hi⟩, -⟩ := q
      rw [hx] at hi
      cases hi
    | some i =>
      refine ⟨h.1.1.1, 0, 0, Nat.zero_le _, Nat.zero_le _, C_knownTu h hw (fun q => (by rw [hx] at q; cases q)) (fun s hs' => ⟨_, rfl, C_isOut ?_⟩)⟩
      by_cases hc : (0 : Int32) ≤ how ∧ how ≤ 1
      · rw [if_pos hc]
        exact ⟨fun _ => ok ⟨⟨i, hx⟩, hc⟩, fun q => absurd rfl q⟩
      · rw [if_neg hc]
        exact ⟨fun q => absurd (show (1 : Int32) = 0 from q) (by decide), fun _ => bad (fun q => hc q.2)⟩
  · rw [if_neg (show ¬ nI 2 = 0 by decide), if_neg (show ¬ nI 2 = 1 by decide)] at ok bad
    refine ⟨fun _ => ?_, fun q => absurd q (by decide)⟩
    cases hx : ixO what (nS P.1) with
    | none =>
      refine ⟨h.1.1.1, MC, MS, Nat.le_refl _, Nat.le_refl _, C_knownSt h hw (fun _ => bad (fun q => ?_)) (fun s hs' => (by rw [hx] at hs'; cases hs'))⟩
      obtain ⟨⟨i, hi⟩, -⟩ := q
      rw [hx] at hi
      cases hi
    | some i =>
      refine ⟨h.1.1.1, 0, 0, Nat.zero_le _, Nat.zero_le _, C_knownSt h hw (fun q => (by rw [hx] at q; cases q)) (fun s hs' => ⟨_, rfl, fun q => absurd rfl q, fun _ => ?_⟩)⟩
      cases hy : ixO how (nS P.1) with
      | none =>
        refine ⟨h.1.1.1, MC, MS, Nat.le_refl _, Nat.le_refl _, C_knownSt h hw (fun _ => bad (fun q => ?_)) (fun s hs' => (by rw [hy] at hs'; cases hs'))⟩
        obtain ⟨-, k, hk⟩ := q
        rw [hy] at hk
        cases hk
      | some k => exact ⟨h.1.1.1, 0, 0, Nat.zero_le _, Nat.zero_le _, C_knownSt h hw (fun q => (by rw [hy] at q; cases q)) (fun s hs' => ⟨_, rfl, ok ⟨⟨i, hx⟩, k, hy⟩⟩)⟩
theorem L_addEntry (hw : wI B K P.1 P.2) (first period sort what how : Int32) : ∃ cp', cQz P cp cp' (qAddEntry P first period sort what how) (fun post MC MS out A S => wp_L_addEntry post MC MS (A 0 0) first period sort what how out S) := by
  unfold qAddEntry
  have h12 := hw.1.2.2.1.2
  by_cases c1 : first ≤ P.1 0 1
  · rw [if_pos c1]
    refine ⟨cp, cQ_z1 (cQ_fl (by decide) (fun S A MC MS out post h h1 h6 hp => ⟨h.1.1.1, MC, MS, Nat.le_refl _, Nat.le_refl _, h.1.1.1, ?_⟩))⟩
    rw [h.1.1.2.2.2.2.1]
    exact ⟨fun _ => ⟨h1, h6, fun _ => hp S h (cF_rf A S), fun q => absurd q.symm io_ia, fun q => absurd q ia_is, fun q => absurd rfl q⟩, fun q => absurd c1 q⟩
  · rw [if_neg c1]
    by_cases c2 : (100000 : Int32) < first
    · rw [if_pos c2]
      refine ⟨cp, cQ_z1 (cQ_fl (by decide) (fun S A MC MS out post h h1 h6 hp => ⟨h.1.1.1, MC, MS, Nat.le_refl _, Nat.le_refl _, h.1.1.1, ?_⟩))⟩
      rw [h.1.1.2.2.2.2.1]
      exact ⟨fun q => absurd q c1, fun _ => ⟨fun _ => ⟨h1, h6, fun _ => hp S h (cF_rf A S), fun q => absurd q.symm io_ia, fun q => absurd q ia_is, fun q => absurd rfl q⟩, fun q => absurd c2 q⟩⟩
    · rw [if_neg c2]
      by_cases c3 : (0 : Int32) ≤ period ∧ period ≤ 500
      · rw [if_pos c3]
        by_cases c4 : (0 : Int32) ≤ sort ∧ sort ≤ 2
        · rw [if_pos c4]
          by_cases c5 : deedOK P sort what how
          · rw [if_pos c5]
            by_cases c6 : P.1 0 4 = 12
            · rw [if_pos c6]
              refine ⟨cp, cQ_z1 (cQ_fl (by decide) (fun S A MC MS out post h h1 h6 hp => ⟨h.1.1.1, MC, MS, Nat.le_refl _, Nat.le_refl _, h.1.1.1, ?_⟩))⟩
              rw [h.1.1.2.2.2.2.1]
              refine ⟨fun q => absurd q c1, fun _ => ⟨fun q => absurd q c2, fun _ => C_isOut ?_⟩⟩
              rw [if_pos c3]
              refine ⟨fun q => absurd rfl q, fun _ => C_isOut ?_⟩
              rw [if_pos c4]
              obtain ⟨e, hL⟩ := cl_at h (i := 2) (Or.inl (by decide))
              refine ⟨fun _ => ⟨h.1.1.1, 0, 0, Nat.zero_le _, Nat.zero_le _, C_refuse h hw c4 (fun _ => ⟨h.1.1.1, _, h.1.1.2.2.1, hL.1, C_size hL ?_⟩) (fun q => absurd c5 q)⟩, fun q => absurd rfl q⟩
              rw [ls_2, List.length_map, List.length_range, ← hw.1.2.2.1.1, c6]
              exact ⟨fun q => absurd q (by decide), fun _ => ⟨h1, h6, fun q => absurd q.symm ia_is, fun q => absurd q.symm io_is, fun _ => hp S h (cF_rf A S), fun _ _ q => absurd rfl q⟩⟩
            · rw [if_neg c6]
              have hf : nE P.1 < 12 := ne_full hw.1.2.2.1.1 h12 c6
              have hnE := aEn_E (M := (T0 P).1) (wI_T0 hw).1 hf (v0 := first) (v1 := period) (v2 := sort) (v3 := what) (v4 := how)
              have hpl := potC_le (cp := cp) (i := 2) (c' := cp1 (nE P.1) (cp 2)) cp1_ge 62
              have hpA : ∀ c, potA (aEnM (T0 P).1 first period sort what how) c = potC c 62 + 9 * (500 - nC P.1) + 30 * (14 - nS P.1) + 14 * (30 - nT P.1) + 5 * (11 - nE P.1) := fun c => by
                show potC c 62 + 9 * (500 - nC P.1) + 30 * (14 - nS P.1) + 14 * (30 - nT P.1) + 5 * (12 - nE (aEnM (T0 P).1 first period sort what how)) = _
                rw [hnE, show nE (T0 P).1 = nE P.1 from rfl, show 12 - (nE P.1 + 1) = 11 - nE P.1 by omega]
              refine ⟨up cp 2 (cp1 (nE P.1) (cp 2)), cQz_ok (T0_0 (P := P)) ?_ (fun z j hj hn' => ?_) (fun S A MC MS out post h hcz hzz ho hno hC hS hp => ⟨h.1.1.1, MC, MS, Nat.le_refl _, Nat.le_refl _, h.1.1.1, ?_⟩)⟩
              · show potA (aEnM (T0 P).1 first period sort what how) _ ≤ _
                rw [hpA]
                unfold potA
                omega
              · have hn2 : ¬ lvC P.1 j := hn'
                rw [up_n (j := j) (i := 2) (fun e => hn2 (by rw [e]; exact Or.inl (by decide)))]
                exact z j hj hn2
              · rw [h.1.1.2.2.2.2.1]
                refine ⟨fun q => absurd q c1, fun _ => ⟨fun q => absurd q c2, fun _ => C_isOut ?_⟩⟩
                rw [if_pos c3]
                refine ⟨fun q => absurd rfl q, fun _ => C_isOut ?_⟩
                rw [if_pos c4]
                obtain ⟨e, hL⟩ := cl_at h (i := 2) (Or.inl (by decide))
                obtain ⟨eaa, hLL⟩ := h.2
                obtain ⟨cap1, cap2, -⟩ := LSr_cap hLL (i := 2) (Or.inl (by decide))
                have hB := cpB_pot (cp := cp) (i := 2) (n := nE P.1) (by decide) cap1 (by omega) cap2
                have hC : potA P.1 cp + 6 ≤ MC + potA (aEnM (T0 P).1 first period sort what how) _ := hC
                have hS : potA P.1 cp + 6 ≤ MS + potA (aEnM (T0 P).1 first period sort what how) _ := hS
                rw [hpA] at hC hS
                unfold potA at hC hS
                refine ⟨fun _ => ⟨h.1.1.1, 0, 0, Nat.zero_le _, Nat.zero_le _, C_refuse h hw c4 (fun _ => ⟨h.1.1.1, _, h.1.1.2.2.1, hL.1, C_size hL ?_⟩) (fun q => absurd c5 q)⟩, fun q => absurd rfl q⟩
                rw [ls_2, List.length_map, List.length_range]
                refine ⟨fun _ => ⟨h.1.1.1, _, h.1.1.2.2.1, by omega, by omega, fun q hq => ?_⟩, fun q => absurd (nI_lt (b := 12) hf (by decide)) q⟩
                have hx1 : sEx S (sNew S q 3 0) := sEx_new hq (sEx_rf S)
                have kq1 : gK (sNew S q 3 0) q = 3 := by rw [gK_sNew, if_pos rfl]
                obtain ⟨X, hX⟩ : ∃ X, X = sV (sV (sV (sV (sV (sNew S q 3 0) 3 q 0 first) 3 q 1 period) 3 q 2 sort) 3 q 3 what) 3 q 4 how := ⟨_, rfl⟩
                have hx8 : sEx S X := by
                  rw [hX]
                  exact sEx_V hq (sEx_V hq (sEx_V hq (sEx_V hq (sEx_V hq hx1))))
                have x0 : gK X q = 3 := by rw [hX]; exact kq1
                have x1 : gV X 3 q 0 = first := by rw [hX]; simp [gV_sV]
                have x2 : gV X 3 q 1 = period := by rw [hX]; simp [gV_sV]
                have x3 : gV X 3 q 2 = sort := by rw [hX]; simp [gV_sV]
                have x4 : gV X 3 q 3 = what := by rw [hX]; simp [gV_sV]
                have x5 : gV X 3 q 4 = how := by rw [hX]; simp [gV_sV]
                refine ⟨kq1, ?_⟩
                rw [← hX]
                have hLX := LSr_ex hLL hx8
                have hOX := cO_l h.1 (sEx_lF hx8)
                have lv2 : lvC P.1 2 := Or.inl (by decide)
                have l2 : (lsC A P.1 P.2 2).length = nE P.1 := by rw [ls_2, List.length_map, List.length_range]
                refine ⟨(hLX.1 2 lv2).1, cpB (nE P.1) (cp 2), cpB (nE P.1) (cp 2), by omega, by omega, ?_⟩
                refine CF_add hLX lv2 (a := q) (by rw [x0]; decide) (by rw [l2]; omega) (by rw [l2]; exact Nat.le_refl _) (by rw [l2]; exact Nat.le_refl _) (fun S9 ea9 i1 i2 => ?_)
                rw [l2] at i1
                have kq : gK X q ≠ 0 := by rw [x0]; decide
                have gv : ∀ j, gV S9 3 q j = gV X 3 q j := fun j => i2.2.1 3 q j (by decide) kq
                have hO9 := cO_l (cO_l (show cO S A (T0 P).1 from h.1) (sEx_lF hx8)) i2
                have hOf := cO_entry (M := (T0 P).1) (wI_T0 hw).1 hf (v0 := first) (v1 := period) (v2 := sort) (v3 := what) (v4 := how) (q := q) hO9 (by rw [(i2.1.1 q kq).1]; exact x0) (by rw [gv]; exact x1) (by rw [gv]; exact x2) (by rw [gv]; exact x3) (by rw [gv]; exact x4) (by rw [gv]; exact x5)
                have a0 : upA A 4 (nE P.1) q 0 = A 0 := upA_r (by decide)
                have a5 : upA A 4 (nE P.1) q 5 = A 5 := upA_r (by decide)
                have a6 : upA A 4 (nE P.1) q 6 = A 6 := upA_r (by decide)
                have hLf : LSr S9 (lvC (aEnM (T0 P).1 first period sort what how)) (upA A 4 (nE P.1) q 5) ea9 (lsC (upA A 4 (nE P.1) q) (aEnM (T0 P).1 first period sort what how) P.2) (up cp 2 (cp1 (nE P.1) (cp 2))) := by
                  rw [a5]
                  exact LSr_ls (show LSr S9 (lvC (aEnM (T0 P).1 first period sort what how)) _ _ _ _ from i1) (fun i _ => lsC_entry (M := (T0 P).1) (wI_T0 hw).1 hf)
                have hle := hLf.1 2 (Or.inl (by decide))
                rw [a5] at hle
                refine ⟨hO9.1.1, _, hO9.1.2.2.1, hle.1, C_size hle ?_⟩
                have hlen : (lsC (upA A 4 (nE P.1) q) (aEnM (T0 P).1 first period sort what how) P.2 2).length = nE P.1 + 1 := by
                  show ((List.range (nE (aEnM (T0 P).1 first period sort what how))).map _).length = _
                  rw [List.length_map, List.length_range, hnE]
                  rfl
                rw [hlen, nI_pred]
                have := hp S9 _ ⟨hOf, ea9, hLf⟩ a0 (fun k => Or.inl (congrFun a6 k)) (cF_tr (cF_l (sEx_lF hx8)) (cF_l i2))
                have e4 : P.1 0 4 = nI (nE P.1) := hw.1.2.2.1.1
                rw [e4] at this
                exact this
          · rw [if_neg c5]
            refine ⟨cp, cQ_z1 (cQ_fl (by decide) (fun S A MC MS out post h h1 h6 hp => ⟨h.1.1.1, MC, MS, Nat.le_refl _, Nat.le_refl _, h.1.1.1, ?_⟩))⟩
            rw [h.1.1.2.2.2.2.1]
            refine ⟨fun q => absurd q c1, fun _ => ⟨fun q => absurd q c2, fun _ => C_isOut ?_⟩⟩
            rw [if_pos c3]
            refine ⟨fun q => absurd rfl q, fun _ => C_isOut ?_⟩
            rw [if_pos c4]
            exact ⟨fun _ => ⟨h.1.1.1, MC, MS, Nat.le_refl _, Nat.le_refl _, C_refuse h hw c4 (fun q => absurd q c5) (fun _ => ⟨h1, h6, fun q => absurd q io_ia, fun _ => hp S h (cF_rf A S), fun q => absurd q io_is, fun _ q => absurd rfl q⟩)⟩, fun q => absurd rfl q⟩
        · rw [if_neg c4]
          refine ⟨cp, cQ_z1 (cQ_fl (by decide) (fun S A MC MS out post h h1 h6 hp => ⟨h.1.1.1, MC, MS, Nat.le_refl _, Nat.le_refl _, h.1.1.1, ?_⟩))⟩
          rw [h.1.1.2.2.2.2.1]
          refine ⟨fun q => absurd q c1, fun _ => ⟨fun q => absurd q c2, fun _ => C_isOut ?_⟩⟩
          rw [if_pos c3]
          refine ⟨fun q => absurd rfl q, fun _ => C_isOut ?_⟩
          rw [if_neg c4]
          exact ⟨fun q => absurd (show (1 : Int32) = 0 from q) (by decide), fun _ => ⟨h1, h6, fun _ => hp S h (cF_rf A S), fun q => absurd q.symm io_ia, fun q => absurd q ia_is, fun q => absurd rfl q⟩⟩
      · rw [if_neg c3]
        refine ⟨cp, cQ_z1 (cQ_fl (by decide) (fun S A MC MS out post h h1 h6 hp => ⟨h.1.1.1, MC, MS, Nat.le_refl _, Nat.le_refl _, h.1.1.1, ?_⟩))⟩
        rw [h.1.1.2.2.2.2.1]
        refine ⟨fun q => absurd q c1, fun _ => ⟨fun q => absurd q c2, fun _ => C_isOut ?_⟩⟩
        rw [if_neg c3]
        exact ⟨fun _ => ⟨h1, h6, fun _ => hp S h (cF_rf A S), fun q => absurd q.symm io_ia, fun q => absurd q ia_is, fun q => absurd rfl q⟩, fun q => absurd (show (1 : Int32) = 0 from q) (by decide)⟩
end LADDEN
