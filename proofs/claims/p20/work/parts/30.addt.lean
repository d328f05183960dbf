theorem row8 {M : Nat → Nat → Int32} {i b : Nat} {F : Nat → Int32} {v0 v1 v2 v3 v4 v5 v6 v7 : Int32} (h0 : F 0 = v0) (h1 : F 1 = v1) (h2 : F 2 = v2) (h3 : F 3 = v3) (h4 : F 4 = v4) (h5 : F 5 = v5) (h6 : F 6 = v6) (h7 : F 7 = v7) : mRow M i (va_cpy F (M i) 0 b 8) = mU (mU (mU (mU (mU (mU (mU (mU M i (b + 0) v0) i (b + 1) v1) i (b + 2) v2) i (b + 3) v3) i (b + 4) v4) i (b + 5) v5) i (b + 6) v6) i (b + 7) v7 := by
  funext i' j
  unfold mRow mU va_cpy
  by_cases hi : i' = i
  · subst hi
    rw [if_pos rfl]
    by_cases hb : b ≤ j ∧ j < b + 8
    · rw [if_pos hb]
      rcases (show j = b + 0 ∨ j = b + 1 ∨ j = b + 2 ∨ j = b + 3 ∨ j = b + 4 ∨ j = b + 5 ∨ j = b + 6 ∨ j = b + 7 by omega) with e | e | e | e | e | e | e | e
      · subst e; simp [h0]
      · subst e; simp [h1]
      · subst e; simp [h2]
      · subst e; simp [h3]
      · subst e; simp [h4]
      · subst e; simp [h5]
      · subst e; simp [h6]
      · subst e; simp [h7]
    · rw [if_neg hb]
      simp only [true_and]
      rw [if_neg (by omega), if_neg (by omega), if_neg (by omega), if_neg (by omega), if_neg (by omega), if_neg (by omega), if_neg (by omega), if_neg (by omega)]
  · simp [hi]
/-- the eight numbers of a new tube -/
def aT8 (M : Nat → Nat → Int32) (fr to len sp bo : Int32) : Nat → Nat → Int32 := mU (mU (mU (mU (mU (mU (mU (mU M 2 (8 * nT M + 0) fr) 2 (8 * nT M + 1) to) 2 (8 * nT M + 2) len) 2 (8 * nT M + 3) sp) 2 (8 * nT M + 4) bo) 2 (8 * nT M + 5) 1) 2 (8 * nT M + 6) 0) 2 (8 * nT M + 7) (-1)
def aTuM (M : Nat → Nat → Int32) (a : Nat) (fr to len sp bo : Int32) : Nat → Nat → Int32 := mU (mU (mU (aT8 M fr to len sp bo) 1 (9 * a + (5 + mny M a)) (M 0 3)) 1 (9 * a + 2) (M 1 (9 * a + 2) + 1)) 0 3 (M 0 3 + 1)
def qAddTube (P : pP) (fr to len sp bo : Int32) : Int32 × pP := match ixO fr (nS P.1), ixO to (nS P.1) with
  | some a, some _ => if fr = to then fl P 2 else if (1 : Int32) ≤ len ∧ len ≤ 60 then (if (1 : Int32) ≤ sp ∧ sp ≤ 6 then (if (1 : Int32) ≤ bo ∧ bo ≤ 8 then (if P.1 0 3 = 30 then fl P 3 else if P.1 1 (9 * a + 2) = 4 then fl P 3 else (P.1 0 3, (aTuM (T0 P).1 a fr to len sp bo, P.2))) else fl P 2) else fl P 2) else fl P 2
  | _, _ => fl P 1
section GROW2
variable {μ : Nat} {r : Nat → Nat} {S : bS}
theorem M_addTube (hM : mOK μ r S) {f g : Nat → Int32} {B K MC MS : Nat} {P : pP} (h : wI B K P.1 P.2) (hMC : 1 ≤ MC) (hMS : 8 ≤ MS) {fr to len sp bo : Int32} {post : Int32 → bS → Prop} (hp : ∀ S' f g, sEx S S' → post (qAddTube P fr to len sp bo).1 (mW μ r S' (mX (qAddTube P fr to len sp bo).2.1 f g))) : wp_X6_addTube post MC MS μ fr to len sp bo (mW μ r S (mX P.1 f g)) := by
  have h14 := h.1.1.2
  have h30 := h.1.2.1.2
  have h0 := wI_T0 h
  unfold wp_X6_addTube
  rw [st0]
  unfold qAddTube at hp
  refine ⟨m_k (M := mX P.1 f g) hM, M_isSt hM h0.1 ?_⟩
  rw [show nS (T0 P).1 = nS P.1 from rfl]
  cases hx : ixO fr (nS P.1) with
  | none =>
    rw [hx] at hp
    exact ⟨fun _ => ⟨m_k hM, M_failX hM (hp S f g (sEx_rf S))⟩, fun q => absurd rfl q⟩
  | some a =>
    obtain ⟨e1, e2⟩ := ixO_some (by omega) hx
    refine ⟨fun q => absurd (show (1 : Int32) = 0 from q) (by decide), fun _ => ⟨m_k hM, M_isSt hM h0.1 ?_⟩⟩
    rw [show nS (T0 P).1 = nS P.1 from rfl]
    cases hy : ixO to (nS P.1) with
    | none =>
      rw [hx, hy] at hp
      exact ⟨fun q => absurd rfl q, fun _ => ⟨m_k hM, M_failX hM (hp S f g (sEx_rf S))⟩⟩
    | some b =>
      rw [hx, hy] at hp
      obtain ⟨-, -, hm, -⟩ := h.2.2.1 a e2
      refine ⟨fun _ => ⟨fun he => ?_, fun hne => M_isIn ?_⟩, fun q => absurd (show (1 : Int32) = 0 from q) (by decide)⟩
      · simp only [if_pos he] at hp
        exact ⟨m_k hM, M_failX hM (hp S f g (sEx_rf S))⟩
      · simp only [if_neg hne] at hp
        by_cases c1 : (1 : Int32) ≤ len ∧ len ≤ 60
        · simp only [if_pos c1] at hp
          rw [if_pos c1]
          refine ⟨fun q => absurd q (by decide), fun _ => M_isIn ?_⟩
          by_cases c2 : (1 : Int32) ≤ sp ∧ sp ≤ 6
          · simp only [if_pos c2] at hp
            rw [if_pos c2]
            refine ⟨fun q => absurd q (by decide), fun _ => M_isIn ?_⟩
            by_cases c3 : (1 : Int32) ≤ bo ∧ bo ≤ 8
            · simp only [if_pos c3] at hp
              rw [if_pos c3]
              refine ⟨fun _ => ⟨m_k hM, ?_⟩, fun q => absurd q (by decide)⟩
              rw [mW_V0, show mX (T0 P).1 f g 0 3 = P.1 0 3 from rfl]
              refine ⟨fun he => ?_, fun hne3 => ?_⟩
              · simp only [if_pos he] at hp
                exact ⟨m_k hM, M_failX hM (hp S f g (sEx_rf S))⟩
              · simp only [if_neg hne3] at hp
                rw [e1]
                refine M_st (w := 2) hM (by omega) ⟨fun hn4 => ⟨by decide, by decide, hMC, hMS, fun q hq => ?_⟩, fun h4 => ?_⟩
                · have hn4' : ¬ P.1 1 (9 * a + 2) = 4 := hn4
                  simp only [if_neg hn4'] at hp
                  have hqS : gK S q = 0 := hq
                  have hn := new_ne hM hqS
                  have hn30 : nT P.1 < 30 := by
                    rcases Nat.lt_or_ge (nT P.1) 30 with x | x
                    · exact x
                    · exact absurd (by rw [h.1.2.1.1, show nT P.1 = 30 by omega]; rfl) hne3
                  have hm4 : mny P.1 a < 4 := by
                    rcases Nat.lt_or_ge (mny P.1 a) 4 with x | x
                    · exact x
                    · exact absurd (by rw [hm.1, show mny P.1 a = 4 by omega]; rfl) hn4'
                  have E : ∀ (S0 : bS) (j : Nat) (v : Int32) (M : Nat → Nat → Int32), sV (mW μ r S0 M) 9 q j v = mW μ r (sV S0 9 q j v) M := fun S0 j v M => sV_W hn
                  rw [sNew_W hn]
                  simp only [E, show Int32.toNatClampNeg (8 : Int32) = 8 by decide, show Int32.toNatClampNeg (7 : Int32) = 7 by decide, show Int32.toNatClampNeg (6 : Int32) = 6 by decide, show Int32.toNatClampNeg (5 : Int32) = 5 by decide, show Int32.toNatClampNeg (4 : Int32) = 4 by decide, show Int32.toNatClampNeg (3 : Int32) = 3 by decide, show Int32.toNatClampNeg (2 : Int32) = 2 by decide, show Int32.toNatClampNeg (1 : Int32) = 1 by decide, show Int32.toNatClampNeg (0 : Int32) = 0 by decide]
                  obtain ⟨S', hS'⟩ : ∃ S', S' = sV (sV (sV (sV (sV (sV (sV (sV (sNew S q 9 8) 9 q 0 (nI a)) 9 q 1 to) 9 q 2 len) 9 q 3 sp) 9 q 4 bo) 9 q 5 1) 9 q 6 0) 9 q 7 (-1) := ⟨_, rfl⟩
                  have hEx : sEx S S' := by
                    rw [hS']
                    exact sEx_V hqS (sEx_V hqS (sEx_V hqS (sEx_V hqS (sEx_V hqS (sEx_V hqS (sEx_V hqS (sEx_V hqS (sEx_new hqS (sEx_rf S)))))))))
                  have hM' := mOK_ex hM hEx
                  have hN8 : gN S' q = 8 := by
                    rw [hS']
                    simp only [gN_sV, gN_sNew, if_true]
                  have g8 : ∀ M, gN (mW μ r S' M) q = 8 := fun M => hN8
                  rw [← hS']
                  refine ⟨?_, ?_, ?_, ?_, ?_, ?_, ?_, ?_, m_k hM', r 2, (m_q hM').2.1, mW_k2 hM', ?_, r 1, hM'.2.1.1, ?_⟩
                  · simp only [mW_N, gN_sNew, gN_sV, if_true]; exact vp_in_nI (n := 0) (N := 8) (by decide) (by decide)
                  · simp only [mW_N, gN_sNew, gN_sV, if_true]; exact vp_in_nI (n := 1) (N := 8) (by decide) (by decide)
                  · simp only [mW_N, gN_sNew, gN_sV, if_true]; exact vp_in_nI (n := 2) (N := 8) (by decide) (by decide)
                  · simp only [mW_N, gN_sNew, gN_sV, if_true]; exact vp_in_nI (n := 3) (N := 8) (by decide) (by decide)
                  · simp only [mW_N, gN_sNew, gN_sV, if_true]; exact vp_in_nI (n := 4) (N := 8) (by decide) (by decide)
                  · simp only [mW_N, gN_sNew, gN_sV, if_true]; exact vp_in_nI (n := 5) (N := 8) (by decide) (by decide)
                  · simp only [mW_N, gN_sNew, gN_sV, if_true]; exact vp_in_nI (n := 6) (N := 8) (by decide) (by decide)
                  · simp only [mW_N, gN_sNew, gN_sV, if_true]; exact vp_in_nI (n := 7) (N := 8) (by decide) (by decide)
                  · rw [mW_V0, show mX (T0 P).1 f g 0 3 = nI (nT P.1) from h.1.2.1.1, show (8 : Int32) = nI 8 from rfl, pk_mul, g8, mW_n2 hM', nI_clamp (n := 8 * nT P.1) (by omega)]
                    exact ⟨by decide, nI_pos (by omega), by decide, by decide, by omega⟩
                  · rw [mW_V0, show mX (T0 P).1 f g 0 3 = nI (nT P.1) from h.1.2.1.1, show (8 : Int32) = nI 8 from rfl, pk_mul, nI_clamp (n := 8 * nT P.1) (by omega)]
                    have eF : mRow (mX (T0 P).1 f g) 2 (va_cpy (gV (mW μ r S' (mX (T0 P).1 f g)) 9 q) (gV (mW μ r S' (mX (T0 P).1 f g)) 9 (r 2)) 0 (8 * nT P.1) 8) = mX (aT8 (T0 P).1 (nI a) to len sp bo) f g := by
                      rw [show gV (mW μ r S' (mX (T0 P).1 f g)) 9 (r 2) = mX (T0 P).1 f g 2 from funext (fun j => mW_V2 hM' j)]
                      have gq : ∀ j, gV (mW μ r S' (mX (T0 P).1 f g)) 9 q j = gV S' 9 q j := fun j => gV_W hn
                      rw [row8 (v0 := nI a) (v1 := to) (v2 := len) (v3 := sp) (v4 := bo) (v5 := 1) (v6 := 0) (v7 := -1) (by rw [gq, hS']; simp [gV_sV]) (by rw [gq, hS']; simp [gV_sV]) (by rw [gq, hS']; simp [gV_sV]) (by rw [gq, hS']; simp [gV_sV]) (by rw [gq, hS']; simp [gV_sV]) (by rw [gq, hS']; simp [gV_sV]) (by rw [gq, hS']; simp [gV_sV]) (by rw [gq, hS']; simp [gV_sV])]
                      rw [mX_U (by decide) (by decide), mX_U (by decide) (by decide), mX_U (by decide) (by decide), mX_U (by decide) (by decide), mX_U (by decide) (by decide), mX_U (by decide) (by decide), mX_U (by decide) (by decide), mX_U (by decide) (by decide)]
                      rfl
                    rw [sF_2 hM', eF]
                    refine M_st (w := 2) hM' (by omega) ⟨m_k hM', mW_k1 hM', ?_⟩
                    have em : mX (aT8 (T0 P).1 (nI a) to len sp bo) f g 1 (9 * a + 2) = nI (mny P.1 a) := hm.1
                    have ex : (9 : Int32) * nI a + 5 + nI (mny P.1 a) = nI (9 * a + (5 + mny P.1 a)) := by
                      rw [show (5 : Int32) = nI 5 from rfl, i_9, nI_add, Nat.add_assoc]
                    have e3 : mX (aT8 (T0 P).1 (nI a) to len sp bo) f g 0 3 = P.1 0 3 := rfl
                    rw [em, ex, mW_V0, e3, nI_clamp (n := 9 * a + (5 + mny P.1 a)) (by omega), sW_1 hM', mX_U (by decide) (by decide), show (2 : Int32) = nI 2 from rfl, i_9, nI_clamp (n := 9 * a + 2) (by omega)]
                    refine ⟨?_, r 1, hM'.2.1.1, mW_k1 hM', ?_, ?_, ?_⟩
                    · rw [mW_n1 hM']
                      exact vp_in_nI (by omega) (by omega)
                    · rw [mW_n1 hM']
                      exact vp_in_nI (by omega) (by omega)
                    · rw [mW_n1 hM']
                      exact vp_in_nI (by omega) (by omega)
                    · rw [mW_V1 hM', sW_1 hM', mX_U (by decide) (by decide), mW_V0, sW_0, mX_U (by decide) (by decide), mW_V0]
                      have e4 : mX (mU (aT8 (T0 P).1 (nI a) to len sp bo) 1 (9 * a + (5 + mny P.1 a)) (P.1 0 3)) f g 1 (9 * a + 2) = P.1 1 (9 * a + 2) := by
                        show mU (aT8 (T0 P).1 (nI a) to len sp bo) 1 (9 * a + (5 + mny P.1 a)) (P.1 0 3) 1 (9 * a + 2) = P.1 1 (9 * a + 2)
                        rw [mU_c (by omega)]
                        rfl
                      rw [e4]
                      have e5 : ∀ x : Int32, mX (mU (mU (aT8 (T0 P).1 (nI a) to len sp bo) 1 (9 * a + (5 + mny P.1 a)) (P.1 0 3)) 1 (9 * a + 2) x) f g 0 3 = P.1 0 3 := fun x => rfl
                      rw [e5]
                      have e6 : ∀ (M0 : Nat → Nat → Int32) (x : Int32), mX (mU M0 0 3 x) f g 0 3 = x := fun M0 x => rfl
                      rw [e6, show P.1 0 3 + 1 - 1 = P.1 0 3 by rw [h.1.2.1.1, nI_1, nI_pred]]
                      have := hp S' f g hEx
                      rw [e1] at this
                      exact this
                · have h4' : P.1 1 (9 * a + 2) = 4 := h4
                  simp only [if_pos h4'] at hp
                  exact ⟨m_k hM, M_failX hM (hp S f g (sEx_rf S))⟩
            · simp only [if_neg c3] at hp
              rw [if_neg c3]
              exact ⟨fun q => absurd rfl q, fun _ => ⟨m_k hM, M_failX hM (hp S f g (sEx_rf S))⟩⟩
          · simp only [if_neg c2] at hp
            rw [if_neg c2]
            exact ⟨fun _ => ⟨m_k hM, M_failX hM (hp S f g (sEx_rf S))⟩, fun q => absurd rfl q⟩
        · simp only [if_neg c1] at hp
          rw [if_neg c1]
          exact ⟨fun _ => ⟨m_k hM, M_failX hM (hp S f g (sEx_rf S))⟩, fun q => absurd rfl q⟩
end GROW2
