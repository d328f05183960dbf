/-! ===== stores that grow; the reference's additions ===== -/
/-- all that lived is as it was -/
def sEx (S S' : bS) : Prop := (∀ a, gK S a ≠ 0 → gK S' a = gK S a ∧ gN S' a = gN S a ∧ (∀ κ j, gV S' κ a j = gV S κ a j) ∧ (∀ κ j, gQ S' κ a j = gQ S κ a j) ∧ ∀ j, gL S' a j = gL S a j) ∧ ∀ a, gK S' a = 14 → gK S a = 14
theorem sEx_rf (S : bS) : sEx S S := ⟨fun _ _ => ⟨rfl, rfl, fun _ _ => rfl, fun _ _ => rfl, fun _ => rfl⟩, fun _ h => h⟩
theorem sEx_new {S S' : bS} {q κ n : Nat} (hq : gK S q = 0) (h : sEx S S') (hκ : κ ≠ 14 := by decide) : sEx S (sNew S' q κ n) := ⟨fun a ha => by
  have hne : a ≠ q := fun e => ha (e ▸ hq)
  obtain ⟨h1, h2, h3, h4, h5⟩ := h.1 a ha
  refine ⟨?_, ?_, fun κ j => ?_, fun κ j => ?_, fun j => ?_⟩
  · rw [gK_sNew, if_neg hne, h1]
  · rw [gN_sNew, if_neg hne, h2]
  · rw [gV_sNew, if_neg hne, h3]
  · rw [gQ_sNew, if_neg hne, h4]
  · rw [gL_sNew, if_neg hne, h5], fun a ha => by
  rw [gK_sNew] at ha
  by_cases e : a = q
  · rw [if_pos e] at ha
    exact absurd ha hκ
  · rw [if_neg e] at ha
    exact h.2 a ha⟩
theorem sEx_V {S S' : bS} {q κ j : Nat} {v : Int32} (hq : gK S q = 0) (h : sEx S S') : sEx S (sV S' κ q j v) := ⟨fun a ha => by
  have hne : a ≠ q := fun e => ha (e ▸ hq)
  obtain ⟨h1, h2, h3, h4, h5⟩ := h.1 a ha
  refine ⟨h1, h2, fun κ' j' => ?_, h4, h5⟩
  rw [gV_sV, if_neg (fun x => hne x.2.1), h3], fun a ha => h.2 a ha⟩
section GROW
variable {μ : Nat} {r : Nat → Nat} {S : bS}
theorem mOK_ex {S' : bS} (hM : mOK μ r S) (h : sEx S S') : mOK μ r S' := by
  obtain ⟨h1, h2, h3, h4⟩ := hM
  obtain ⟨k1, -, -, k4, -⟩ := h.1 μ (by rw [h1]; decide)
  refine ⟨by rw [k1]; exact h1, ?_, fun i hi hi7 => ?_, h4⟩
  · rw [k4, k4, k4, k4, k4, k4, k4]
    exact h2
  · obtain ⟨x1, x2⟩ := h3 i hi hi7
    obtain ⟨e1, e2, -⟩ := h.1 (r i) (by rw [x1]; decide)
    rw [e1, e2]
    exact ⟨x1, x2⟩
/-- a new cell is none of the reference's -/
theorem new_ne (hM : mOK μ r S) {q : Nat} (hq : gK S q = 0) : q ≠ μ ∧ ∀ i, 1 ≤ i → i ≤ 7 → q ≠ r i := by
  refine ⟨fun e => ?_, fun i h1 h7 e => ?_⟩
  · rw [e, hM.1] at hq
    cases hq
  · rw [e, (hM.2.2.1 i h1 h7).1] at hq
    cases hq
theorem sNew_W {q κ n : Nat} {M : Nat → Nat → Int32} (h : q ≠ μ ∧ ∀ i, 1 ≤ i → i ≤ 7 → q ≠ r i) : sNew (mW μ r S M) q κ n = mW μ r (sNew S q κ n) M := by
  obtain ⟨h0, h1⟩ := h
  refine bS_V rfl rfl ?_ rfl
  funext κ' a j
  show (if a = q then 0 else (mW μ r S M).2.2.1 κ' a j) = (mW μ r (sNew S q κ n) M).2.2.1 κ' a j
  by_cases e : a = q
  · subst e
    rw [if_pos rfl]
    unfold mW sNew
    simp [h0, h1 1 (by decide) (by decide), h1 2 (by decide) (by decide), h1 3 (by decide) (by decide), h1 4 (by decide) (by decide), h1 5 (by decide) (by decide), h1 6 (by decide) (by decide), h1 7 (by decide) (by decide)]
  · rw [if_neg e]
    unfold mW sNew
    simp [e]
theorem sV_W {q j : Nat} {v : Int32} {M : Nat → Nat → Int32} (h : q ≠ μ ∧ ∀ i, 1 ≤ i → i ≤ 7 → q ≠ r i) : sV (mW μ r S M) 9 q j v = mW μ r (sV S 9 q j v) M := by
  obtain ⟨h0, h1⟩ := h
  refine bS_V rfl rfl ?_ rfl
  funext κ' a j'
  show (if κ' = 9 ∧ a = q ∧ j' = j then v else (mW μ r S M).2.2.1 κ' a j') = (mW μ r (sV S 9 q j v) M).2.2.1 κ' a j'
  by_cases e : κ' = 9 ∧ a = q
  · obtain ⟨e1, e2⟩ := e
    subst e1
    subst e2
    unfold mW sV
    simp [h0, h1 1 (by decide) (by decide), h1 2 (by decide) (by decide), h1 3 (by decide) (by decide), h1 4 (by decide) (by decide), h1 5 (by decide) (by decide), h1 6 (by decide) (by decide), h1 7 (by decide) (by decide)]
  · rw [if_neg (fun x => e ⟨x.1, x.2.1⟩)]
    unfold mW sV
    simp only [show ¬ (κ' = 9 ∧ a = q ∧ j' = j) from fun x => e ⟨x.1, x.2.1⟩, if_false]
theorem gV_W {q j : Nat} {M : Nat → Nat → Int32} (h : q ≠ μ ∧ ∀ i, 1 ≤ i → i ≤ 7 → q ≠ r i) : gV (mW μ r S M) 9 q j = gV S 9 q j := by
  obtain ⟨h0, h1⟩ := h
  unfold gV mW
  simp [h1 1 (by decide) (by decide), h1 2 (by decide) (by decide), h1 3 (by decide) (by decide), h1 4 (by decide) (by decide), h1 5 (by decide) (by decide), h1 6 (by decide) (by decide), h1 7 (by decide) (by decide)]
theorem sF_fold {κ a : Nat} {F : Nat → Int32} : sF S κ a F = (S.1, S.2.1, (fun κ' a' j' => if κ' = κ ∧ a' = a then F j' else S.2.2.1 κ' a' j'), S.2.2.2) := rfl
theorem sF_1 (hM : mOK μ r S) {M : Nat → Nat → Int32} {F : Nat → Int32} : sF (mW μ r S M) 9 (r 1) F = mW μ r S (mRow M 1 F) := by
  refine bS_V rfl rfl ?_ rfl
  funext κ a j
  show (if κ = 9 ∧ a = r 1 then F j else gV (mW μ r S M) κ a j) = gV (mW μ r S (mRow M 1 F)) κ a j
  by_cases h : κ = 9 ∧ a = r 1
  · obtain ⟨rfl, rfl⟩ := h
    rw [if_pos ⟨rfl, rfl⟩, mW_V1 hM, mRow_s]
  · rw [if_neg h]
    unfold gV mW
    by_cases h8 : κ = 8 ∧ a = μ
    · simp only [if_pos h8]
      rfl
    · simp only [if_neg h8, if_neg h]
      rfl
theorem sF_2 (hM : mOK μ r S) {M : Nat → Nat → Int32} {F : Nat → Int32} : sF (mW μ r S M) 9 (r 2) F = mW μ r S (mRow M 2 F) := by
  have h12 := mr_ne hM (i := 2) (j := 1) (by decide) (by decide) (by decide) (by decide) (by decide)
  refine bS_V rfl rfl ?_ rfl
  funext κ a j
  show (if κ = 9 ∧ a = r 2 then F j else gV (mW μ r S M) κ a j) = gV (mW μ r S (mRow M 2 F)) κ a j
  by_cases h : κ = 9 ∧ a = r 2
  · obtain ⟨rfl, rfl⟩ := h
    rw [if_pos ⟨rfl, rfl⟩, mW_V2 hM, mRow_s]
  · rw [if_neg h]
    unfold gV mW
    simp only [if_neg h]
    rfl
theorem sF_3 (hM : mOK μ r S) {M : Nat → Nat → Int32} {F : Nat → Int32} : sF (mW μ r S M) 9 (r 3) F = mW μ r S (mRow M 3 F) := by
  refine bS_V rfl rfl ?_ rfl
  funext κ a j
  show (if κ = 9 ∧ a = r 3 then F j else gV (mW μ r S M) κ a j) = gV (mW μ r S (mRow M 3 F)) κ a j
  by_cases h : κ = 9 ∧ a = r 3
  · obtain ⟨rfl, rfl⟩ := h
    rw [if_pos ⟨rfl, rfl⟩, mW_V3 hM, mRow_s]
  · rw [if_neg h]
    unfold gV mW
    simp only [if_neg h]
    rfl
/-- a new station, on the numbers -/
def aStM (M : Nat → Nat → Int32) (room handling : Int32) : Nat → Nat → Int32 := mU (mU (mU (mU (mU (mU M 1 (9 * nS M + 0) room) 1 (9 * nS M + 1) handling) 1 (9 * nS M + 2) 0) 1 (9 * nS M + 3) (-1)) 1 (9 * nS M + 4) 0) 0 2 (M 0 2 + 1)
def qAddStation (P : pP) (room handling : Int32) : Int32 × pP := if (1 : Int32) ≤ room ∧ room ≤ 9 then (if (0 : Int32) ≤ handling ∧ handling ≤ 20 then (if P.1 0 2 = 14 then fl P 2 else (P.1 0 2, (aStM (T0 P).1 room handling, P.2))) else fl P 1) else fl P 1
theorem row5 {M : Nat → Nat → Int32} {i b : Nat} {F : Nat → Int32} {v0 v1 v2 v3 v4 : Int32} (h0 : F 0 = v0) (h1 : F 1 = v1) (h2 : F 2 = v2) (h3 : F 3 = v3) (h4 : F 4 = v4) : mRow M i (va_cpy F (M i) 0 b 5) = mU (mU (mU (mU (mU M i (b + 0) v0) i (b + 1) v1) i (b + 2) v2) i (b + 3) v3) i (b + 4) v4 := by
  funext i' j
  unfold mRow mU va_cpy
  by_cases hi : i' = i
  · subst hi
    rw [if_pos rfl]
    by_cases hb : b ≤ j ∧ j < b + 5
    · rw [if_pos hb]
      rcases (show j = b + 0 ∨ j = b + 1 ∨ j = b + 2 ∨ j = b + 3 ∨ j = b + 4 by omega) with e | e | e | e | e
      · subst e; simp [h0]
      · subst e; simp [h1]
      · subst e; simp [h2]
      · subst e; simp [h3]
      · subst e; simp [h4]
    · rw [if_neg hb]
      simp only [true_and]
      rw [if_neg (by omega), if_neg (by omega), if_neg (by omega), if_neg (by omega), if_neg (by omega)]
  · simp [hi]
theorem M_addStation (hM : mOK μ r S) {f g : Nat → Int32} {B K MC MS : Nat} {P : pP} (h : wI B K P.1 P.2) (hMC : 1 ≤ MC) (hMS : 5 ≤ MS) {room handling : Int32} {post : Int32 → bS → Prop} (hp : ∀ S' f g, sEx S S' → post (qAddStation P room handling).1 (mW μ r S' (mX (qAddStation P room handling).2.1 f g))) : wp_X6_addStation post MC MS μ room handling (mW μ r S (mX P.1 f g)) := by
  have h14 := h.1.1.2
  unfold wp_X6_addStation
  rw [st0]
  unfold qAddStation at hp
  refine ⟨m_k (M := mX P.1 f g) hM, M_isIn ?_⟩
  by_cases hc : (1 : Int32) ≤ room ∧ room ≤ 9
  · simp only [if_pos hc] at hp
    rw [if_pos hc]
    refine ⟨fun q => absurd q (by decide), fun _ => M_isIn ?_⟩
    by_cases hc2 : (0 : Int32) ≤ handling ∧ handling ≤ 20
    · simp only [if_pos hc2] at hp
      rw [if_pos hc2]
      refine ⟨fun _ => ⟨m_k hM, ?_⟩, fun q => absurd q (by decide)⟩
      rw [mW_V0, show mX (T0 P).1 f g 0 2 = P.1 0 2 from rfl]
      refine ⟨fun hne => ⟨by decide, by decide, hMC, hMS, fun q hq => ?_⟩, fun he => ?_⟩
      · simp only [if_neg hne] at hp
        have hqS : gK S q = 0 := hq
        have hn := new_ne hM hqS
        have hn14 : nS P.1 < 14 := by
          rcases Nat.lt_or_ge (nS P.1) 14 with x | x
          · exact x
          · exact absurd (by rw [h.1.1.1, show nS P.1 = 14 by omega]; rfl) hne
        have E : ∀ (S0 : bS) (j : Nat) (v : Int32) (M : Nat → Nat → Int32), sV (mW μ r S0 M) 9 q j v = mW μ r (sV S0 9 q j v) M := fun S0 j v M => sV_W hn
        rw [sNew_W hn]
        simp only [E, show Int32.toNatClampNeg (5 : Int32) = 5 by decide, show Int32.toNatClampNeg (4 : Int32) = 4 by decide, show Int32.toNatClampNeg (3 : Int32) = 3 by decide, show Int32.toNatClampNeg (2 : Int32) = 2 by decide, show Int32.toNatClampNeg (1 : Int32) = 1 by decide, show Int32.toNatClampNeg (0 : Int32) = 0 by decide]
        obtain ⟨S', hS'⟩ : ∃ S', S' = sV (sV (sV (sV (sV (sNew S q 9 5) 9 q 0 room) 9 q 1 handling) 9 q 2 0) 9 q 3 (-1)) 9 q 4 0 := ⟨_, rfl⟩
        have hEx : sEx S S' := by
          rw [hS']
          exact sEx_V hqS (sEx_V hqS (sEx_V hqS (sEx_V hqS (sEx_V hqS (sEx_new hqS (sEx_rf S))))))
        have hM' := mOK_ex hM hEx
        have hN5 : gN S' q = 5 := by
          rw [hS']
          simp only [gN_sV, gN_sNew, if_true]
        have g5 : ∀ M, gN (mW μ r S' M) q = 5 := fun M => hN5
        rw [← hS']
        refine ⟨?_, ?_, ?_, ?_, ?_, r 1, hM'.2.1.1, (hM'.2.2.1 1 (by decide) (by decide)).1, ?_, ?_⟩
        · simp only [mW_N, gN_sNew, gN_sV, if_true]; exact vp_in_nI (n := 0) (N := 5) (by decide) (by decide)
        · simp only [mW_N, gN_sNew, gN_sV, if_true]; exact vp_in_nI (n := 1) (N := 5) (by decide) (by decide)
        · simp only [mW_N, gN_sNew, gN_sV, if_true]; exact vp_in_nI (n := 2) (N := 5) (by decide) (by decide)
        · simp only [mW_N, gN_sNew, gN_sV, if_true]; exact vp_in_nI (n := 3) (N := 5) (by decide) (by decide)
        · simp only [mW_N, gN_sNew, gN_sV, if_true]; exact vp_in_nI (n := 4) (N := 5) (by decide) (by decide)
        · rw [mW_V0, show mX (T0 P).1 f g 0 2 = nI (nS P.1) from h.1.1.1, show (9 : Int32) = nI 9 from rfl, pk_mul, g5, mW_n1 hM', nI_clamp (n := 9 * nS P.1) (by omega)]
          refine ⟨by decide, nI_pos (by omega), by decide, by decide, ?_⟩
          rw [show Int32.toNatClampNeg (Int32.ofNat 5) = 5 by decide]
          omega
        · rw [mW_V0, show mX (T0 P).1 f g 0 2 = nI (nS P.1) from h.1.1.1, show (9 : Int32) = nI 9 from rfl, pk_mul, g5, nI_clamp (n := 9 * nS P.1) (by omega), show Int32.toNatClampNeg (Int32.ofNat 5) = 5 by decide]
          have eF : mRow (mX (T0 P).1 f g) 1 (va_cpy (gV (mW μ r S' (mX (T0 P).1 f g)) 9 q) (gV (mW μ r S' (mX (T0 P).1 f g)) 9 (r 1)) 0 (9 * nS P.1) 5) = mX (mU (mU (mU (mU (mU (T0 P).1 1 (9 * nS P.1 + 0) room) 1 (9 * nS P.1 + 1) handling) 1 (9 * nS P.1 + 2) 0) 1 (9 * nS P.1 + 3) (-1)) 1 (9 * nS P.1 + 4) 0) f g := by
            rw [show gV (mW μ r S' (mX (T0 P).1 f g)) 9 (r 1) = mX (T0 P).1 f g 1 from funext (fun j => mW_V1 hM' j)]
            have gq : ∀ j, gV (mW μ r S' (mX (T0 P).1 f g)) 9 q j = gV S' 9 q j := fun j => gV_W hn
            rw [row5 (v0 := room) (v1 := handling) (v2 := 0) (v3 := -1) (v4 := 0) (by rw [gq, hS']; simp [gV_sV]) (by rw [gq, hS']; simp [gV_sV]) (by rw [gq, hS']; simp [gV_sV]) (by rw [gq, hS']; simp [gV_sV]) (by rw [gq, hS']; simp [gV_sV])]
            rw [mX_U (by decide) (by decide), mX_U (by decide) (by decide), mX_U (by decide) (by decide), mX_U (by decide) (by decide), mX_U (by decide) (by decide)]
          rw [sF_1 hM', eF, mW_V0, sW_0, mX_U (by decide) (by decide), mW_V0]
          have := hp S' f g hEx
          unfold aStM at this
          have e2 : ∀ x : Int32, mX (mU (mU (mU (mU (mU (mU (T0 P).1 1 (9 * nS P.1 + 0) room) 1 (9 * nS P.1 + 1) handling) 1 (9 * nS P.1 + 2) 0) 1 (9 * nS P.1 + 3) (-1)) 1 (9 * nS P.1 + 4) 0) 0 2 (x + 1)) f g 0 2 - 1 = x + 1 - 1 := fun x => rfl
          rw [e2, show mX (mU (mU (mU (mU (mU (T0 P).1 1 (9 * nS P.1 + 0) room) 1 (9 * nS P.1 + 1) handling) 1 (9 * nS P.1 + 2) 0) 1 (9 * nS P.1 + 3) (-1)) 1 (9 * nS P.1 + 4) 0) f g 0 2 = P.1 0 2 from rfl, show P.1 0 2 + 1 - 1 = P.1 0 2 by rw [h.1.1.1, nI_1, nI_pred]]
          exact this
      · simp only [if_pos he] at hp
        exact M_failX hM (hp S f g (sEx_rf S))
    · simp only [if_neg hc2] at hp
      rw [if_neg hc2]
      exact ⟨fun q => absurd rfl q, fun _ => ⟨m_k hM, M_failX hM (hp S f g (sEx_rf S))⟩⟩
  · simp only [if_neg hc] at hp
    rw [if_neg hc]
    exact ⟨fun _ => ⟨m_k hM, M_failX hM (hp S f g (sEx_rf S))⟩, fun q => absurd rfl q⟩
end GROW
