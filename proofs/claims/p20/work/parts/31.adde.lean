def aE5 (M : Nat → Nat → Int32) (v0 v1 v2 v3 v4 : Int32) : Nat → Nat → Int32 := mU (mU (mU (mU (mU M 3 (5 * nE M + 0) v0) 3 (5 * nE M + 1) v1) 3 (5 * nE M + 2) v2) 3 (5 * nE M + 3) v3) 3 (5 * nE M + 4) v4
def aEnM (M : Nat → Nat → Int32) (v0 v1 v2 v3 v4 : Int32) : Nat → Nat → Int32 := mU (aE5 M v0 v1 v2 v3 v4) 0 4 (M 0 4 + 1)
/-- what an entry may do -/
def deedOK (P : pP) (sort what how : Int32) : Prop := if sort = 0 then (∃ i, ixO what (nS P.1) = some i ∧ (-1 : Int32) ≤ how ∧ how ≤ nI (mny P.1 i) - 1) else if sort = 1 then ((∃ i, ixO what (nT P.1) = some i) ∧ (0 : Int32) ≤ how ∧ how ≤ 1) else ((∃ i, ixO what (nS P.1) = some i) ∧ ∃ k, ixO how (nS P.1) = some k)
noncomputable def qAddEntry (P : pP) (first period sort what how : Int32) : Int32 × pP :=
  if first ≤ P.1 0 1 then fl P 1 else if (100000 : Int32) < first then fl P 1 else if (0 : Int32) ≤ period ∧ period ≤ 500 then (if (0 : Int32) ≤ sort ∧ sort ≤ 2 then (@ite _ (deedOK P sort what how) (Classical.propDecidable _) (if P.1 0 4 = 12 then fl P 3 else (P.1 0 4, (aEnM (T0 P).1 first period sort what how, P.2))) (fl P 2)) else fl P 1) else fl P 1
section GROW3
variable {μ : Nat} {r : Nat → Nat} {S : bS}
theorem M_ent139 (hM : mOK μ r S) {f g : Nat → Int32} {B K MC MS : Nat} {P : pP} (h : wI B K P.1 P.2) (hMC : 1 ≤ MC) (hMS : 5 ≤ MS) {v1 v2 v3 v4 v5 : Int32} {post : Int32 → bS → Prop} (hp3 : P.1 0 4 = 12 → post 0 (mW μ r S (mX (fl P 3).2.1 f g))) (hp : ¬ P.1 0 4 = 12 → ∀ S', sEx S S' → post (P.1 0 4) (mW μ r S' (mX (aEnM (T0 P).1 v1 v2 v3 v4 v5) f g))) : wb_X6_addEntry_139 post MC MS μ v1 v2 v3 v4 v5 1 (mW μ r S (mX (T0 P).1 f g)) := by
  have h12 := h.1.2.2.1.2
  refine ⟨fun _ => ⟨m_k hM, ?_⟩, fun q => absurd q (by decide)⟩
  rw [mW_V0, show mX (T0 P).1 f g 0 4 = P.1 0 4 from rfl]
  refine ⟨fun hne => ⟨by decide, by decide, hMC, hMS, fun q hq => ?_⟩, fun he => M_failX hM (hp3 he)⟩
  have hqS : gK S q = 0 := hq
  have hn := new_ne hM hqS
  have hn12 : nE P.1 < 12 := by
    rcases Nat.lt_or_ge (nE P.1) 12 with x | x
    · exact x
    · exact absurd (by rw [h.1.2.2.1.1, show nE P.1 = 12 by omega]; rfl) hne
  have E : ∀ (S0 : bS) (j : Nat) (v : Int32) (M : Nat → Nat → Int32), sV (mW μ r S0 M) 9 q j v = mW μ r (sV S0 9 q j v) M := fun S0 j v M => sV_W hn
  rw [sNew_W hn]
  simp only [E, show Int32.toNatClampNeg (5 : Int32) = 5 by decide, show Int32.toNatClampNeg (4 : Int32) = 4 by decide, show Int32.toNatClampNeg (3 : Int32) = 3 by decide, show Int32.toNatClampNeg (2 : Int32) = 2 by decide, show Int32.toNatClampNeg (1 : Int32) = 1 by decide, show Int32.toNatClampNeg (0 : Int32) = 0 by decide]
  obtain ⟨S', hS'⟩ : ∃ S', S' = sV (sV (sV (sV (sV (sNew S q 9 5) 9 q 0 v1) 9 q 1 v2) 9 q 2 v3) 9 q 3 v4) 9 q 4 v5 := ⟨_, rfl⟩
  have hEx : sEx S S' := by
    rw [hS']
    exact sEx_V hqS (sEx_V hqS (sEx_V hqS (sEx_V hqS (sEx_V hqS (sEx_new hqS (sEx_rf S))))))
  have hM' := mOK_ex hM hEx
  have hN5 : gN S' q = 5 := by
    rw [hS']
    simp only [gN_sV, gN_sNew, if_true]
  have g5 : ∀ M, gN (mW μ r S' M) q = 5 := fun M => hN5
  rw [← hS']
  refine ⟨?_, ?_, ?_, ?_, ?_, r 3, hM'.2.1.2.2.1, (hM'.2.2.1 3 (by decide) (by decide)).1, ?_, ?_⟩
  · simp only [mW_N, gN_sNew, gN_sV, if_true]; exact vp_in_nI (n := 0) (N := 5) (by decide) (by decide)
  · simp only [mW_N, gN_sNew, gN_sV, if_true]; exact vp_in_nI (n := 1) (N := 5) (by decide) (by decide)
  · simp only [mW_N, gN_sNew, gN_sV, if_true]; exact vp_in_nI (n := 2) (N := 5) (by decide) (by decide)
  · simp only [mW_N, gN_sNew, gN_sV, if_true]; exact vp_in_nI (n := 3) (N := 5) (by decide) (by decide)
  · simp only [mW_N, gN_sNew, gN_sV, if_true]; exact vp_in_nI (n := 4) (N := 5) (by decide) (by decide)
  · rw [mW_V0, show mX (T0 P).1 f g 0 4 = nI (nE P.1) from h.1.2.2.1.1, show (5 : Int32) = nI 5 from rfl, pk_mul, g5, mW_n3 hM', nI_clamp (n := 5 * nE P.1) (by omega)]
    exact ⟨by decide, nI_pos (by omega), by decide, by decide, by omega⟩
  · rw [mW_V0, show mX (T0 P).1 f g 0 4 = nI (nE P.1) from h.1.2.2.1.1, show (5 : Int32) = nI 5 from rfl, pk_mul, nI_clamp (n := 5 * nE P.1) (by omega)]
    have eF : mRow (mX (T0 P).1 f g) 3 (va_cpy (gV (mW μ r S' (mX (T0 P).1 f g)) 9 q) (gV (mW μ r S' (mX (T0 P).1 f g)) 9 (r 3)) 0 (5 * nE P.1) 5) = mX (aE5 (T0 P).1 v1 v2 v3 v4 v5) f g := by
      rw [show gV (mW μ r S' (mX (T0 P).1 f g)) 9 (r 3) = mX (T0 P).1 f g 3 from funext (fun j => mW_V3 hM' j)]
      have gq : ∀ j, gV (mW μ r S' (mX (T0 P).1 f g)) 9 q j = gV S' 9 q j := fun j => gV_W hn
      rw [row5 (v0 := v1) (v1 := v2) (v2 := v3) (v3 := v4) (v4 := v5) (by rw [gq, hS']; simp [gV_sV]) (by rw [gq, hS']; simp [gV_sV]) (by rw [gq, hS']; simp [gV_sV]) (by rw [gq, hS']; simp [gV_sV]) (by rw [gq, hS']; simp [gV_sV])]
      rw [mX_U (by decide) (by decide), mX_U (by decide) (by decide), mX_U (by decide) (by decide), mX_U (by decide) (by decide), mX_U (by decide) (by decide)]
      rfl
    rw [sF_3 hM', eF, mW_V0, sW_0, mX_U (by decide) (by decide), mW_V0]
    have e6 : ∀ (M0 : Nat → Nat → Int32) (x : Int32), mX (mU M0 0 4 x) f g 0 4 = x := fun M0 x => rfl
    rw [e6, show mX (aE5 (T0 P).1 v1 v2 v3 v4 v5) f g 0 4 = P.1 0 4 from rfl, show P.1 0 4 + 1 - 1 = P.1 0 4 by rw [h.1.2.2.1.1, nI_1, nI_pred]]
    exact hp hne S' hEx
theorem M_addEntry (hM : mOK μ r S) {f g : Nat → Int32} {B K MC MS : Nat} {P : pP} (h : wI B K P.1 P.2) (hMC : 1 ≤ MC) (hMS : 5 ≤ MS) {first period sort what how : Int32} {post : Int32 → bS → Prop} (hp : ∀ S' f g, sEx S S' → post (qAddEntry P first period sort what how).1 (mW μ r S' (mX (qAddEntry P first period sort what how).2.1 f g))) : wp_X6_addEntry post MC MS μ first period sort what how (mW μ r S (mX P.1 f g)) := by
  have h14 := h.1.1.2
  have h30 := h.1.2.1.2
  have h0 := wI_T0 h
  unfold wp_X6_addEntry
  rw [st0]
  unfold qAddEntry at hp
  have no1 : (∀ S' f g, sEx S S' → post (fl P 1).1 (mW μ r S' (mX (fl P 1).2.1 f g))) → wb_X6_addEntry_39 post MC MS μ (mW μ r S (mX (T0 P).1 f g)) := fun q => ⟨m_k hM, M_failX hM (q S f g (sEx_rf S))⟩
  have no1' : (∀ S' f g, sEx S S' → post (fl P 1).1 (mW μ r S' (mX (fl P 1).2.1 f g))) → wb_X6_addEntry_39 post MC MS μ (mW μ r S (mX (T0 P).1 f g)) := no1
  refine ⟨m_k (M := mX P.1 f g) hM, ?_⟩
  rw [mW_V0, show mX (T0 P).1 f g 0 1 = P.1 0 1 from rfl]
  refine ⟨fun c => no1 (by simp only [if_pos c] at hp; exact hp), fun c1 => ⟨fun c => no1 (by simp only [if_neg c1, if_pos c] at hp; exact hp), fun c2 => M_isIn ?_⟩⟩
  simp only [if_neg c1, if_neg c2] at hp
  by_cases c3 : (0 : Int32) ≤ period ∧ period ≤ 500
  · simp only [if_pos c3] at hp
    rw [if_pos c3]
    refine ⟨fun q => absurd q (by decide), fun _ => M_isIn ?_⟩
    by_cases c4 : (0 : Int32) ≤ sort ∧ sort ≤ 2
    · simp only [if_pos c4] at hp
      rw [if_pos c4]
      have yes : deedOK P sort what how → wb_X6_addEntry_139 post MC MS μ first period sort what how 1 (mW μ r S (mX (T0 P).1 f g)) := fun hd => by
        rw [if_pos hd] at hp
        refine M_ent139 hM h hMC hMS (fun e => ?_) (fun e S' hE => ?_)
        · simp only [if_pos e] at hp
          exact hp S f g (sEx_rf S)
        · simp only [if_neg e] at hp
          exact hp S' f g hE
      have no2 : ¬ deedOK P sort what how → wb_X6_addEntry_139 post MC MS μ first period sort what how 0 (mW μ r S (mX (T0 P).1 f g)) := fun hd => by
        rw [if_neg hd] at hp
        exact ⟨fun q => absurd rfl q, fun _ => ⟨m_k hM, M_failX hM (hp S f g (sEx_rf S))⟩⟩
      refine ⟨fun _ => ⟨fun s0 => ⟨fun s1 => ⟨m_k hM, M_isSt hM h0.1 ?_⟩, fun s1 => ⟨m_k hM, M_isTu hM h0.1 ?_⟩⟩, fun s0 => ⟨m_k hM, M_isSt hM h0.1 ?_⟩⟩, fun q => absurd q (by decide)⟩
      · have hd : deedOK P sort what how ↔ ((∃ i, ixO what (nS P.1) = some i) ∧ ∃ k, ixO how (nS P.1) = some k) := by
          unfold deedOK
          rw [if_neg s0, if_neg s1]
        rw [show nS (T0 P).1 = nS P.1 from rfl]
        cases hx : ixO what (nS P.1) with
        | none =>
          refine ⟨fun _ => no2 (fun q => ?_), fun q => absurd rfl q⟩
          obtain ⟨⟨i, hi⟩, -⟩ := hd.mp q
          rw [hx] at hi
          cases hi
        | some i =>
          refine ⟨fun q => absurd (show (1 : Int32) = 0 from q) (by decide), fun _ => ⟨m_k hM, M_isSt hM h0.1 ?_⟩⟩
          rw [show nS (T0 P).1 = nS P.1 from rfl]
          cases hy : ixO how (nS P.1) with
          | none =>
            refine ⟨fun _ => no2 (fun q => ?_), fun q => absurd rfl q⟩
            obtain ⟨-, ⟨i, hi⟩⟩ := hd.mp q
            rw [hy] at hi
            cases hi
          | some k => exact ⟨fun q => absurd (show (1 : Int32) = 0 from q) (by decide), fun _ => yes (hd.mpr ⟨⟨i, hx⟩, ⟨k, hy⟩⟩)⟩
      · have hd : deedOK P sort what how ↔ ((∃ i, ixO what (nT P.1) = some i) ∧ (0 : Int32) ≤ how ∧ how ≤ 1) := by
          unfold deedOK
          rw [if_neg s0, if_pos s1]
        rw [show nT (T0 P).1 = nT P.1 from rfl]
        cases hx : ixO what (nT P.1) with
        | none =>
          refine ⟨fun _ => no2 (fun q => ?_), fun q => absurd rfl q⟩
          obtain ⟨⟨i, hi⟩, -⟩ := hd.mp q
          rw [hx] at hi
          cases hi
        | some i =>
          refine ⟨fun q => absurd (show (1 : Int32) = 0 from q) (by decide), fun _ => M_isIn ?_⟩
          by_cases c5 : (0 : Int32) ≤ how ∧ how ≤ 1
          · rw [if_pos c5]
            exact ⟨fun q => absurd q (by decide), fun _ => yes (hd.mpr ⟨⟨i, hx⟩, c5⟩)⟩
          · rw [if_neg c5]
            exact ⟨fun _ => no2 (fun q => c5 (hd.mp q).2), fun q => absurd rfl q⟩
      · have hd : deedOK P sort what how ↔ (∃ i, ixO what (nS P.1) = some i ∧ (-1 : Int32) ≤ how ∧ how ≤ nI (mny P.1 i) - 1) := by
          unfold deedOK
          rw [if_pos s0]
        rw [show nS (T0 P).1 = nS P.1 from rfl]
        cases hx : ixO what (nS P.1) with
        | none =>
          refine ⟨fun _ => no2 (fun q => ?_), fun q => absurd rfl q⟩
          obtain ⟨i, hi, -⟩ := hd.mp q
          rw [hx] at hi
          cases hi
        | some i =>
          obtain ⟨e1, e2⟩ := ixO_some (by omega) hx
          obtain ⟨-, -, hm, -⟩ := h.2.2.1 i e2
          refine ⟨fun q => absurd (show (1 : Int32) = 0 from q) (by decide), fun _ => ⟨m_k hM, ?_⟩⟩
          subst e1
          refine M_st (w := 2) hM (by omega) (M_isIn ?_)
          rw [show mX (T0 P).1 f g 1 (9 * i + 2) = nI (mny P.1 i) from hm.1]
          by_cases c5 : (-1 : Int32) ≤ how ∧ how ≤ nI (mny P.1 i) - 1
          · rw [if_pos c5]
            exact ⟨fun q => absurd q (by decide), fun _ => yes (hd.mpr ⟨i, hx, c5⟩)⟩
          · rw [if_neg c5]
            refine ⟨fun _ => no2 (fun q => ?_), fun q => absurd rfl q⟩
            obtain ⟨i', hi', q2⟩ := hd.mp q
            rw [hx] at hi'
            cases hi'
            exact c5 q2
    · simp only [if_neg c4] at hp
      rw [if_neg c4]
      exact ⟨fun q => absurd rfl q, fun _ => no1 hp⟩
  · simp only [if_neg c3] at hp
    rw [if_neg c3]
    exact ⟨fun _ => no1 hp, fun q => absurd rfl q⟩
end GROW3
