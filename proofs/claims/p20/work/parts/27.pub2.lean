theorem mU_mU {M : Nat → Nat → Int32} {i j : Nat} {v w : Int32} : mU (mU M i j v) i j w = mU M i j w := by
  funext i' j'
  unfold mU
  split <;> rfl
theorem mU_back {M : Nat → Nat → Int32} {i j : Nat} {v : Int32} : mU (mU M i j v) i j (M i j) = M := by
  rw [mU_mU]
  funext i' j'
  unfold mU
  by_cases h : i' = i ∧ j' = j
  · rw [if_pos h, h.1, h.2]
  · rw [if_neg h]
theorem sw_iff {w : Int32} {m : Nat} (hm : m < 2 ^ 31) (h : (-1 : Int32) ≤ w ∧ w ≤ nI m - 1) : w = -1 ∨ ∃ k, k < m ∧ w = nI k := by
  by_cases h0 : (0 : Int32) ≤ w
  · obtain ⟨s, hs⟩ := (in_iff hm).mp ⟨h0, h.2⟩
    obtain ⟨e, h1⟩ := ixO_some hm hs
    exact Or.inr ⟨s, h1, e⟩
  · left
    have h1 := Int32.not_le.mp h0
    have h2 := h.1
    apply Int32.toInt_inj.mp
    have h3 := Int32.lt_iff_toInt_lt.mp h1
    have h4 := Int32.le_iff_toInt_le.mp h2
    have e1 : (-1 : Int32).toInt = -1 := by decide
    have e0 : (0 : Int32).toInt = 0 := by decide
    omega
theorem rng_iff {w : Int32} {a b : Nat} (hb : b < 2 ^ 31) (ha : a < 2 ^ 31) (h : nI a ≤ w ∧ w ≤ nI b) : ∃ k, a ≤ k ∧ k ≤ b ∧ w = nI k := by
  have h0 : (0 : Int32) ≤ w := Int32.le_trans (nI_pos' ha) h.1
  obtain ⟨j, hj, e⟩ := nI_of (Int32.not_lt.mpr h0)
  subst e
  exact ⟨j, (nI_leI ha hj).mp h.1, (nI_leI hj hb).mp h.2, rfl⟩
theorem wI_sp {B K : Nat} {M : Nat → Nat → Int32} {L : Nat → List Nat} (h : wI B K M L) {t k : Nat} (hk : 1 ≤ k) (hk6 : k ≤ 6) : wI B K (mU M 2 (8 * t + 3) (nI k)) L := by
  have e2 : ∀ t' w, w < 8 → w ≠ 3 → mU M 2 (8 * t + 3) (nI k) 2 (8 * t' + w) = M 2 (8 * t' + w) := fun s' w _ _ => by simp (disch := omega) only [mU_c]
  have er : ∀ i j, i ≠ 2 → mU M 2 (8 * t + 3) (nI k) i j = M i j := fun i j _ => by simp (disch := omega) only [mU_r]
  refine wI_fr h (fun j _ => er _ _ (by decide)) (fun j => er _ _ (by decide)) (fun j => er _ _ (by decide)) (fun t' ht' => ?_) (iS_fr h.2.2.1 rfl rfl (fun _ _ _ _ => rfl)) (iE_fr h.2.2.2.1 rfl rfl rfl (fun _ => rfl) (fun _ => rfl)) (fun _ => rfl) (fun t' => e2 t' 4 (by decide) (by decide))
  have h1 := h.2.1 t' ht'
  unfold nS tFr tTo tLn tSp tBo at *
  rw [e2 t' 0 (by decide) (by decide), e2 t' 1 (by decide) (by decide), e2 t' 2 (by decide) (by decide), e2 t' 5 (by decide) (by decide), e2 t' 4 (by decide) (by decide)]
  refine ⟨h1.1, h1.2.1, h1.2.2.1, h1.2.2.2.1, ?_, h1.2.2.2.2.2.1, h1.2.2.2.2.2.2⟩
  by_cases q : t' = t
  · subst q
    rw [mU_s, u_nI (by omega)]
    exact ⟨rfl, hk, hk6⟩
  · rw [mU_c (by omega)]
    exact h1.2.2.2.2.1
def prI (M : Nat → Nat → Int32) (aim : Nat) : Nat → Nat
  | 0 => 0
  | s + 1 => prI M aim s + if s ≠ aim ∧ (dD M aim s).isSome then 1 else 0
def prO (M : Nat → Nat → Int32) : Nat → Nat
  | 0 => 0
  | a + 1 => prO M a + prI M a (nS M)
def meanOK (M : Nat → Nat → Int32) (v : UInt64) : Prop := if M 0 6 = 0 then v = FP.dconst0 else alike64 v (FP.ddiv (FP.i2d (M 0 7)) (FP.i2d (M 0 6))) = true
section MODEL15
variable {μ : Nat} {r : Nat → Nat} {S : bS}
def qTurn (P : pP) (s w : Int32) : Int32 × pP := match ixO s (nS P.1) with
  | none => fl P 1
  | some i => if (-1 : Int32) ≤ w ∧ w ≤ nI (mny P.1 i) - 1 then (P.1 1 (9 * i + 3), (mU (T0 P).1 1 (9 * i + 3) w, P.2)) else fl P 2
theorem M_turn (hM : mOK μ r S) {f g : Nat → Int32} {B K : Nat} {P : pP} (h : wI B K P.1 P.2) {s w : Int32} {post : Int32 → bS → Prop} (hp : ∀ f g, post (qTurn P s w).1 (mW μ r S (mX (qTurn P s w).2.1 f g))) : wp_X6_turn post μ s w (mW μ r S (mX P.1 f g)) := by
  have h14 := h.1.1.2
  unfold wp_X6_turn
  rw [st0]
  unfold qTurn at hp
  refine ⟨m_k (M := mX P.1 f g) hM, M_isSt hM (wI_T0 h).1 ?_⟩
  rw [show nS (T0 P).1 = nS P.1 from rfl]
  cases hx : ixO s (nS P.1) with
  | none =>
    rw [hx] at hp
    exact ⟨fun q => absurd rfl q, fun _ => ⟨m_k hM, M_failX hM (hp f g)⟩⟩
  | some i =>
    rw [hx] at hp
    obtain ⟨e1, e2⟩ := ixO_some (by omega) hx
    obtain ⟨-, -, hm, -⟩ := h.2.2.1 i e2
    refine ⟨fun _ => ⟨m_k hM, ?_⟩, fun q => absurd (show (1 : Int32) = 0 from q) (by decide)⟩
    rw [e1]
    refine M_st (w := 2) hM (by omega) (M_isIn ?_)
    rw [show mX (T0 P).1 f g 1 (9 * i + 2) = nI (mny P.1 i) from hm.1]
    by_cases hc : (-1 : Int32) ≤ w ∧ w ≤ nI (mny P.1 i) - 1
    · simp only [if_pos hc] at hp
      rw [if_pos hc]
      refine ⟨fun _ => ⟨m_k hM, M_st (w := 3) hM (by omega) ⟨m_k hM, r 1, (m_q hM).1, mW_k1 hM, ?_, ?_⟩⟩, fun q => absurd q (by decide)⟩
      · rw [show (3 : Int32) = nI 3 from rfl, i_9, mW_n1 hM]
        exact vp_in_nI (by omega) (by omega)
      · rw [show (3 : Int32) = nI 3 from rfl, i_9, nI_clamp (by omega), sW_1 hM, mX_U (by decide) (by decide)]
        exact hp f g
    · simp only [if_neg hc] at hp
      rw [if_neg hc]
      exact ⟨fun q => absurd rfl q, fun _ => ⟨m_k hM, M_failX hM (hp f g)⟩⟩
def qSet (P : pP) (t sp op : Int32) : Int32 × pP := match ixO t (nT P.1) with
  | none => fl P 1
  | some i => if (1 : Int32) ≤ sp ∧ sp ≤ 6 then (P.1 2 (8 * i + 3), (mU (mU (T0 P).1 2 (8 * i + 3) sp) 2 (8 * i + 5) (if op = 0 then 0 else 1), P.2)) else fl P 2
theorem M_setTube (hM : mOK μ r S) {f g : Nat → Int32} {B K : Nat} {P : pP} (h : wI B K P.1 P.2) {t sp op : Int32} {post : Int32 → bS → Prop} (hp : ∀ f g, post (qSet P t sp op).1 (mW μ r S (mX (qSet P t sp op).2.1 f g))) : wp_X6_setTube post μ t sp op (mW μ r S (mX P.1 f g)) := by
  have h30 := h.1.2.1.2
  unfold wp_X6_setTube
  rw [st0]
  unfold qSet at hp
  refine ⟨m_k (M := mX P.1 f g) hM, M_isTu hM (wI_T0 h).1 ?_⟩
  rw [show nT (T0 P).1 = nT P.1 from rfl]
  cases hx : ixO t (nT P.1) with
  | none =>
    rw [hx] at hp
    exact ⟨fun q => absurd rfl q, fun _ => ⟨m_k hM, M_failX hM (hp f g)⟩⟩
  | some i =>
    rw [hx] at hp
    obtain ⟨e1, e2⟩ := ixO_some (by omega) hx
    refine ⟨fun _ => M_isIn ?_, fun q => absurd (show (1 : Int32) = 0 from q) (by decide)⟩
    by_cases hc : (1 : Int32) ≤ sp ∧ sp ≤ 6
    · simp only [if_pos hc] at hp
      rw [if_pos hc, e1]
      refine ⟨fun _ => ⟨m_k hM, M_tu (w := 3) hM (by omega) ⟨m_k hM, r 2, (m_q hM).2.1, mW_k2 hM, ?_, r 2, hM.2.1.2.1, ?_⟩⟩, fun q => absurd q (by decide)⟩
      · rw [show (3 : Int32) = nI 3 from rfl, i_8, mW_n2 hM]
        exact vp_in_nI (by omega) (by omega)
      · rw [show (3 : Int32) = nI 3 from rfl, show (5 : Int32) = nI 5 from rfl, i_8, i_8, nI_clamp (n := 8 * i + 3) (by omega), sW_2 hM, mX_U (by decide) (by decide)]
        have fin : ∀ x : Int32, post (P.1 2 (8 * i + 3)) (mW μ r S (mX (mU (mU (T0 P).1 2 (8 * i + 3) sp) 2 (8 * i + 5) x) f g)) → wb_X6_setTube_74 post (mX (T0 P).1 f g 2 (8 * i + 3)) x (nI (8 * i + 5)) (r 2) (mW μ r S (mX (mU (T0 P).1 2 (8 * i + 3) sp) f g)) := by
          intro x hx
          refine ⟨mW_k2 hM, ?_, ?_⟩
          · rw [mW_n2 hM]
            exact vp_in_nI (by omega) (by omega)
          · rw [nI_clamp (n := 8 * i + 5) (by omega), sW_2 hM, mX_U (by decide) (by decide)]
            exact hx
        refine ⟨fun h0 => fin 0 ?_, fun h0 => fin 1 ?_⟩
        · have := hp f g
          rw [if_pos h0] at this
          exact this
        · have := hp f g
          rw [if_neg h0] at this
          exact this
    · simp only [if_neg hc] at hp
      rw [if_neg hc]
      exact ⟨fun q => absurd rfl q, fun _ => ⟨m_k hM, M_failX hM (hp f g)⟩⟩
def qSend (P : pP) (a b rk : Int32) : Int32 × pP := match ixO a (nS P.1), ixO b (nS P.1) with
  | some i, some k => if a = b then fl P 2 else if (0 : Int32) ≤ rk ∧ rk ≤ 3 then (if canS P.1 (P.2 (1 + i)).length i then (P.1 0 5, (sndM (T0 P).1 i b rk, sndL (T0 P).1 P.2 i b rk)) else fl P 3) else fl P 2
  | _, _ => fl P 1
theorem M_send (hM : mOK μ r S) {f g : Nat → Int32} {B K : Nat} {P : pP} (h : wI B K P.1 P.2) {a b rk : Int32} {post : Int32 → bS → Prop} (hp : ∀ f g, post (qSend P a b rk).1 (mW μ r S (mX (qSend P a b rk).2.1 f g))) : wp_X6_send post μ a b rk (mW μ r S (mX P.1 f g)) := by
  have h14 := h.1.1.2
  have h0 := wI_T0 h
  unfold wp_X6_send
  rw [st0]
  unfold qSend at hp
  refine ⟨m_k (M := mX P.1 f g) hM, M_isSt hM h0.1 ?_⟩
  rw [show nS (T0 P).1 = nS P.1 from rfl]
  cases hx : ixO a (nS P.1) with
  | none =>
    rw [hx] at hp
    exact ⟨fun _ => ⟨m_k hM, M_failX hM (hp f g)⟩, fun q => absurd rfl q⟩
  | some i =>
    obtain ⟨e1, e2⟩ := ixO_some (by omega) hx
    refine ⟨fun q => absurd (show (1 : Int32) = 0 from q) (by decide), fun _ => ⟨m_k hM, M_isSt hM h0.1 ?_⟩⟩
    rw [show nS (T0 P).1 = nS P.1 from rfl]
    cases hy : ixO b (nS P.1) with
    | none =>
      rw [hx, hy] at hp
      exact ⟨fun q => absurd rfl q, fun _ => ⟨m_k hM, M_failX hM (hp f g)⟩⟩
    | some k =>
      rw [hx, hy] at hp
      obtain ⟨e3, e4⟩ := ixO_some (by omega) hy
      refine ⟨fun _ => ⟨fun he => ?_, fun hne => M_isIn ?_⟩, fun q => absurd (show (1 : Int32) = 0 from q) (by decide)⟩
      · simp only [if_pos he] at hp
        exact ⟨m_k hM, M_failX hM (hp f g)⟩
      · simp only [if_neg hne] at hp
        by_cases hc : (0 : Int32) ≤ rk ∧ rk ≤ 3
        · simp only [if_pos hc] at hp
          rw [if_pos hc]
          refine ⟨fun _ => ⟨m_k hM, ?_⟩, fun q => absurd q (by decide)⟩
          have hperm := (h0.2.2.2.2.2.2.1.1 i (by omega)).1
          rw [e1]
          refine M_canSend hM (mAc_X h0.2.2.2.2.1.2.2.1 f g) (s := i) (by omega) (Ln := P.2 (1 + i)) hperm ⟨fun hs => ⟨m_k hM, ?_⟩, fun hs => ⟨m_k hM, ?_⟩⟩
          · have hcs : canS P.1 (P.2 (1 + i)).length i := by
              by_cases qq : canS P.1 (P.2 (1 + i)).length i
              · exact qq
              · rw [if_neg (show ¬ canS (mX (T0 P).1 f g) (P.2 (1 + i)).length i from qq)] at hs
                exact absurd rfl hs
            simp only [if_pos hcs] at hp
            obtain ⟨c1, c2, c3⟩ := canS_spec h e2 hcs
            refine M_sendOffX hM (M := (T0 P).1) (n := (P.2 0).length) h0.1.2.2.2.1 c3 h0.2.2.2.2.1.2.2.1.1 c2 ⟨m_k hM, ?_⟩
            rw [mW_V0]
            have e5 : mX (sndM (T0 P).1 i b rk) f g 0 5 - 1 = P.1 0 5 := by
              show sndM (T0 P).1 i b rk 0 5 - 1 = P.1 0 5
              have e6 : sndM (T0 P).1 i b rk 0 5 = P.1 0 5 + 1 := by
                simp (disch := omega) only [sndM, pM, mU_s, mU_r, mU_c, T0]
              rw [e6]
              rw [h.1.2.2.2.1, nI_1, nI_pred]
            rw [e5]
            exact hp f g
          · have hcs : ¬ canS P.1 (P.2 (1 + i)).length i := fun qq => by
              rw [if_pos (show canS (mX (T0 P).1 f g) (P.2 (1 + i)).length i from qq)] at hs
              exact absurd hs (by decide)
            simp only [if_neg hcs] at hp
            exact M_failX hM (hp f g)
        · simp only [if_neg hc] at hp
          rw [if_neg hc]
          exact ⟨fun q => absurd rfl q, fun _ => ⟨m_k hM, M_failX hM (hp f g)⟩⟩
def qRun (P : pP) (n : Int32) : Int32 × pP := if (1 : Int32) ≤ n ∧ n ≤ 500 then ((sRun (T0 P) (u n)).1 0 6 - P.1 0 6, sRun (T0 P) (u n)) else fl P 1
set_option maxRecDepth 4000 in
theorem M_runP (hM : mOK μ r S) {f g : Nat → Int32} {B K : Nat} {P : pP} (hB : B + 500 < 2 ^ 31) (hK : K + 886000 < 2 ^ 31) (h : wI B K P.1 P.2) {n : Int32} {post : Int32 → bS → Prop} (hp : ∀ f g, post (qRun P n).1 (mW μ r S (mX (qRun P n).2.1 f g))) : wp_X6_run post μ n (mW μ r S (mX P.1 f g)) := by
  unfold wp_X6_run
  rw [st0]
  unfold qRun at hp
  refine ⟨m_k (M := mX P.1 f g) hM, M_isIn ?_⟩
  by_cases hc : (1 : Int32) ≤ n ∧ n ≤ 500
  · simp only [if_pos hc] at hp
    rw [if_pos hc]
    refine ⟨fun _ => ⟨m_k hM, ?_⟩, fun q => absurd q (by decide)⟩
    obtain ⟨k, k1, k2, rfl⟩ := rng_iff (a := 1) (b := 500) (by decide) (by decide) hc
    rw [u_nI (by omega)] at hp
    rw [mW_V0]
    exact M_run hM k2 (by omega) (by omega) (wI_T0 h) hp
  · simp only [if_neg hc] at hp
    rw [if_neg hc]
    exact ⟨fun q => absurd rfl q, fun _ => ⟨m_k hM, M_failX hM (hp f g)⟩⟩
theorem M_mean (hM : mOK μ r S) {f g : Nat → Int32} {P : pP} {post : UInt64 → bS → Prop} (hp : ∀ v, meanOK P.1 v → post v (mW μ r S (mX (T0 P).1 f g))) : wp_X6_mean post μ (mW μ r S (mX P.1 f g)) := by
  unfold wp_X6_mean
  rw [st0, mW_V0, mW_V0]
  refine ⟨m_k (M := mX P.1 f g) hM, fun hne v hv => hp v ?_, fun he => hp _ ?_⟩
  · unfold meanOK
    rw [if_neg (show ¬ P.1 0 6 = 0 from hne)]
    exact hv
  · unfold meanOK
    rw [if_pos (show P.1 0 6 = 0 from he)]
end MODEL15
