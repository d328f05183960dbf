/-! ===== the reference's clock and run ===== -/
theorem wI_fr {B K : Nat} {M M' : Nat → Nat → Int32} {L : Nat → List Nat} (h : wI B K M L) (h0 : ∀ j, j ≠ 0 → M' 0 j = M 0 j) (h4 : ∀ j, M' 4 j = M 4 j) (h5 : ∀ j, M' 5 j = M 5 j) (hT : iT M') (hS : iS M') (hE : iE M') (hr : ∀ s, M' 1 (9 * s + 0) = M 1 (9 * s + 0)) (hb : ∀ t, M' 2 (8 * t + 4) = M 2 (8 * t + 4)) : wI B K M' L := by
  obtain ⟨hN, -, -, -, ⟨a1, a2, a3, a4, a5, a6, a7, a8⟩, hC, hL, hR⟩ := h
  have e4 : M' 4 = M 4 := funext h4
  refine ⟨iN_fr hN (h0 2 (by decide)) (h0 3 (by decide)) (h0 4 (by decide)) (h0 5 (by decide)), hT, hS, hE, ⟨?_, ?_, ⟨?_, a3.2.1, ?_⟩, a4, ?_, ?_, ?_, ?_⟩, ?_, ?_, ?_⟩
  · rw [h0 1 (by decide)]; exact a1
  · rw [h0 8 (by decide)]; exact a2
  · rw [h0 14 (by decide)]; exact a3.1
  · intro k c hk
    rw [h5]
    exact a3.2.2 k c hk
  · unfold nC at *
    rw [h0 5 (by decide)]; exact a5
  · unfold nC at *
    rw [h0 5 (by decide), h0 6 (by decide)]; exact a6
  · rw [e4]; exact a7
  · rw [e4, h0 8 (by decide)]; exact a8
  · unfold iC nC nS at *
    rw [e4, h0 1 (by decide), h0 2 (by decide), h0 5 (by decide)]; exact hC
  · unfold iL atS inT ahd at *
    rw [e4]; exact hL
  · unfold iR nS nT rom tBo at *
    simp only [hr, hb, h0 2 (by decide), h0 3 (by decide)]; exact hR
theorem wI_sw {B K : Nat} {M : Nat → Nat → Int32} {L : Nat → List Nat} (h : wI B K M L) {s : Nat} {how : Int32} (hs : s < nS M) (hh : how = -1 ∨ ∃ w, w < mny M s ∧ how = nI w) : wI B K (mU M 1 (9 * s + 3) how) L := by
  have e1 : ∀ s' w, w < 9 → w ≠ 3 → mU M 1 (9 * s + 3) how 1 (9 * s' + w) = M 1 (9 * s' + w) := fun s' w _ _ => by simp (disch := omega) only [mU_c]
  have er : ∀ i j, i ≠ 1 → mU M 1 (9 * s + 3) how i j = M i j := fun i j _ => by simp (disch := omega) only [mU_r]
  refine wI_fr h (fun j _ => er _ _ (by decide)) (fun j => er _ _ (by decide)) (fun j => er _ _ (by decide)) (iT_fr h.2.1 rfl rfl (fun _ _ _ => rfl)) (fun s' hs' => ?_) (iE_fr h.2.2.2.1 rfl rfl rfl (fun s' => e1 s' 2 (by decide) (by decide)) (fun _ => rfl)) (fun s' => e1 s' 0 (by decide) (by decide)) (fun _ => rfl)
  have h1 := h.2.2.1 s' hs'
  unfold nT rom hnd mny way at *
  rw [e1 s' 0 (by decide) (by decide), e1 s' 1 (by decide) (by decide), e1 s' 2 (by decide) (by decide)]
  refine ⟨h1.1, h1.2.1, h1.2.2.1, ?_, fun k hk => ?_⟩
  · by_cases q : s' = s
    · subst q
      rw [mU_s]
      exact hh
    · rw [mU_c (by omega)]
      exact h1.2.2.2.1
  · have := h1.2.2.1.2
    rw [e1 s' (5 + k) (by omega) (by omega)]
    exact h1.2.2.2.2 k hk
theorem wI_op {B K : Nat} {M : Nat → Nat → Int32} {L : Nat → List Nat} (h : wI B K M L) {t : Nat} {v : Int32} (hv : v = 0 ∨ v = 1) : wI B K (mU M 2 (8 * t + 5) v) L := by
  have e2 : ∀ t' w, w < 8 → w ≠ 5 → mU M 2 (8 * t + 5) v 2 (8 * t' + w) = M 2 (8 * t' + w) := fun s' w _ _ => by simp (disch := omega) only [mU_c]
  have er : ∀ i j, i ≠ 2 → mU M 2 (8 * t + 5) v i j = M i j := fun i j _ => by simp (disch := omega) only [mU_r]
  refine wI_fr h (fun j _ => er _ _ (by decide)) (fun j => er _ _ (by decide)) (fun j => er _ _ (by decide)) (fun t' ht' => ?_) (iS_fr h.2.2.1 rfl rfl (fun _ _ _ _ => rfl)) (iE_fr h.2.2.2.1 rfl rfl rfl (fun _ => rfl) (fun _ => rfl)) (fun _ => rfl) (fun t' => e2 t' 4 (by decide) (by decide))
  have h1 := h.2.1 t' ht'
  unfold nS tFr tTo tLn tSp tBo at *
  rw [e2 t' 0 (by decide) (by decide), e2 t' 1 (by decide) (by decide), e2 t' 2 (by decide) (by decide), e2 t' 3 (by decide) (by decide), e2 t' 4 (by decide) (by decide)]
  refine ⟨h1.1, h1.2.1, h1.2.2.1, h1.2.2.2.1, h1.2.2.2.2.1, h1.2.2.2.2.2.1, ?_⟩
  by_cases q : t' = t
  · subst q
    rw [mU_s]
    exact hv
  · rw [mU_c (by omega)]
    exact h1.2.2.2.2.2.2
theorem wI_tick {B K : Nat} {M : Nat → Nat → Int32} {L : Nat → List Nat} (hB : B + 1 < 2 ^ 31) (h : wI B K M L) : wI (B + 1) K (mU M 0 1 (M 0 1 + 1)) L := by
  obtain ⟨hN, hT, hS, hE, ⟨a1, a2, a3⟩, hC, hL, hR⟩ := h
  refine ⟨iN_fr hN rfl rfl rfl rfl, iT_fr hT rfl rfl (fun _ _ _ => rfl), iS_fr hS rfl rfl (fun _ _ _ _ => rfl), iE_fr hE rfl rfl rfl (fun _ => rfl) (fun _ => rfl), ⟨?_, a2, a3⟩, ?_, hL, hR⟩
  · rw [mU_s, a1.1, nI_1, u_nI (by omega)]
    exact ⟨rfl, by omega⟩
  · intro c hc
    have := hC c hc
    rw [mU_s, a1.1, nI_1, u_nI (by omega)]
    exact ⟨this.1, this.2.1, this.2.2.1, Nat.le_succ_of_le this.2.2.2⟩
abbrev dueE (M : Nat → Nat → Int32) (e : Nat) : Prop := M 0 1 = M 3 (5 * e + 0) ∨ (¬ M 3 (5 * e + 1) = 0 ∧ ¬ M 0 1 < M 3 (5 * e + 0) ∧ (M 0 1 - M 3 (5 * e + 0)) - (M 0 1 - M 3 (5 * e + 0)) / M 3 (5 * e + 1) * M 3 (5 * e + 1) = 0)
/-- one entry's deed -/
def sDeed (P : pP) (e : Nat) : pP :=
  if P.1 3 (5 * e + 2) = 0 then (mU P.1 1 (9 * u (P.1 3 (5 * e + 3)) + 3) (P.1 3 (5 * e + 4)), P.2)
  else if P.1 3 (5 * e + 2) = 1 then (mU P.1 2 (8 * u (P.1 3 (5 * e + 3)) + 5) (P.1 3 (5 * e + 4)), P.2)
  else if P.1 3 (5 * e + 3) = P.1 3 (5 * e + 4) then P
  else if canS P.1 (P.2 (1 + u (P.1 3 (5 * e + 3)))).length (u (P.1 3 (5 * e + 3))) then (sndM P.1 (u (P.1 3 (5 * e + 3))) (P.1 3 (5 * e + 4)) 1, sndL P.1 P.2 (u (P.1 3 (5 * e + 3))) (P.1 3 (5 * e + 4)) 1) else P
def sEnt1 (P : pP) (e : Nat) : pP := if dueE P.1 e then sDeed P e else P
def sClk (P : pP) : Nat → pP
  | 0 => P
  | k + 1 => sEnt1 (sClk P k) k
theorem canS_spec {B K : Nat} {M : Nat → Nat → Int32} {L : Nat → List Nat} (h : wI B K M L) {s : Nat} (hs : s < nS M) (hc : canS M (L (1 + s)).length s) : (L (1 + s)).length < rom M s ∧ (L 0).length < 40 ∧ nC M < 500 := by
  have hrm := (h.2.2.1 s hs).1
  have h1 := h.2.2.2.2.2.2.2.1 s hs
  obtain ⟨c1, c2, c3⟩ := hc
  rw [hrm.1] at c1
  rw [h.2.2.2.2.1.2.2.1.1] at c2
  rw [h.1.2.2.2.1] at c3
  have h40 := h.2.2.2.2.1.2.2.1.2.1
  have h500 := h.1.2.2.2.2
  exact ⟨(nI_ltI (by omega) (by omega)).mp c1, (nI_ltI (b := 40) (by omega) (by omega)).mp c2, (nI_ltI (b := 500) (by omega) (by omega)).mp c3⟩
theorem snd_r0 (M : Nat → Nat → Int32) (s : Nat) (aim rank : Int32) (j : Nat) (h : j < 5) : sndM M s aim rank 0 j = M 0 j := by simp (disch := omega) only [sndM, pM, mU_r, mU_c]
theorem sDeed_inv {B K : Nat} {P : pP} (hK : K + 1 < 2 ^ 31) (h : wI B K P.1 P.2) {e : Nat} (he : e < nE P.1) : wI B (K + 1) (sDeed P e).1 (sDeed P e).2 ∧ ∀ j, j < 5 → (sDeed P e).1 0 j = P.1 0 j := by
  obtain ⟨-, -, e3, e4⟩ := h.2.2.2.1 e he
  have hm : wI B (K + 1) P.1 P.2 := wI_mono (Nat.le_refl _) (by omega) h
  unfold sDeed
  rcases e4 with ⟨q, q1, q2⟩ | ⟨q, q1, q2⟩ | ⟨q, q1, q2, q3⟩
  · rw [if_pos q]
    exact ⟨wI_sw hm q1 q2, fun j _ => rfl⟩
  · rw [if_neg (by rw [q]; decide), if_pos q]
    exact ⟨wI_op hm q2, fun j _ => rfl⟩
  · rw [if_neg (by rw [q]; decide), if_neg (by rw [q]; decide)]
    by_cases hw : P.1 3 (5 * e + 3) = P.1 3 (5 * e + 4)
    · rw [if_pos hw]
      exact ⟨hm, fun _ _ => rfl⟩
    · rw [if_neg hw]
      by_cases hc : canS P.1 (P.2 (1 + u (P.1 3 (5 * e + 3)))).length (u (P.1 3 (5 * e + 3)))
      · rw [if_pos hc]
        obtain ⟨c1, c2, c3⟩ := canS_spec h q1 hc
        have := wI_snd hK h (s := u (P.1 3 (5 * e + 3))) (a := u (P.1 3 (5 * e + 4))) (k := 1) q1 q3 (by decide) c1 c2 c3
        rw [← q2] at this
        exact ⟨this, fun j hj => snd_r0 _ _ _ _ _ hj⟩
      · rw [if_neg hc]
        exact ⟨hm, fun _ _ => rfl⟩
theorem sEnt1_inv {B K : Nat} {P : pP} (hK : K + 1 < 2 ^ 31) (h : wI B K P.1 P.2) {e : Nat} (he : e < nE P.1) : wI B (K + 1) (sEnt1 P e).1 (sEnt1 P e).2 ∧ ∀ j, j < 5 → (sEnt1 P e).1 0 j = P.1 0 j := by
  unfold sEnt1
  by_cases hd : dueE P.1 e
  · rw [if_pos hd]
    exact sDeed_inv hK h he
  · rw [if_neg hd]
    exact ⟨wI_mono (Nat.le_refl _) (by omega) h, fun _ _ => rfl⟩
theorem sClk_inv {B K : Nat} {P : pP} (hK : K + 12 < 2 ^ 31) (h : wI B K P.1 P.2) : ∀ k, k ≤ nE P.1 → wI B (K + k) (sClk P k).1 (sClk P k).2 ∧ ∀ j, j < 5 → (sClk P k).1 0 j = P.1 0 j
  | 0, _ => ⟨h, fun _ _ => rfl⟩
  | k + 1, hk => by
    obtain ⟨h1, h2⟩ := sClk_inv hK h k (by omega)
    have h12 := h.1.2.2.1.2
    obtain ⟨h3, h4⟩ := sEnt1_inv (by omega) h1 (e := k) (by unfold nE at *; rw [h2 4 (by decide)]; omega)
    exact ⟨h3, fun j hj => (h4 j hj).trans (h2 j hj)⟩
section MODEL11
variable {μ : Nat} {r : Nat → Nat} {S : bS}
theorem M_sendOffX (hM : mOK μ r S) {M : Nat → Nat → Int32} {f g : Nat → Int32} (h5 : M 0 5 = nI (nC M)) (h500 : nC M < 500) {n : Nat} (h14 : M 0 14 = nI n) (h40 : n < 40) {s : Nat} {aim rank : Int32} {post : bS → Prop} (h : post (mW μ r S (mX (sndM M s aim rank) f g))) : wp_X6_sendOff post μ (nI s) aim rank (mW μ r S (mX M f g)) := by
  have e0 : mX M f g 0 5 = M 0 5 := rfl
  have e : nC (mX M f g) = nC M := by unfold nC; rw [e0]
  refine M_sendOff (M := mX M f g) hM ?_ ?_ (n := n) ?_ h40 ?_
  · rw [e]; exact e0.trans h5
  · rw [e]; exact h500
  · exact (show mX M f g 0 14 = M 0 14 from rfl).trans h14
  · rw [snd_X]; exact h
theorem M_deed (hM : mOK μ r S) {f g : Nat → Int32} {B K e : Nat} {P : pP} (h : wI B K P.1 P.2) (he : e < nE P.1) {post : bS → Prop} {rec : Nat → Int32 → bS → Prop} (hp : rec μ (nI e + 1) (mW μ r S (mX (sDeed P e).1 f g))) : wb_X6_clock_64 post rec μ (nI e) (mW μ r S (mX P.1 f g)) := by
  have h14 := h.1.1.2
  have h30 := h.1.2.1.2
  have h12 := h.1.2.2.1.2
  obtain ⟨-, -, e3, e4⟩ := h.2.2.2.1 e he
  have r3 : ∀ w, w < 5 → gV (mW μ r S (mX P.1 f g)) 9 (r 3) (Int32.toNatClampNeg ((5 : Int32) * nI e + nI w)) = P.1 3 (5 * e + w) := fun w hw => by
    rw [i_5, nI_clamp (by omega), mW_V3 hM]
    rfl
  have i3 : ∀ w, w < 5 → vp_in ((5 : Int32) * nI e + nI w) (gN (mW μ r S (mX P.1 f g)) (r 3)) := fun w hw => by
    rw [i_5, mW_n3 hM]
    exact vp_in_nI (by omega) (by omega)
  unfold wb_X6_clock_64
  refine ⟨m_k hM, r 3, (m_q hM).2.2.1, mW_k3 hM, i3 2 (by decide), r 3, (m_q hM).2.2.1, mW_k3 hM, i3 3 (by decide), r 3, (m_q hM).2.2.1, mW_k3 hM, i3 4 (by decide), ?_⟩
  rw [show (2 : Int32) = nI 2 from rfl, show (3 : Int32) = nI 3 from rfl, show (4 : Int32) = nI 4 from rfl, r3 2 (by decide), r3 3 (by decide), r3 4 (by decide)]
  unfold sDeed at hp
  rcases e4 with ⟨q, q1, q2⟩ | ⟨q, q1, q2⟩ | ⟨q, q1, q2, q3⟩
  · rw [if_pos q] at hp
    refine ⟨fun hn => absurd q hn, fun _ => ⟨r 1, (m_q hM).1, mW_k1 hM, ?_, ?_⟩⟩
    · rw [e3, i_9, mW_n1 hM]
      exact vp_in_nI (by omega) (by omega)
    · rw [q]
      refine ⟨fun _ => ⟨fun _ => ?_, fun hc => absurd hc (by decide)⟩, fun hc => absurd hc (by decide)⟩
      show rec μ (nI e + 1) _
      have hx : (Int32.toNatClampNeg ((9 : Int32) * P.1 3 (5 * e + 3) + nI 3)) = 9 * u (P.1 3 (5 * e + 3)) + 3 := by
        rw [e3, i_9, nI_clamp (by omega), u_nI (by omega)]
      rw [hx, sW_1 hM, mX_U (by decide) (by decide)]
      exact hp
  · rw [if_neg (by rw [q]; decide), if_pos q] at hp
    rw [q]
    refine ⟨fun _ => ⟨fun hn => absurd rfl hn, fun _ => ⟨m_k hM, r 2, (m_q hM).2.1, mW_k2 hM, ?_, ?_⟩⟩, fun hc => absurd hc (by decide)⟩
    · rw [e3, show (5 : Int32) = nI 5 from rfl, i_8, mW_n2 hM]
      exact vp_in_nI (by omega) (by omega)
    · refine ⟨fun _ => ?_, fun hc => absurd hc (by decide)⟩
      show rec μ (nI e + 1) _
      have hx : (Int32.toNatClampNeg ((8 : Int32) * P.1 3 (5 * e + 3) + (5 : Int32))) = 8 * u (P.1 3 (5 * e + 3)) + 5 := by
        rw [e3, show (5 : Int32) = nI 5 from rfl, i_8, nI_clamp (by omega), u_nI (by omega)]
      rw [hx, sW_2 hM, mX_U (by decide) (by decide)]
      exact hp
  · rw [if_neg (by rw [q]; decide), if_neg (by rw [q]; decide)] at hp
    rw [q]
    refine ⟨fun _ => ⟨fun _ => ⟨fun hn => absurd rfl hn, fun _ => ⟨fun hw => ?_, fun hw => ⟨m_k hM, ?_⟩⟩⟩, fun hc => absurd hc (by decide)⟩, fun hc => absurd hc (by decide)⟩
    · rw [if_pos hw] at hp
      exact hp
    · rw [if_neg hw] at hp
      have hperm := (h.2.2.2.2.2.2.1.1 (u (P.1 3 (5 * e + 3))) (by omega)).1
      generalize hwt : u (P.1 3 (5 * e + 3)) = wt at *
      rw [e3]
      refine M_canSend hM (mAc_X h.2.2.2.2.1.2.2.1 f g) (s := wt) (by omega) (Ln := P.2 (1 + wt)) hperm ⟨fun h0 => ?_, fun h0 => ⟨m_k hM, ?_⟩⟩
      · have hc : ¬ canS P.1 (P.2 (1 + wt)).length wt := fun qq => by
          rw [if_pos (show canS (mX P.1 f g) (P.2 (1 + wt)).length wt from qq)] at h0
          exact absurd h0 (by decide)
        rw [if_neg hc] at hp
        exact hp
      · have hc : canS P.1 (P.2 (1 + wt)).length wt := by
          by_cases qq : canS P.1 (P.2 (1 + wt)).length wt
          · exact qq
          · rw [if_neg (show ¬ canS (mX P.1 f g) (P.2 (1 + wt)).length wt from qq)] at h0
            exact absurd rfl h0
        rw [if_pos hc] at hp
        obtain ⟨c1, c2, c3⟩ := canS_spec h q1 hc
        exact M_sendOffX hM (n := (P.2 0).length) h.1.2.2.2.1 c3 h.2.2.2.2.1.2.2.1.1 c2 hp
theorem M_clock (hM : mOK μ r S) {f g : Nat → Int32} {B K : Nat} {P : pP} (h : wI B K P.1 P.2) (hK : K + 12 < 2 ^ 31) {post : bS → Prop} (hp : post (mW μ r S (mX (sClk P (nE P.1)).1 f g))) : wp_X6_clock post μ (mW μ r S (mX P.1 f g)) := by
  have h12 := h.1.2.2.1.2
  have loop : ∀ (n k : Nat), k + n = nE P.1 → wb_X6_clock_2 post (n + 1) μ (nI k) (mW μ r S (mX (sClk P k).1 f g)) := by
    intro n
    induction n with
    | zero =>
      intro k hk
      have hk' : k = nE P.1 := by omega
      subst hk'
      obtain ⟨-, h0⟩ := sClk_inv hK h (nE P.1) (Nat.le_refl _)
      unfold wb_X6_clock_2
      refine ⟨m_k hM, fun _ => hp, fun hc => ?_⟩
      rw [mW_V0, show mX (sClk P (nE P.1)).1 f g 0 4 = nI (nE P.1) from (h0 4 (by decide)).trans h.1.2.2.1.1] at hc
      exact absurd (nI_le (Nat.le_refl _) (by omega)) hc
    | succ n ih =>
      intro k hk
      obtain ⟨hk1, h0⟩ := sClk_inv hK h k (by omega)
      have hkE : k < nE (sClk P k).1 := by
        unfold nE at *
        rw [h0 4 (by decide)]
        omega
      have next := ih (k + 1) (by omega)
      have skip : ¬ dueE (sClk P k).1 k → wb_X6_clock_170 post (wb_X6_clock_2 post (n + 1)) μ (nI k) (mW μ r S (mX (sClk P k).1 f g)) := fun hd => by
        have e : sClk P (k + 1) = sClk P k := if_neg hd
        rw [e] at next
        show wb_X6_clock_2 post (n + 1) μ (nI k + 1) _
        rw [nI_1]
        exact next
      have deed : dueE (sClk P k).1 k → wb_X6_clock_64 post (wb_X6_clock_2 post (n + 1)) μ (nI k) (mW μ r S (mX (sClk P k).1 f g)) := fun hd => by
        have e : sClk P (k + 1) = sDeed (sClk P k) k := if_pos hd
        rw [e] at next
        refine M_deed hM hk1 hkE ?_
        rw [nI_1]
        exact next
      have r30 : gV (mW μ r S (mX (sClk P k).1 f g)) 9 (r 3) (Int32.toNatClampNeg ((5 : Int32) * nI k)) = (sClk P k).1 3 (5 * k + 0) := by
        rw [show (5 : Int32) = nI 5 from rfl, pk_mul, nI_clamp (by omega), mW_V3 hM]
        rfl
      have r31 : gV (mW μ r S (mX (sClk P k).1 f g)) 9 (r 3) (Int32.toNatClampNeg ((5 : Int32) * nI k + 1)) = (sClk P k).1 3 (5 * k + 1) := by
        rw [show (1 : Int32) = nI 1 from rfl, i_5, nI_clamp (by omega), mW_V3 hM]
        rfl
      unfold wb_X6_clock_2
      refine ⟨m_k hM, fun hc => ?_, fun _ => ⟨r 3, (m_q hM).2.2.1, mW_k3 hM, ?_, r 3, (m_q hM).2.2.1, mW_k3 hM, ?_, ?_⟩⟩
      · rw [mW_V0, show mX (sClk P k).1 f g 0 4 = nI (nE P.1) from (h0 4 (by decide)).trans h.1.2.2.1.1] at hc
        exact absurd hc (nI_ge (by omega) (by omega))
      · rw [show (5 : Int32) = nI 5 from rfl, pk_mul, mW_n3 hM]
        exact vp_in_nI (by omega) (by omega)
      · rw [show (1 : Int32) = nI 1 from rfl, i_5, mW_n3 hM]
        exact vp_in_nI (by omega) (by omega)
      · rw [r30, r31, mW_V0]
        refine ⟨fun he => deed (Or.inl he), fun hne => ⟨fun hz => skip (fun q => ?_), fun hz => ⟨fun hl => skip (fun q => ?_), fun hl => ⟨hz, fun hm => deed (Or.inr ⟨hz, hl, hm⟩), fun hm => skip (fun q => ?_)⟩⟩⟩⟩
        · rcases q with q | q
          · exact hne q
          · exact q.1 hz
        · rcases q with q | q
          · exact hne q
          · exact q.2.1 hl
        · rcases q with q | q
          · exact hne q
          · exact hm q.2.2
  exact ⟨nE P.1 + 1, loop (nE P.1) 0 (by omega)⟩
end MODEL11
