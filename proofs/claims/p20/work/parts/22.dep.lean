/-! ===== the reference's departures ===== -/
theorem chM_cases {M : Nat → Nat → Int32} (hN : iN M) (hT : iT M) (hS : iS M) {s aim : Nat} (hs : s < nS M) : chM M s aim = -1 ∨ ∃ w, w < mny M s ∧ chM M s aim = nI w := by
  unfold chM
  by_cases h : M 1 (9 * s + 3) = -1
  · rw [if_pos h]
    cases hb : bst M (dD M aim) s aim (mny M s) with
    | none => exact Or.inl rfl
    | some q => exact Or.inr ⟨q.1, (bst_lt hT hS (dR_bound hN hT hS (by decide)) hs _ (Nat.le_refl _) q hb).1, rfl⟩
  · rw [if_neg h]
    exact (hS s hs).2.2.2.1
/-- the tube that a carrier at a station would take -/
def tGo (P : pP) (s c : Nat) : Nat := way P.1 s (u (chM P.1 s (u (P.1 4 (9 * c + 2)))))
abbrev goD (P : pP) (s c : Nat) : Prop := P.1 4 (9 * c + 5) + P.1 1 (9 * s + 1) ≤ P.1 0 1 ∧ ¬ chM P.1 s (u (P.1 4 (9 * c + 2))) = -1 ∧ ¬ P.1 2 (8 * tGo P s c + 5) = 0 ∧ nI (P.2 (15 + tGo P s c)).length < P.1 2 (8 * tGo P s c + 4) ∧ ¬ P.1 2 (8 * tGo P s c + 7) = P.1 0 1
def sDep (s : Nat) : List Nat → pP → pP
  | [], P => P
  | c :: rest, P => sDep s rest (if goD P s c then (entM P.1 c (tGo P s c), entL P.1 P.2 c (tGo P s c)) else P)
theorem tGo_lt {B K : Nat} {P : pP} (h : wI B K P.1 P.2) {s c : Nat} (hs : s < nS P.1) (hg : ¬ chM P.1 s (u (P.1 4 (9 * c + 2))) = -1) : ∃ w, w < mny P.1 s ∧ chM P.1 s (u (P.1 4 (9 * c + 2))) = nI w ∧ tGo P s c = way P.1 s w ∧ P.1 1 (9 * s + (5 + w)) = nI (tGo P s c) ∧ tGo P s c < nT P.1 ∧ w ≤ 3 := by
  rcases chM_cases h.1 h.2.1 h.2.2.1 (aim := u (P.1 4 (9 * c + 2))) hs with q | ⟨w, h1, h2⟩
  · exact absurd q hg
  · obtain ⟨-, -, h4, -, h5⟩ := h.2.2.1 s hs
    have e : tGo P s c = way P.1 s w := by
      unfold tGo
      rw [h2, u_nI (by omega)]
    obtain ⟨h6, h7⟩ := h5 w h1
    exact ⟨w, h1, h2, e, by rw [e]; exact h6, by rw [e]; exact h7, by omega⟩
theorem dep_ent {B K : Nat} {P : pP} {s c : Nat} (hK : K + 1 < 2 ^ 31) (h : wI B K P.1 P.2) (hs : s < nS P.1) (hc : c ∈ P.2 (1 + s)) (hg : goD P s c) : wI B (K + 1) (entM P.1 c (tGo P s c)) (entL P.1 P.2 c (tGo P s c)) ∧ ∀ d, d ∈ P.2 (1 + s) → d ≠ c → d ∈ entL P.1 P.2 c (tGo P s c) (1 + s) := by
  have h14 := h.1.1.2
  obtain ⟨w, -, -, -, -, ht, -⟩ := tGo_lt h hs hg.2.1
  have hbo := (h.2.1 _ ht).2.2.2.2.2.1
  have hlen := h.2.2.2.2.2.2.2.2.2.1 _ ht
  refine ⟨wI_ent hK h (w_at h (by omega) hc).1 ht ?_, fun d hd hdc => ?_⟩
  · have := hg.2.2.2.1
    rw [hbo.1] at this
    exact (nI_ltI (by omega) (by omega)).mp this
  · unfold entL sLst
    rw [if_neg (by omega), if_neg (by omega)]
    exact rem_mem.mpr ⟨hd, hdc⟩
theorem sDep_inv {B s : Nat} : ∀ (l : List Nat) (K : Nat) (P : pP), wI B K P.1 P.2 → s < nS P.1 → (∀ d, d ∈ l → d ∈ P.2 (1 + s)) → l.Nodup → K + l.length < 2 ^ 31 → wI B (K + l.length) (sDep s l P).1 (sDep s l P).2 ∧ ∀ j, j ≠ 8 → (sDep s l P).1 0 j = P.1 0 j
  | [], K, P, h, _, _, _, _ => ⟨h, fun _ _ => rfl⟩
  | c :: rest, K, P, h, hs, hl, hnd, hK => by
    rw [List.length_cons] at hK ⊢
    obtain ⟨n1, n2⟩ := List.nodup_cons.mp hnd
    unfold sDep
    by_cases hg : goD P s c
    · rw [if_pos hg]
      obtain ⟨h1, h2⟩ := dep_ent (by omega) h hs (hl c List.mem_cons_self) hg
      have := sDep_inv rest (K + 1) (entM P.1 c (tGo P s c), entL P.1 P.2 c (tGo P s c)) h1 (by unfold nS at *; show s < u (entM P.1 c (tGo P s c) 0 2); rw [ent_r0 _ _ _ _ (by decide)]; exact hs) (fun d hd => h2 d (hl d (List.mem_cons_of_mem _ hd)) (fun q => n1 (q ▸ hd))) n2 (by omega)
      refine ⟨wI_mono (Nat.le_refl _) (by omega) this.1, fun j hj => ?_⟩
      rw [this.2 j hj]
      exact ent_r0 _ _ _ _ hj
    · rw [if_neg hg]
      have := sDep_inv rest K P h hs (fun d hd => hl d (List.mem_cons_of_mem _ hd)) n2 (by omega)
      exact ⟨wI_mono (Nat.le_refl _) (by omega) this.1, this.2⟩
section MODEL10
variable {μ : Nat} {r : Nat → Nat} {S : bS}
theorem M_dep_loop (hM : mOK μ r S) {g : Nat → Int32} {B s : Nat} {Q : List Nat} (hQ : Qu g Q) (hQ40 : Q.length ≤ 40) {post : bS → Prop} : ∀ (rest : List Nat) (k K : Nat) (P : pP) (f : Nat → Int32), Q.drop k = rest → k ≤ Q.length → wI B K P.1 P.2 → s < nS P.1 → (∀ d, d ∈ rest → d ∈ P.2 (1 + s)) → rest.Nodup → K + rest.length < 2 ^ 31 → (∀ f, post (mW μ r S (mX (sDep s rest P).1 f g))) → wb_X6_departures_8 post (rest.length + 1) μ (nI s) (nI Q.length) (nI k) (mW μ r S (mX P.1 f g)) := by
  intro rest
  induction rest with
  | nil =>
    intro k K P f hk hkl h hs hl hnd hK hp
    have := List.drop_eq_nil_iff.mp hk
    unfold wb_X6_departures_8
    exact ⟨fun _ => hp f, fun hc => absurd (nI_le this (by omega)) hc⟩
  | cons c rest ih =>
    intro k K P f hk hkl h hs hl hnd hK hp
    rw [List.length_cons] at hK
    obtain ⟨n1, n2⟩ := List.nodup_cons.mp hnd
    obtain ⟨q1, q2, q3⟩ := mAc_drop hk
    have hgk := hQ k c q1
    have h14 := h.1.1.2
    have h30 := h.1.2.1.2
    have hcm := hl c List.mem_cons_self
    obtain ⟨hc0, -, -, hcn, hc5⟩ := w_at h (s := s) (by omega) hcm
    obtain ⟨ha1, -⟩ := h.2.2.2.2.2.1 c hcn
    have hA := h.2.2.2.2.1.2.2.1
    have hL := h.2.2.2.2.2.2.1
    unfold sDep at hp
    have skip : ¬ goD P s c → ∀ f, wb_X6_departures_199 post (wb_X6_departures_8 post (rest.length + 1)) μ (nI s) (nI Q.length) (nI k) (mW μ r S (mX P.1 f g)) := by
      intro hg f
      rw [if_neg hg] at hp
      show wb_X6_departures_8 post (rest.length + 1) μ (nI s) (nI Q.length) (nI k + 1) _
      rw [nI_1]
      exact ih (k + 1) K P f q2 (by omega) h hs (fun d hd => hl d (List.mem_cons_of_mem _ hd)) n2 (by omega) hp
    unfold wb_X6_departures_8
    refine ⟨fun hc => absurd hc (nI_ge q3 (by omega)), fun _ => ⟨m_k hM, r 7, (m_q hM).2.2.2.2.2.2, mW_k7 hM, ?_, ?_⟩⟩
    · rw [mW_n7 hM]
      exact vp_in_nI (by omega) (by omega)
    · rw [nI_clamp (n := k) (by omega), mW_V7 hM, show mX P.1 f g 7 k = nI c from hgk]
      refine M_get (w := 5) hM (by omega) ⟨m_k hM, M_st (w := 1) hM (by omega) ⟨m_k hM, ?_⟩⟩
      rw [mW_V0]
      refine ⟨fun hle => M_get (w := 2) hM (by omega) ⟨m_k hM, ?_⟩, fun hgt => skip (fun q => hgt q.1) f⟩
      rw [show mX P.1 f g 4 (9 * c + 2) = nI (u (P.1 4 (9 * c + 2))) from ha1.1]
      refine M_chosen hM h.1 h.2.1 h.2.2.1 hs ha1.2 (fun f => ⟨fun hne => ⟨m_k hM, ?_⟩, fun he => skip (fun q => q.2.1 he) f⟩)
      obtain ⟨w, w1, w2, w3, w4, w5, w6⟩ := tGo_lt h hs hne
      obtain ⟨-, -, -, -, -, hbo, -⟩ := h.2.1 _ w5
      rw [w2, show (5 : Int32) + nI w = nI (5 + w) from nI_add 5 w]
      refine M_st (w := 5 + w) hM (by omega) ⟨m_k hM, ?_⟩
      rw [show mX P.1 f g 1 (9 * s + (5 + w)) = nI (tGo P s c) from w4]
      refine M_tu (w := 5) hM (by omega) ⟨fun h0 => skip (fun q => q.2.2.1 h0) f, fun ho => ⟨m_k hM, ?_⟩⟩
      have hperm := (hL.2 (tGo P s c) (by omega)).1
      refine M_manyAt hM (mAc_X hA f g) ⟨m_k hM, M_tu (w := 4) hM (by omega) ?_⟩
      rw [mCn_perm (M := mX P.1 f g) (p := inT P.1 (nI (tGo P s c))) (fun c => rfl) hperm]
      refine ⟨fun hle2 => skip (fun q => Int32.not_lt.mpr hle2 q.2.2.2.1) f, fun hgt => ⟨m_k hM, M_tu (w := 7) hM (by omega) ⟨m_k hM, ?_⟩⟩⟩
      rw [mW_V0]
      refine ⟨fun hnl => ?_, fun he => skip (fun q => q.2.2.2.2 he) f⟩
      have hg : goD P s c := ⟨hle, hne, ho, Int32.not_le.mp hgt, hnl⟩
      rw [if_pos hg] at hp
      obtain ⟨e1, e2⟩ := dep_ent (by omega) h hs hcm hg
      refine M_put hM hc5 ⟨m_k hM, ?_⟩
      rw [pM_X]
      have x0 : ∀ j, j ≠ 8 → pM P.1 c 2 (nI (tGo P s c)) 0 j = P.1 0 j := fun j hj => by simp (disch := omega) only [pM, mU_r, mU_c]
      refine M_through hM (iN_fr h.1 (x0 2 (by decide)) (x0 3 (by decide)) (x0 4 (by decide)) (x0 5 (by decide))) (iT_fr h.2.1 (x0 2 (by decide)) (x0 3 (by decide)) (fun _ _ _ => rfl)) (t := tGo P s c) (by unfold nT at *; rw [x0 3 (by decide)]; exact w5) ⟨m_k hM, M_set (w := 8) hM (by omega) ⟨m_k hM, M_get (w := 6) hM (by omega) ⟨m_k hM, M_set (w := 6) hM (by omega) ⟨m_k hM, r 2, (m_q hM).2.1, mW_k2 hM, ?_, ?_, r 2, hM.2.1.2.1, (hM.2.2.1 2 (by decide) (by decide)).1, ?_, ?_⟩⟩⟩⟩
      · rw [show (6 : Int32) = nI 6 from rfl, i_8, mW_n2 hM]
        exact vp_in_nI (by omega) (by omega)
      · rw [show (6 : Int32) = nI 6 from rfl, i_8, mW_n2 hM]
        exact vp_in_nI (by omega) (by omega)
      · rw [show (7 : Int32) = nI 7 from rfl, i_8, gN_sV, mW_n2 hM]
        exact vp_in_nI (by omega) (by omega)
      · rw [show (6 : Int32) = nI 6 from rfl, show (7 : Int32) = nI 7 from rfl, i_8, i_8, nI_clamp (n := 8 * tGo P s c + 6) (by omega), nI_clamp (n := 8 * tGo P s c + 7) (by omega), mW_V2 hM, sW_2 hM, mW_V0, sW_2 hM]
        have fin : ∀ f, wb_X6_departures_199 post (wb_X6_departures_8 post (rest.length + 1)) μ (nI s) (nI Q.length) (nI k) (mW μ r S (mX (entM P.1 c (tGo P s c)) f g)) := by
          intro f
          show wb_X6_departures_8 post (rest.length + 1) μ (nI s) (nI Q.length) (nI k + 1) _
          rw [nI_1]
          exact ih (k + 1) (K + 1) (entM P.1 c (tGo P s c), entL P.1 P.2 c (tGo P s c)) f q2 (by omega) e1 (by unfold nS at *; show s < u (entM P.1 c (tGo P s c) 0 2); rw [ent_r0 _ _ _ _ (by decide)]; exact hs) (fun d hd => e2 d (hl d (List.mem_cons_of_mem _ hd)) (fun q => n1 (q ▸ hd))) n2 (by omega) hp
        have hfin := fin f
        rw [mX_U (by decide) (by decide), mX_U (by decide) (by decide), mX_U (by decide) (by decide), mX_U (by decide) (by decide)]
        unfold entM at hfin
        have y6 : mX (mU (pM P.1 c 2 (nI (tGo P s c))) 4 (9 * c + 8) (nI (thr (pM P.1 c 2 (nI (tGo P s c))) (tGo P s c)))) f g 4 (9 * c + 6) = P.1 4 (9 * c + 6) := by
          show mU (pM P.1 c 2 (nI (tGo P s c))) 4 (9 * c + 8) (nI (thr (pM P.1 c 2 (nI (tGo P s c))) (tGo P s c))) 4 (9 * c + 6) = P.1 4 (9 * c + 6)
          simp (disch := omega) only [pM, mU_r, mU_c]
        rw [y6]
        exact hfin
theorem M_departures (hM : mOK μ r S) {f g : Nat → Int32} {B K s : Nat} {P : pP} (h : wI B K P.1 P.2) (hs : s < nS P.1) (hK : K + 40 < 2 ^ 31) {post : bS → Prop} (hp : ∀ f g, post (mW μ r S (mX (sDep s (P.2 (1 + s)) P).1 f g))) : wp_X6_departures post μ (nI s) (mW μ r S (mX P.1 f g)) := by
  have h14 := h.1.1.2
  obtain ⟨a1, a2, a3, a4, a5, a6, a7, a8⟩ := h.2.2.2.2.1
  have hL := h.2.2.2.2.2.2.1.1 s (by omega)
  have hlen : (P.2 (1 + s)).length ≤ 40 := by
    rw [hL.1.length_eq]
    exact Nat.le_trans (List.length_filter_le _ _) a3.2.1
  refine ⟨m_k hM, M_line hM a3 a4 a7 hL.1 hL.2 (fun g' hQ => ⟨(P.2 (1 + s)).length + 1, ?_⟩)⟩
  exact M_dep_loop hM hQ hlen (P.2 (1 + s)) 0 K P f rfl (Nat.zero_le _) h hs (fun d hd => hd) (w_ndS h (by omega)) (by omega) (fun f => hp f g')
end MODEL10
