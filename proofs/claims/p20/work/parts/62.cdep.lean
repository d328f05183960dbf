/-! ===== the class's departures ===== -/
section CDEP
theorem C_tubeToEnter {S : bS} {A : Nat → Nat → Nat} {cp : Nat → Nat} {P : pP} {B K : Nat} (h : cR S A cp P) (hw : wI B K P.1 P.2) (hX : iX P.1 P.2) (hB : B + 20 < 2 ^ 31) (hk : 1 ≤ u (P.1 0 1)) {s c : Nat} (hs : s < nS P.1) (hc : c ∈ P.2 (1 + s)) {post : Option Nat → bS → Prop} (hp : ∀ S', cR S' A cp P → cF A S S' → post (if goD P s c then some (A 2 (tGo P s c)) else none) S') : wp_X5_tubeToEnter post (A 0 0) (A 1 s) (A 3 c) S := by
  have h14 := hw.1.1.2
  obtain ⟨-, -, -, hcn, -⟩ := w_at hw (by omega) hc
  obtain ⟨ha1, -, e5, l5⟩ := hw.2.2.2.2.2.1 c hcn
  obtain ⟨hh, hhl⟩ := (hw.2.2.1 s hs).2.1
  obtain ⟨⟨a1, a1B⟩, -⟩ := hw.2.2.2.2.1
  obtain ⟨p0, p1, -, -, p4, -⟩ := h.1.1
  obtain ⟨s0, -, -, s3, -⟩ := h.1.2.2.2.1 s hs
  obtain ⟨c0, -, c2, -, -, -, -, c7, -⟩ := h.1.2.2.2.2.2.1 c hcn
  have n0 := h.1.2.1.1
  have hk0 : ¬ P.1 0 1 = 0 := fun q => by
    rw [q] at hk
    exact absurd hk (by decide)
  have hk1 : ¬ P.1 0 1 = -1 := by
    rw [a1]
    exact nI_neN1 (by omega)
  have hcond : gV S 5 (A 1 s) 2 ≤ gV S 7 (A 0 0) 3 - gV S 2 (A 3 c) 6 ↔ P.1 4 (9 * c + 5) + P.1 1 (9 * s + 1) ≤ P.1 0 1 := by
    rw [s3, p4, c7]
    generalize hx : u (P.1 4 (9 * c + 5)) = x at *
    generalize hT : u (P.1 0 1) = T at *
    unfold hnd at hh hhl
    generalize hH : u (P.1 1 (9 * s + 1)) = H at *
    rw [e5, a1, hh, pk_sub l5, nI_add, nI_leI (by omega) (by omega), nI_leI (by omega) (by omega)]
    omega
  refine ⟨p0, c0, s0, fun hle => ⟨_, p1, _, c2, n0, C_wayFor h hw hs ha1.2 (fun hne S' hR hF => ?_) (fun he => absurd he.symm (hX s c (by omega) hc))⟩, fun hgt => ?_⟩
  · have hle' := hcond.mp hle
    obtain ⟨q0, -, -, -, q4, -⟩ := hR.1.1
    obtain ⟨u0, -, -, -, u3, -⟩ := hR.1.2.2.2.1 s hs
    obtain ⟨e, hL⟩ := cl_at hR (i := 4 + s) (Or.inr (Or.inl ⟨by omega, by omega⟩))
    rw [ls_w (by omega)] at hL
    have hm4 := (hw.2.2.1 s hs).2.2.1.2
    have hp' := hp S' hR hF
    refine ⟨u0, _, u3, hL.1, C_size hL ?_⟩
    rw [List.length_map, List.length_range]
    refine C_ixC rfl (by omega) ?_
    by_cases hm : chM P.1 s (u (P.1 4 (9 * c + 2))) = -1
    · rw [if_neg (fun q => q.2.1 hm)] at hp'
      rw [hm, show ixO (-1) (mny P.1 s) = none from if_neg (fun q => absurd q.1 (by decide))]
      exact ⟨fun q => absurd (show (1 : Int32) = 0 from q) (by decide), fun _ => hp'⟩
    · obtain ⟨w, w1, w2, w3, w4, w5, w6⟩ := tGo_lt hw hs hm
      rw [w2, ixO_nI (by omega) w1]
      refine ⟨fun _ => ⟨u0, _, u3, hL.1, C_get (k := w) (a := A 2 (tGo P s c)) hL ?_ ⟨_, rfl, (hR.1.2.2.2.2.1 _ w5).1, q0, ?_⟩⟩, fun q => absurd rfl q⟩
      · rw [w3]
        exact rng_at (f := fun k => A 2 (way P.1 s k)) w1
      · rw [q4]
        refine C_canEnter hR hw w5 hk0 hk1 ?_
        by_cases hg : goD P s c
        · rw [if_pos hg] at hp'
          rw [if_pos hg.2.2]
          exact ⟨fun q => absurd q (by decide), fun _ => hp'⟩
        · rw [if_neg hg] at hp'
          rw [if_neg (fun q => hg ⟨hle', hm, q⟩)]
          exact ⟨fun _ => hp', fun q => absurd rfl q⟩
  · have hp' := hp S h (cF_rf A S)
    rw [if_neg (fun q => hgt (hcond.mpr q.1))] at hp'
    exact hp'
theorem er_mid (f : Nat → Nat) : ∀ (a : List Nat) (c : Nat) (b : List Nat), ((a ++ c :: b).map f).eraseIdx a.length = (a ++ b).map f
  | [], c, b => rfl
  | x :: a, c, b => by
    show f x :: ((a ++ c :: b).map f).eraseIdx a.length = f x :: (a ++ b).map f
    rw [er_mid f a c b]
theorem rem_mid {a b : List Nat} {c : Nat} (h : (a ++ c :: b).Nodup) : rem c (a ++ c :: b) = a ++ b := by
  obtain ⟨h1, h2, h3⟩ := List.nodup_append.mp h
  have e : rem c (a ++ c :: b) = rem c a ++ rem c (c :: b) := List.filter_append _ _
  rw [e, rem_head h2, rem_no (fun q => h3 c q c List.mem_cons_self rfl)]
theorem entL_s {B K s c : Nat} {P : pP} {kept rest : List Nat} (hw : wI B K P.1 P.2) (hs : s < 14) (hl : P.2 (1 + s) = kept ++ c :: rest) (t : Nat) : entL P.1 P.2 c t (1 + s) = kept ++ rest := by
  have hnd := w_ndS hw hs
  unfold entL sLst
  rw [if_neg (by omega), if_neg (by omega), hl]
  rw [hl] at hnd
  exact rem_mid hnd
theorem lsC_ent {A : Nat → Nat → Nat} {B K s t c : Nat} {P : pP} {kept rest : List Nat} (hw : wI B K P.1 P.2) (hs : s < 14) (ht : t < 30) (hl : P.2 (1 + s) = kept ++ c :: rest) {i : Nat} (hi : i < 62) : lsC A P.1 (entL P.1 P.2 c t) i = up (up (lsC A P.1 P.2) (18 + s) ((kept ++ rest).map (A 3))) (32 + t) ((P.2 (15 + t) ++ [c]).map (A 3)) i := by
  have hcm : c ∈ P.2 (1 + s) := by rw [hl]; simp
  have a1 := lsC_up (A := A) (M := P.1) (L := up P.2 (1 + s) (kept ++ rest)) (L' := entL P.1 P.2 c t) (k := 15 + t) (κ := 32 + t) (l := P.2 (15 + t) ++ [c]) (by omega) (by omega) (fun j j0 jk j45 => by
    by_cases q : j = 1 + s
    · subst q
      rw [up_s]
      exact entL_s hw hs hl t
    · rw [up_n q]
      unfold entL sLst
      rw [if_neg j0, if_neg jk]
      exact w_off_at hw hs hcm j0 q j45) (by
    unfold entL sLst
    rw [if_neg (by omega), if_pos rfl, if_neg (by omega), w_off_at hw hs hcm (by omega) (by omega) (by omega)]) hi
  have a2 := lsC_up (A := A) (M := P.1) (L := P.2) (L' := up P.2 (1 + s) (kept ++ rest)) (k := 1 + s) (κ := 18 + s) (by omega) (by omega) (fun j j0 jk j45 => up_n jk) up_s hi
  rw [a1]
  by_cases q : i = 32 + t
  · rw [q, up_s, up_s]
  · rw [up_n q, up_n q, a2]
theorem C_dep_head {B K s c : Nat} {kept rest : List Nat} {P : pP} {cp : Nat → Nat} (hB : B + 20 < 2 ^ 31) (hw : wI B K P.1 P.2) (hX : iX P.1 P.2) (hk : 1 ≤ u (P.1 0 1)) (hs : s < nS P.1) (hl : P.2 (1 + s) = kept ++ c :: rest) {S : bS} {A : Nat → Nat → Nat} {MC MS : Nat} {post : bS → Prop} (h : cR S A cp P) (go : ∀ S', cR S' A cp P → cF A S S' → goD P s c → wp_Jx4a65c_remove_915e3 (fun r21 S22 => ∃ b23, r21 = some b23 ∧ (gK S22 (A 0 0) = 7 ∧ (gK S22 (A 3 c) = 2 ∧ (∃ k29 n30, k29 ≤ MC ∧ n30 ≤ MS ∧ (wp_X0_enter (fun S28 => wb_X5_departFrom_73 post (wb_X5_departFrom_13 post (rest.length + 1)) (MC - k29) (MS - n30) (A 0 0) (A 1 s) (A 5 (18 + s)) (nI kept.length) (nI (rest.length + 1)) S28) k29 n30 (A 3 c) (A 2 (tGo P s c)) (gV S22 7 (A 0 0) 3) S22))))) (A 5 (18 + s)) (nI kept.length) S') (no : ∀ S', cR S' A cp P → cF A S S' → ¬ goD P s c → wb_X5_departFrom_73 post (wb_X5_departFrom_13 post (rest.length + 1)) MC MS (A 0 0) (A 1 s) (A 5 (18 + s)) (nI kept.length + 1) (nI (rest.length + 1)) S') : wb_X5_departFrom_13 post (rest.length + 1 + 1) MC MS (A 0 0) (A 1 s) (A 5 (18 + s)) (nI kept.length) (nI (rest.length + 1)) S := by
  have h14 := hw.1.1.2
  have hcm : c ∈ P.2 (1 + s) := by rw [hl]; simp
  obtain ⟨-, -, -, hcn, -⟩ := w_at hw (s := s) (by omega) hcm
  have hlen := len_at hw (t := s) (by omega)
  have hln : (P.2 (1 + s)).length = kept.length + (rest.length + 1) := by rw [hl, List.length_append, List.length_cons]
  obtain ⟨p0, -⟩ := h.1.1
  obtain ⟨c0, -⟩ := h.1.2.2.2.2.2.1 c hcn
  obtain ⟨e, hL⟩ := cl_at h (i := 18 + s) (Or.inr (Or.inr (Or.inl ⟨by omega, by omega⟩)))
  rw [ls_l (by omega)] at hL
  unfold wb_X5_departFrom_13
  refine ⟨fun q => absurd q (nI_nle (by omega) (by omega)), fun _ => ⟨hL.1, C_size hL ⟨fun q => ?_, fun _ => ⟨hL.1, C_get (k := kept.length) (a := A 3 c) hL ?_ ⟨_, rfl, c0, p0, C_tubeToEnter h hw hX hB hk hs hcm (fun S' hR' hF' => ?_)⟩⟩⟩⟩⟩
  · rw [List.length_map, hln] at q
    exact absurd q (nI_ge (by omega) (by omega))
  · rw [hl, List.getElem?_map, List.getElem?_append_right (Nat.le_refl _), Nat.sub_self]
    rfl
  · obtain ⟨e', hL'⟩ := cl_at hR' (i := 18 + s) (Or.inr (Or.inr (Or.inl ⟨by omega, by omega⟩)))
    by_cases hg : goD P s c
    · rw [if_pos hg]
      refine ⟨fun q => (by cases q), fun b hb => ?_⟩
      cases hb
      exact ⟨hL'.1, go S' hR' hF' hg⟩
    · rw [if_neg hg]
      exact ⟨fun _ => no S' hR' hF' hg, fun b hb => (by cases hb)⟩
theorem C_dep_loop {B s : Nat} (hB : B + 20 < 2 ^ 31) : ∀ (rest kept : List Nat) (K : Nat) (P : pP) (cp : Nat → Nat), wI B K P.1 P.2 → iX P.1 P.2 → s < nS P.1 → P.2 (1 + s) = kept ++ rest → 1 ≤ u (P.1 0 1) → K + rest.length < 2 ^ 31 → ∃ cp', cW P (sDep s rest P) cp cp' (fun post MC MS A S => wb_X5_departFrom_13 post (rest.length + 1) MC MS (A 0 0) (A 1 s) (A 5 (18 + s)) (nI kept.length) (nI rest.length) S) := by
  intro rest
  induction rest with
  | nil =>
    intro kept K P cp hw hX hs hl hk hK
    refine ⟨cp, Nat.le_refl _, fun z => z, fun S A MC MS post h hC hS hp => ?_⟩
    unfold wb_X5_departFrom_13
    exact ⟨fun _ => hp S h (cF_rf A S), fun q => absurd (nI_le (Nat.le_refl 0) (by omega)) q⟩
  | cons c rest ih =>
    intro kept K P cp hw hX hs hl hk hK
    rw [List.length_cons] at hK ⊢
    have h14 := hw.1.1.2
    have h30 := hw.1.2.1.2
    have hcm : c ∈ P.2 (1 + s) := by rw [hl]; simp
    obtain ⟨-, -, -, hcn, -⟩ := w_at hw (s := s) (by omega) hcm
    have hlen := len_at hw (t := s) (by omega)
    have hln : (P.2 (1 + s)).length = kept.length + (rest.length + 1) := by rw [hl, List.length_append, List.length_cons]
    have lvs : lvC P.1 (18 + s) := Or.inr (Or.inr (Or.inl ⟨by omega, by omega⟩))
    obtain ⟨⟨a1, a1B⟩, -⟩ := hw.2.2.2.2.1
    have hk1 : ¬ P.1 0 1 = -1 := by
      rw [a1]
      exact nI_neN1 (by omega)
    unfold sDep
    by_cases hg : goD P s c
    · rw [if_pos hg]
      obtain ⟨h1, -⟩ := dep_ent (by omega) hw hs hcm hg
      obtain ⟨-, -, -, -, -, htT, -⟩ := tGo_lt hw hs hg.2.1
      generalize htt : tGo P s c = t at *
      have hlt := len_in hw (t := t) (by omega)
      have lvt : lvC P.1 (32 + t) := Or.inr (Or.inr (Or.inr ⟨by omega, by omega⟩))
      obtain ⟨cp', m1, m2, m3⟩ := ih kept (K + 1) (entM P.1 c t, entL P.1 P.2 c t) (up cp (32 + t) (cp1 (P.2 (15 + t)).length (cp (32 + t)))) h1 (iX_ent hX) (by unfold nS at *; show s < u (entM P.1 c t 0 2); rw [ent_r0 _ _ _ _ (by decide)]; exact hs) (entL_s hw (by omega) hl t) (by show 1 ≤ u (entM P.1 c t 0 1); rw [ent_r0 _ _ _ _ (by decide)]; exact hk) (by omega)
      have hle := potC_le (cp := cp) (i := 32 + t) (c' := cp1 (P.2 (15 + t)).length (cp (32 + t))) cp1_ge 62
      refine ⟨cp', Nat.le_trans m1 hle, fun z => m2 (fun i hi hn => ?_), fun S A MC MS post h hC hS hp => ?_⟩
      · have hn' : ¬ lvC P.1 i := hn
        rw [up_n (j := i) (i := 32 + t) (fun q => hn' (by rw [q]; exact lvt))]
        exact z i hi hn'
      · refine C_dep_head hB hw hX hk hs hl h (fun S' hR' hF' _ => ?_) (fun _ _ _ q => absurd hg q)
        rw [htt]
        obtain ⟨ea, hL⟩ := hR'.2
        obtain ⟨cap1, cap2, -⟩ := LSr_cap hL lvt
        have hBu := cpB_pot (cp := cp) (i := 32 + t) (n := (P.2 (15 + t)).length) (by omega) cap1 (by omega) cap2
        refine CF_remove hL lvs (k := kept.length) (a := A 3 c) ?_ (fun S2 ea2 i1 i2 => ?_)
        · rw [ls_l (by omega), hl, List.getElem?_map, List.getElem?_append_right (Nat.le_refl _), Nat.sub_self]
          rfl
        · rw [ls_l (by omega), hl, er_mid] at i1
          have hO2 := cO_l hR'.1 i2
          obtain ⟨q0, -, -, -, q4, -⟩ := hO2.1
          refine ⟨_, rfl, q0, (hO2.2.2.2.2.2.1 c hcn).1, cpB (P.2 (15 + t)).length (cp (32 + t)), cpB (P.2 (15 + t)).length (cp (32 + t)), by omega, by omega, ?_⟩
          rw [q4]
          refine C_enter hO2 i1 htT hcn lvt (l := P.2 (15 + t)) (by rw [up_n (by omega), ls_i]) (by omega) hk1 (Nat.le_refl _) (Nat.le_refl _) (fun S3 ea3 hO3 hL3 hF3 => ?_)
          show wb_X5_departFrom_13 post (rest.length + 1) _ _ (A 0 0) (A 1 s) (A 5 (18 + s)) (nI kept.length) (nI (rest.length + 1) + (-1)) S3
          rw [pk_m1]
          refine m3 S3 A _ _ post ⟨hO3, ea3, LSr_ls hL3 (fun i hi => lsC_ent hw (by omega) (by omega) hl (lvC_lt hw.1 hi))⟩ (by omega) (by omega) (fun S4 hR4 hF4 => hp S4 hR4 (cF_tr hF' (cF_tr (cF_l i2) (cF_tr hF3 hF4))))
    · rw [if_neg hg]
      obtain ⟨cp', m1, m2, m3⟩ := ih (kept ++ [c]) K P cp hw hX hs (by rw [hl]; simp) hk (by omega)
      refine ⟨cp', m1, m2, fun S A MC MS post h hC hS hp => ?_⟩
      refine C_dep_head hB hw hX hk hs hl h (fun _ _ _ q => absurd q hg) (fun S' hR' hF' _ => ?_)
      show wb_X5_departFrom_13 post (rest.length + 1) MC MS (A 0 0) (A 1 s) (A 5 (18 + s)) (nI kept.length + 1) (nI (rest.length + 1) + (-1)) S'
      rw [pk_m1, nI_1]
      have := m3 S' A MC MS post hR' hC hS (fun S4 hR4 hF4 => hp S4 hR4 (cF_tr hF' hF4))
      rw [List.length_append] at this
      exact this
theorem C_departFrom {B K s : Nat} {P : pP} {cp : Nat → Nat} (hB : B + 20 < 2 ^ 31) (hw : wI B K P.1 P.2) (hX : iX P.1 P.2) (hk : 1 ≤ u (P.1 0 1)) (hs : s < nS P.1) (hK : K + 40 < 2 ^ 31) : ∃ cp', cW P (sDep s (P.2 (1 + s)) P) cp cp' (fun post MC MS A S => wp_X5_departFrom post MC MS (A 0 0) (A 1 s) S) := by
  have h14 := hw.1.1.2
  have hl := len_at hw (t := s) (by omega)
  obtain ⟨cp', m1, m2, m3⟩ := C_dep_loop hB (P.2 (1 + s)) [] K P cp hw hX hs rfl hk (by omega)
  refine ⟨cp', m1, m2, fun S A MC MS post h hC hS hp => ?_⟩
  obtain ⟨s0, -, -, -, -, s4, -⟩ := h.1.2.2.2.1 s hs
  obtain ⟨e, hL⟩ := cl_at h (i := 18 + s) (Or.inr (Or.inr (Or.inl ⟨by omega, by omega⟩)))
  rw [ls_l (by omega)] at hL
  refine ⟨s0, _, s4, hL.1, C_size hL ⟨(P.2 (1 + s)).length + 1, ?_⟩⟩
  rw [List.length_map]
  exact m3 S A MC MS post h hC hS hp
theorem C_depN {B K : Nat} {P : pP} (hB : B + 20 < 2 ^ 31) (hK : K + 560 < 2 ^ 31) (hw : wI B K P.1 P.2) (hX : iX P.1 P.2) (hk1 : 1 ≤ u (P.1 0 1)) : ∀ (n k : Nat) (cp : Nat → Nat), k + n = nS P.1 → ∃ cp', cW (sDepN P k) (sDepN P (nS P.1)) cp cp' (fun post MC MS A S => wb_X5_departEverywhere_2 post (n + 1) MC MS (A 0 0) (nI k) S) := by
  have h14 := hw.1.1.2
  intro n
  induction n with
  | zero =>
    intro k cp hk
    have hk' : k = nS P.1 := by omega
    subst hk'
    obtain ⟨h1, h2⟩ := sDepN_inv hK hw (nS P.1) (Nat.le_refl _)
    have hn : nS (sDepN P (nS P.1)).1 = nS P.1 := by unfold nS; rw [h2 2 (by decide)]
    refine ⟨cp, Nat.le_refl _, fun z => z, fun S A MC MS post h hC hS hp => ?_⟩
    obtain ⟨p0, p1, -⟩ := h.1.1
    obtain ⟨n0, n2, -⟩ := h.1.2.1
    obtain ⟨e, hL⟩ := cl_at h (i := 0) (Or.inl (by decide))
    unfold wb_X5_departEverywhere_2
    refine ⟨p0, _, p1, n0, _, n2, hL.1, C_size hL ⟨fun _ => hp S h (cF_rf A S), fun q => ?_⟩⟩
    rw [ls_0, List.length_map, List.length_range, hn] at q
    exact absurd (nI_le (Nat.le_refl _) (by omega)) q
  | succ n ih =>
    intro k cp hk
    obtain ⟨h1, h2⟩ := sDepN_inv hK hw k (by omega)
    have hn : nS (sDepN P k).1 = nS P.1 := by unfold nS; rw [h2 2 (by decide)]
    obtain ⟨cp1, m1, m2, m3⟩ := C_departFrom (s := k) (cp := cp) hB h1 (sDepN_iX hX k) (by rw [h2 1 (by decide)]; exact hk1) (by rw [hn]; omega) (by omega)
    obtain ⟨cp', o1, o2, o3⟩ := ih (k + 1) cp1 (by omega)
    refine ⟨cp', Nat.le_trans o1 m1, fun z => o2 (m2 z), fun S A MC MS post h hC hS hp => ?_⟩
    obtain ⟨p0, p1, -⟩ := h.1.1
    obtain ⟨n0, n2, -⟩ := h.1.2.1
    obtain ⟨e, hL⟩ := cl_at h (i := 0) (Or.inl (by decide))
    unfold wb_X5_departEverywhere_2
    refine ⟨p0, _, p1, n0, _, n2, hL.1, C_size hL ⟨fun q => ?_, fun _ => ⟨p0, _, p1, n0, _, n2, hL.1, C_getSt h (s := k) (by rw [hn]; omega) ⟨_, rfl, (h.1.2.2.2.1 k (by rw [hn]; omega)).1, p0, potC cp 62 - potC cp1 62, potC cp 62 - potC cp1 62, by omega, by omega, m3 S A _ _ _ h (by omega) (by omega) (fun S' hR' hF' => ?_)⟩⟩⟩⟩
    · rw [ls_0, List.length_map, List.length_range, hn] at q
      exact absurd q (nI_ge (by omega) (by omega))
    · rw [nI_1]
      exact o3 S' A _ _ post hR' (by omega) (by omega) (fun S'' hR'' hF'' => hp S'' hR'' (cF_tr hF' hF''))
end CDEP
