/-! ===== the class's clock ===== -/
/-- what may still be made -/
def potA (M : Nat → Nat → Int32) (cp : Nat → Nat) : Nat := potC cp 62 + 9 * (500 - nC M) + 30 * (14 - nS M) + 14 * (30 - nT M) + 5 * (12 - nE M)
def cV (P P' : pP) (cp cp' : Nat → Nat) (wp : (bS → Prop) → Nat → Nat → (Nat → Nat → Nat) → bS → Prop) : Prop := potA P'.1 cp' ≤ potA P.1 cp ∧ (cZ P.1 cp → cZ P'.1 cp') ∧ ∀ (S : bS) (A : Nat → Nat → Nat) (MC MS : Nat) (post : bS → Prop), cR S A cp P → potA P.1 cp ≤ MC + potA P'.1 cp' → potA P.1 cp ≤ MS + potA P'.1 cp' → (∀ S' A', cR S' A' cp' P' → A' 0 = A 0 → A' 6 = A 6 → cF A S S' → post S') → wp post MC MS A S
theorem cW_cV {P P' : pP} {cp cp' : Nat → Nat} {w : (bS → Prop) → Nat → Nat → (Nat → Nat → Nat) → bS → Prop} (h : cW P P' cp cp' w) (h0 : ∀ j, j < 6 → P'.1 0 j = P.1 0 j) : cV P P' cp cp' w := by
  obtain ⟨h1, h2, h3⟩ := h
  have e : ∀ c, potA P'.1 c = potC c 62 + 9 * (500 - nC P.1) + 30 * (14 - nS P.1) + 14 * (30 - nT P.1) + 5 * (12 - nE P.1) := fun c => by
    unfold potA nC nS nT nE
    rw [h0 2 (by decide), h0 3 (by decide), h0 4 (by decide), h0 5 (by decide)]
  refine ⟨?_, h2, fun S A MC MS post hR hC hS hp => h3 S A MC MS post hR ?_ ?_ (fun S' hR' hF => hp S' A hR' rfl rfl hF)⟩
  · rw [e]
    unfold potA
    omega
  · rw [e] at hC
    unfold potA at hC
    omega
  · rw [e] at hS
    unfold potA at hS
    omega
theorem cV_rf {P : pP} {cp : Nat → Nat} {w : (bS → Prop) → Nat → Nat → (Nat → Nat → Nat) → bS → Prop} (h : ∀ (S : bS) (A : Nat → Nat → Nat) (MC MS : Nat) (post : bS → Prop), cR S A cp P → (∀ S', cR S' A cp P → cF A S S' → post S') → w post MC MS A S) : cV P P cp cp w := ⟨Nat.le_refl _, fun z => z, fun S A MC MS post hR _ _ hp => h S A MC MS post hR (fun S' hR' hF => hp S' A hR' rfl rfl hF)⟩
section CCLK
theorem C_isDueAt {S : bS} {A : Nat → Nat → Nat} {cp : Nat → Nat} {P : pP} {B K : Nat} (h : cR S A cp P) (hw : wI B K P.1 P.2) {e : Nat} (he : e < nE P.1) {post : Int32 → bS → Prop} (hp : post (if dueE P.1 e then 1 else 0) S) : wp_X1_isDueAt post (A 4 e) (P.1 0 1) S := by
  obtain ⟨k0, kv⟩ := h.1.2.2.2.2.2.2.1 e he
  obtain ⟨-, ⟨e1, l1⟩, -⟩ := hw.2.2.2.1 e he
  refine ⟨k0, ?_⟩
  rw [kv 0 (by decide), kv 1 (by decide)]
  unfold dueE at hp
  generalize P.1 0 1 = T at *
  generalize P.1 3 (5 * e + 0) = F at *
  generalize hpp : P.1 3 (5 * e + 1) = p at *
  refine ⟨fun h1 => ?_, fun h1 => ?_⟩
  · have hp0 : ¬ p = 0 := fun q => by rw [q] at h1; exact absurd h1 (by decide)
    refine ⟨fun hlt => ?_, fun hge => ⟨hp0, fun hr => ?_, fun hr => ?_⟩⟩
    · rw [if_neg (fun q => by
        rcases q with q | q
        · rw [q] at hlt
          exact Int32.lt_irrefl hlt
        · exact q.2.1 hlt)] at hp
      exact ⟨Or.inl rfl, hp⟩
    · rw [if_neg (fun q => by
        rcases q with q | q
        · rw [q, Int32.sub_self, Int32.zero_div, Int32.zero_mul, Int32.sub_self] at hr
          exact hr rfl
        · exact hr q.2.2)] at hp
      exact ⟨Or.inl rfl, hp⟩
    · rw [if_pos (Or.inr ⟨hp0, hge, hr⟩)] at hp
      exact ⟨Or.inr rfl, hp⟩
  · have hp0 : p = 0 := by
      rw [e1]
      rw [e1] at h1
      have : ¬ 1 ≤ u p := fun q => h1 (nI_le (a := 1) q (by omega))
      rw [show u p = 0 by omega]
      rfl
    refine ⟨fun hne => ?_, fun heq => ?_⟩
    · rw [if_neg (fun q => by
        rcases q with q | q
        · exact hne q
        · exact q.1 hp0)] at hp
      exact ⟨Or.inl rfl, hp⟩
    · rw [if_pos (Or.inl heq)] at hp
      exact ⟨Or.inr rfl, hp⟩
theorem potA_snd {B K : Nat} {P : pP} {cp : Nat → Nat} (hw : wI B K P.1 P.2) {s : Nat} (h500 : nC P.1 < 500) (aim rank : Int32) : ∀ c, potA (sndM P.1 s aim rank) c = potC c 62 + 9 * (499 - nC P.1) + 30 * (14 - nS P.1) + 14 * (30 - nT P.1) + 5 * (12 - nE P.1) := by
  intro c
  unfold potA
  rw [snd_C hw.1 h500]
  unfold nS nT nE
  rw [snd_r0 _ _ _ _ 2 (by decide), snd_r0 _ _ _ _ 3 (by decide), snd_r0 _ _ _ _ 4 (by decide)]
  rw [show 500 - (nC P.1 + 1) = 499 - nC P.1 by omega]
/-- a dispatch, its budget told -/
theorem V_dispatch {B K : Nat} {P : pP} {cp : Nat → Nat} (hw : wI B K P.1 P.2) {s a : Nat} {rank : Int32} (hs : s < nS P.1) (ha : a < nS P.1) (h500 : nC P.1 < 500) : ∃ cp', cV P (sndM P.1 s (nI a) rank, sndL P.1 P.2 s (nI a) rank) cp cp' (fun post MC MS A S => wp_X5_dispatch post MC MS (A 0 0) (A 1 s) (A 1 a) rank S) := by
  have h14 := hw.1.1.2
  have hlen := len_at hw (t := s) (by omega)
  have hpS := potA_snd (cp := cp) hw (s := s) h500 (nI a) rank
  have lv3 : lvC P.1 3 := Or.inl (by decide)
  have lvs : lvC P.1 (18 + s) := Or.inr (Or.inr (Or.inl ⟨by omega, by omega⟩))
  have q1 := potC_le (cp := cp) (i := 3) (c' := cp1 (nC P.1) (cp 3)) cp1_ge 62
  have e18 : up cp 3 (cp1 (nC P.1) (cp 3)) (18 + s) = cp (18 + s) := up_n (by omega)
  have q2 := potC_le (cp := up cp 3 (cp1 (nC P.1) (cp 3))) (i := 18 + s) (c' := cp1 (P.2 (1 + s)).length (cp (18 + s))) (by rw [e18]; exact cp1_ge) 62
  refine ⟨up (up cp 3 (cp1 (nC P.1) (cp 3))) (18 + s) (cp1 (P.2 (1 + s)).length (cp (18 + s))), ?_, fun z i hi hn => ?_, fun S A MC MS post h hC hS hp => ?_⟩
  · show potA (sndM P.1 s (nI a) rank) _ ≤ _
    rw [hpS]
    unfold potA
    omega
  · have hn' : ¬ lvC P.1 i := hn
    rw [up_n (j := i) (i := 18 + s) (fun q => hn' (by rw [q]; exact lvs)), up_n (j := i) (i := 3) (fun q => hn' (by rw [q]; exact lv3))]
    exact z i hi hn'
  · obtain ⟨ea, hL⟩ := h.2
    obtain ⟨c1, c2, -⟩ := LSr_cap hL lv3
    obtain ⟨d1, d2, -⟩ := LSr_cap hL lvs
    have b1 := cpB_pot (cp := cp) (i := 3) (n := nC P.1) (by decide) c1 (by omega) c2
    have b2 := cpB_pot (cp := up cp 3 (cp1 (nC P.1) (cp 3))) (i := 18 + s) (n := (P.2 (1 + s)).length) (by omega) (by rw [e18]; exact d1) (by omega) (by rw [e18]; exact d2)
    rw [e18] at b2
    have hC : _ ≤ MC + potA (sndM P.1 s (nI a) rank) _ := hC
    have hS : _ ≤ MS + potA (sndM P.1 s (nI a) rank) _ := hS
    rw [hpS] at hC hS
    unfold potA at hC hS
    exact C_dispatch h hw hs ha h500 (by omega) (by omega) hp
theorem C_deed {B K e : Nat} {P : pP} {cp : Nat → Nat} (hw : wI B K P.1 P.2) (he : e < nE P.1) : ∃ cp', cV P (sDeed P e) cp cp' (fun post MC MS A S => wp_X5_carryOut post MC MS (A 0 0) (A 4 e) S) := by
  have h14 := hw.1.1.2
  have h30 := hw.1.2.1.2
  obtain ⟨-, -, e3, e4⟩ := hw.2.2.2.1 e he
  unfold sDeed
  rcases e4 with ⟨q, q1, q2⟩ | ⟨q, q1, q2⟩ | ⟨q, q1, q2, q3⟩
  · rw [if_pos q]
    refine ⟨cp, Nat.le_refl _, fun z => z, fun S A MC MS post h hC hS hp => ?_⟩
    obtain ⟨p0, p1, -⟩ := h.1.1
    obtain ⟨n0, n1, -⟩ := h.1.2.1
    obtain ⟨k0, kv⟩ := h.1.2.2.2.2.2.2.1 e he
    obtain ⟨e0, hL⟩ := cl_at h (i := 0) (Or.inl (by decide))
    generalize hwt : u (P.1 3 (5 * e + 3)) = wt at *
    refine ⟨k0, ?_⟩
    rw [kv 2 (by decide), q]
    refine ⟨fun _ => ⟨k0, ?_⟩, fun x => absurd x (by decide)⟩
    rw [kv 2 (by decide), q]
    refine ⟨fun x => absurd rfl x, fun _ => ⟨p0, _, p1, n0, ?_⟩⟩
    rw [kv 3 (by decide), e3]
    refine C_hasSt h hw ?_
    rw [ixO_nI (by omega) q1]
    refine ⟨fun x => absurd (show (1 : Int32) = 0 from x) (by decide), fun _ => ⟨p0, _, p1, n0, _, n1, k0, hL.1, ?_⟩⟩
    rw [kv 3 (by decide), e3]
    refine C_getSt h q1 ⟨_, rfl, (h.1.2.2.2.1 wt q1).1, k0, ?_⟩
    rw [kv 4 (by decide)]
    exact hp _ A (cR_sw h hw q1) rfl rfl (cF_5 _ _ _)
  · rw [if_neg (by rw [q]; decide), if_pos q]
    refine ⟨cp, Nat.le_refl _, fun z => z, fun S A MC MS post h hC hS hp => ?_⟩
    obtain ⟨p0, p1, -⟩ := h.1.1
    obtain ⟨n0, -, n1, -⟩ := h.1.2.1
    obtain ⟨k0, kv⟩ := h.1.2.2.2.2.2.2.1 e he
    obtain ⟨e0, hL⟩ := cl_at h (i := 1) (Or.inl (by decide))
    generalize hwt : u (P.1 3 (5 * e + 3)) = wt at *
    obtain ⟨t0, -, -, -, -, -, -, t7, -⟩ := h.1.2.2.2.2.1 wt q1
    obtain ⟨-, -, -, -, x5, -⟩ := hw.2.1 wt q1
    refine ⟨k0, ?_⟩
    rw [kv 2 (by decide), q]
    refine ⟨fun x => absurd rfl x, fun _ => ⟨p0, _, p1, n0, ?_⟩⟩
    rw [kv 3 (by decide), e3]
    refine C_hasTu h hw ?_
    rw [ixO_nI (by omega) q1]
    refine ⟨fun x => absurd (show (1 : Int32) = 0 from x) (by decide), fun _ => ⟨p0, _, p1, n0, _, n1, k0, hL.1, ?_⟩⟩
    rw [kv 3 (by decide), e3]
    refine C_getTu h q1 ⟨_, rfl, t0, p0, _, p1, k0, ?_⟩
    rw [kv 4 (by decide), t7, x5.1]
    have fin : ∀ op : Int32, op = P.1 3 (5 * e + 4) → wb_X5_carryOut_62 post MC MS op (nI (tSp P.1 wt)) (A 2 wt) (A 0 1) S := by
      intro op hop
      refine ⟨n0, C_set h hw q1 x5.2.1 x5.2.2 (by rw [hop]; exact q2) (fun S' hR' hF' => hp S' A ?_ rfl rfl hF')⟩
      rw [← x5.1, mU_id, hop] at hR'
      exact hR'
    refine ⟨fun hne => fin 0 ?_, fun heq => fin 1 heq.symm⟩
    rcases q2 with x | x
    · exact x.symm
    · exact absurd x hne
  · rw [if_neg (by rw [q]; decide), if_neg (by rw [q]; decide)]
    generalize hwt : u (P.1 3 (5 * e + 3)) = wt at *
    generalize hat : u (P.1 3 (5 * e + 4)) = am at *
    have same : P.1 3 (5 * e + 3) = P.1 3 (5 * e + 4) ↔ wt = am := by
      rw [e3, q2]
      exact nI_eq (by omega) (by omega)
    have head : ∀ {S : bS} {A : Nat → Nat → Nat} {MC MS : Nat} {post : bS → Prop}, cR S A cp P → (∃ k89 n90, k89 ≤ MC ∧ n90 ≤ MS ∧ (wp_X5_sendByClock (fun S88 => wb_X5_carryOut_190 post (MC - k89) (MS - n90) S88) k89 n90 (A 0 0) (A 1 wt) (A 1 am) S)) → wp_X5_carryOut post MC MS (A 0 0) (A 4 e) S := by
      intro S A MC MS post h hh
      obtain ⟨p0, p1, -⟩ := h.1.1
      obtain ⟨n0, n1, -⟩ := h.1.2.1
      obtain ⟨k0, kv⟩ := h.1.2.2.2.2.2.2.1 e he
      obtain ⟨e0, hL⟩ := cl_at h (i := 0) (Or.inl (by decide))
      refine ⟨k0, ?_⟩
      rw [kv 2 (by decide), q]
      refine ⟨fun _ => ⟨k0, ?_⟩, fun x => absurd x (by decide)⟩
      rw [kv 2 (by decide), q]
      refine ⟨fun _ => ⟨k0, ?_⟩, fun x => absurd x (by decide)⟩
      rw [kv 2 (by decide), q]
      refine ⟨fun x => absurd rfl x, fun _ => ⟨p0, _, p1, n0, ?_⟩⟩
      rw [kv 3 (by decide), e3]
      refine C_hasSt h hw ?_
      rw [ixO_nI (by omega) q1]
      refine ⟨fun x => absurd (show (1 : Int32) = 0 from x) (by decide), fun _ => ⟨p0, _, p1, k0, n0, ?_⟩⟩
      rw [kv 4 (by decide), q2]
      refine C_hasSt h hw ?_
      rw [ixO_nI (by omega) q3]
      refine ⟨fun x => absurd (show (1 : Int32) = 0 from x) (by decide), fun _ => ⟨p0, _, p1, n0, _, n1, k0, hL.1, ?_⟩⟩
      rw [kv 3 (by decide), e3]
      refine C_getSt h q1 ⟨_, rfl, (h.1.2.2.2.1 wt q1).1, p0, _, p1, n0, _, n1, k0, hL.1, ?_⟩
      rw [kv 4 (by decide), q2]
      exact C_getSt h q3 ⟨_, rfl, (h.1.2.2.2.1 am q3).1, p0, hh⟩
    by_cases hsm : wt = am
    · rw [if_pos (same.mpr hsm)]
      refine ⟨cp, cV_rf (fun S A MC MS post h hp => head h ⟨0, 0, Nat.zero_le _, Nat.zero_le _, fun _ => hp S h (cF_rf A S), fun x => absurd (by rw [hsm]) x⟩)⟩
    · rw [if_neg (fun x => hsm (same.mp x))]
      have hne : ∀ {S : bS} {A : Nat → Nat → Nat}, cR S A cp P → ¬ (some (A 1 wt) = some (A 1 am)) := fun h x => hsm (h.1.2.2.2.2.2.2.2.1.1 _ _ q1 q3 (by injection x))
      by_cases hc : canS P.1 (P.2 (1 + wt)).length wt
      · rw [if_pos hc, q2]
        obtain ⟨c1, c2, c3⟩ := canS_spec hw q1 hc
        obtain ⟨cp', m1, m2, m3⟩ := V_dispatch (cp := cp) hw (rank := 1) q1 q3 c3
        refine ⟨cp', m1, m2, fun S A MC MS post h hC hS hp => head h ⟨MC, MS, Nat.le_refl _, Nat.le_refl _, fun x => absurd x (hne h), fun _ => ⟨h.1.1.1, C_canTake h hw q1 ?_⟩⟩⟩
        rw [if_pos hc]
        exact ⟨fun x => absurd x (by decide), fun _ => ⟨h.1.1.1, MC, MS, Nat.le_refl _, Nat.le_refl _, m3 S A MC MS _ h hC hS (fun S' A' hR' a0 a6 hF' => hp S' A' hR' a0 a6 hF')⟩⟩
      · rw [if_neg hc]
        refine ⟨cp, cV_rf (fun S A MC MS post h hp => head h ⟨0, 0, Nat.zero_le _, Nat.zero_le _, fun x => absurd x (hne h), fun _ => ⟨h.1.1.1, C_canTake h hw q1 ?_⟩⟩)⟩
        rw [if_neg hc]
        exact ⟨fun _ => hp S h (cF_rf A S), fun x => absurd rfl x⟩
end CCLK
