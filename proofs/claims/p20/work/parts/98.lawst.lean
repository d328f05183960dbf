/-! ===== the law's start ===== -/
theorem potC0 : ∀ n, potC (fun _ => 0) n = 3000 * n
  | 0 => rfl
  | n + 1 => by
    show potC (fun _ => 0) n + 4 * (750 - 0) = _
    rw [potC0 n]
    omega
theorem potA0 : potA M0 (fun _ => 0) = 191400 := by
  unfold potA
  rw [potC0, nS0, nT0, nE0, nC0]
/-- rows of times that are none's may be called as one likes -/
theorem cR_A6 {S : bS} {A A' : Nat → Nat → Nat} {cp : Nat → Nat} {P : pP} (e : ∀ i, i ≠ 6 → A' i = A i) (e6 : ∀ k, k < nS P.1 → A' 6 k = A 6 k) (h : cR S A cp P) : cR S A' cp P := by
  have e0 := e 0 (by decide)
  have e1 := e 1 (by decide)
  have e2 := e 2 (by decide)
  have e3 := e 3 (by decide)
  have e4 := e 4 (by decide)
  have e5 := e 5 (by decide)
  obtain ⟨⟨hP, hNt, ⟨hA1, hA2⟩, hSt, hTb, hCa, hEn, hIn, hTm⟩, ea, hL⟩ := h
  refine ⟨⟨?_, ?_, ⟨fun k hk => ?_, fun j k hj hk z => ?_⟩, ?_, ?_, ?_, ?_, ?_, fun k hk => ?_⟩, ea, ?_⟩
  · unfold oP at *
    rw [e0, e5]
    exact hP
  · unfold oNt at *
    rw [e0, e5]
    exact hNt
  · rw [e1, e6 k hk]
    exact hA1 k hk
  · rw [e6 j hj, e6 k hk] at z
    exact hA2 j k hj hk z
  · unfold oSt at *
    rw [e1, e5]
    exact hSt
  · unfold oTb at *
    rw [e1, e2, e5]
    exact hTb
  · unfold oCa at *
    rw [e1, e3]
    exact hCa
  · unfold oEn at *
    rw [e4]
    exact hEn
  · unfold oIn at *
    rw [e1, e2, e3]
    exact hIn
  · rw [e1, e6 k hk]
    exact hTm k hk
  · unfold lsC at *
    rw [e5, e1, e2, e3, e4]
    exact hL
set_option maxHeartbeats 1000000 in
theorem C_simInit {S : bS} {q : Nat} (hq : gK S q = 0) {MC MS : Nat} (hMC : 7 ≤ MC) {post : bS → Prop} (hp : ∀ X, sEx S X → sI X q 0 0 (fun _ => 0) → post X) : wp_X7_init post MC MS q (sNew S q 8 0) := by
  have t0 : Int32.toNatClampNeg (0 : Int32) = 0 := by decide
  have rE : ∀ (X : bS) (b κ κr : Nat) (f : Nat → Nat → Prop), rO (sNew X b κ 0) b κ κr 0 f := fun X b κ κr f => ⟨if_pos rfl, if_pos rfl, fun i hi => absurd hi (by omega)⟩
  unfold wp_X7_init
  rw [t0]
  have E0 : sEx S (sNew S q 8 0) := sEx_new hq (sEx_rf S)
  have k0 : gK (sNew S q 8 0) q = 8 := if_pos rfl
  generalize hY0 : sNew S q 8 0 = Y0 at *
  have step : ∀ {X : bS} (κ j b : Nat), gK X b = 0 → κ ≠ 14 → gK X q = 8 → sEx S X → sEx S (sQ (sNew X b κ 0) 8 q j (some b)) ∧ gK (sQ (sNew X b κ 0) 8 q j (some b)) q = 8 := fun {X} κ j b hb hκ kq hx => by
    have hx2 := sEx_tr hx (sEx_new (n := 0) hb (sEx_rf _) hκ)
    refine ⟨sEx_Q hq hx2, ?_⟩
    show gK (sNew X b κ 0) q = 8
    exact kx (sEx_new (n := 0) hb (sEx_rf _) hκ) kq (by decide)
  have keep : ∀ {X : bS} (κ j b i : Nat) {v : Option Nat}, gK X b = 0 → κ ≠ 14 → gK X q = 8 → i ≠ j → gQ X 8 q i = v → gQ (sQ (sNew X b κ 0) 8 q j (some b)) 8 q i = v := fun κ j b i v hb hκ kq hij hv => q8n (qx (sEx_new (n := 0) hb (sEx_rf _) hκ) kq hv) hij
  have keepR : ∀ {X : bS} {c κ' κr' : Nat} {f : Nat → Nat → Prop} (κ j b : Nat), gK X b = 0 → κ ≠ 14 → κ' ≠ 0 → κr' ≠ 0 → κ' ≠ 8 → rO X c κ' κr' 0 f → rO (sQ (sNew X b κ 0) 8 q j (some b)) c κ' κr' 0 f := fun κ j b hb hκ h1 h2 h3 hr => rO_Q8 (rO_ex hr h1 h2 (sEx_new (n := 0) hb (sEx_rf _) hκ)) h3
  refine ⟨by decide, by decide, by omega, by omega, fun q1 h1 => ⟨kx (sEx_new (n := 0) h1 (sEx_rf _)) k0 (by decide), by decide, by decide, by omega, by omega, fun q2 h2 => ?_⟩⟩
  obtain ⟨F1, k1⟩ := step 12 1 q1 h1 (by decide) k0 E0
  have a1 : gQ (sQ (sNew Y0 q1 12 0) 8 q 1 (some q1)) 8 q 1 = some q1 := q8s
  have r1 : rO (sQ (sNew Y0 q1 12 0) 8 q 1 (some q1)) q1 12 9 0 rT := rO_Q8 (rE _ _ _ _ _) (by decide)
  generalize hY1 : sQ (sNew Y0 q1 12 0) 8 q 1 (some q1) = Y1 at *
  refine ⟨by decide, by decide, by omega, by omega, fun q3 h3 => ?_⟩
  obtain ⟨F2, k2⟩ := step 12 2 q2 h2 (by decide) k1 F1
  have b1 := keep 12 2 q2 1 h2 (by decide) k1 (by decide) a1
  have b2 : gQ (sQ (sNew Y1 q2 12 0) 8 q 2 (some q2)) 8 q 2 = some q2 := q8s
  have s1 := keepR 12 2 q2 h2 (by decide) (by decide) (by decide) (by decide) r1
  have s2 : rO (sQ (sNew Y1 q2 12 0) 8 q 2 (some q2)) q2 12 9 0 rT := rO_Q8 (rE _ _ _ _ _) (by decide)
  generalize hY2 : sQ (sNew Y1 q2 12 0) 8 q 2 (some q2) = Y2 at *
  refine ⟨by decide, by decide, by omega, by omega, fun q4 h4 => ?_⟩
  obtain ⟨F3, k3⟩ := step 12 3 q3 h3 (by decide) k2 F2
  have c1 := keep 12 3 q3 1 h3 (by decide) k2 (by decide) b1
  have c2 := keep 12 3 q3 2 h3 (by decide) k2 (by decide) b2
  have u1 := keepR 12 3 q3 h3 (by decide) (by decide) (by decide) (by decide) s1
  have u2 := keepR 12 3 q3 h3 (by decide) (by decide) (by decide) (by decide) s2
  generalize hY3 : sQ (sNew Y2 q3 12 0) 8 q 3 (some q3) = Y3 at *
  refine ⟨by decide, by decide, by omega, by omega, fun q5 h5 => ?_⟩
  obtain ⟨F4, k4⟩ := step 15 4 q4 h4 (by decide) k3 F3
  have d1 := keep 15 4 q4 1 h4 (by decide) k3 (by decide) c1
  have d2 := keep 15 4 q4 2 h4 (by decide) k3 (by decide) c2
  have v1 := keepR 15 4 q4 h4 (by decide) (by decide) (by decide) (by decide) u1
  have v2 := keepR 15 4 q4 h4 (by decide) (by decide) (by decide) (by decide) u2
  generalize hY4 : sQ (sNew Y3 q4 15 0) 8 q 4 (some q4) = Y4 at *
  refine ⟨by decide, by decide, by omega, by omega, fun q6 h6 => ?_⟩
  obtain ⟨F5, k5⟩ := step 16 5 q5 h5 (by decide) k4 F4
  have e1 := keep 16 5 q5 1 h5 (by decide) k4 (by decide) d1
  have e2 := keep 16 5 q5 2 h5 (by decide) k4 (by decide) d2
  have e5 : gQ (sQ (sNew Y4 q5 16 0) 8 q 5 (some q5)) 8 q 5 = some q5 := q8s
  have w1 := keepR 16 5 q5 h5 (by decide) (by decide) (by decide) (by decide) v1
  have w2 := keepR 16 5 q5 h5 (by decide) (by decide) (by decide) (by decide) v2
  have w5 : rO (sQ (sNew Y4 q5 16 0) 8 q 5 (some q5)) q5 16 15 0 rT := rO_Q8 (rE _ _ _ _ _) (by decide)
  generalize hY5 : sQ (sNew Y4 q5 16 0) 8 q 5 (some q5) = Y5 at *
  refine ⟨by decide, by decide, by omega, by omega, fun q7 h7 => ?_⟩
  obtain ⟨F6, k6⟩ := step 16 6 q6 h6 (by decide) k5 F5
  have f1 := keep 16 6 q6 1 h6 (by decide) k5 (by decide) e1
  have f2 := keep 16 6 q6 2 h6 (by decide) k5 (by decide) e2
  have f5 := keep 16 6 q6 5 h6 (by decide) k5 (by decide) e5
  have f6 : gQ (sQ (sNew Y5 q6 16 0) 8 q 6 (some q6)) 8 q 6 = some q6 := q8s
  have x1 := keepR 16 6 q6 h6 (by decide) (by decide) (by decide) (by decide) w1
  have x2 := keepR 16 6 q6 h6 (by decide) (by decide) (by decide) (by decide) w2
  have x5 := keepR 16 6 q6 h6 (by decide) (by decide) (by decide) (by decide) w5
  have x6 : rO (sQ (sNew Y5 q6 16 0) 8 q 6 (some q6)) q6 16 15 0 rT := rO_Q8 (rE _ _ _ _ _) (by decide)
  generalize hY6 : sQ (sNew Y5 q6 16 0) 8 q 6 (some q6) = Y6 at *
  obtain ⟨F7, k7⟩ := step 12 7 q7 h7 (by decide) k6 F6
  exact hp _ F7 ⟨k7, ⟨q1, keep 12 7 q7 1 h7 (by decide) k6 (by decide) f1, keepR 12 7 q7 h7 (by decide) (by decide) (by decide) (by decide) x1⟩, ⟨q2, keep 12 7 q7 2 h7 (by decide) k6 (by decide) f2, keepR 12 7 q7 h7 (by decide) (by decide) (by decide) (by decide) x2⟩, ⟨q5, keep 12 7 q7 5 h7 (by decide) k6 (by decide) f5, keepR 12 7 q7 h7 (by decide) (by decide) (by decide) (by decide) x5⟩, ⟨q6, keep 12 7 q7 6 h7 (by decide) k6 (by decide) f6, keepR 12 7 q7 h7 (by decide) (by decide) (by decide) (by decide) x6⟩, q7, q8s, rO_Q8 (rE _ _ _ _ _) (by decide)⟩
set_option maxRecDepth 4000 in
theorem law_start {xs : Nat → Int32} {Ln : Nat} (hLn : Ln ≤ 260) {S : bS} {z : Nat} (hz : gK S z = 14) (hzn : gN S z = 0) (h14 : ∀ a, gK S a = 14 → a = z) (p1 : Nat) : wp_L_law xs Ln (fun v _ => v = 1) 600086 7301442 p1 S := by
  unfold wp_L_law
  refine ⟨by omega, by omega, fun q1 h1 => ⟨23, 270, by omega, by omega, ?_⟩⟩
  have E1 : sEx S (sNew S q1 7 0) := sEx_new h1 (sEx_rf S)
  have zk := E1.1 z (by rw [hz]; decide)
  refine C_init (z := z) (by rw [gK_sNew, if_pos rfl]) (zk.1.trans hz) (zk.2.1.trans hzn) (fun a ha => h14 a (E1.2 a ha)) (Nat.le_refl _) (Nat.le_refl _) (fun Y A hR hA hA6 hp7 hzY hnY hY14 => ?_)
  refine ⟨200000, 200000, by omega, by omega, ?_⟩
  unfold wp_L_build
  refine ⟨by omega, by omega, fun q hq => ⟨7, 0, by omega, by omega, C_simInit hq (Nat.le_refl _) (fun X hX sX => D_cell (by omega) (k := 0) rfl (by decide) (fun v => D_below (m := 6) (by decide) (by decide) (by decide) (fun j hj => ⟨2 + j + 1, ?_⟩)))⟩⟩
  rw [show (2 : Int32) + nI j = nI (2 + j) from nI_add 2 j]
  have hP : potA (M0, L0).1 (fun _ => 0) = 191400 := potA0
  refine K_bStat (xs := xs) (LL := Ln) (X0 := 191400) (by omega) (by omega) (by omega) (fun S9 A9 cp9 P9 hI hn hT hpot => ⟨fun z => (by cases z), fun b12 e12 => ?_⟩) (2 + j) 0 X A (fun _ => 0) (M0, L0) _ _ (by omega) ⟨cR_ex hR hX, fun i _ _ => rfl, z_ex ⟨z, hzY, hnY⟩ hX, wI_start, rfl, bI_0, ?_, hA⟩ nS0 nT0 (by rw [hP]; exact Nat.le_refl _) (by rw [hP]; omega) (by rw [hP]; omega)
  · rw [show nS (M0, L0).1 = 0 from nS0, show nT (M0, L0).1 = 0 from nT0]
    exact sI_ext sX (fun i hi => absurd hi (by omega))
  · cases e12
    obtain ⟨h, hcz, hzz, hw, hP2, hb, ⟨k8, ⟨b14, x14, y14⟩, ⟨b17, x17, y17⟩, -⟩, ha0⟩ := hI
    have tn : Int32.toNatClampNeg (Int32.ofNat (nS P9.1)) = nS P9.1 := u_nI (n := nS P9.1) (by omega)
    refine ⟨k8, b14, x14, y14.1, b17, x17, y17.1, ?_⟩
    rw [y14.2.1, y17.2.1, tn]
    have hsq : nS P9.1 * nS P9.1 ≤ 7 * 7 := Nat.mul_le_mul (by omega) (by omega)
    refine ⟨nI_pos (n := nS P9.1) (by omega), nI_pos (n := nS P9.1) (by omega), by omega, by omega, by omega, by generalize nS P9.1 * nS P9.1 = w at hsq ⊢; omega, fun q20 r21 h20 hr21 hinj => ⟨nS P9.1 + 1, ?_⟩⟩
    have hx := sEx_M (κo := 12) (κi := 9) (K := nS P9.1) (by decide) (by decide) h20 hr21 hinj
    have hM : lM (sMn 12 9 S9 q20 r21 (nS P9.1) (nS P9.1)) P9 q20 r21 0 0 := by
      refine ⟨sMn_out.1, sMn_out.2.1, fun s hs => ?_⟩
      obtain ⟨z1, z2, -⟩ := sMn_row (κo := 12) (κi := 9) (S := S9) (K := nS P9.1) (fun i hi => (hr21 i hi).2) hinj hs
      exact ⟨by rw [sMn_out.2.2 s, if_pos hs], z1, z2, fun a _ hij => absurd hij (by omega)⟩
    have hR9 : cR S9 (fun i k => if i = 6 ∧ nS P9.1 ≤ k then A9 0 0 else A9 i k) cp9 P9 := cR_A6 (fun i hi => funext (fun k => if_neg (fun z => hi z.1))) (fun k hk => if_neg (fun z => by omega)) h
    have hA9 : ∀ k, gK S9 ((fun i k => if i = 6 ∧ nS P9.1 ≤ k then A9 0 0 else A9 i k) 6 k) ≠ 0 := fun k => by
      by_cases z : nS P9.1 ≤ k
      · show gK S9 (if 6 = 6 ∧ nS P9.1 ≤ k then A9 0 0 else A9 6 k) ≠ 0
        rw [if_pos ⟨rfl, z⟩, h.1.1.1]
        decide
      · show gK S9 (if 6 = 6 ∧ nS P9.1 ≤ k then A9 0 0 else A9 6 k) ≠ 0
        rw [if_neg (fun y => z y.2), (h.1.2.2.1.1 k (by omega)).2.1]
        decide
    have a00 : (fun i k => if i = 6 ∧ nS P9.1 ≤ k then A9 0 0 else A9 i k) 0 0 = q1 := (if_neg (fun z => absurd z.1 (by decide))).trans ha0
    generalize (fun i k => if i = 6 ∧ nS P9.1 ≤ k then A9 0 0 else A9 i k) = A' at *
    have hj : jI P9.1 P9.2 (fun _ => 0) := by
      rw [hP2]
      exact bI_jI hb
    have hXX : iX P9.1 P9.2 := by
      rw [hP2]
      exact bI_X _
    obtain ⟨-, -, -, b1, bC, b6, -, -⟩ := hb
    have := K_froms (A := A') (cp := cp9) (P := P9) (post := fun v _ => v = 1) (xs := xs) (LL := Ln) (mc := 600086 - 1 - 23 - 200000 - (1 + nS P9.1)) (ms := 7301442 - 6 - 270 - 200000 - (nS P9.1 + nS P9.1 * nS P9.1)) (by omega) (fun _ => rfl) hw hXX hj b1 bC b6 (by omega) (by omega) hT (v5 := q20) (bL := r21) (fun s k hs e => hA9 k (by rw [← e]; exact (hr21 s hs).1)) (fun s s' hs hs' => hinj s s' hs hs') (by omega) (by generalize nS P9.1 * nS P9.1 = w at hsq ⊢; omega) (nS P9.1) 0 (sMn 12 9 S9 q20 r21 (nS P9.1) (nS P9.1)) (by omega) (cR_ex hR9 hx) hM (fun k => by rw [(hx.1 _ (hA9 k)).1]; exact hA9 k)
    rw [a00] at this
    exact this
