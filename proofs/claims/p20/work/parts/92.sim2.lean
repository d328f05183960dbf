/-! ===== the law's copy grows ===== -/
theorem C_cpy5 {S0 : bS} {q b q35 n : Nat} {mc ms : Nat} (hq8 : gK S0 q = 8) (hb : gQ S0 8 q 5 = some b) (h : rO S0 b 16 15 n rT) (hf : gK S0 q35 = 0) (hn : n ≤ 100) (hmc : 1 ≤ mc) {post : bS → Prop} (hp : ∀ X, sEx S0 X → rO X q35 16 15 (n + 1) rT → post (sQ X 8 q 5 (some q35))) : ∀ (m i : Nat) (X : bS), i + m = n → sEx S0 X → gK X q35 = 16 → gN X q35 = n + 1 → (∀ j, j < i → gQ X 16 q35 j = gQ S0 16 b j) → wb_X7_addStation_56 post (m + 1) mc ms q q35 (nI i) X := by
  have ofn : (Int32.ofNat n : Int32) = nI n := rfl
  obtain ⟨h1, hN, h3⟩ := h
  have tcn : Int32.toNatClampNeg (nI n) = n := u_nI (by omega)
  intro m
  induction m with
  | zero =>
    intro i X hi hx kq nq hc
    obtain ⟨w1, -, -, w4, -⟩ := hx.1 q (by rw [hq8]; decide)
    obtain ⟨x1, x2, -, x4, -⟩ := hx.1 b (by rw [h1]; decide)
    unfold wb_X7_addStation_56
    refine ⟨w1.trans hq8, b, (w4 8 5).trans hb, x1.trans h1, fun _ => ⟨b, (w4 8 5).trans hb, x1.trans h1, by decide, by decide, hmc, Nat.zero_le _, fun q4 hq4 => ?_⟩, fun z => absurd (by rw [x2, hN, ofn]; exact nI_le (by omega) (by omega)) z⟩
    have ne : q35 ≠ q4 := fun z => by rw [z, hq4] at kq; cases kq
    rw [x2, hN, ofn, tcn]
    have hx2 : sEx S0 (sNew X q4 15 (Int32.toNatClampNeg (0 : Int32))) := sEx_tr hx (sEx_new hq4 (sEx_rf X))
    have k2 : gK (sNew X q4 15 (Int32.toNatClampNeg (0 : Int32))) q35 = 16 := (if_neg ne).trans kq
    have n2 : gN (sNew X q4 15 (Int32.toNatClampNeg (0 : Int32))) q35 = n + 1 := (if_neg ne).trans nq
    refine ⟨k2, by rw [n2]; exact vp_in_nI (by omega) (by omega), hp _ (sEx_Q hf hx2) ⟨k2, n2, fun j hj => ?_⟩⟩
    by_cases q2 : j = n
    · exact ⟨q4, by rw [gQ_sQ, if_pos ⟨rfl, rfl, q2⟩], if_pos rfl, trivial⟩
    · obtain ⟨c, c1, c2, c3⟩ := h3 j (by omega)
      obtain ⟨z1, -⟩ := hx2.1 c (by rw [c2]; decide)
      refine ⟨c, ?_, z1.trans c2, trivial⟩
      rw [gQ_sQ, if_neg (fun z => q2 z.2.2)]
      have : gQ (sNew X q4 15 (Int32.toNatClampNeg (0 : Int32))) 16 q35 j = gQ X 16 q35 j := if_neg ne
      rw [this, hc j (by omega)]
      exact c1
  | succ m ih =>
    intro i X hi hx kq nq hc
    obtain ⟨w1, -, -, w4, -⟩ := hx.1 q (by rw [hq8]; decide)
    obtain ⟨x1, x2, -, x4, -⟩ := hx.1 b (by rw [h1]; decide)
    obtain ⟨c, c1, c2, c3⟩ := h3 i (by omega)
    obtain ⟨z1, -⟩ := hx.1 c (by rw [c2]; decide)
    have tci : Int32.toNatClampNeg (nI i) = i := u_nI (by omega)
    unfold wb_X7_addStation_56
    rw [tci]
    refine ⟨w1.trans hq8, b, (w4 8 5).trans hb, x1.trans h1, fun z => absurd z (by rw [x2, hN, ofn]; exact nI_ge (by omega) (by omega)), fun _ => ⟨b, (w4 8 5).trans hb, x1.trans h1, by rw [x2, hN]; exact vp_in_nI (by omega) (by omega), c, (x4 16 i).trans c1, kq, by rw [nq]; exact vp_in_nI (by omega) (by omega), z1.trans c2, ?_⟩⟩
    rw [nI_1]
    refine ih (i + 1) _ (by omega) (sEx_Q hf hx) kq nq (fun j hj => ?_)
    by_cases q2 : j = i
    · rw [gQ_sQ, if_pos ⟨rfl, rfl, q2⟩, q2, c1]
    · rw [gQ_sQ, if_neg (fun z => q2 z.2.2)]
      exact hc j (by omega)
theorem C_cpy6 {S0 : bS} {q b q35 n : Nat} {mc ms : Nat} (hq8 : gK S0 q = 8) (hb : gQ S0 8 q 6 = some b) (h : rO S0 b 16 15 n rT) (hf : gK S0 q35 = 0) (hn : n ≤ 100) (hmc : 1 ≤ mc) {post : bS → Prop} (hp : ∀ X, sEx S0 X → rO X q35 16 15 (n + 1) rT → post (sQ X 8 q 6 (some q35))) : ∀ (m i : Nat) (X : bS), i + m = n → sEx S0 X → gK X q35 = 16 → gN X q35 = n + 1 → (∀ j, j < i → gQ X 16 q35 j = gQ S0 16 b j) → wb_X7_addTube_135 post (m + 1) mc ms q q35 (nI i) X := by
  have ofn : (Int32.ofNat n : Int32) = nI n := rfl
  obtain ⟨h1, hN, h3⟩ := h
  have tcn : Int32.toNatClampNeg (nI n) = n := u_nI (by omega)
  intro m
  induction m with
  | zero =>
    intro i X hi hx kq nq hc
    obtain ⟨w1, -, -, w4, -⟩ := hx.1 q (by rw [hq8]; decide)
    obtain ⟨x1, x2, -, x4, -⟩ := hx.1 b (by rw [h1]; decide)
    unfold wb_X7_addTube_135
    refine ⟨w1.trans hq8, b, (w4 8 6).trans hb, x1.trans h1, fun _ => ⟨b, (w4 8 6).trans hb, x1.trans h1, by decide, by decide, hmc, Nat.zero_le _, fun q4 hq4 => ?_⟩, fun z => absurd (by rw [x2, hN, ofn]; exact nI_le (by omega) (by omega)) z⟩
    have ne : q35 ≠ q4 := fun z => by rw [z, hq4] at kq; cases kq
    rw [x2, hN, ofn, tcn]
    have hx2 : sEx S0 (sNew X q4 15 (Int32.toNatClampNeg (0 : Int32))) := sEx_tr hx (sEx_new hq4 (sEx_rf X))
    have k2 : gK (sNew X q4 15 (Int32.toNatClampNeg (0 : Int32))) q35 = 16 := (if_neg ne).trans kq
    have n2 : gN (sNew X q4 15 (Int32.toNatClampNeg (0 : Int32))) q35 = n + 1 := (if_neg ne).trans nq
    refine ⟨k2, by rw [n2]; exact vp_in_nI (by omega) (by omega), hp _ (sEx_Q hf hx2) ⟨k2, n2, fun j hj => ?_⟩⟩
    by_cases q2 : j = n
    · exact ⟨q4, by rw [gQ_sQ, if_pos ⟨rfl, rfl, q2⟩], if_pos rfl, trivial⟩
    · obtain ⟨c, c1, c2, c3⟩ := h3 j (by omega)
      obtain ⟨z1, -⟩ := hx2.1 c (by rw [c2]; decide)
      refine ⟨c, ?_, z1.trans c2, trivial⟩
      rw [gQ_sQ, if_neg (fun z => q2 z.2.2)]
      have : gQ (sNew X q4 15 (Int32.toNatClampNeg (0 : Int32))) 16 q35 j = gQ X 16 q35 j := if_neg ne
      rw [this, hc j (by omega)]
      exact c1
  | succ m ih =>
    intro i X hi hx kq nq hc
    obtain ⟨w1, -, -, w4, -⟩ := hx.1 q (by rw [hq8]; decide)
    obtain ⟨x1, x2, -, x4, -⟩ := hx.1 b (by rw [h1]; decide)
    obtain ⟨c, c1, c2, c3⟩ := h3 i (by omega)
    obtain ⟨z1, -⟩ := hx.1 c (by rw [c2]; decide)
    have tci : Int32.toNatClampNeg (nI i) = i := u_nI (by omega)
    unfold wb_X7_addTube_135
    rw [tci]
    refine ⟨w1.trans hq8, b, (w4 8 6).trans hb, x1.trans h1, fun z => absurd z (by rw [x2, hN, ofn]; exact nI_ge (by omega) (by omega)), fun _ => ⟨b, (w4 8 6).trans hb, x1.trans h1, by rw [x2, hN]; exact vp_in_nI (by omega) (by omega), c, (x4 16 i).trans c1, kq, by rw [nq]; exact vp_in_nI (by omega) (by omega), z1.trans c2, ?_⟩⟩
    rw [nI_1]
    refine ih (i + 1) _ (by omega) (sEx_Q hf hx) kq nq (fun j hj => ?_)
    by_cases q2 : j = i
    · rw [gQ_sQ, if_pos ⟨rfl, rfl, q2⟩, q2, c1]
    · rw [gQ_sQ, if_neg (fun z => q2 z.2.2)]
      exact hc j (by omega)
theorem rO_imp {S : bS} {b κ κr n : Nat} {f g : Nat → Nat → Prop} (h : rO S b κ κr n f) (e : ∀ i k, i < n → f i k → g i k) : rO S b κ κr n g := ⟨h.1, h.2.1, fun i hi => by
  obtain ⟨c, c1, c2, c3⟩ := h.2.2 i hi
  exact ⟨c, c1, c2, e i _ hi c3⟩⟩
theorem qx {S S' : bS} {q j : Nat} {v : Option Nat} (hx : sEx S S') (hk : gK S q = 8) (h : gQ S 8 q j = v) : gQ S' 8 q j = v := ((hx.1 q (by rw [hk]; decide)).2.2.2.1 8 j).trans h
theorem kx {S S' : bS} {q k : Nat} (hx : sEx S S') (hk : gK S q = k) (h0 : k ≠ 0) : gK S' q = k := (hx.1 q (by rw [hk]; exact h0)).1.trans hk
theorem q8n {S : bS} {q i j : Nat} {v w : Option Nat} (h : gQ S 8 q i = v) (hij : i ≠ j) : gQ (sQ S 8 q j w) 8 q i = v := by
  rw [gQ_sQ, if_neg (fun z => hij z.2.2)]
  exact h
theorem q8s {S : bS} {q j : Nat} {w : Option Nat} : gQ (sQ S 8 q j w) 8 q j = w := by rw [gQ_sQ, if_pos ⟨rfl, rfl, rfl⟩]
set_option maxHeartbeats 1000000 in
theorem C_simSt {S : bS} {q n T : Nat} {m : Nat → Nat} (h : sI S q n T m) (hn : n ≤ 13) {MC MS : Nat} (hMC : 6 ≤ MC) (hMS : 50 ≤ MS) {p1 p2 : Int32} {post : bS → Prop} (hp : ∀ S', jF S S' → sI S' q (n + 1) T (fun i => if i = n then 0 else m i) → post S') : wp_X7_addStation post MC MS q p1 p2 S := by
  obtain ⟨h0, ⟨b1, x1, y1⟩, ⟨b2, x2, y2⟩, ⟨b5, x5, y5⟩, ⟨b6, x6, y6⟩, b7, x7, y7⟩ := h
  have t4 : Int32.toNatClampNeg (4 : Int32) = 4 := by decide
  have t0 : Int32.toNatClampNeg (0 : Int32) = 0 := by decide
  unfold wp_X7_addStation
  rw [t4, t0]
  refine ⟨h0, b1, x1, by decide, by decide, by omega, by omega, fun q4 hq4 => ?_⟩
  have hv : ∀ k, k < 4 → vp_in (nI k) (gN (sNew S q4 9 4) q4) := fun k hk => by
    rw [show gN (sNew S q4 9 4) q4 = 4 from if_pos rfl]
    exact vp_in_nI hk (by decide)
  have E1 : sEx S (sV (sV (sV (sV (sNew S q4 9 4) 9 q4 0 p1) 9 q4 (Int32.toNatClampNeg (1 : Int32)) p2) 9 q4 (Int32.toNatClampNeg (2 : Int32)) (-1 : Int32)) 9 q4 (Int32.toNatClampNeg (3 : Int32)) (0 : Int32)) := sEx_V hq4 (sEx_V hq4 (sEx_V hq4 (sEx_V hq4 (sEx_new hq4 (sEx_rf S)))))
  have k4 : gK (sV (sV (sV (sV (sNew S q4 9 4) 9 q4 0 p1) 9 q4 (Int32.toNatClampNeg (1 : Int32)) p2) 9 q4 (Int32.toNatClampNeg (2 : Int32)) (-1 : Int32)) 9 q4 (Int32.toNatClampNeg (3 : Int32)) (0 : Int32)) q4 = 9 := if_pos rfl
  refine ⟨hv 0 (by decide), hv 1 (by decide), hv 2 (by decide), hv 3 (by decide), 1, n + 1, by omega, by omega, ?_⟩
  generalize hY : sV (sV (sV (sV (sNew S q4 9 4) 9 q4 0 p1) 9 q4 (Int32.toNatClampNeg (1 : Int32)) p2) 9 q4 (Int32.toNatClampNeg (2 : Int32)) (-1 : Int32)) 9 q4 (Int32.toNatClampNeg (3 : Int32)) (0 : Int32) = Y at *
  refine C_more (rO_ex y1 (by decide) (by decide) E1) k4 (by omega) (Nat.le_refl _) (Nat.le_refl _) (fun S13 b14 e13 hb14 r14 => ⟨b14, rfl, kx (sEx_tr E1 e13) h0 (by decide), b7, q8n (qx (sEx_tr E1 e13) h0 x7) (by decide), by decide, by decide, by omega, by omega, fun q21 hq21 => ⟨1, n + 1, by omega, by omega, ?_⟩⟩)
  have E13 := sEx_tr E1 e13
  have z0 := kx E13 h0 (by decide)
  have z2 := qx E13 h0 x2
  have z5 := qx E13 h0 x5
  have z6 := qx E13 h0 x6
  have z7 := qx E13 h0 x7
  have r2 := rO_ex y2 (by decide) (by decide) E13
  have r5 := rO_ex y5 (by decide) (by decide) E13
  have r6 := rO_ex y6 (by decide) (by decide) E13
  have r7 := rO_ex y7 (by decide) (by decide) E13
  have J13 : jF S (sQ S13 8 q 1 (some b14)) := jF_tr (jF_ex E13) (jF_Q (Or.inl rfl))
  have a0 : gK (sQ S13 8 q 1 (some b14)) q = 8 := z0
  have a1 : gQ (sQ S13 8 q 1 (some b14)) 8 q 1 = some b14 := q8s
  have a2 : gQ (sQ S13 8 q 1 (some b14)) 8 q 2 = some b2 := q8n z2 (by decide)
  have a5 : gQ (sQ S13 8 q 1 (some b14)) 8 q 5 = some b5 := q8n z5 (by decide)
  have a6 : gQ (sQ S13 8 q 1 (some b14)) 8 q 6 = some b6 := q8n z6 (by decide)
  have s1 := rO_Q8 (a := q) (j := 1) (v := some b14) r14 (by decide)
  have s2 := rO_Q8 (a := q) (j := 1) (v := some b14) r2 (by decide)
  have s5 := rO_Q8 (a := q) (j := 1) (v := some b14) r5 (by decide)
  have s6 := rO_Q8 (a := q) (j := 1) (v := some b14) r6 (by decide)
  have s7 := rO_Q8 (a := q) (j := 1) (v := some b14) r7 (by decide)
  generalize hZ1 : sQ S13 8 q 1 (some b14) = Z1 at *
  have E2 : sEx Z1 (sNew Z1 q21 9 0) := sEx_new hq21 (sEx_rf Z1)
  have k21 : gK (sNew Z1 q21 9 0) q21 = 9 := if_pos rfl
  have n21 : gN (sNew Z1 q21 9 0) q21 = 0 := if_pos rfl
  refine C_more (rO_ex s7 (by decide) (by decide) E2) k21 (by omega) (Nat.le_refl _) (Nat.le_refl _) (fun S26 b27 e26 hb27 r27 => ?_)
  have E26 := sEx_tr E2 e26
  have J26 : jF S (sQ S26 8 q 7 (some b27)) := jF_tr J13 (jF_tr (jF_ex E26) (jF_Q (Or.inl rfl)))
  have c0 : gK (sQ S26 8 q 7 (some b27)) q = 8 := (show gK S26 q = 8 from kx E26 a0 (by decide))
  have c1 : gQ (sQ S26 8 q 7 (some b27)) 8 q 1 = some b14 := q8n (qx E26 a0 a1) (by decide)
  have c2 : gQ (sQ S26 8 q 7 (some b27)) 8 q 2 = some b2 := q8n (qx E26 a0 a2) (by decide)
  have c5 : gQ (sQ S26 8 q 7 (some b27)) 8 q 5 = some b5 := q8n (qx E26 a0 a5) (by decide)
  have c6 : gQ (sQ S26 8 q 7 (some b27)) 8 q 6 = some b6 := q8n (qx E26 a0 a6) (by decide)
  have c7 : gQ (sQ S26 8 q 7 (some b27)) 8 q 7 = some b27 := q8s
  have w1 := rO_Q8 (a := q) (j := 7) (v := some b27) (rO_ex s1 (by decide) (by decide) E26) (by decide)
  have w2 := rO_Q8 (a := q) (j := 7) (v := some b27) (rO_ex s2 (by decide) (by decide) E26) (by decide)
  have w5 := rO_Q8 (a := q) (j := 7) (v := some b27) (rO_ex s5 (by decide) (by decide) E26) (by decide)
  have w6 := rO_Q8 (a := q) (j := 7) (v := some b27) (rO_ex s6 (by decide) (by decide) E26) (by decide)
  have w7 := rO_Q8 (a := q) (j := 7) (v := some b27) r27 (by decide)
  refine ⟨b27, rfl, kx E26 a0 (by decide), b14, c1, w1.1, ?_⟩
  generalize hZ2 : sQ S26 8 q 7 (some b27) = Z2 at *
  have tn : Int32.toNatClampNeg (Int32.ofNat (n + 1)) = n + 1 := u_nI (n := n + 1) (by omega)
  rw [w1.2.1, tn]
  refine ⟨nI_pos (n := n + 1) (by omega), by omega, by omega, by omega, fun q35 hq35 => ⟨n + 1, C_cpy5 c0 c5 w5 hq35 (by omega) (by omega) (fun X hX rX => hp _ (jF_tr J26 (jF_tr (jF_ex hX) (jF_Q (Or.inl rfl)))) ⟨(show gK X q = 8 from kx hX c0 (by decide)), ⟨b14, q8n (qx hX c0 c1) (by decide), rO_imp (rO_Q8 (rO_ex w1 (by decide) (by decide) hX) (by decide)) (fun _ _ _ _ => trivial)⟩, ⟨b2, q8n (qx hX c0 c2) (by decide), rO_Q8 (rO_ex w2 (by decide) (by decide) hX) (by decide)⟩, ⟨q35, q8s, rO_Q8 rX (by decide)⟩, ⟨b6, q8n (qx hX c0 c6) (by decide), rO_Q8 (rO_ex w6 (by decide) (by decide) hX) (by decide)⟩, b27, q8n (qx hX c0 c7) (by decide), rO_imp (rO_Q8 (rO_ex w7 (by decide) (by decide) hX) (by decide)) (fun i k hi hk => ?_)⟩) n 0 _ (by omega) (sEx_new hq35 (sEx_rf Z2)) (if_pos rfl) (if_pos rfl) (fun j hj => absurd hj (by omega))⟩⟩
  show k = if i = n then 0 else m i
  by_cases qi : i = n
  · rw [if_pos qi, hk.2 qi]
    exact n21
  · rw [if_neg qi]
    exact hk.1 (by omega)
