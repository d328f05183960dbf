/-! ===== the law's copy gets a tube ===== -/
theorem q12 {S : bS} {q i a j : Nat} {w : Option Nat} : gQ (sQ S 12 a j w) 8 q i = gQ S 8 q i := by rw [gQ_sQ, if_neg (fun z => absurd z.1 (by decide))]
set_option maxHeartbeats 2000000 in
theorem C_simTu {S : bS} {q n T : Nat} {m : Nat → Nat} (h : sI S q n T m) (hn : n ≤ 14) (hT : T ≤ 20) {f : Nat} (hf : f < n) (hm : m f ≤ 4) {MC MS : Nat} (hMC : 6 ≤ MC) (hMS : 80 ≤ MS) {p2 p3 p4 p5 : Int32} {post : bS → Prop} (hp : ∀ S', jF S S' → sI S' q n (T + 1) (fun i => if i = f then m i + 1 else m i) → post S') : wp_X7_addTube post MC MS q (nI f) p2 p3 p4 p5 S := by
  obtain ⟨h0, ⟨b1, x1, y1⟩, ⟨b2, x2, y2⟩, ⟨b5, x5, y5⟩, ⟨b6, x6, y6⟩, b7, x7, y7⟩ := h
  obtain ⟨c, c1, c2, c3⟩ := y7.2.2 f hf
  have tcf : Int32.toNatClampNeg (nI f) = f := u_nI (by omega)
  have tm : Int32.toNatClampNeg (Int32.ofNat (m f) + 1) = m f + 1 := by
    show u (nI (m f) + 1) = _
    rw [nI_1]
    exact u_nI (by omega)
  unfold wp_X7_addTube
  rw [tcf]
  refine ⟨h0, b7, x7, y7.1, by rw [y7.2.1]; exact vp_in_nI hf (by omega), c, c1, c2, ?_⟩
  rw [c3, tm]
  refine ⟨by show ¬ nI (m f) + 1 < 0; rw [nI_1]; exact nI_pos (by omega), by omega, by omega, by omega, fun q9 hq9 => ⟨m f + 1, ?_⟩⟩
  have loop : ∀ (r i : Nat) (X : bS), i + r = m f → sEx S X → gK X q9 = 9 → gN X q9 = m f + 1 → wb_X7_addTube_16 post (r + 1) (MC - 1) (MS - (m f + 1)) q (nI f) p2 p3 p4 p5 q9 (nI i) X := by
    intro r
    induction r with
    | succ r ih =>
      intro i X hi hx k9 n9
      have tci : Int32.toNatClampNeg (nI i) = i := u_nI (by omega)
      obtain ⟨g1, g2, -, g4, -⟩ := hx.1 b7 (by rw [y7.1]; decide)
      obtain ⟨e1, e2, -⟩ := hx.1 c (by rw [c2]; decide)
      have nc : gN X c = m f := e2.trans c3
      have vf : vp_in (nI f) (gN X b7) := by rw [g2, y7.2.1]; exact vp_in_nI hf (by omega)
      unfold wb_X7_addTube_16
      rw [tcf, tci]
      refine ⟨kx hx h0 (by decide), b7, qx hx h0 x7, g1.trans y7.1, vf, c, (g4 12 f).trans c1, e1.trans c2, fun z => absurd z (by rw [nc]; exact nI_ge (by omega) (by omega)), fun _ => ⟨b7, qx hx h0 x7, g1.trans y7.1, vf, c, (g4 12 f).trans c1, e1.trans c2, by rw [nc]; exact vp_in_nI (by omega) (by omega), k9, by rw [n9]; exact vp_in_nI (by omega) (by omega), ?_⟩⟩
      rw [nI_1]
      exact ih (i + 1) _ (by omega) (sEx_V hq9 hx) k9 n9
    | zero =>
      intro i X hi hx k9 n9
      have ei : i = m f := by omega
      subst ei
      obtain ⟨g1, g2, -, g4, -⟩ := hx.1 b7 (by rw [y7.1]; decide)
      obtain ⟨e1, e2, -⟩ := hx.1 c (by rw [c2]; decide)
      have nc : gN X c = m f := e2.trans c3
      have vf : vp_in (nI f) (gN X b7) := by rw [g2, y7.2.1]; exact vp_in_nI hf (by omega)
      have t8 : Int32.toNatClampNeg (8 : Int32) = 8 := by decide
      unfold wb_X7_addTube_16
      rw [tcf, t8]
      refine ⟨kx hx h0 (by decide), b7, qx hx h0 x7, g1.trans y7.1, vf, c, (g4 12 f).trans c1, e1.trans c2, fun _ => ⟨b7, qx hx h0 x7, g1.trans y7.1, vf, c, (g4 12 f).trans c1, e1.trans c2, b2, qx hx h0 x2, kx hx y2.1 (by decide), k9, by rw [nc, n9]; exact vp_in_nI (n := m f) (by omega) (by omega), ?_⟩, fun z => absurd (by rw [nc]; exact nI_le (a := m f) (Nat.le_refl _) (by omega)) z⟩
      have E1 : sEx S (sV X 9 q9 (Int32.toNatClampNeg (Int32.ofNat (gN X c))) (Int32.ofNat (gN X b2))) := sEx_V hq9 hx
      have k1 : gK (sV X 9 q9 (Int32.toNatClampNeg (Int32.ofNat (gN X c))) (Int32.ofNat (gN X b2))) q9 = 9 := k9
      have n1 : gN (sV X 9 q9 (Int32.toNatClampNeg (Int32.ofNat (gN X c))) (Int32.ofNat (gN X b2))) q9 = m f + 1 := n9
      generalize hY1 : sV X 9 q9 (Int32.toNatClampNeg (Int32.ofNat (gN X c))) (Int32.ofNat (gN X b2)) = Y1 at *
      have J2 : jF S (sQ Y1 12 b7 f (some q9)) := jF_tr (jF_ex E1) (jF_Q (Or.inr (Or.inl rfl)))
      have a0 : gK (sQ Y1 12 b7 f (some q9)) q = 8 := (show gK Y1 q = 8 from kx E1 h0 (by decide))
      have a1 : gQ (sQ Y1 12 b7 f (some q9)) 8 q 1 = some b1 := q12.trans (qx E1 h0 x1)
      have a2 : gQ (sQ Y1 12 b7 f (some q9)) 8 q 2 = some b2 := q12.trans (qx E1 h0 x2)
      have a5 : gQ (sQ Y1 12 b7 f (some q9)) 8 q 5 = some b5 := q12.trans (qx E1 h0 x5)
      have a6 : gQ (sQ Y1 12 b7 f (some q9)) 8 q 6 = some b6 := q12.trans (qx E1 h0 x6)
      have a7 : gQ (sQ Y1 12 b7 f (some q9)) 8 q 7 = some b7 := q12.trans (qx E1 h0 x7)
      have w1 : rO (sQ Y1 12 b7 f (some q9)) b1 12 9 n rT := rO_12 (rO_ex y1 (by decide) (by decide) E1) k1
      have w2 : rO (sQ Y1 12 b7 f (some q9)) b2 12 9 T rT := rO_12 (rO_ex y2 (by decide) (by decide) E1) k1
      have w5 : rO (sQ Y1 12 b7 f (some q9)) b5 16 15 n rT := rO_16o (rO_ex y5 (by decide) (by decide) E1)
      have w6 : rO (sQ Y1 12 b7 f (some q9)) b6 16 15 T rT := rO_16o (rO_ex y6 (by decide) (by decide) E1)
      have v7 := rO_ex y7 (by decide) (by decide) E1
      have w7 : rO (sQ Y1 12 b7 f (some q9)) b7 12 9 n (fun i k => k = if i = f then m i + 1 else m i) := by
        refine ⟨v7.1, v7.2.1, fun i hi => ?_⟩
        by_cases z : i = f
        · exact ⟨q9, by rw [gQ_sQ, if_pos ⟨rfl, rfl, z⟩], k1, by show gN Y1 q9 = if i = f then m i + 1 else m i; rw [if_pos z, z]; exact n1⟩
        · obtain ⟨d, d1, d2, d3⟩ := v7.2.2 i hi
          exact ⟨d, by rw [gQ_sQ, if_neg (fun y => z y.2.2)]; exact d1, d2, by show gN Y1 d = if i = f then m i + 1 else m i; rw [if_neg z]; exact d3⟩
      refine ⟨b7, qx E1 h0 x7, v7.1, by rw [v7.2.1]; exact vp_in_nI hf (by omega), b2, a2, by decide, by decide, by omega, by omega, fun q41 hq41 => ?_⟩
      generalize hY2 : sQ Y1 12 b7 f (some q9) = Y2 at *
      have hv : ∀ k, k < 8 → vp_in (nI k) (gN (sNew Y2 q41 9 8) q41) := fun k hk => by
        rw [show gN (sNew Y2 q41 9 8) q41 = 8 from if_pos rfl]
        exact vp_in_nI hk (by decide)
      have k41 : gK (sNew Y2 q41 9 8) q41 = 9 := if_pos rfl
      refine ⟨hv 0 (by decide), hv 1 (by decide), hv 2 (by decide), hv 3 (by decide), hv 4 (by decide), hv 5 (by decide), hv 6 (by decide), hv 7 (by decide), 1, T + 1, by omega, by omega, ?_⟩
      have E3 := sEx_new (n := 8) (κ := 9) hq41 (sEx_rf Y2)
      have E4 := sEx_V (κ := 9) (j := Int32.toNatClampNeg (7 : Int32)) (v := (-1 : Int32)) hq41 (sEx_V (κ := 9) (j := Int32.toNatClampNeg (6 : Int32)) (v := (0 : Int32)) hq41 (sEx_V (κ := 9) (j := Int32.toNatClampNeg (5 : Int32)) (v := (1 : Int32)) hq41 (sEx_V (κ := 9) (j := Int32.toNatClampNeg (4 : Int32)) (v := p5) hq41 (sEx_V (κ := 9) (j := Int32.toNatClampNeg (3 : Int32)) (v := p4) hq41 (sEx_V (κ := 9) (j := Int32.toNatClampNeg (2 : Int32)) (v := p3) hq41 (sEx_V (κ := 9) (j := Int32.toNatClampNeg (1 : Int32)) (v := p2) hq41 (sEx_V (κ := 9) (j := Int32.toNatClampNeg (0 : Int32)) (v := nI f) hq41 E3)))))))
      refine C_more (rO_ex w2 (by decide) (by decide) E4) k41 (by omega) (Nat.le_refl _) (Nat.le_refl _) (fun S61 b62 e61 hb62 r62 => ?_)
      have E61 := sEx_tr E4 e61
      have J61 : jF S (sQ S61 8 q 2 (some b62)) := jF_tr J2 (jF_tr (jF_ex E61) (jF_Q (Or.inl rfl)))
      have d0 : gK (sQ S61 8 q 2 (some b62)) q = 8 := (show gK S61 q = 8 from kx E61 a0 (by decide))
      have d1 : gQ (sQ S61 8 q 2 (some b62)) 8 q 1 = some b1 := q8n (qx E61 a0 a1) (by decide)
      have d2 : gQ (sQ S61 8 q 2 (some b62)) 8 q 2 = some b62 := q8s
      have d5 : gQ (sQ S61 8 q 2 (some b62)) 8 q 5 = some b5 := q8n (qx E61 a0 a5) (by decide)
      have d6 : gQ (sQ S61 8 q 2 (some b62)) 8 q 6 = some b6 := q8n (qx E61 a0 a6) (by decide)
      have d7 : gQ (sQ S61 8 q 2 (some b62)) 8 q 7 = some b7 := q8n (qx E61 a0 a7) (by decide)
      have u1 := rO_Q8 (a := q) (j := 2) (v := some b62) (rO_ex w1 (by decide) (by decide) E61) (by decide)
      have u2 := rO_Q8 (a := q) (j := 2) (v := some b62) r62 (by decide)
      have u5 := rO_Q8 (a := q) (j := 2) (v := some b62) (rO_ex w5 (by decide) (by decide) E61) (by decide)
      have u6 := rO_Q8 (a := q) (j := 2) (v := some b62) (rO_ex w6 (by decide) (by decide) E61) (by decide)
      have u7 := rO_Q8 (a := q) (j := 2) (v := some b62) (rO_ex w7 (by decide) (by decide) E61) (by decide)
      refine ⟨b62, rfl, kx E61 a0 (by decide), b62, d2, u2.1, ?_⟩
      generalize hZ : sQ S61 8 q 2 (some b62) = Z at *
      have tn : Int32.toNatClampNeg (Int32.ofNat (T + 1)) = T + 1 := u_nI (n := T + 1) (by omega)
      rw [u2.2.1, tn]
      exact ⟨nI_pos (n := T + 1) (by omega), by omega, by omega, by omega, fun q70 hq70 => ⟨T + 1, C_cpy6 d0 d6 u6 hq70 (by omega) (by omega) (fun W hW rW => hp _ (jF_tr J61 (jF_tr (jF_ex hW) (jF_Q (Or.inl rfl)))) ⟨(show gK W q = 8 from kx hW d0 (by decide)), ⟨b1, q8n (qx hW d0 d1) (by decide), rO_Q8 (rO_ex u1 (by decide) (by decide) hW) (by decide)⟩, ⟨b62, q8n (qx hW d0 d2) (by decide), rO_imp (rO_Q8 (rO_ex u2 (by decide) (by decide) hW) (by decide)) (fun _ _ _ _ => trivial)⟩, ⟨b5, q8n (qx hW d0 d5) (by decide), rO_Q8 (rO_ex u5 (by decide) (by decide) hW) (by decide)⟩, ⟨q70, q8s, rO_Q8 rW (by decide)⟩, b7, q8n (qx hW d0 d7) (by decide), rO_Q8 (rO_ex u7 (by decide) (by decide) hW) (by decide)⟩) T 0 _ (by omega) (sEx_new hq70 (sEx_rf Z)) (if_pos rfl) (if_pos rfl) (fun j hj => absurd hj (by omega))⟩⟩
  exact loop (m f) 0 _ (by omega) (sEx_new hq9 (sEx_rf S)) (if_pos rfl) (if_pos rfl)
