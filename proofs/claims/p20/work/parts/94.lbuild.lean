/-! ===== the law builds a net ===== -/
theorem sI_ext {S : bS} {q n T : Nat} {m m' : Nat → Nat} (h : sI S q n T m) (e : ∀ i, i < n → m i = m' i) : sI S q n T m' := by
  obtain ⟨h0, h1, h2, h5, h6, b7, x7, y7⟩ := h
  exact ⟨h0, h1, h2, h5, h6, b7, x7, rO_imp y7 (fun i k hi hk => by rw [← e i hi]; exact hk)⟩
def lB (S : bS) (A : Nat → Nat → Nat) (cp : Nat → Nat) (P : pP) (q a0 : Nat) : Prop := cR S A cp P ∧ cZ P.1 cp ∧ (∃ z, gK S z = 14 ∧ gN S z = 0) ∧ wI 0 0 P.1 P.2 ∧ P.2 = (fun _ => []) ∧ bI P.1 ∧ sI S q (nS P.1) (nT P.1) (mny P.1) ∧ A 0 0 = a0
theorem z_ex {S S' : bS} (h : ∃ z, gK S z = 14 ∧ gN S z = 0) (hx : sEx S S') : ∃ z, gK S' z = 14 ∧ gN S' z = 0 := by
  obtain ⟨z, h1, h2⟩ := h
  obtain ⟨x1, x2, -⟩ := hx.1 z (by rw [h1]; decide)
  exact ⟨z, x1.trans h1, x2.trans h2⟩
theorem z_jF {S S' : bS} (h : ∃ z, gK S z = 14 ∧ gN S z = 0) (hx : jF S S') : ∃ z, gK S' z = 14 ∧ gN S' z = 0 := by
  obtain ⟨z, h1, h2⟩ := h
  obtain ⟨x1, x2, -⟩ := hx.1 z (by rw [h1]; decide)
  exact ⟨z, x1.trans h1, x2.trans h2⟩
theorem z_cF {S S' : bS} {A : Nat → Nat → Nat} (h : ∃ z, gK S z = 14 ∧ gN S z = 0) (hx : cF A S S') : ∃ z, gK S' z = 14 ∧ gN S' z = 0 := by
  obtain ⟨z, h1, h2⟩ := h
  obtain ⟨x1, x2⟩ := hx.1 z (by rw [h1]; decide)
  exact ⟨z, x1.trans h1, x2.trans h2⟩
section LBUILD
variable {post : Option Nat → bS → Prop} {xs : Nat → Int32} {LL : Nat}
set_option maxHeartbeats 1000000 in
set_option maxRecDepth 4000 in
theorem K_bTube {S : bS} {A : Nat → Nat → Nat} {cp : Nat → Nat} {P : pP} {q a0 k : Nat} (hI : lB S A cp P q a0) (hn2 : 2 ≤ nS P.1) (hn7 : nS P.1 ≤ 7) (hT : nT P.1 ≤ k) (hk : k < 12) {v5 v7 : Int32} {mc ms : Nat} (hc : potA P.1 cp + 10 ≤ mc) (hs : potA P.1 cp + 120 ≤ ms) {rec151 : Nat → Nat → Nat → Nat → Int32 → Int32 → Int32 → bS → Prop} (hgo : ∀ S' A' cp' P' mc' ms', lB S' A' cp' P' q a0 → nS P'.1 = nS P.1 → nT P'.1 ≤ k + 1 → potA P'.1 cp' ≤ potA P.1 cp → mc + potA P'.1 cp' ≤ mc' + 10 + potA P.1 cp → ms + potA P'.1 cp' ≤ ms' + 120 + potA P.1 cp → rec151 mc' ms' a0 q (nI (nS P.1)) v5 (nI k + 1) S') {f m1 : Nat} (hf : f < nS P.1) {s0 s1 : Int32} (h0 : 0 < m1) (hm1 : m1 ≤ 7) (e0 : s0 = nI m1) : wb_L_build_238 xs LL post rec151 mc ms a0 q (nI (nS P.1)) v5 (nI k) v7 (nI f) s0 s1 (nI f + 1) S := by
  obtain ⟨h, hcz, hz, hw, hP2, hb, hsi, ha0⟩ := hI
  have skip : wb_L_build_398 xs LL post rec151 mc ms a0 q (nI (nS P.1)) v5 (nI k) S := hgo S A cp P mc ms ⟨h, hcz, hz, hw, hP2, hb, hsi, ha0⟩ rfl (by omega) (Nat.le_refl _) (by omega) (by omega)
  have tc0 : Int32.toNatClampNeg (0 : Int32) = 0 := by decide
  have tc1 : Int32.toNatClampNeg (1 : Int32) = 1 := by decide
  have tc2 : Int32.toNatClampNeg (2 : Int32) = 2 := by decide
  have tc3 : Int32.toNatClampNeg (3 : Int32) = 3 := by decide
  have tcf : Int32.toNatClampNeg (nI f) = f := u_nI (by omega)
  unfold wb_L_build_238
  refine D_below e0 h0 (by omega) (fun j hj => ⟨nI_ne0 (by omega) (by omega), ?_⟩)
  have eto : (nI f + 1 + nI j) - (nI f + 1 + nI j) / nI (nS P.1) * nI (nS P.1) = nI ((f + 1 + j) % nS P.1) := by
    rw [nI_1, nI_add]
    exact pk_rem (by omega) (by omega) (by omega)
  rw [eto]
  have ht : (f + 1 + j) % nS P.1 < nS P.1 := Nat.mod_lt _ (by omega)
  generalize (f + 1 + j) % nS P.1 = t at ht ⊢
  refine ⟨fun _ => skip, fun hne => ?_⟩
  have hft : f ≠ t := fun z => hne (by rw [z])
  obtain ⟨k0, w1, ⟨b2, w2, y2⟩, w5, w6, b7, w7, y7⟩ := hsi
  have hsi : sI S q (nS P.1) (nT P.1) (mny P.1) := ⟨k0, w1, ⟨b2, w2, y2⟩, w5, w6, b7, w7, y7⟩
  obtain ⟨c, c1, c2, c3⟩ := y7.2.2 f hf
  refine ⟨k0, k0, b7, w7, y7.1, by rw [y7.2.1]; exact vp_in_nI hf (by omega), c, by rw [tcf]; exact c1, c, rfl, c2, fun hne4 => ?_, fun _ => skip⟩
  have hm4 : mny P.1 f < 4 := by
    have hle := (hw.2.2.1 f hf).2.2.1.2
    rcases Nat.lt_or_eq_of_le hle with z | z
    · exact z
    · rw [c3, z] at hne4
      exact absurd rfl hne4
  rw [tc3]
  refine ⟨by decide, by decide, by omega, by omega, fun q52 hq52 => ?_⟩
  have main : ∀ (mm mb : Nat), 1 ≤ mm → mm ≤ 30 → 1 ≤ mb → mb ≤ 8 → ∀ (p1 p2 p3 : Int32) (j1 : Nat), j1 < mm → ∀ j2, j2 < 6 → ∀ j3, j3 < mb → ∃ k79 n80, k79 ≤ mc - 1 ∧ n80 ≤ ms - 3 ∧ (wp_X5_addTube (fun r77 S78 => gK S78 q = 8 ∧ (∃ b82, gQ S78 8 q 2 = some b82 ∧ (gK S78 b82 = 12 ∧ ((r77 = (Int32.ofNat (gN S78 b82)) → gK S78 q52 = 9 ∧ (vp_in (0 : Int32) (gN S78 q52) ∧ (vp_in (1 : Int32) (gN S78 q52) ∧ (vp_in (2 : Int32) (gN S78 q52) ∧ (∃ k91 n92, k91 ≤ (mc - 1 - k79) ∧ n92 ≤ (ms - 3 - n80) ∧ (wp_X7_addTube (fun S90 => wb_L_build_398 xs LL post rec151 ((mc - 1 - k79) - k91) ((ms - 3 - n80) - n92) a0 q (nI (nS P.1)) v5 (nI k) S90) k91 n92 q (nI f) (nI t) (gV S78 9 q52 (Int32.toNatClampNeg (0 : Int32))) (gV S78 9 q52 (Int32.toNatClampNeg (1 : Int32))) (gV S78 9 q52 (Int32.toNatClampNeg (2 : Int32))) S78)))))) ∧ (¬ (r77 = (Int32.ofNat (gN S78 b82))) → post none S78))))) (fun _ _ => False) k79 n80 a0 (nI f) (nI t) (gV (sV (sV (sV (sNew S q52 9 3) 9 q52 0 (1 + nI j1)) 9 q52 1 (1 + nI j2)) 9 q52 2 (1 + nI j3)) 9 q52 0) (gV (sV (sV (sV (sNew S q52 9 3) 9 q52 0 (1 + nI j1)) 9 q52 1 (1 + nI j2)) 9 q52 2 (1 + nI j3)) 9 q52 1) (gV (sV (sV (sV (sNew S q52 9 3) 9 q52 0 (1 + nI j1)) 9 q52 1 (1 + nI j2)) 9 q52 2 (1 + nI j3)) 9 q52 2) (sV (sV (sV (sNew S q52 9 3) 9 q52 0 (1 + nI j1)) 9 q52 1 (1 + nI j2)) 9 q52 2 (1 + nI j3))) := by
    intro mm mb hmm hmm3 hmb hmb8 p1 p2 p3 j1 hj1 j2 hj2 j3 hj3
    have o1 : ∀ j : Nat, (1 : Int32) + nI j = nI (1 + j) := fun j => nI_add 1 j
    rw [o1, o1, o1]
    have E : sEx S (sV (sV (sV (sNew S q52 9 3) 9 q52 0 (nI (1 + j1))) 9 q52 1 (nI (1 + j2))) 9 q52 2 (nI (1 + j3))) := sEx_V hq52 (sEx_V hq52 (sEx_V hq52 (sEx_new hq52 (sEx_rf S))))
    have g0 : gV (sV (sV (sV (sNew S q52 9 3) 9 q52 0 (nI (1 + j1))) 9 q52 1 (nI (1 + j2))) 9 q52 2 (nI (1 + j3))) 9 q52 0 = nI (1 + j1) := by
      rw [gV_sV, if_neg (fun z => by omega), gV_sV, if_neg (fun z => by omega), gV_sV, if_pos ⟨rfl, rfl, rfl⟩]
    have g1 : gV (sV (sV (sV (sNew S q52 9 3) 9 q52 0 (nI (1 + j1))) 9 q52 1 (nI (1 + j2))) 9 q52 2 (nI (1 + j3))) 9 q52 1 = nI (1 + j2) := by
      rw [gV_sV, if_neg (fun z => by omega), gV_sV, if_pos ⟨rfl, rfl, rfl⟩]
    have g2 : gV (sV (sV (sV (sNew S q52 9 3) 9 q52 0 (nI (1 + j1))) 9 q52 1 (nI (1 + j2))) 9 q52 2 (nI (1 + j3))) 9 q52 2 = nI (1 + j3) := by
      rw [gV_sV, if_pos ⟨rfl, rfl, rfl⟩]
    have k52 : gK (sV (sV (sV (sNew S q52 9 3) 9 q52 0 (nI (1 + j1))) 9 q52 1 (nI (1 + j2))) 9 q52 2 (nI (1 + j3))) q52 = 9 := if_pos rfl
    have n52 : gN (sV (sV (sV (sNew S q52 9 3) 9 q52 0 (nI (1 + j1))) 9 q52 1 (nI (1 + j2))) 9 q52 2 (nI (1 + j3))) q52 = 3 := if_pos rfl
    rw [g0, g1, g2]
    generalize hX : sV (sV (sV (sNew S q52 9 3) 9 q52 0 (nI (1 + j1))) 9 q52 1 (nI (1 + j2))) 9 q52 2 (nI (1 + j3)) = X at *
    have hbo : (1 : Int32) ≤ nI (1 + j3) ∧ nI (1 + j3) ≤ 8 := ⟨nI_le (a := 1) (by omega) (by omega), nI_le (b := 8) (by omega) (by decide)⟩
    obtain ⟨cp1, m1', m2', m3'⟩ := D_addTube (cp := cp) hw hf ht hft (l1 := 1 + j1) (s1 := 1 + j2) (bo := nI (1 + j3)) ⟨by omega, by omega⟩ ⟨by omega, by omega⟩ hbo (by omega) hm4
    have hwT := wI_aTu hw hf ht (fun z => hft ((nI_eq (by omega) (by omega)).mp z)) (len := nI (1 + j1)) (sp := nI (1 + j2)) (bo := nI (1 + j3)) ⟨nI_le (a := 1) (by omega) (by omega), nI_le (b := 60) (by omega) (by decide)⟩ ⟨nI_le (a := 1) (by omega) (by omega), nI_le (b := 6) (by omega) (by decide)⟩ hbo (fun z => by rw [hw.1.2.1.1] at z; have := (nI_eq (b := 30) (by omega) (by decide)).mp z; omega) (fun z => by rw [(hw.2.2.1 f hf).2.2.1.1] at z; have := (nI_eq (b := 4) (by omega) (by decide)).mp z; omega)
    have hbT := bI_aTu hw hb (by omega) (to := nI t) (len := nI (1 + j1)) (sp := nI (1 + j2)) (bo := nI (1 + j3)) hf hm4
    have m1'' : potA (aTuM P.1 f (nI f) (nI t) (nI (1 + j1)) (nI (1 + j2)) (nI (1 + j3))) cp1 ≤ potA P.1 cp := m1'
    have mnyE : ∀ i, i < nS P.1 → (if i = f then mny P.1 i + 1 else mny P.1 i) = mny (aTuM P.1 f (nI f) (nI t) (nI (1 + j1)) (nI (1 + j2)) (nI (1 + j3))) i := fun i hi => by
      by_cases z : i = f
      · subst z
        rw [if_pos rfl]
        show _ = u (aTuM P.1 i (nI i) (nI t) (nI (1 + j1)) (nI (1 + j2)) (nI (1 + j3)) 1 (9 * i + 2))
        have m2 : aTuM P.1 i (nI i) (nI t) (nI (1 + j1)) (nI (1 + j2)) (nI (1 + j3)) 1 (9 * i + 2) = P.1 1 (9 * i + 2) + 1 := by simp (disch := omega) only [aTuM, aT8, mU_s, mU_r, mU_c]
        rw [m2, (hw.2.2.1 i hf).2.2.1.1, nI_1, u_nI (by omega)]
      · rw [if_neg z]
        show _ = u (aTuM P.1 f (nI f) (nI t) (nI (1 + j1)) (nI (1 + j2)) (nI (1 + j3)) 1 (9 * i + 2))
        rw [aTu_1 hm4 (by decide) (Or.inl z)]
    generalize hM' : aTuM P.1 f (nI f) (nI t) (nI (1 + j1)) (nI (1 + j2)) (nI (1 + j3)) = M' at *
    have hpT : potA (M', P.2).1 cp1 = potA M' cp1 := rfl
    have nS' : nS M' = nS P.1 := by
      rw [← hM']
      show u (aTuM P.1 f (nI f) (nI t) (nI (1 + j1)) (nI (1 + j2)) (nI (1 + j3)) 0 2) = u (P.1 0 2)
      congr 1
    refine ⟨potA P.1 cp - potA M' cp1, potA P.1 cp - potA M' cp1, by omega, by omega, ?_⟩
    rw [← ha0]
    refine m3' X A _ _ _ (cR_ex h E) hcz (z_ex hz E) (by omega) (by omega) (fun S78 A1 h1 a0' a6 hF => ?_)
    have s78 := sI_cF (sI_ex hsi E) hF
    obtain ⟨kk0, ww1, ⟨bb2, ww2, yy2⟩, ww5⟩ := s78
    have s78 : sI S78 q (nS P.1) (nT P.1) (mny P.1) := ⟨kk0, ww1, ⟨bb2, ww2, yy2⟩, ww5⟩
    obtain ⟨f1, f2⟩ := hF.1 q52 (by rw [k52]; decide)
    have hv : ∀ i, i < 3 → vp_in (nI i) (gN S78 q52) := fun i hi => by
      rw [f2, n52]
      exact vp_in_nI hi (by decide)
    refine ⟨kk0, bb2, ww2, yy2.1, fun _ => ⟨f1.trans k52, hv 0 (by decide), hv 1 (by decide), hv 2 (by decide), 6, 80, by omega, by omega, C_simTu s78 (by omega) (by omega) hf (by omega) (Nat.le_refl _) (Nat.le_refl _) (fun S90 hj90 s90 => ?_)⟩, fun z => absurd (by rw [yy2.2.1]; exact hw.1.2.1.1) z⟩
    unfold wb_L_build_398
    rw [ha0]
    refine hgo S90 A1 cp1 (M', P.2) _ _ ⟨cR_jF h1 hj90, m2' hcz, z_jF (z_cF (z_ex hz E) hF) hj90, hwT.1, hP2, hbT, ?_, by rw [a0']; exact ha0⟩ nS' (by rw [show nT (M', P.2).1 = nT P.1 + 1 from hwT.2]; omega) m1'' ?_ ?_
    · rw [show nS (M', P.2).1 = nS P.1 from nS', show nT (M', P.2).1 = nT P.1 + 1 from hwT.2]
      exact sI_ext s90 mnyE
    · show mc + potA M' cp1 ≤ _
      omega
    · show ms + potA M' cp1 ≤ _
      omega
  have k52 : gK (sNew S q52 9 3) q52 = 9 := if_pos rfl
  have hvn : ∀ i, i < 3 → vp_in (nI i) (gN (sNew S q52 9 3) q52) := fun i hi => by
    rw [show gN (sNew S q52 9 3) q52 = 3 from if_pos rfl]
    exact vp_in_nI hi (by decide)
  have a07 : gK S a0 = 7 := by rw [← ha0]; exact h.1.1.1
  have k07 : gK (sNew S q52 9 3) a0 = 7 := by
    have : a0 ≠ q52 := fun z => by rw [z, hq52] at a07; cases a07
    exact (if_neg this).trans a07
  have go341 : ∀ (mm : Nat), 1 ≤ mm → mm ≤ 30 → ∀ j1, j1 < mm → ∀ j2, j2 < 6 → ∀ (mb : Nat), 1 ≤ mb → mb ≤ 8 → ∀ (s0' s1' : Int32), s0' = nI mb → wb_L_build_341 xs LL post rec151 (mc - 1) (ms - 3) a0 q (nI (nS P.1)) v5 (nI k) (nI f) (nI t) s0' s1' (1 : Int32) (2 : Int32) q52 q52 (sV (sV (sNew S q52 9 3) 9 q52 0 (1 + nI j1)) 9 q52 1 (1 + nI j2)) := by
    intro mm hmm hmm3 j1 hj1 j2 hj2 mb hmb hmb8 s0' s1' es
    unfold wb_L_build_341
    refine D_below es hmb (by omega) (fun j3 hj3 => ⟨k52, hvn 2 (by decide), k52, hvn 0 (by decide), hvn 1 (by decide), hvn 2 (by decide), k07, ?_⟩)
    rw [tc2, tc0, tc1]
    exact main mm mb hmm hmm3 hmb hmb8 0 0 0 j1 hj1 j2 hj2 j3 hj3
  have go296 : ∀ (mm : Nat), 1 ≤ mm → mm ≤ 30 → ∀ (s0' s1' : Int32), s0' = nI mm → wb_L_build_296 xs LL post rec151 (mc - 1) (ms - 3) a0 q (nI (nS P.1)) v5 (nI k) v7 (nI f) (nI t) s0' s1' (1 : Int32) (0 : Int32) q52 q52 (sNew S q52 9 3) := by
    intro mm hmm hmm3 s0' s1' es
    unfold wb_L_build_296
    refine D_below es hmm (by omega) (fun j1 hj1 => ⟨k52, hvn 0 (by decide), D_below (m := 6) rfl (by decide) (by decide) (fun j2 hj2 => ⟨k52, hvn 1 (by decide), D_below (m := 2) rfl (by decide) (by decide) (fun j4 _ => ⟨fun _ => ?_, fun _ => ?_⟩)⟩)⟩)
    · rw [tc0, tc1]
      exact go341 mm hmm hmm3 j1 hj1 j2 hj2 2 (by decide) (by decide) _ _ rfl
    · rw [tc0, tc1]
      exact go341 mm hmm hmm3 j1 hj1 j2 hj2 8 (by decide) (by decide) _ _ rfl
  exact D_below (m := 2) rfl (by decide) (by decide) (fun j5 _ => ⟨fun _ => go296 30 (by decide) (by decide) _ _ rfl, fun _ => go296 8 (by decide) (by decide) _ _ rfl⟩)
end LBUILD
