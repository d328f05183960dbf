/-! ===== the law's tick ===== -/
theorem cR_ex {S S' : bS} {A : Nat → Nat → Nat} {cp : Nat → Nat} {P : pP} (h : cR S A cp P) (hx : sEx S S') : cR S' A cp P := by
  obtain ⟨ea, hL⟩ := h.2
  exact ⟨cO_l h.1 (sEx_lF hx), ea, LSr_ex hL hx⟩
theorem sEx_tr {S S' S'' : bS} (h : sEx S S') (h' : sEx S' S'') : sEx S S'' := by
  refine ⟨fun a ha => ?_, fun a ha => h.2 a (h'.2 a ha)⟩
  obtain ⟨x1, x2, x3, x4, x5⟩ := h.1 a ha
  obtain ⟨y1, y2, y3, y4, y5⟩ := h'.1 a (by rw [x1]; exact ha)
  exact ⟨y1.trans x1, y2.trans x2, fun κ j => (y3 κ j).trans (x3 κ j), fun κ j => (y4 κ j).trans (x4 κ j), fun j => (y5 j).trans (x5 j)⟩
theorem sEx_M {κo κi : Nat} (ho : κo ≠ 14) (hi : κi ≠ 14) {X : bS} {q N K : Nat} {r : Nat → Nat} (hq : gK X q = 0) (hr : ∀ i, i < N → gK X (r i) = 0 ∧ r i ≠ q) (hinj : ∀ i j : Nat, i < N → j < N → r i = r j → i = j) : sEx X (sMn κo κi X q r N K) := by
  refine ⟨fun a ha => sMn_old (fun e => ha (e ▸ hq)) (fun i hi e => ha (e ▸ (hr i hi).1)), fun a ha => ?_⟩
  by_cases e : a = q
  · rw [e, sMn_out.1] at ha
    exact absurd ha ho
  · by_cases e2 : ∃ i, i < N ∧ r i = a
    · obtain ⟨i, hi', e3⟩ := e2
      rw [← e3, (sMn_row (fun i hi => (hr i hi).2) hinj hi').1] at ha
      exact absurd ha hi
    · rw [(sMn_old e (fun i hi e3 => e2 ⟨i, hi, e3⟩)).1] at ha
      exact ha
theorem lS_ex {S S' : bS} {P : pP} {F : Nat → Nat} {v5 v6 : Nat} {bL : Nat → Nat} (h : lS S P F v5 v6 bL) (hx : sEx S S') : lS S' P F v5 v6 bL := by
  obtain ⟨⟨a1, a2, a3⟩, b1, b2, b3⟩ := h
  obtain ⟨x1, x2, x3, -⟩ := hx.1 v6 (by rw [a1]; decide)
  obtain ⟨y1, y2, -, y4, -⟩ := hx.1 v5 (by rw [b1]; decide)
  refine ⟨⟨x1.trans a1, x2.trans a2, fun d hd => (x3 9 d).trans (a3 d hd)⟩, y1.trans b1, y2.trans b2, fun s hs => ?_⟩
  obtain ⟨c1, c2, c3, c4⟩ := b3 s hs
  obtain ⟨z1, z2, z3, -⟩ := hx.1 (bL s) (by rw [c2]; decide)
  exact ⟨(y4 12 s).trans c1, z1.trans c2, z2.trans c3, fun a ha => (z3 9 a).trans (c4 a ha)⟩
theorem lS_cF {S S' : bS} {A : Nat → Nat → Nat} {P : pP} {F : Nat → Nat} {v5 v6 : Nat} {bL : Nat → Nat} (h : lS S P F v5 v6 bL) (hF : cF A S S') (h6 : ∀ k, v6 ≠ A 6 k) (hL : ∀ s k, s < nS P.1 → bL s ≠ A 6 k) : lS S' P F v5 v6 bL := by
  obtain ⟨⟨a1, a2, a3⟩, b1, b2, b3⟩ := h
  obtain ⟨f1, -, f3, f4⟩ := hF
  obtain ⟨x1, x2⟩ := f1 v6 (by rw [a1]; decide)
  obtain ⟨y1, y2⟩ := f1 v5 (by rw [b1]; decide)
  refine ⟨⟨x1.trans a1, x2.trans a2, fun d hd => (f3 v6 d a1 h6).trans (a3 d hd)⟩, y1.trans b1, y2.trans b2, fun s hs => ?_⟩
  obtain ⟨c1, c2, c3, c4⟩ := b3 s hs
  obtain ⟨z1, z2⟩ := f1 (bL s) (by rw [c2]; decide)
  exact ⟨((f4 v5 s).1 b1).trans c1, z1.trans c2, z2.trans c3, fun a ha => (f3 (bL s) a c2 (fun k => hL s k hs)).trans (c4 a ha)⟩
theorem lS_P {S : bS} {P Q : pP} {F : Nat → Nat} {v5 v6 : Nat} {bL : Nat → Nat} (h : lS S P F v5 v6 bL) (hst : sta P.1 Q.1) (hC : nC Q.1 = nC P.1) : lS S Q F v5 v6 bL := by
  obtain ⟨⟨a1, a2, a3⟩, b1, b2, b3⟩ := h
  refine ⟨⟨a1, a2, fun d hd => a3 d (by rw [← hC]; exact hd)⟩, b1, b2.trans (sta_S hst).symm, fun s hs => ?_⟩
  rw [sta_S hst] at hs
  obtain ⟨c1, c2, c3, c4⟩ := b3 s hs
  refine ⟨c1, c2, c3.trans (sta_S hst).symm, fun a ha => ?_⟩
  rw [sta_S hst] at ha
  rw [sta_dD hst]
  exact c4 a ha
theorem tick_0 {P : pP} {B K : Nat} (hB : B + 1 < 2 ^ 31) (hK : K + 1772 < 2 ^ 31) (hw : wI B K P.1 P.2) (hE : nE P.1 = 0) : (sTick P).1 0 1 = P.1 0 1 + 1 ∧ (sTick P).1 0 5 = P.1 0 5 := by
  obtain ⟨h1, ⟨h2, f2⟩, ⟨h3, f3⟩, -, -⟩ := tick_inv hB hK hw
  have e2 : sTk2 P = sTk1 P := by
    unfold sTk2
    rw [hE]
    rfl
  have g3 := (sArrN_inv (K := K + 12) (by omega) h2 (nT P.1) (by unfold nT; rw [f2 3 (by decide) (by decide)]; exact Nat.le_refl _)).2
  have g4 := (sDepN_inv (K := K + 1212) (by omega) h3 (nS P.1) (by unfold nS; rw [f3 2 (by decide) (by decide)]; exact Nat.le_refl _)).2
  refine ⟨?_, ?_⟩
  · show (sDepN (sTk3 P) (nS P.1)).1 0 1 = _
    rw [g4 1 (by decide)]
    show (sArrN (sTk2 P) (nT P.1)).1 0 1 = _
    rw [g3 1 (by decide), e2]
    show mU P.1 0 1 (P.1 0 1 + 1) 0 1 = _
    exact mU_s
  · show (sDepN (sTk3 P) (nS P.1)).1 0 5 = _
    rw [g4 5 (by decide)]
    show (sArrN (sTk2 P) (nT P.1)).1 0 5 = _
    rw [g3 5 (by decide), e2]
    show mU P.1 0 1 (P.1 0 1 + 1) 0 5 = _
    exact mU_c (by decide)
theorem D_below {xp1 p2 : Int32} {m : Nat} {S : bS} {post : Int32 → bS → Prop} (e : p2 = nI m) (h0 : 0 < m) (hm : m < 2 ^ 31) (hp : ∀ j, j < m → post (nI j) S) : wp_L_below post xp1 p2 S := by
  obtain ⟨j, hj, ej⟩ := pk_andE xp1 (m := (2147483647 : Int32)) 31 (by decide)
  unfold wp_L_below
  rw [e, ej, pk_rem hj h0 hm]
  exact ⟨nI_ne0 h0 hm, hp _ (Nat.mod_lt _ h0)⟩
theorem D_cell {xs : Nat → Int32} {LL k : Nat} {p2 : Int32} {S : bS} {post : Int32 → bS → Prop} (hL : LL < 2 ^ 31) (e : p2 = nI k) (hk : k < 2 ^ 31) (hp : ∀ v, post v S) : wp_L_cell xs LL post p2 S := by
  unfold wp_L_cell wb_L_cell_18
  refine ⟨fun _ => hp _, fun q => ⟨?_, hp _⟩⟩
  rw [e] at q ⊢
  refine vp_in_nI (Nat.lt_of_not_le (fun z => q (nI_le z hk))) hL
/-- where the law stands after e ticks -/
def lI (S : bS) (A : Nat → Nat → Nat) (cp : Nat → Nat) (P : pP) (F : Nat → Nat) (v5 v6 : Nat) (bL : Nat → Nat) (e : Nat) : Prop := cR S A cp P ∧ wI e (1773 * e) P.1 P.2 ∧ iX P.1 P.2 ∧ jI P.1 P.2 F ∧ lS S P F v5 v6 bL ∧ (P.1 0 1 = nI e ∧ nC P.1 ≤ e) ∧ (∀ k, v6 ≠ A 6 k) ∧ (∀ s k, s < nS P.1 → bL s ≠ A 6 k) ∧ (∀ s, s < nS P.1 → bL s ≠ v6) ∧ ∀ k, gK S (A 6 k) ≠ 0
section LTICK
variable {S : bS} {A : Nat → Nat → Nat} {cp : Nat → Nat} {P : pP} {mc ms : Nat} {post : Int32 → bS → Prop} {xs : Nat → Int32} {LL : Nat} {F : Nat → Nat}
set_option maxRecDepth 4000 in
theorem K_tick {e v5 v6 x y : Nat} {bL : Nat → Nat} (he : e < 60) (h7 : nS P.1 ≤ 7) (h12 : nT P.1 ≤ 12) (h : cR S A cp P) (hw : wI e (1773 * e + 1) P.1 P.2) (hX : iX P.1 P.2) (hj : jI P.1 P.2 F) (hS : lS S P F v5 v6 bL) (ht : P.1 0 1 = nI e) (hc : nC P.1 ≤ e + 1) (d6 : ∀ k, v6 ≠ A 6 k) (dL : ∀ s k, s < nS P.1 → bL s ≠ A 6 k) (dL6 : ∀ s, s < nS P.1 → bL s ≠ v6) (hA : ∀ k, gK S (A 6 k) ≠ 0) (hmc : potA P.1 cp + x ≤ mc) (hms : potA P.1 cp + y ≤ ms) (hx : 20 ≤ x) (hy : 800 ≤ y) {rec105 : Nat → Nat → Nat → Int32 → Int32 → Nat → Nat → Int32 → Int32 → Int32 → bS → Prop} (hgo : ∀ cp' S' A' mc' ms', lI S' A' cp' (sTick P) F v5 v6 bL (e + 1) → A' 0 = A 0 → potA (sTick P).1 cp' + x ≤ mc' + 20 → potA (sTick P).1 cp' + y ≤ ms' + 800 → rec105 mc' ms' (A 0 0) (nI (nS P.1)) (nI (nT P.1)) v5 v6 (nI (nC P.1)) ((sTick P).1 0 6) (nI (e + 1) + 1) S') : wb_L_law_219 xs LL post rec105 mc ms (A 0 0) (nI (nS P.1)) (nI (nT P.1)) v5 v6 (nI (nC P.1)) (P.1 0 6) (nI (e + 1)) S := by
  have hE := hj.2.2.2.2.2.2.1
  have hst := sTick_sta hE
  have hB : e + 21 < 2 ^ 31 := by omega
  have hK : 1773 * e + 1 + 1772 < 2 ^ 31 := by omega
  obtain ⟨t1, t5⟩ := tick_0 (by omega) hK hw hE
  have hw1 : wI (e + 1) (1773 * (e + 1)) (sTick P).1 (sTick P).2 := wI_mono (Nat.le_refl _) (by omega) (tick_inv (by omega) hK hw).2.2.2.1
  have hX1 := (tick_iX (by omega) hK hw hX).2.2.2
  have hj1 := jI_tick hB hK hw hj
  have nC1 : nC (sTick P).1 = nC P.1 := by unfold nC; rw [t5]
  have nS1 : nS (sTick P).1 = nS P.1 := sta_S hst
  have nT1 : nT (sTick P).1 = nT P.1 := sta_T hst
  have et1 : (sTick P).1 0 1 = nI (e + 1) := by rw [t1, ht, nI_1]
  have e8 : P.1 0 6 + ((sTick P).1 0 6 - P.1 0 6) = (sTick P).1 0 6 := by rw [Int32.add_comm, Int32.sub_add_cancel]
  obtain ⟨cp1, m1, m2, m3⟩ := D_run (cp := cp) hE hB hK hw hX
  generalize hQ : sTick P = Q at *
  have tcS : Int32.toNatClampNeg (nI (nS P.1)) = nS P.1 := u_nI (by omega)
  have tcT : Int32.toNatClampNeg (nI (nT P.1)) = nT P.1 := u_nI (by omega)
  have tcE : Int32.toNatClampNeg (nI (e + 1) + 1) = e + 2 := by rw [nI_1]; exact u_nI (by omega)
  have hmul : nT P.1 * (e + 2) ≤ 12 * 61 := Nat.mul_le_mul h12 (by omega)
  unfold wb_L_law_219
  refine ⟨h.1.1.1, potA P.1 cp - potA Q.1 cp1, potA P.1 cp - potA Q.1 cp1, by omega, by omega, m3 S A _ _ _ h (by omega) (by omega) (fun S1 A1 h1 a0 a6 hF => ?_)⟩
  have e0 : A 0 0 = A1 0 0 := (congrFun a0 0).symm
  rw [e0]
  have hS1 : lS S1 Q F v5 v6 bL := lS_P (lS_cF hS hF d6 dL) hst nC1
  refine ⟨h1.1.1.1, 0, 0, Nat.zero_le _, Nat.zero_le _, D_count h1 hw1 (k := 0) rfl (by decide) ⟨fun q => absurd et1 q, fun _ => ⟨h1.1.1.1, 0, 0, Nat.zero_le _, Nat.zero_le _, D_count h1 hw1 (k := 4) rfl (by decide) ⟨fun q => absurd ?_ q, fun _ => ⟨h1.1.1.1, 0, 0, Nat.zero_le _, Nat.zero_le _, D_count h1 hw1 (k := 6) rfl (by decide) ⟨fun q => absurd e8.symm q, fun _ => ⟨h1.1.1.1, 0, 0, Nat.zero_le _, Nat.zero_le _, D_count h1 hw1 (k := 5) rfl (by decide) ⟨fun _ => ?_, fun q => absurd ?_ q⟩⟩⟩⟩⟩⟩⟩⟩
  · show Q.1 0 5 = nI (nC P.1)
    rw [t5]
    exact hw.1.2.2.2.1
  · rw [e8, tcS, tcT, tcE]
    refine ⟨nI_pos (by omega), by omega, by omega, by omega, fun q3 hq3 => ⟨nI_pos (by omega), by omega, by omega, by omega, fun q4 hq4 => ⟨nI_pos (by omega), by omega, by omega, by omega, fun q5 hq5 => ⟨nI_pos (by omega), by rw [nI_1]; exact nI_pos (by omega), by omega, by omega, by omega, ?_, fun q7 r8 hq7 hr8 hinj => ?_⟩⟩⟩⟩
    · generalize nT P.1 * (e + 2) = z at hmul ⊢
      omega
    have X3 : sEx S1 (sNew S1 q3 9 (nS P.1)) := sEx_new hq3 (sEx_rf S1)
    have X4 : sEx (sNew S1 q3 9 (nS P.1)) (sNew (sNew S1 q3 9 (nS P.1)) q4 9 (nT P.1)) := sEx_new hq4 (sEx_rf _)
    have X5 : sEx (sNew (sNew S1 q3 9 (nS P.1)) q4 9 (nT P.1)) (sNew (sNew (sNew S1 q3 9 (nS P.1)) q4 9 (nT P.1)) q5 9 (nS P.1)) := sEx_new hq5 (sEx_rf _)
    have k3 : gK (sNew S1 q3 9 (nS P.1)) q3 = 9 := if_pos rfl
    have k4 : gK (sNew (sNew S1 q3 9 (nS P.1)) q4 9 (nT P.1)) q4 = 9 := if_pos rfl
    have k5 : gK (sNew (sNew (sNew S1 q3 9 (nS P.1)) q4 9 (nT P.1)) q5 9 (nS P.1)) q5 = 9 := if_pos rfl
    have c3 : cA (sNew S1 q3 9 (nS P.1)) q3 (nS P.1) (fun _ => 0) := ⟨if_pos rfl, if_pos rfl, fun i _ => if_pos rfl⟩
    have c4 : cA (sNew (sNew S1 q3 9 (nS P.1)) q4 9 (nT P.1)) q4 (nT P.1) (fun _ => 0) := ⟨if_pos rfl, if_pos rfl, fun i _ => if_pos rfl⟩
    have c5 : cA (sNew (sNew (sNew S1 q3 9 (nS P.1)) q4 9 (nT P.1)) q5 9 (nS P.1)) q5 (nS P.1) (fun _ => 0) := ⟨if_pos rfl, if_pos rfl, fun i _ => if_pos rfl⟩
    have X7 := sEx_M (κo := 17) (κi := 10) (K := e + 2) (by decide) (by decide) hq7 hr8 hinj
    have c7 : eA (sMn 17 10 (sNew (sNew (sNew S1 q3 9 (nS P.1)) q4 9 (nT P.1)) q5 9 (nS P.1)) q7 r8 (nT P.1) (e + 2)) q7 (nT P.1) (e + 2) r8 (mkE Q.1 0) := by
      refine ⟨sMn_out.1, sMn_out.2.1, fun t ht => ?_⟩
      obtain ⟨z1, z2, z3⟩ := sMn_row (κo := 17) (κi := 10) (S := sNew (sNew (sNew S1 q3 9 (nS P.1)) q4 9 (nT P.1)) q5 9 (nS P.1)) (K := e + 2) (fun i hi => (hr8 i hi).2) hinj ht
      refine ⟨by rw [sMn_out.2.2 t, if_pos ht], z1, z2, fun j hj => absurd (z3 10 j) hj⟩
    generalize hY3 : sNew S1 q3 9 (nS P.1) = Y3 at *
    generalize hY4 : sNew Y3 q4 9 (nT P.1) = Y4 at *
    generalize hY5 : sNew Y4 q5 9 (nS P.1) = Y5 at *
    generalize hY7 : sMn 17 10 Y5 q7 r8 (nT P.1) (e + 2) = Y7 at *
    have E14 := sEx_tr X3 X4
    have E15 := sEx_tr E14 X5
    have E17 := sEx_tr E15 X7
    have E37 := sEx_tr X4 (sEx_tr X5 X7)
    have E47 := sEx_tr X5 X7
    have cx : ∀ {Y Z : bS} {q n : Nat}, cA Y q n (fun _ => 0) → sEx Y Z → cA Z q n (fun _ => 0) := fun hc hz => by
      obtain ⟨b1, b2, b3⟩ := hc
      obtain ⟨z1, z2, z3, -⟩ := hz.1 _ (by rw [b1]; decide)
      exact ⟨z1.trans b1, z2.trans b2, fun i hi => (z3 9 i).trans (b3 i hi)⟩
    have ne : ∀ {Y : bS} {a q : Nat}, gK Y q = 0 → gK Y a ≠ 0 → a ≠ q := fun hq ha z => ha (z ▸ hq)
    have gA : ∀ k, gK S1 (A1 6 k) ≠ 0 := fun k => by
      rw [a6, (hF.1 _ (hA k)).1]
      exact hA k
    have g6 : gK S1 v6 ≠ 0 := by rw [hS1.1.1]; decide
    have gL : ∀ s, s < nS P.1 → gK S1 (bL s) ≠ 0 := fun s hs => by
      rw [(hS1.2.2.2 s (by rw [nS1]; exact hs)).2.1]
      decide
    have up : ∀ {Y : bS} {a : Nat}, sEx S1 Y → gK S1 a ≠ 0 → gK Y a ≠ 0 := fun hz ha => by
      rw [(hz.1 _ ha).1]
      exact ha
    have ap : ∀ {Y : bS} {q : Nat}, sEx S1 Y → gK Y q = 0 → ap3 A1 Q.1 v6 bL q := fun hz hq => ⟨ne hq (up hz g6), fun s hs => ne hq (up hz (gL s (by rw [← nS1]; exact hs))), fun k _ => ne hq (up hz (gA k))⟩
    have f0 : ∀ {v n : Nat} {p : Nat → Nat → Bool}, cA Y7 v n (fun _ => 0) → cA Y7 v n (fun s => cnt (p s) 0) := fun hc => hc
    have hone := K_carr (A := A1) (cp := cp1) (P := Q) (xs := xs) (LL := LL) (post := post) (F := F) (mc := mc - (potA P.1 cp - potA Q.1 cp1) - 1 - 1 - 1 - (1 + nT P.1)) (ms := ms - (potA P.1 cp - potA Q.1 cp1) - nS P.1 - nT P.1 - nS P.1 - (nT P.1 + nT P.1 * (e + 2))) (rec105 := rec105) (v5 := v5) (v6 := v6) (v13 := q3) (v14 := q4) (v15 := q5) (v17 := q7) (bL := bL) (bE := r8) hw1 hj1 (by omega) (by omega) (ne hq4 (by rw [k3]; decide)) (ne hq5 (by rw [(X4.1 q3 (by rw [k3]; decide)).1, k3]; decide)) (ne hq5 (by rw [k4]; decide)) (ap (sEx_rf S1) hq3) (ap X3 hq4) (ap E14 hq5) (fun i j hi hj => hinj i j (by rw [← nT1]; exact hi) (by rw [← nT1]; exact hj)) (gK Y7) (fun S' hk hR hl => ?_) (nC Q.1) 0 Y7 (by omega) rfl (cR_ex h1 E17) (lS_ex hS1 E17) ⟨f0 (cx (by rw [nS1]; exact c3) E37), f0 (cx (by rw [nT1]; exact c4) E47), f0 (cx (by rw [nS1]; exact c5) X7), by rw [nT1, et1, u_nI (by omega)]; exact c7⟩
    · rw [nS1, nT1, nC1, et1] at hone
      exact ⟨_, hone⟩
    · rw [nS1, nT1, nC1, et1, ← e0]
      refine hgo cp1 S' A1 _ _ ⟨hR, hw1, hX1, hj1, hl, ⟨et1, by omega⟩, fun k => by rw [a6]; exact d6 k, fun s k hs => by rw [a6]; exact dL s k (by rw [← nS1]; exact hs), fun s hs => dL6 s (by rw [← nS1]; exact hs), fun k => ?_⟩ a0 ?_ ?_
      · rw [hk]
        exact up E17 (gA k)
      · omega
      · generalize nT P.1 * (e + 2) = z at hmul ⊢
        omega
  · show Q.1 0 14 = nI (nC P.1) - (P.1 0 6 + (Q.1 0 6 - P.1 0 6))
    obtain ⟨-, -, a3, a4, a5, a6', -⟩ := hw1.2.2.2.2.1
    have hle : (Q.2 0).length ≤ nC Q.1 := nodup_le _ _ a4 a5
    rw [e8, a6', a3.1, nC1, pk_sub (by omega)]
    congr 1
    omega
end LTICK
