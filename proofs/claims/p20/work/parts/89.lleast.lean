/-! ===== the law's loops: the least times ===== -/
def lM (S : bS) (P : pP) (v5 : Nat) (bL : Nat → Nat) (i j : Nat) : Prop := gK S v5 = 12 ∧ gN S v5 = nS P.1 ∧ ∀ s, s < nS P.1 → gQ S 12 v5 s = some (bL s) ∧ gK S (bL s) = 9 ∧ gN S (bL s) = nS P.1 ∧ ∀ a, a < nS P.1 → s < i ∨ (s = i ∧ a < j) → gV S 9 (bL s) a = oN (dD P.1 a s)
theorem lM_cF {S S' : bS} {A : Nat → Nat → Nat} {P : pP} {v5 i j : Nat} {bL : Nat → Nat} (h : lM S P v5 bL i j) (hF : cF A S S') (hL : ∀ s k, s < nS P.1 → bL s ≠ A 6 k) : lM S' P v5 bL i j := by
  obtain ⟨b1, b2, b3⟩ := h
  obtain ⟨f1, -, f3, f4⟩ := hF
  obtain ⟨y1, y2⟩ := f1 v5 (by rw [b1]; decide)
  refine ⟨y1.trans b1, y2.trans b2, fun s hs => ?_⟩
  obtain ⟨c1, c2, c3, c4⟩ := b3 s hs
  obtain ⟨z1, z2⟩ := f1 (bL s) (by rw [c2]; decide)
  exact ⟨((f4 v5 s).1 b1).trans c1, z1.trans c2, z2.trans c3, fun a ha hij => (f3 (bL s) a c2 (fun k => hL s k hs)).trans (c4 a ha hij)⟩
theorem lM_ex {S S' : bS} {P : pP} {v5 i j : Nat} {bL : Nat → Nat} (h : lM S P v5 bL i j) (hx : sEx S S') : lM S' P v5 bL i j := by
  obtain ⟨b1, b2, b3⟩ := h
  obtain ⟨y1, y2, -, y4, -⟩ := hx.1 v5 (by rw [b1]; decide)
  refine ⟨y1.trans b1, y2.trans b2, fun s hs => ?_⟩
  obtain ⟨c1, c2, c3, c4⟩ := b3 s hs
  obtain ⟨z1, z2, z3, -⟩ := hx.1 (bL s) (by rw [c2]; decide)
  exact ⟨(y4 12 s).trans c1, z1.trans c2, z2.trans c3, fun a ha hij => (z3 9 a).trans (c4 a ha hij)⟩
section LLEAST
variable {A : Nat → Nat → Nat} {cp : Nat → Nat} {P : pP} {mc ms : Nat} {post : Int32 → bS → Prop} {xs : Nat → Int32} {LL : Nat}
theorem K_aims {B K : Nat} (hw : wI B K P.1 P.2) {v5 i : Nat} {v4 : Int32} {bL : Nat → Nat} (hi : i < nS P.1) (dL : ∀ s k, s < nS P.1 → bL s ≠ A 6 k) (dI : ∀ s s', s < nS P.1 → s' < nS P.1 → bL s = bL s' → s = s') {rec46 : Nat → Nat → Nat → Int32 → Int32 → Nat → Int32 → bS → Prop} (hgo : ∀ S', cR S' A cp P → lM S' P v5 bL (i + 1) 0 → (∀ k, gK S' (A 6 k) ≠ 0) → rec46 mc ms (A 0 0) (nI (nS P.1)) v4 v5 (nI i + 1) S') : ∀ (m j : Nat) (S : bS), j + m = nS P.1 → cR S A cp P → lM S P v5 bL i j → (∀ k, gK S (A 6 k) ≠ 0) → wb_L_law_55 xs LL post rec46 (m + 1) mc ms (A 0 0) (nI (nS P.1)) v4 v5 (nI i) (nI j) S := by
  have h14 := hw.1.1.2
  intro m
  induction m with
  | zero =>
    intro j S hj h hM hA
    unfold wb_L_law_55
    refine ⟨fun _ => hgo S h ⟨hM.1, hM.2.1, fun s hs => ?_⟩ hA, fun q => absurd (nI_le (by omega) (by omega)) q⟩
    obtain ⟨c1, c2, c3, c4⟩ := hM.2.2 s hs
    exact ⟨c1, c2, c3, fun a ha hij => c4 a ha (by omega)⟩
  | succ m ih =>
    intro j S hj h hM hA
    have hjS : j < nS P.1 := by omega
    have tci : Int32.toNatClampNeg (nI i) = i := u_nI (by omega)
    have tcj : Int32.toNatClampNeg (nI j) = j := u_nI (by omega)
    obtain ⟨c1, c2, c3, c4⟩ := hM.2.2 i hi
    unfold wb_L_law_55
    rw [tci, tcj]
    refine ⟨fun q => absurd q (nI_ge hjS (by omega)), fun _ => ⟨hM.1, by rw [hM.2.1]; exact vp_in_nI hi (by omega), bL i, c1, h.1.1.1, 0, 0, Nat.zero_le _, Nat.zero_le _, D_time h hw rfl hi rfl hjS (fun S' h' hF => ?_)⟩⟩
    have hM' := lM_cF hM hF dL
    obtain ⟨e1, e2, e3, e4⟩ := hM'.2.2 i hi
    refine ⟨e2, by rw [e3]; exact vp_in_nI hjS (by omega), ?_⟩
    rw [nI_1]
    refine ih (j + 1) _ (by omega) (cR_9 h' (fun k _ => (dL i k hi).symm)) ⟨hM'.1, hM'.2.1, fun s hs => ?_⟩ (fun k => ?_)
    · obtain ⟨g1, g2, g3, g4⟩ := hM'.2.2 s hs
      refine ⟨g1, g2, g3, fun a ha hij => ?_⟩
      by_cases q : s = i ∧ a = j
      · rw [q.1, q.2, gV_sV, if_pos ⟨rfl, rfl, rfl⟩]
      · rw [gV_sV, if_neg (fun z => q ⟨dI s i hs hi z.2.1, z.2.2⟩)]
        exact g4 a ha (by omega)
    · show gK S' (A 6 k) ≠ 0
      rw [(hF.1 _ (hA k)).1]
      exact hA k
theorem K_froms (hL : LL < 2 ^ 31) (hend : ∀ S, post 1 S) (hw : wI 0 0 P.1 P.2) (hX : iX P.1 P.2) (hj : jI P.1 P.2 (fun _ => 0)) (h1 : P.1 0 1 = 0) (hC : nC P.1 = 0) (h6 : P.1 0 6 = 0) (hn2 : 0 < nS P.1) (hn7 : nS P.1 ≤ 7) (hT : nT P.1 ≤ 12) {v5 : Nat} {bL : Nat → Nat} (dL : ∀ s k, s < nS P.1 → bL s ≠ A 6 k) (dI : ∀ s s', s < nS P.1 → s' < nS P.1 → bL s = bL s' → s = s') (hc : potA P.1 cp + 1201 ≤ mc) (hs : potA P.1 cp + 48500 ≤ ms) : ∀ (m i : Nat) (S : bS), i + m = nS P.1 → cR S A cp P → lM S P v5 bL i 0 → (∀ k, gK S (A 6 k) ≠ 0) → wb_L_law_46 xs LL post (m + 1) mc ms (A 0 0) (nI (nS P.1)) (nI (nT P.1)) v5 (nI i) S := by
  have tc5 : Int32.toNatClampNeg (500 : Int32) = 500 := by decide
  intro m
  induction m with
  | zero =>
    intro i S hi h hM hA
    unfold wb_L_law_46
    rw [tc5]
    refine ⟨fun _ => ⟨by decide, by decide, by omega, by omega, fun q hq => ⟨60 + 1, ?_⟩⟩, fun q => absurd (nI_le (by omega) (by omega)) q⟩
    have hx : sEx S (sNew S q 9 500) := sEx_new hq (sEx_rf S)
    have ne : ∀ {a : Nat}, gK S a ≠ 0 → q ≠ a := fun ha z => ha (z ▸ hq)
    have hM' := lM_ex hM hx
    have := K_ticks (xs := xs) (LL := LL) (post := post) hL hend hn2 hn7 hT (a0 := A 0 0) (v5 := v5) (v6 := q) (bL := bL) 60 0 (sNew S q 9 500) A cp P (fun _ => 0) (mc - 1) (ms - 500) (by omega) ⟨cR_ex h hx, hw, hX, hj, ⟨⟨if_pos rfl, if_pos rfl, fun d hd => absurd hd (by omega)⟩, hM'.1, hM'.2.1, fun s hs => ⟨(hM'.2.2 s hs).1, (hM'.2.2 s hs).2.1, (hM'.2.2 s hs).2.2.1, fun a ha => (hM'.2.2 s hs).2.2.2 a ha (by omega)⟩⟩, ⟨h1, by omega⟩, fun k => ne (hA k), fun s k hs => dL s k hs, fun s hs => (ne (by rw [(hM.2.2 s hs).2.1]; decide)).symm, fun k => by rw [(hx.1 _ (hA k)).1]; exact hA k⟩ rfl rfl rfl (by omega) (by omega)
    rw [hC, h6] at this
    exact this
  | succ m ih =>
    intro i S hi h hM hA
    have h14 := hw.1.1.2
    unfold wb_L_law_46
    refine ⟨fun q => absurd q (nI_ge (a := i) (b := nS P.1) (by omega) (by omega)), fun _ => ⟨nS P.1 + 1, ?_⟩⟩
    refine K_aims (cp := cp) hw (by omega) dL dI (fun S' h' hM' hA' => ?_) (nS P.1) 0 S (by omega) h hM hA
    rw [nI_1]
    exact ih (i + 1) S' (by omega) h' hM' hA'
end LLEAST
