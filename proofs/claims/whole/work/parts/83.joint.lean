/-! ===== the class and the reference beside each other ===== -/
def jS (S : bS) (A : Nat → Nat → Nat) (cp : Nat → Nat) (P : pP) (μ : Nat) (r : Nat → Nat) (out : Nat) : Prop := cR S A cp P ∧ mOK μ r S ∧ (∃ f g, mW μ r S (mX P.1 f g) = S) ∧ (∀ i, 1 ≤ i → i ≤ 7 → ∀ k, r i ≠ A 6 k) ∧ (gK S out = 13 ∧ gN S out = 1) ∧ ∃ z, gK S z = 14 ∧ gN S z = 0
section JOINT
variable {μ : Nat} {r : Nat → Nat} {S : bS}
theorem mW_ag {M : Nat → Nat → Int32} (h8 : ∀ j, gV S 8 μ j = M 0 j) (h9 : ∀ i j, 1 ≤ i → i ≤ 7 → gV S 9 (r i) j = M i j) : mW μ r S M = S := by
  refine bS_V rfl rfl ?_ rfl
  funext κ a j
  show (if κ = 8 ∧ a = μ then M 0 j else if κ = 9 ∧ a = r 1 then M 1 j else if κ = 9 ∧ a = r 2 then M 2 j else if κ = 9 ∧ a = r 3 then M 3 j else if κ = 9 ∧ a = r 4 then M 4 j else if κ = 9 ∧ a = r 5 then M 5 j else if κ = 9 ∧ a = r 6 then M 6 j else if κ = 9 ∧ a = r 7 then M 7 j else S.2.2.1 κ a j) = S.2.2.1 κ a j
  by_cases c0 : κ = 8 ∧ a = μ
  · obtain ⟨rfl, rfl⟩ := c0
    rw [if_pos ⟨rfl, rfl⟩]
    exact (h8 j).symm
  rw [if_neg c0]
  by_cases c1 : κ = 9 ∧ a = r 1
  · obtain ⟨rfl, rfl⟩ := c1
    rw [if_pos ⟨rfl, rfl⟩]
    exact (h9 1 j (by decide) (by decide)).symm
  rw [if_neg c1]
  by_cases c2 : κ = 9 ∧ a = r 2
  · obtain ⟨rfl, rfl⟩ := c2
    rw [if_pos ⟨rfl, rfl⟩]
    exact (h9 2 j (by decide) (by decide)).symm
  rw [if_neg c2]
  by_cases c3 : κ = 9 ∧ a = r 3
  · obtain ⟨rfl, rfl⟩ := c3
    rw [if_pos ⟨rfl, rfl⟩]
    exact (h9 3 j (by decide) (by decide)).symm
  rw [if_neg c3]
  by_cases c4 : κ = 9 ∧ a = r 4
  · obtain ⟨rfl, rfl⟩ := c4
    rw [if_pos ⟨rfl, rfl⟩]
    exact (h9 4 j (by decide) (by decide)).symm
  rw [if_neg c4]
  by_cases c5 : κ = 9 ∧ a = r 5
  · obtain ⟨rfl, rfl⟩ := c5
    rw [if_pos ⟨rfl, rfl⟩]
    exact (h9 5 j (by decide) (by decide)).symm
  rw [if_neg c5]
  by_cases c6 : κ = 9 ∧ a = r 6
  · obtain ⟨rfl, rfl⟩ := c6
    rw [if_pos ⟨rfl, rfl⟩]
    exact (h9 6 j (by decide) (by decide)).symm
  rw [if_neg c6]
  by_cases c7 : κ = 9 ∧ a = r 7
  · obtain ⟨rfl, rfl⟩ := c7
    rw [if_pos ⟨rfl, rfl⟩]
    exact (h9 7 j (by decide) (by decide)).symm
  rw [if_neg c7]
theorem mW_Vi (hM : mOK μ r S) {M : Nat → Nat → Int32} {i : Nat} (h1 : 1 ≤ i) (h7 : i ≤ 7) (j : Nat) : gV (mW μ r S M) 9 (r i) j = M i j := by
  rcases (show i = 1 ∨ i = 2 ∨ i = 3 ∨ i = 4 ∨ i = 5 ∨ i = 6 ∨ i = 7 by omega) with e | e | e | e | e | e | e <;> subst e
  · exact mW_V1 hM j
  · exact mW_V2 hM j
  · exact mW_V3 hM j
  · exact mW_V4 hM j
  · exact mW_V5 hM j
  · exact mW_V6 hM j
  · exact mW_V7 hM j
theorem mW_re (hM : mOK μ r S) {M : Nat → Nat → Int32} : mW μ r (mW μ r S M) M = mW μ r S M := mW_ag (fun j => mW_V0 j) (fun i j h1 h7 => mW_Vi hM h1 h7 j)
theorem cR_mW {A : Nat → Nat → Nat} {cp : Nat → Nat} {P : pP} (h : cR S A cp P) (hd : ∀ i, 1 ≤ i → i ≤ 7 → ∀ k, r i ≠ A 6 k) (M : Nat → Nat → Int32) : cR (mW μ r S M) A cp P := by
  obtain ⟨hP, hNt, hAr, hSt, hTb, hCa, hEn, hIn, hTm⟩ := h.1
  refine ⟨⟨hP, hNt, hAr, hSt, hTb, hCa, hEn, hIn, fun k hk => ?_⟩, h.2⟩
  have e : ∀ v, gV (mW μ r S M) 9 (A 6 k) v = gV S 9 (A 6 k) v := fun v => by
    have n : ∀ i, 1 ≤ i → i ≤ 7 → ¬ (9 = 9 ∧ A 6 k = r i) := fun i h1 h7 q => hd i h1 h7 k q.2.symm
    show (if 9 = 8 ∧ A 6 k = μ then M 0 v else if 9 = 9 ∧ A 6 k = r 1 then M 1 v else if 9 = 9 ∧ A 6 k = r 2 then M 2 v else if 9 = 9 ∧ A 6 k = r 3 then M 3 v else if 9 = 9 ∧ A 6 k = r 4 then M 4 v else if 9 = 9 ∧ A 6 k = r 5 then M 5 v else if 9 = 9 ∧ A 6 k = r 6 then M 6 v else if 9 = 9 ∧ A 6 k = r 7 then M 7 v else S.2.2.1 9 (A 6 k) v) = S.2.2.1 9 (A 6 k) v
    rw [if_neg (fun q => absurd q.1 (by decide)), if_neg (n 1 (by decide) (by decide)), if_neg (n 2 (by decide) (by decide)), if_neg (n 3 (by decide) (by decide)), if_neg (n 4 (by decide) (by decide)), if_neg (n 5 (by decide) (by decide)), if_neg (n 6 (by decide) (by decide)), if_neg (n 7 (by decide) (by decide))]
  rcases hTm k hk with x | ⟨x1, x3⟩
  · exact Or.inl x
  · refine Or.inr ⟨x1, fun v hv => ?_⟩
    rw [e]
    exact x3 v hv
/-- behind a call of the class -/
theorem j_class {A : Nat → Nat → Nat} {cp : Nat → Nat} {P : pP} {out : Nat} (hj : jS S A cp P μ r out) {S' : bS} {A' : Nat → Nat → Nat} (a0 : A' 0 = A 0) (a6 : ∀ k, A' 6 k = A 6 k ∨ gK S (A' 6 k) = 0) (hF : cF A S S') : mOK μ r S' ∧ (∃ f g, mW μ r S' (mX P.1 f g) = S') ∧ (∀ i, 1 ≤ i → i ≤ 7 → ∀ k, r i ≠ A' 6 k) ∧ (gK S' out = 13 ∧ gN S' out = 1) ∧ ∃ z, gK S' z = 14 ∧ gN S' z = 0 := by
  obtain ⟨hR, hM, ⟨f, g, hS⟩, hd, ⟨o1, o2⟩, z, z1, z2⟩ := hj
  obtain ⟨F1, F2, F3, F4⟩ := hF
  have hM' : mOK μ r S' := by
    obtain ⟨h1, h2, h3, h4⟩ := hM
    obtain ⟨k1, -⟩ := F1 μ (by rw [h1]; decide)
    refine ⟨by rw [k1]; exact h1, ?_, fun i hi hi7 => ?_, h4⟩
    · rw [(F2 μ 9 h1).2, (F2 μ 10 h1).2, (F2 μ 11 h1).2, (F2 μ 12 h1).2, (F2 μ 13 h1).2, (F2 μ 15 h1).2, (F2 μ 16 h1).2]
      exact h2
    · obtain ⟨x1, x2⟩ := h3 i hi hi7
      obtain ⟨e1, e2⟩ := F1 (r i) (by rw [x1]; decide)
      rw [e1, e2]
      exact ⟨x1, x2⟩
  refine ⟨hM', ⟨f, g, mW_ag (fun j => ?_) (fun i j h1 h7 => ?_)⟩, fun i h1 h7 => ?_, ?_, z, ?_⟩
  · rw [(F2 μ j hM.1).1]
    exact (congrArg (fun X => gV X 8 μ j) hS).symm.trans (mW_V0 j)
  · rw [F3 (r i) j (hM.2.2.1 i h1 h7).1 (hd i h1 h7)]
    exact (congrArg (fun X => gV X 9 (r i) j) hS).symm.trans (mW_Vi hM h1 h7 j)
  · intro k e
    rcases a6 k with x | x
    · exact hd i h1 h7 k (e.trans x)
    · rw [← e, (hM.2.2.1 i h1 h7).1] at x
      cases x
  · obtain ⟨e1, e2⟩ := F1 out (by rw [o1]; decide)
    rw [e1, e2]
    exact ⟨o1, o2⟩
  · obtain ⟨e1, e2⟩ := F1 z (by rw [z1]; decide)
    rw [e1, e2]
    exact ⟨z1, z2⟩
/-- behind a call of the reference -/
theorem j_ref {A : Nat → Nat → Nat} {cp : Nat → Nat} {P : pP} {out : Nat} (hR : cR S A cp P) (hM : mOK μ r S) (hd : ∀ i, 1 ≤ i → i ≤ 7 → ∀ k, r i ≠ A 6 k) (ho : gK S out = 13 ∧ gN S out = 1) (hz : ∃ z, gK S z = 14 ∧ gN S z = 0) {S3 : bS} (hx : sEx S S3) (f g : Nat → Int32) : jS (mW μ r S3 (mX P.1 f g)) A cp P μ r out := by
  have hM3 := mOK_ex hM hx
  obtain ⟨ea, hL⟩ := hR.2
  have hR3 : cR S3 A cp P := ⟨cO_l hR.1 (sEx_lF hx), ea, LSr_ex hL hx⟩
  obtain ⟨o1, o2⟩ := ho
  obtain ⟨z, z1, z2⟩ := hz
  obtain ⟨e1, e2, -⟩ := hx.1 out (by rw [o1]; decide)
  obtain ⟨e3, e4, -⟩ := hx.1 z (by rw [z1]; decide)
  exact ⟨cR_mW hR3 hd _, hM3, ⟨f, g, mW_re hM3⟩, hd, ⟨e1.trans o1, e2.trans o2⟩, z, e3.trans z1, e4.trans z2⟩
/-- what the law asks behind both calls -/
def lawT (μ out : Nat) (r21 r28 : Int32) (go : bS → Prop) (post : Int32 → bS → Prop) (X : bS) : Prop := gK X μ = 8 ∧ (wp_X6_thrown (fun r33 S34 => (r33 = r21 → (r21 ≠ (0 : Int32) → go S34) ∧ (r21 = (0 : Int32) → gK S34 out = 13 ∧ (vp_in (0 : Int32) (gN S34 out) ∧ (((lg_cmp (gL S34 out (Int32.toNatClampNeg (0 : Int32))) (Int32.toInt64 r28)) = (0 : Int32) → go S34) ∧ (¬ ((lg_cmp (gL S34 out (Int32.toNatClampNeg (0 : Int32))) (Int32.toInt64 r28)) = (0 : Int32)) → post (0 : Int32) S34))))) ∧ (¬ (r33 = r21) → post (0 : Int32) S34)) μ X)
theorem law_mid {A : Nat → Nat → Nat} {cp : Nat → Nat} {P : pP} {out : Nat} (hj : jS S A cp P μ r out) {S' : bS} {A' : Nat → Nat → Nat} {cp' : Nat → Nat} {q : Int32 × pP} (hR' : cR S' A' cp' q.2) (a0 : A' 0 = A 0) (a6 : ∀ k, A' 6 k = A 6 k ∨ gK S (A' 6 k) = 0) (hF : cF A S S') {wM : (Int32 → bS → Prop) → bS → Prop} (hMr : ∀ X, mOK μ r X → ∀ f g (po : Int32 → bS → Prop), (∀ S3 f g, sEx X S3 → po q.1 (mW μ r S3 (mX q.2.1 f g))) → wM po (mW μ r X (mX P.1 f g))) {go : bS → Prop} {post : Int32 → bS → Prop} (hgo : ∀ Sn, jS Sn A' cp' q.2 μ r out → go Sn) : gK (if q.2.1 0 0 = 0 then sL S' out 0 (Int32.toInt64 q.1) else S') μ = 8 ∧ wM (fun r28 S29 => lawT μ out (q.2.1 0 0) r28 go post S29) (if q.2.1 0 0 = 0 then sL S' out 0 (Int32.toInt64 q.1) else S') := by
  obtain ⟨hM', ⟨f, g, hS'⟩, hd', ho', hz'⟩ := j_class hj a0 a6 hF
  have key : ∀ X : bS, cR X A' cp' q.2 → mOK μ r X → mW μ r X (mX P.1 f g) = X → (gK X out = 13 ∧ gN X out = 1) → (∃ z, gK X z = 14 ∧ gN X z = 0) → (q.2.1 0 0 = 0 → gL X out 0 = Int32.toInt64 q.1) → gK X μ = 8 ∧ wM (fun r28 S29 => lawT μ out (q.2.1 0 0) r28 go post S29) X := by
    intro X hRX hMX hSX hoX hzX hgl
    refine ⟨hMX.1, ?_⟩
    have := hMr X hMX f g (fun r28 S29 => lawT μ out (q.2.1 0 0) r28 go post S29) (fun S3 f' g' hx => ?_)
    · rw [hSX] at this
      exact this
    · have hjn := j_ref hRX hMX hd' hoX hzX hx f' g'
      have hgn := hgo _ hjn
      refine ⟨hjn.2.1.1, M_thrown (mOK_ex hMX hx) ⟨fun _ => ⟨fun _ => hgn, fun h0 => ⟨hjn.2.2.2.2.1.1, ?_, fun _ => hgn, fun hc => absurd ?_ hc⟩⟩, fun hc => absurd rfl hc⟩⟩
      · rw [hjn.2.2.2.2.1.2]
        exact vp_in_nI (n := 0) (by decide) (by decide)
      · rw [lg_cmp_eq]
        have h0' : q.2.1 0 0 = 0 := h0
        obtain ⟨-, -, -, -, e5⟩ := hx.1 out (by rw [hoX.1]; decide)
        exact (e5 0).trans (hgl h0')
  by_cases h0 : q.2.1 0 0 = 0
  · rw [if_pos h0]
    have hS2 : mW μ r (sL S' out 0 (Int32.toInt64 q.1)) (mX P.1 f g) = sL S' out 0 (Int32.toInt64 q.1) := by
      have : mW μ r (sL S' out 0 (Int32.toInt64 q.1)) (mX P.1 f g) = sL (mW μ r S' (mX P.1 f g)) out 0 (Int32.toInt64 q.1) := rfl
      rw [this, hS']
    exact key _ hR' hM' hS2 ho' hz' (fun _ => by rw [gL_sL, if_pos ⟨rfl, rfl⟩])
  · rw [if_neg h0]
    exact key S' hR' hM' hS' ho' hz' (fun q => absurd q h0)
end JOINT
