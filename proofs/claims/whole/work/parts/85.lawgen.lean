/-! ===== the law's loop ===== -/
theorem nan_val {x : UInt64} (h : isNaN64 x = true) : FP.Core.val64 x = FP.Core.Datum.nan := by
  have h1 := isNaN64_iff.mp h
  have h2 : x.toNat &&& 0x7fffffffffffffff = x.toNat % 2 ^ 63 := Nat.and_two_pow_sub_one_eq_mod x.toNat 63
  rw [h2] at h1
  unfold FP.Core.val64 FP.Core.decode
  have e1 : FP.Core.fieldE FP.Core.b64 x.toNat = x.toNat / 4503599627370496 % 2048 := rfl
  have e2 : FP.Core.fieldT FP.Core.b64 x.toNat = x.toNat % 4503599627370496 := rfl
  have e3 : FP.Core.b64.exps - 1 = 2047 := rfl
  rw [e1, e2, e3, if_pos (by omega), if_neg (by omega)]
theorem mean_both {X p q : UInt64} (hp : alike64 p X = true) (hq : alike64 q X = true) : (Op.cmpValue (FP.dcmp p q) CmpOp.l) = 0 ∨ ((Op.cmpValue (FP.dcmp p p) CmpOp.l) ≠ 0 ∧ (Op.cmpValue (FP.dcmp q q) CmpOp.l) ≠ 0) := by
  have nn : ∀ {a b : UInt64}, FP.Core.val64 a = FP.Core.Datum.nan → (Op.cmpValue (FP.dcmp a b) CmpOp.l) ≠ 0 := fun {a b} h => by
    have : FP.dcmp a b = none := (FP.Core.dcmp_none a b).mpr (Or.inl h)
    rw [this]
    decide
  have un : ∀ {y : UInt64}, alike64 y X = true → y = X ∨ (isNaN64 y = true ∧ isNaN64 X = true) := fun {y} h => by
    unfold alike64 at h
    rw [Bool.or_eq_true, Bool.and_eq_true] at h
    rcases h with h | h
    · exact Or.inl (of_decide_eq_true h)
    · exact Or.inr h
  by_cases hX : FP.Core.val64 X = FP.Core.Datum.nan
  · right
    have vn : ∀ {y : UInt64}, alike64 y X = true → FP.Core.val64 y = FP.Core.Datum.nan := fun {y} h => by
      rcases un h with e | e
      · rw [e]; exact hX
      · exact nan_val e.1
    exact ⟨nn (vn hp), nn (vn hq)⟩
  · left
    have ve : ∀ {y : UInt64}, alike64 y X = true → y = X := fun {y} h => by
      rcases un h with e | e
      · exact e
      · exact absurd (nan_val e.2) hX
    rw [ve hp, ve hq]
    have : FP.dcmp X X = some .eq := FP.Core.dcmp_self hX
    rw [this]
    rfl
section LAWGEN
variable {μ : Nat} {r : Nat → Nat} {S : bS}
theorem op_gen {A : Nat → Nat → Nat} {cp cp' : Nat → Nat} {P : pP} {out : Nat} {q : Int32 × pP} {wL : (Int32 → bS → Prop) → Nat → Nat → Nat → (Nat → Nat → Nat) → bS → Prop} (hj : jS S A cp P μ r out) (hcz : cZ P.1 cp) (hL : cQz P cp cp' q wL) {wM : (Int32 → bS → Prop) → bS → Prop} (hMr : ∀ X, mOK μ r X → ∀ f g (po : Int32 → bS → Prop), (∀ S3 f g, sEx X S3 → po q.1 (mW μ r S3 (mX q.2.1 f g))) → wM po (mW μ r X (mX P.1 f g))) {go : bS → Prop} {post : Int32 → bS → Prop} (hgo : ∀ Sn A', jS Sn A' cp' q.2 μ r out → A' 0 = A 0 → go Sn) {H : Int32 → bS → Prop} (hH : ∀ r21 S22, gK S22 μ = 8 ∧ wM (fun r28 S29 => lawT μ out r21 r28 go post S29) S22 → H r21 S22) : wL H (potA P.1 cp - potA q.2.1 cp' + 6) (potA P.1 cp - potA q.2.1 cp' + 6) out A S := by
  obtain ⟨h1, -, h3⟩ := hL
  refine h3 S A _ _ out H hj.1 hcz hj.2.2.2.2.2 hj.2.2.2.2.1.1 hj.2.2.2.2.1.2 (by omega) (by omega) (fun S' A' hR' a0 a6 hF => hH _ _ ?_)
  exact law_mid hj hR' a0 a6 hF hMr (fun Sn hn => hgo Sn A' hn a0)
end LAWGEN
