/-! ===== the law's loops: the tubes ===== -/
theorem nan_val {x : UInt64} (h : isNaN64 x = true) : FP.Core.val64 x = FP.Core.Datum.nan := by
  have h1 := isNaN64_iff.mp h
  have h2 : x.toNat &&& 0x7fffffffffffffff = x.toNat % 2 ^ 63 := Nat.and_two_pow_sub_one_eq_mod x.toNat 63
  rw [h2] at h1
  unfold FP.Core.val64 FP.Core.decode
  have e1 : FP.Core.fieldE FP.Core.b64 x.toNat = x.toNat / 4503599627370496 % 2048 := rfl
  have e2 : FP.Core.fieldT FP.Core.b64 x.toNat = x.toNat % 4503599627370496 := rfl
  have e3 : FP.Core.b64.exps - 1 = 2047 := rfl
  rw [e1, e2, e3, if_pos (by omega), if_neg (by omega)]
theorem alike_un {X y : UInt64} (hX : FP.Core.val64 X ≠ FP.Core.Datum.nan) (h : alike64 y X = true) : y = X := by
  unfold alike64 at h
  rw [Bool.or_eq_true, Bool.and_eq_true] at h
  rcases h with h | h
  · exact of_decide_eq_true h
  · exact absurd (nan_val h.2) hX
theorem mean_nn {a b : Int32} (hb : b ≠ 0) : FP.Core.val64 (FP.ddiv (FP.i2d a) (FP.i2d b)) ≠ FP.Core.Datum.nan := by
  have h1 : FP.Core.dIsNaN (FP.i2d a) = false := (FP.Core.notNaN_iff _).mpr (FP.Core.i2d_fin a).ne_nan
  have h2 : ¬ FP.Core.DZero (FP.i2d b) := fun q => FP.Core.i2d_ne_zero hb ((FP.Core.zero_bits2 _).mp q)
  exact (FP.Core.notNaN_iff _).mp (FP.Core.ddiv_out h1 (FP.Core.i2d_fin b) h2)
theorem cmp_self0 {X : UInt64} (hX : FP.Core.val64 X ≠ FP.Core.Datum.nan) : (Op.cmpValue (FP.dcmp X X) CmpOp.l) = (0 : Int32) := by
  have : FP.dcmp X X = some .eq := FP.Core.dcmp_self hX
  rw [this]
  rfl
section LTUBES
variable {S : bS} {A : Nat → Nat → Nat} {cp : Nat → Nat} {P : pP} {B K : Nat} {mc ms : Nat} {post : Int32 → bS → Prop} {xs : Nat → Int32} {LL : Nat}
theorem K_mean (h : cR S A cp P) {rec105 : Nat → Nat → Nat → Int32 → Int32 → Nat → Nat → Int32 → Int32 → Int32 → bS → Prop} {v3 v4 v7 v9 : Int32} {v5 v6 : Nat} (hgo : rec105 mc ms (A 0 0) v3 v4 v5 v6 v7 (P.1 0 6) (v9 + 1) S) : wp_X5_mean (fun r281 S282 => (P.1 0 6 ≠ (0 : Int32) → (∀ r284 : UInt64, alike64 r284 (FP.ddiv (FP.i2d (P.1 0 7)) (FP.i2d (P.1 0 6))) = true → (wb_L_law_862 xs LL post rec105 mc ms (A 0 0) v3 v4 v5 v6 v7 (P.1 0 6) v9 r284 r281 S282))) ∧ (P.1 0 6 = (0 : Int32) → wb_L_law_862 xs LL post rec105 mc ms (A 0 0) v3 v4 v5 v6 v7 (P.1 0 6) v9 FP.dconst0 r281 S282)) (A 0 0) S := by
  refine C_mean h (fun v hv => ?_)
  unfold meanOK at hv
  refine ⟨fun hne r hr => ?_, fun he => ?_⟩
  · rw [if_neg hne] at hv
    have hX := mean_nn (a := P.1 0 7) hne
    rw [alike_un hX hv, alike_un hX hr]
    exact ⟨fun _ => hgo, fun q => absurd (cmp_self0 hX) q⟩
  · rw [if_pos he] at hv
    rw [hv]
    have hX : FP.Core.val64 FP.dconst0 ≠ FP.Core.Datum.nan := by decide +kernel
    exact ⟨fun _ => hgo, fun q => absurd (cmp_self0 hX) q⟩
theorem K_tubes (h : cR S A cp P) (hw : wI B K P.1 P.2) {rec105 : Nat → Nat → Nat → Int32 → Int32 → Nat → Nat → Int32 → Int32 → Int32 → bS → Prop} {v3 v7 v9 : Int32} {v5 v6 v14 : Nat} (ha : gK S v14 = 9) (hn : gN S v14 = nT P.1) (hv : ∀ t, t < nT P.1 → gV S 9 v14 t = nI (P.2 (15 + t)).length) (hgo : rec105 mc ms (A 0 0) v3 (nI (nT P.1)) v5 v6 v7 (P.1 0 6) (v9 + 1) S) : ∀ (n k : Nat), k + n = nT P.1 → wb_L_law_741 xs LL post rec105 (n + 1) mc ms (A 0 0) v3 (nI (nT P.1)) v5 v6 v7 (P.1 0 6) v9 v14 (P.1 0 7) (nI (jamN P k)) (nI k) S := by
  have h30 := hw.1.2.1.2
  intro n
  induction n with
  | zero =>
    intro k hk
    have hk' : k = nT P.1 := by omega
    unfold wb_L_law_741
    refine ⟨fun _ => ⟨h.1.1.1, 0, 0, Nat.zero_le _, Nat.zero_le _, D_count h hw (k := 7) rfl (by decide) ⟨fun q => absurd ?_ q, fun _ => ⟨h.1.1.1, 0, 0, Nat.zero_le _, Nat.zero_le _, D_count h hw (k := 8) rfl (by decide) ⟨fun q => absurd rfl q, fun _ => ⟨h.1.1.1, K_mean h hgo⟩⟩⟩⟩⟩, fun q => absurd (nI_le (by omega) (by omega)) q⟩
    show nI (jamN P (nT P.1)) = nI (jamN P k)
    rw [hk']
  | succ n ih =>
    intro k hk
    have hkT : k < nT P.1 := by omega
    have hl := len_in hw (t := k) (by omega)
    have tc : Int32.toNatClampNeg (nI k) = k := u_nI (by omega)
    have hin : vp_in (nI k) (gN S v14) := by rw [hn]; exact vp_in_nI hkT (by omega)
    have go : wb_L_law_801 xs LL post rec105 (wb_L_law_741 xs LL post rec105 (n + 1)) mc ms (A 0 0) v3 (nI (nT P.1)) v5 v6 v7 (P.1 0 6) v9 v14 (P.1 0 7) (nI (jamN P k)) (nI k) S := by
      refine ⟨h.1.1.1, 0, 0, Nat.zero_le _, Nat.zero_le _, D_tube h hw (s := k) (k := 7) rfl hkT rfl (by decide) ?_⟩
      have e : nI (jamN P k) + tubR P k 7 = nI (jamN P (k + 1)) := by
        show nI (jamN P k) + (if jamB P k then (1 : Int32) else 0) = nI (jamN P k + if jamB P k then 1 else 0)
        rw [← nI_add]
        by_cases q : jamB P k = true
        · rw [if_pos q, if_pos q]
          rfl
        · rw [if_neg q, if_neg q]
          rfl
      rw [e, nI_1]
      exact ih (k + 1) (by omega)
    unfold wb_L_law_741
    refine ⟨fun q => absurd q (nI_ge hkT (by omega)), fun _ => ⟨h.1.1.1, 0, 0, Nat.zero_le _, Nat.zero_le _, D_tube h hw (s := k) (k := 6) rfl hkT rfl (by decide) ⟨ha, hin, fun q => absurd ?_ q, fun _ => ⟨hin, h.1.1.1, 0, 0, Nat.zero_le _, Nat.zero_le _, D_tube h hw (s := k) (k := 4) rfl hkT rfl (by decide) ⟨fun q => absurd q ?_, fun _ => ⟨h.1.1.1, 0, 0, Nat.zero_le _, Nat.zero_le _, D_tube h hw (s := k) (k := 7) rfl hkT rfl (by decide) ⟨fun _ => go, fun q1 => ⟨ha, hin, fun _ => go, fun z => absurd z ?_⟩⟩⟩⟩⟩⟩⟩⟩
    · rw [tc, hv k hkT]
      rfl
    · rw [tc, hv k hkT]
      have hbo := (hw.2.1 k hkT).2.2.2.2.2.1
      have hlen := hw.2.2.2.2.2.2.2.2.2.1 k hkT
      show ¬ P.1 2 (8 * k + 4) < _
      rw [hbo.1]
      exact nI_nlt hlen (by omega)
    · rw [tc, hv k hkT]
      have q1 : (if jamB P k then (1 : Int32) else 0) = 1 := q1
      have hj : jamB P k = true := by
        by_cases q : jamB P k = true
        · exact q
        · rw [if_neg q] at q1
          exact absurd q1 (by decide)
      have hpos : 0 < (P.2 (15 + k)).length := by
        unfold jamB at hj
        cases hx : P.2 (15 + k) with
        | nil => rw [hx] at hj; cases hj
        | cons c r => simp
      exact nI_ne0 hpos (by omega)
end LTUBES
